def f_X5_copy_b2 (r1 : Nat) (r2 : Nat) : Nat → Int32 → PH → Option (Unit × PH)
  | 0, _, _ => none
  | n + 1, v2, h => if (103 : Int32) ≤ v2 then some ((), h) else rd h r1 v2 (fun x1 => wr h r2 v2 x1 (fun h2 => (f_X5_copy_b2 r1 r2 n) (v2 + 1) h2))
set_option maxHeartbeats 4000000 in
set_option maxRecDepth 100000 in
theorem t_X5_copy_b2 {p : Program} {l : Launch} {e : Env} {s : State} {m : MethodId} {args : Array Value} {below : List Frame} {meth : Method} {c : Code} {G : GG} {r1 : Nat} {r2 : Nat} {res : Unit × PH} (C : cx p s m args meth c G RX5 cX5_copy 3 none) (hr1 : kd r1 = 5) (hr2 : kd r2 = 5) (n : Nat) : ∀ (v2 : Int32) (h : PH) (ls : Array Slot), lv_has ls 3 [(0, .ref (G.2.2.2.2 r1)), (1, .ref (G.2.2.2.2 r2)), (2, .int v2)] → f_X5_copy_b2 r1 r2 n v2 h = some res → WW p l e 0 s m args below meth c G h (MQ below (QV G res) args s 0 0 (Ar G)) (F0 m 2 ls []) := by
  induction n with
  | zero => intro v2 h ls hl hK; cases hK
  | succ n ih =>
    intro v2 h ls hl hK
    unfold f_X5_copy_b2 at hK
    refine q_iload_n C dX5_copy_2 rfl (lv_at hl 2 rfl) ?_
    refine q_bipush C (v := 103) dX5_copy_3 (by decide) ?_
    refine q_icmp_ge C dX5_copy_5 (tgt := 20) (by decide) (fun hc => ?_) (fun hc => ?_)
    · replace hK := if_po hc hK
      cases hK
      exact q_vret C dX5_copy_20
    · replace hK := if_ne hc hK
      refine q_aload_n C dX5_copy_8 rfl (lv_at hl 1 rfl) ?_
      refine q_iload_n C dX5_copy_9 rfl (lv_at hl 2 rfl) ?_
      refine q_aload_n C dX5_copy_10 rfl (lv_at hl 0 rfl) ?_
      refine q_iload_n C dX5_copy_11 rfl (lv_at hl 2 rfl) ?_
      obtain ⟨x1, hx1, hK⟩ := rd_so hK
      refine q_iald C hr1 hx1 dX5_copy_12 ?_
      obtain ⟨h2, hh2, hK⟩ := wr_so hK
      refine q_iast C hr2 hh2 dX5_copy_13 ?_
      refine q_iinc C dX5_copy_14 hl (j := 2) (v := (v2 + 1)) rfl rfl (by decide) (lv2 := [(2, .int _), (0, .ref _), (1, .ref _)]) rfl (fun ls hl => ?_)
      refine q_goto C dX5_copy_17 (tgt := 2) (by decide) ?_
      exact ih _ _ _ (lv_sub hl [1, 2, 0] rfl) hK
def f_X5_copy (r1 : Nat) (r2 : Nat) (h : PH) : Option (Unit × PH) := gd r1 5 (gd r2 5 (f_X5_copy_b2 r1 r2 200 (0 : Int32) h))
set_option maxHeartbeats 4000000 in
set_option maxRecDepth 100000 in
theorem c_X5_copy (l : Launch) (G : GG) {r1 : Nat} {r2 : Nat} {h : PH} {res : Unit × PH} (hF : f_X5_copy r1 r2 h = some res) : MV l G yX5_copy cX5_copy 3 0 [.ref (G.2.2.2.2 r1), .ref (G.2.2.2.2 r2)] h res := by
  unfold f_X5_copy at hF
  obtain ⟨hr1, hF⟩ := gd_so hF
  obtain ⟨hr2, hF⟩ := gd_so hF
  refine MV_of (by decide +kernel) (Nat.le_of_ble_eq_true rfl) ?_
  intro p e s m args below meth c ls C hl
  have hK := hF
  clear hF
  have hl : lv_has ls 3 [(0, .ref (G.2.2.2.2 r1)), (1, .ref (G.2.2.2.2 r2))] := hl
  have C : cx p s m args meth c G RX5 cX5_copy 3 none := C
  refine q_iconst C (v := 0) dX5_copy_0 (by decide) ?_
  refine q_istore_n C dX5_copy_1 rfl hl (by decide) (lv2 := [(2, .int _), (0, .ref _), (1, .ref _)]) rfl (fun ls hl => ?_)
  exact t_X5_copy_b2 C hr1 hr2 200 _ _ _ (lv_sub hl [1, 2, 0] rfl) hK
theorem s_X5_copy : ss yX5_copy cX5_copy 3 none 2 := ⟨w_co_X5_copy, w_st_X5_copy, w_in_X5, by decide +kernel, by decide⟩
def f_X5_in (a1 : Int32) (a2 : Int32) (a3 : Int32) (h : PH) : Option (Int32 × PH) := if a1 < a2 then some ((0 : Int32), h) else if a3 < a1 then some ((0 : Int32), h) else some ((1 : Int32), h)
set_option maxHeartbeats 4000000 in
set_option maxRecDepth 100000 in
theorem c_X5_in (l : Launch) (G : GG) {a1 : Int32} {a2 : Int32} {a3 : Int32} {h : PH} {res : Int32 × PH} (hF : f_X5_in a1 a2 a3 h = some res) : MI l G yX5_in cX5_in 3 .boolean 0 [.int a1, .int a2, .int a3] h res := by
  unfold f_X5_in at hF
  refine MI_of (by decide +kernel) (Nat.le_of_ble_eq_true rfl) ?_
  intro p e s m args below meth c ls C hl
  have hK := hF
  clear hF
  have hl : lv_has ls 3 [(0, .int a1), (1, .int a2), (2, .int a3)] := hl
  have C : cx p s m args meth c G RX5 cX5_in 3 (some .boolean) := C
  refine q_iload_n C dX5_in_0 rfl (lv_at hl 0 rfl) ?_
  refine q_iload_n C dX5_in_1 rfl (lv_at hl 1 rfl) ?_
  refine q_icmp_lt C dX5_in_2 (tgt := 14) (by decide) (fun hc => ?_) (fun hc => ?_)
  · replace hK := if_po hc hK
    refine q_iconst C (v := 0) dX5_in_14 (by decide) ?_
    cases hK
    exact q_zret C (Or.inl rfl) dX5_in_15
  · replace hK := if_ne hc hK
    refine q_iload_n C dX5_in_5 rfl (lv_at hl 0 rfl) ?_
    refine q_iload_n C dX5_in_6 rfl (lv_at hl 2 rfl) ?_
    refine q_icmp_gt C dX5_in_7 (tgt := 14) (by decide) (fun hc => ?_) (fun hc => ?_)
    · replace hK := if_po hc hK
      refine q_iconst C (v := 0) dX5_in_14 (by decide) ?_
      cases hK
      exact q_zret C (Or.inl rfl) dX5_in_15
    · replace hK := if_ne hc hK
      refine q_iconst C (v := 1) dX5_in_10 (by decide) ?_
      refine q_goto C dX5_in_11 (tgt := 15) (by decide) ?_
      cases hK
      exact q_zret C (Or.inr rfl) dX5_in_15
theorem s_X5_in : ss yX5_in cX5_in 3 (some .boolean) 3 := ⟨w_co_X5_in, w_st_X5_in, w_in_X5, by decide +kernel, by decide⟩
def f_X5_has (a1 : Int32) (a2 : Int32) (h : PH) : Option (Int32 × PH) := if ((a1 >>> (a2 &&& 31)) &&& (1 : Int32)) = (1 : Int32) then some ((1 : Int32), h) else some ((0 : Int32), h)
set_option maxHeartbeats 4000000 in
set_option maxRecDepth 100000 in
theorem c_X5_has (l : Launch) (G : GG) {a1 : Int32} {a2 : Int32} {h : PH} {res : Int32 × PH} (hF : f_X5_has a1 a2 h = some res) : MI l G yX5_has cX5_has 2 .boolean 0 [.int a1, .int a2] h res := by
  unfold f_X5_has at hF
  refine MI_of (by decide +kernel) (Nat.le_of_ble_eq_true rfl) ?_
  intro p e s m args below meth c ls C hl
  have hK := hF
  clear hF
  have hl : lv_has ls 2 [(0, .int a1), (1, .int a2)] := hl
  have C : cx p s m args meth c G RX5 cX5_has 2 (some .boolean) := C
  refine q_iload_n C dX5_has_0 rfl (lv_at hl 0 rfl) ?_
  refine q_iload_n C dX5_has_1 rfl (lv_at hl 1 rfl) ?_
  refine q_ishr C dX5_has_2 ?_
  refine q_iconst C (v := 1) dX5_has_3 (by decide) ?_
  refine q_iand C dX5_has_4 ?_
  refine q_iconst C (v := 1) dX5_has_5 (by decide) ?_
  refine q_icmp_ne C dX5_has_6 (tgt := 13) (by decide) (fun hc => ?_) (fun hc => ?_)
  · replace hK := if_ne hc hK
    refine q_iconst C (v := 0) dX5_has_13 (by decide) ?_
    cases hK
    exact q_zret C (Or.inl rfl) dX5_has_14
  · replace hK := if_po hc hK
    refine q_iconst C (v := 1) dX5_has_9 (by decide) ?_
    refine q_goto C dX5_has_10 (tgt := 14) (by decide) ?_
    cases hK
    exact q_zret C (Or.inr rfl) dX5_has_14
theorem s_X5_has : ss yX5_has cX5_has 2 (some .boolean) 2 := ⟨w_co_X5_has, w_st_X5_has, w_in_X5, by decide +kernel, by decide⟩
def f_X5_ones_b4 : Nat → Int32 → Int32 → Int32 → PH → Option (Int32 × PH)
  | 0, _, _, _, _ => none
  | n + 1, v0, v1, v2, h => if (10 : Int32) ≤ v2 then some (v1, h) else (f_X5_ones_b4 n) v0 (v1 + ((v0 >>> (v2 &&& 31)) &&& (1 : Int32))) (v2 + 1) h
set_option maxHeartbeats 4000000 in
set_option maxRecDepth 100000 in
theorem t_X5_ones_b4 {p : Program} {l : Launch} {e : Env} {s : State} {m : MethodId} {args : Array Value} {below : List Frame} {meth : Method} {c : Code} {G : GG} {res : Int32 × PH} (C : cx p s m args meth c G RX5 cX5_ones 3 (some .int)) (n : Nat) : ∀ (v0 : Int32) (v1 : Int32) (v2 : Int32) (h : PH) (ls : Array Slot), lv_has ls 3 [(0, .int v0), (1, .int v1), (2, .int v2)] → f_X5_ones_b4 n v0 v1 v2 h = some res → WW p l e 0 s m args below meth c G h (MQ below (QI G res) args s 0 0 (Ar G)) (F0 m 4 ls []) := by
  induction n with
  | zero => intro v0 v1 v2 h ls hl hK; cases hK
  | succ n ih =>
    intro v0 v1 v2 h ls hl hK
    unfold f_X5_ones_b4 at hK
    refine q_iload_n C dX5_ones_4 rfl (lv_at hl 2 rfl) ?_
    refine q_bipush C (v := 10) dX5_ones_5 (by decide) ?_
    refine q_icmp_ge C dX5_ones_7 (tgt := 24) (by decide) (fun hc => ?_) (fun hc => ?_)
    · replace hK := if_po hc hK
      refine q_iload_n C dX5_ones_24 rfl (lv_at hl 1 rfl) ?_
      cases hK
      exact q_iret C dX5_ones_25
    · replace hK := if_ne hc hK
      refine q_iload_n C dX5_ones_10 rfl (lv_at hl 1 rfl) ?_
      refine q_iload_n C dX5_ones_11 rfl (lv_at hl 0 rfl) ?_
      refine q_iload_n C dX5_ones_12 rfl (lv_at hl 2 rfl) ?_
      refine q_ishr C dX5_ones_13 ?_
      refine q_iconst C (v := 1) dX5_ones_14 (by decide) ?_
      refine q_iand C dX5_ones_15 ?_
      refine q_iadd C dX5_ones_16 ?_
      refine q_istore_n C dX5_ones_17 rfl hl (by decide) (lv2 := [(1, .int _), (0, .int _), (2, .int _)]) rfl (fun ls hl => ?_)
      refine q_iinc C dX5_ones_18 hl (j := 2) (v := (v2 + 1)) rfl rfl (by decide) (lv2 := [(2, .int _), (1, .int _), (0, .int _)]) rfl (fun ls hl => ?_)
      refine q_goto C dX5_ones_21 (tgt := 4) (by decide) ?_
      exact ih _ _ _ _ _ (lv_sub hl [2, 1, 0] rfl) hK
def f_X5_ones (a1 : Int32) (h : PH) : Option (Int32 × PH) := f_X5_ones_b4 200 a1 (0 : Int32) (0 : Int32) h
set_option maxHeartbeats 4000000 in
set_option maxRecDepth 100000 in
theorem c_X5_ones (l : Launch) (G : GG) {a1 : Int32} {h : PH} {res : Int32 × PH} (hF : f_X5_ones a1 h = some res) : MI l G yX5_ones cX5_ones 3 .int 0 [.int a1] h res := by
  unfold f_X5_ones at hF
  refine MI_of (by decide +kernel) (Nat.le_of_ble_eq_true rfl) ?_
  intro p e s m args below meth c ls C hl
  have hK := hF
  clear hF
  have hl : lv_has ls 3 [(0, .int a1)] := hl
  have C : cx p s m args meth c G RX5 cX5_ones 3 (some .int) := C
  refine q_iconst C (v := 0) dX5_ones_0 (by decide) ?_
  refine q_istore_n C dX5_ones_1 rfl hl (by decide) (lv2 := [(1, .int _), (0, .int _)]) rfl (fun ls hl => ?_)
  refine q_iconst C (v := 0) dX5_ones_2 (by decide) ?_
  refine q_istore_n C dX5_ones_3 rfl hl (by decide) (lv2 := [(2, .int _), (1, .int _), (0, .int _)]) rfl (fun ls hl => ?_)
  exact t_X5_ones_b4 C 200 _ _ _ _ _ (lv_sub hl [2, 1, 0] rfl) hK
theorem s_X5_ones : ss yX5_ones cX5_ones 3 (some .int) 1 := ⟨w_co_X5_ones, w_st_X5_ones, w_in_X5, by decide +kernel, by decide⟩
def f_X5_power_b4 : Nat → Int32 → Int32 → Int32 → Int32 → PH → Option (Int32 × PH)
  | 0, _, _, _, _, _ => none
  | n + 1, v0, v1, v2, v3, h => if v1 ≤ v3 then some (v2, h) else (f_X5_power_b4 n) v0 v1 (v2 * v0) (v3 + 1) h
set_option maxHeartbeats 4000000 in
set_option maxRecDepth 100000 in
theorem t_X5_power_b4 {p : Program} {l : Launch} {e : Env} {s : State} {m : MethodId} {args : Array Value} {below : List Frame} {meth : Method} {c : Code} {G : GG} {res : Int32 × PH} (C : cx p s m args meth c G RX5 cX5_power 4 (some .int)) (n : Nat) : ∀ (v0 : Int32) (v1 : Int32) (v2 : Int32) (v3 : Int32) (h : PH) (ls : Array Slot), lv_has ls 4 [(0, .int v0), (1, .int v1), (2, .int v2), (3, .int v3)] → f_X5_power_b4 n v0 v1 v2 v3 h = some res → WW p l e 0 s m args below meth c G h (MQ below (QI G res) args s 0 0 (Ar G)) (F0 m 4 ls []) := by
  induction n with
  | zero => intro v0 v1 v2 v3 h ls hl hK; cases hK
  | succ n ih =>
    intro v0 v1 v2 v3 h ls hl hK
    unfold f_X5_power_b4 at hK
    refine q_iload_n C dX5_power_4 rfl (lv_at hl 3 rfl) ?_
    refine q_iload_n C dX5_power_5 rfl (lv_at hl 1 rfl) ?_
    refine q_icmp_ge C dX5_power_6 (tgt := 19) (by decide) (fun hc => ?_) (fun hc => ?_)
    · replace hK := if_po hc hK
      refine q_iload_n C dX5_power_19 rfl (lv_at hl 2 rfl) ?_
      cases hK
      exact q_iret C dX5_power_20
    · replace hK := if_ne hc hK
      refine q_iload_n C dX5_power_9 rfl (lv_at hl 2 rfl) ?_
      refine q_iload_n C dX5_power_10 rfl (lv_at hl 0 rfl) ?_
      refine q_imul C dX5_power_11 ?_
      refine q_istore_n C dX5_power_12 rfl hl (by decide) (lv2 := [(2, .int _), (0, .int _), (1, .int _), (3, .int _)]) rfl (fun ls hl => ?_)
      refine q_iinc C dX5_power_13 hl (j := 3) (v := (v3 + 1)) rfl rfl (by decide) (lv2 := [(3, .int _), (2, .int _), (0, .int _), (1, .int _)]) rfl (fun ls hl => ?_)
      refine q_goto C dX5_power_16 (tgt := 4) (by decide) ?_
      exact ih _ _ _ _ _ _ (lv_sub hl [2, 3, 1, 0] rfl) hK
def f_X5_power (a1 : Int32) (a2 : Int32) (h : PH) : Option (Int32 × PH) := f_X5_power_b4 200 a1 a2 (1 : Int32) (0 : Int32) h
set_option maxHeartbeats 4000000 in
set_option maxRecDepth 100000 in
theorem c_X5_power (l : Launch) (G : GG) {a1 : Int32} {a2 : Int32} {h : PH} {res : Int32 × PH} (hF : f_X5_power a1 a2 h = some res) : MI l G yX5_power cX5_power 4 .int 0 [.int a1, .int a2] h res := by
  unfold f_X5_power at hF
  refine MI_of (by decide +kernel) (Nat.le_of_ble_eq_true rfl) ?_
  intro p e s m args below meth c ls C hl
  have hK := hF
  clear hF
  have hl : lv_has ls 4 [(0, .int a1), (1, .int a2)] := hl
  have C : cx p s m args meth c G RX5 cX5_power 4 (some .int) := C
  refine q_iconst C (v := 1) dX5_power_0 (by decide) ?_
  refine q_istore_n C dX5_power_1 rfl hl (by decide) (lv2 := [(2, .int _), (0, .int _), (1, .int _)]) rfl (fun ls hl => ?_)
  refine q_iconst C (v := 0) dX5_power_2 (by decide) ?_
  refine q_istore_n C dX5_power_3 rfl hl (by decide) (lv2 := [(3, .int _), (2, .int _), (0, .int _), (1, .int _)]) rfl (fun ls hl => ?_)
  exact t_X5_power_b4 C 200 _ _ _ _ _ _ (lv_sub hl [2, 3, 1, 0] rfl) hK
theorem s_X5_power : ss yX5_power cX5_power 4 (some .int) 2 := ⟨w_co_X5_power, w_st_X5_power, w_in_X5, by decide +kernel, by decide⟩
def f_X5_factorial_b4 : Nat → Int32 → Int32 → Int32 → PH → Option (Int32 × PH)
  | 0, _, _, _, _ => none
  | n + 1, v0, v1, v2, h => if v0 < v2 then some (v1, h) else (f_X5_factorial_b4 n) v0 (v1 * v2) (v2 + 1) h
set_option maxHeartbeats 4000000 in
set_option maxRecDepth 100000 in
theorem t_X5_factorial_b4 {p : Program} {l : Launch} {e : Env} {s : State} {m : MethodId} {args : Array Value} {below : List Frame} {meth : Method} {c : Code} {G : GG} {res : Int32 × PH} (C : cx p s m args meth c G RX5 cX5_factorial 3 (some .int)) (n : Nat) : ∀ (v0 : Int32) (v1 : Int32) (v2 : Int32) (h : PH) (ls : Array Slot), lv_has ls 3 [(0, .int v0), (1, .int v1), (2, .int v2)] → f_X5_factorial_b4 n v0 v1 v2 h = some res → WW p l e 0 s m args below meth c G h (MQ below (QI G res) args s 0 0 (Ar G)) (F0 m 4 ls []) := by
  induction n with
  | zero => intro v0 v1 v2 h ls hl hK; cases hK
  | succ n ih =>
    intro v0 v1 v2 h ls hl hK
    unfold f_X5_factorial_b4 at hK
    refine q_iload_n C dX5_factorial_4 rfl (lv_at hl 2 rfl) ?_
    refine q_iload_n C dX5_factorial_5 rfl (lv_at hl 0 rfl) ?_
    refine q_icmp_gt C dX5_factorial_6 (tgt := 19) (by decide) (fun hc => ?_) (fun hc => ?_)
    · replace hK := if_po hc hK
      refine q_iload_n C dX5_factorial_19 rfl (lv_at hl 1 rfl) ?_
      cases hK
      exact q_iret C dX5_factorial_20
    · replace hK := if_ne hc hK
      refine q_iload_n C dX5_factorial_9 rfl (lv_at hl 1 rfl) ?_
      refine q_iload_n C dX5_factorial_10 rfl (lv_at hl 2 rfl) ?_
      refine q_imul C dX5_factorial_11 ?_
      refine q_istore_n C dX5_factorial_12 rfl hl (by decide) (lv2 := [(1, .int _), (0, .int _), (2, .int _)]) rfl (fun ls hl => ?_)
      refine q_iinc C dX5_factorial_13 hl (j := 2) (v := (v2 + 1)) rfl rfl (by decide) (lv2 := [(2, .int _), (1, .int _), (0, .int _)]) rfl (fun ls hl => ?_)
      refine q_goto C dX5_factorial_16 (tgt := 4) (by decide) ?_
      exact ih _ _ _ _ _ (lv_sub hl [2, 1, 0] rfl) hK
def f_X5_factorial (a1 : Int32) (h : PH) : Option (Int32 × PH) := f_X5_factorial_b4 200 a1 (1 : Int32) (2 : Int32) h
set_option maxHeartbeats 4000000 in
set_option maxRecDepth 100000 in
theorem c_X5_factorial (l : Launch) (G : GG) {a1 : Int32} {h : PH} {res : Int32 × PH} (hF : f_X5_factorial a1 h = some res) : MI l G yX5_factorial cX5_factorial 3 .int 0 [.int a1] h res := by
  unfold f_X5_factorial at hF
  refine MI_of (by decide +kernel) (Nat.le_of_ble_eq_true rfl) ?_
  intro p e s m args below meth c ls C hl
  have hK := hF
  clear hF
  have hl : lv_has ls 3 [(0, .int a1)] := hl
  have C : cx p s m args meth c G RX5 cX5_factorial 3 (some .int) := C
  refine q_iconst C (v := 1) dX5_factorial_0 (by decide) ?_
  refine q_istore_n C dX5_factorial_1 rfl hl (by decide) (lv2 := [(1, .int _), (0, .int _)]) rfl (fun ls hl => ?_)
  refine q_iconst C (v := 2) dX5_factorial_2 (by decide) ?_
  refine q_istore_n C dX5_factorial_3 rfl hl (by decide) (lv2 := [(2, .int _), (1, .int _), (0, .int _)]) rfl (fun ls hl => ?_)
  exact t_X5_factorial_b4 C 200 _ _ _ _ _ (lv_sub hl [2, 1, 0] rfl) hK
theorem s_X5_factorial : ss yX5_factorial cX5_factorial 3 (some .int) 1 := ⟨w_co_X5_factorial, w_st_X5_factorial, w_in_X5, by decide +kernel, by decide⟩
def f_X5_held (a1 : Int32) (h : PH) : Option (Int32 × PH) := if 0 ≤ a1 then if a1 ≤ (99 : Int32) then some (a1, h) else some ((99 : Int32), h) else some ((0 : Int32), h)
set_option maxHeartbeats 4000000 in
set_option maxRecDepth 100000 in
theorem c_X5_held (l : Launch) (G : GG) {a1 : Int32} {h : PH} {res : Int32 × PH} (hF : f_X5_held a1 h = some res) : MI l G yX5_held cX5_held 1 .int 0 [.int a1] h res := by
  unfold f_X5_held at hF
  refine MI_of (by decide +kernel) (Nat.le_of_ble_eq_true rfl) ?_
  intro p e s m args below meth c ls C hl
  have hK := hF
  clear hF
  have hl : lv_has ls 1 [(0, .int a1)] := hl
  have C : cx p s m args meth c G RX5 cX5_held 1 (some .int) := C
  refine q_iload_n C dX5_held_0 rfl (lv_at hl 0 rfl) ?_
  refine q_if_ge C dX5_held_1 (tgt := 8) (by decide) (fun hc => ?_) (fun hc => ?_)
  · replace hK := if_po hc hK
    refine q_iload_n C dX5_held_8 rfl (lv_at hl 0 rfl) ?_
    refine q_bipush C (v := 99) dX5_held_9 (by decide) ?_
    refine q_icmp_le C dX5_held_11 (tgt := 19) (by decide) (fun hc => ?_) (fun hc => ?_)
    · replace hK := if_po hc hK
      refine q_iload_n C dX5_held_19 rfl (lv_at hl 0 rfl) ?_
      cases hK
      exact q_iret C dX5_held_20
    · replace hK := if_ne hc hK
      refine q_bipush C (v := 99) dX5_held_14 (by decide) ?_
      refine q_goto C dX5_held_16 (tgt := 20) (by decide) ?_
      cases hK
      exact q_iret C dX5_held_20
  · replace hK := if_ne hc hK
    refine q_iconst C (v := 0) dX5_held_4 (by decide) ?_
    refine q_goto C dX5_held_5 (tgt := 20) (by decide) ?_
    cases hK
    exact q_iret C dX5_held_20
theorem s_X5_held : ss yX5_held cX5_held 1 (some .int) 1 := ⟨w_co_X5_held, w_st_X5_held, w_in_X5, by decide +kernel, by decide⟩
def f_X5_fraction_b14 : Nat → Int32 → Int32 → Int32 → Int32 → Int32 → PH → Option (Int32 × PH)
  | 0, _, _, _, _, _, _ => none
  | n + 1, v0, v1, v2, v3, v4, h => if v4 = 0 then if v2 = 0 then nz v3 (some ((v1 / v3), h)) else nz v3 (some ((v0 / v3), h)) else nz v4 ((f_X5_fraction_b14 n) v0 v1 v2 v4 (irm v3 v4) h)
set_option maxHeartbeats 4000000 in
set_option maxRecDepth 100000 in
theorem t_X5_fraction_b14 {p : Program} {l : Launch} {e : Env} {s : State} {m : MethodId} {args : Array Value} {below : List Frame} {meth : Method} {c : Code} {G : GG} {res : Int32 × PH} (C : cx p s m args meth c G RX5 cX5_fraction 6 (some .int)) (n : Nat) : ∀ (v0 : Int32) (v1 : Int32) (v2 : Int32) (v3 : Int32) (v4 : Int32) (h : PH) (ls : Array Slot), lv_has ls 6 [(0, .int v0), (1, .int v1), (2, .int v2), (3, .int v3), (4, .int v4)] → f_X5_fraction_b14 n v0 v1 v2 v3 v4 h = some res → WW p l e 0 s m args below meth c G h (MQ below (QI G res) args s 0 0 (Ar G)) (F0 m 14 ls []) := by
  induction n with
  | zero => intro v0 v1 v2 v3 v4 h ls hl hK; cases hK
  | succ n ih =>
    intro v0 v1 v2 v3 v4 h ls hl hK
    unfold f_X5_fraction_b14 at hK
    refine q_iload C dX5_fraction_14 (lv_at hl 4 rfl) ?_
    refine q_if_eq C dX5_fraction_16 (tgt := 35) (by decide) (fun hc => ?_) (fun hc => ?_)
    · replace hK := if_po hc hK
      refine q_iload_n C dX5_fraction_35 rfl (lv_at hl 2 rfl) ?_
      refine q_if_eq C dX5_fraction_36 (tgt := 45) (by decide) (fun hc => ?_) (fun hc => ?_)
      · replace hK := if_po hc hK
        refine q_iload_n C dX5_fraction_45 rfl (lv_at hl 1 rfl) ?_
        refine q_iload_n C dX5_fraction_46 rfl (lv_at hl 3 rfl) ?_
        obtain ⟨hn1, hK⟩ := nz_so hK
        refine q_idiv C dX5_fraction_47 hn1 ?_
        cases hK
        exact q_iret C dX5_fraction_48
      · replace hK := if_ne hc hK
        refine q_iload_n C dX5_fraction_39 rfl (lv_at hl 0 rfl) ?_
        refine q_iload_n C dX5_fraction_40 rfl (lv_at hl 3 rfl) ?_
        obtain ⟨hn2, hK⟩ := nz_so hK
        refine q_idiv C dX5_fraction_41 hn2 ?_
        refine q_goto C dX5_fraction_42 (tgt := 48) (by decide) ?_
        cases hK
        exact q_iret C dX5_fraction_48
    · replace hK := if_ne hc hK
      refine q_iload_n C dX5_fraction_19 rfl (lv_at hl 3 rfl) ?_
      refine q_iload C dX5_fraction_20 (lv_at hl 4 rfl) ?_
      obtain ⟨hn3, hK⟩ := nz_so hK
      refine q_irem C dX5_fraction_22 hn3 ?_
      refine q_istore C dX5_fraction_23 hl (by decide) (lv2 := [(5, .int _), (0, .int _), (1, .int _), (2, .int _), (3, .int _), (4, .int _)]) rfl (fun ls hl => ?_)
      refine q_iload C dX5_fraction_25 (lv_at hl 5 rfl) ?_
      refine q_istore_n C dX5_fraction_27 rfl hl (by decide) (lv2 := [(3, .int _), (5, .int _), (0, .int _), (1, .int _), (2, .int _), (4, .int _)]) rfl (fun ls hl => ?_)
      refine q_iload C dX5_fraction_28 (lv_at hl 1 rfl) ?_
      refine q_istore C dX5_fraction_30 hl (by decide) (lv2 := [(4, .int _), (3, .int _), (5, .int _), (0, .int _), (1, .int _), (2, .int _)]) rfl (fun ls hl => ?_)
      refine q_goto C dX5_fraction_32 (tgt := 14) (by decide) ?_
      exact ih _ _ _ _ _ _ _ (lv_sub hl [3, 4, 5, 1, 0] rfl) hK
def f_X5_fraction (a1 : Int32) (a2 : Int32) (a3 : Int32) (h : PH) : Option (Int32 × PH) := if 0 ≤ a1 then f_X5_fraction_b14 200 a1 a2 a3 a1 a2 h else f_X5_fraction_b14 200 a1 a2 a3 (-a1) a2 h
set_option maxHeartbeats 4000000 in
set_option maxRecDepth 100000 in
theorem c_X5_fraction (l : Launch) (G : GG) {a1 : Int32} {a2 : Int32} {a3 : Int32} {h : PH} {res : Int32 × PH} (hF : f_X5_fraction a1 a2 a3 h = some res) : MI l G yX5_fraction cX5_fraction 6 .int 0 [.int a1, .int a2, .int a3] h res := by
  unfold f_X5_fraction at hF
  refine MI_of (by decide +kernel) (Nat.le_of_ble_eq_true rfl) ?_
  intro p e s m args below meth c ls C hl
  have hK := hF
  clear hF
  have hl : lv_has ls 6 [(0, .int a1), (1, .int a2), (2, .int a3)] := hl
  have C : cx p s m args meth c G RX5 cX5_fraction 6 (some .int) := C
  refine q_iload_n C dX5_fraction_0 rfl (lv_at hl 0 rfl) ?_
  refine q_if_ge C dX5_fraction_1 (tgt := 9) (by decide) (fun hc => ?_) (fun hc => ?_)
  · replace hK := if_po hc hK
    refine q_iload_n C dX5_fraction_9 rfl (lv_at hl 0 rfl) ?_
    refine q_istore_n C dX5_fraction_10 rfl hl (by decide) (lv2 := [(3, .int _), (0, .int _), (1, .int _), (2, .int _)]) rfl (fun ls hl => ?_)
    refine q_iload_n C dX5_fraction_11 rfl (lv_at hl 2 rfl) ?_
    refine q_istore C dX5_fraction_12 hl (by decide) (lv2 := [(4, .int _), (3, .int _), (0, .int _), (1, .int _), (2, .int _)]) rfl (fun ls hl => ?_)
    exact t_X5_fraction_b14 C 200 _ _ _ _ _ _ _ (lv_sub hl [2, 3, 4, 1, 0] rfl) hK
  · replace hK := if_ne hc hK
    refine q_iload_n C dX5_fraction_4 rfl (lv_at hl 0 rfl) ?_
    refine q_ineg C dX5_fraction_5 ?_
    refine q_goto C dX5_fraction_6 (tgt := 10) (by decide) ?_
    refine q_istore_n C dX5_fraction_10 rfl hl (by decide) (lv2 := [(3, .int _), (0, .int _), (1, .int _), (2, .int _)]) rfl (fun ls hl => ?_)
    refine q_iload_n C dX5_fraction_11 rfl (lv_at hl 2 rfl) ?_
    refine q_istore C dX5_fraction_12 hl (by decide) (lv2 := [(4, .int _), (3, .int _), (0, .int _), (1, .int _), (2, .int _)]) rfl (fun ls hl => ?_)
    exact t_X5_fraction_b14 C 200 _ _ _ _ _ _ _ (lv_sub hl [2, 3, 4, 1, 0] rfl) hK
theorem s_X5_fraction : ss yX5_fraction cX5_fraction 6 (some .int) 3 := ⟨w_co_X5_fraction, w_st_X5_fraction, w_in_X5, by decide +kernel, by decide⟩
def f_X5_isCell (a1 : Int32) (h : PH) : Option (Int32 × PH) := bd (f_X5_in a1 (0 : Int32) ((h.1 110 2) - (1 : Int32)) h) (fun r1 h2 => bz r1 (some (r1, h2)))
set_option maxHeartbeats 4000000 in
set_option maxRecDepth 100000 in
theorem c_X5_isCell (l : Launch) (G : GG) {a1 : Int32} {h : PH} {res : Int32 × PH} (hF : f_X5_isCell a1 h = some res) : MI l G yX5_isCell cX5_isCell 2 .boolean 1 [.ref (G.2.2.2.2 110), .int a1] h res := by
  unfold f_X5_isCell at hF
  refine MI_of (by decide +kernel) (Nat.le_of_ble_eq_true rfl) ?_
  intro p e s m args below meth c ls C hl
  have hK := hF
  clear hF
  have hl : lv_has ls 2 [(0, .ref (G.2.2.2.2 110)), (1, .int a1)] := hl
  have C : cx p s m args meth c G RX5 cX5_isCell 2 (some .boolean) := C
  refine q_iload_n C dX5_isCell_0 rfl (lv_at hl 1 rfl) ?_
  refine q_iconst C (v := 0) dX5_isCell_1 (by decide) ?_
  refine q_aload_n C dX5_isCell_2 rfl (lv_at hl 0 rfl) ?_
  refine g_X5_cells C kd_110 w_fl_X5_13 dX5_isCell_3 ?_
  refine q_iconst C (v := 1) dX5_isCell_6 (by decide) ?_
  refine q_isub C dX5_isCell_7 ?_
  obtain ⟨r1, h2, hfr1, hK⟩ := bd_so hK
  refine q_callSi C s_X5_in w_ml_X5_72 (c_X5_in l G hfr1) (by decide) hl.1 rfl rfl (Nat.le_of_ble_eq_true rfl) dX5_isCell_8 ?_
  obtain ⟨hz, hK⟩ := bz_so hK
  cases hK
  exact q_zret C hz dX5_isCell_11
theorem s_X5_isCell : sv yX5_isCell cX5_isCell 2 (some .boolean) 1 := ⟨w_co_X5_isCell, w_im_X5_isCell, w_se_X5_isCell, w_in_X5, by decide +kernel, by decide⟩
def f_X5_isValve (a1 : Int32) (h : PH) : Option (Int32 × PH) := bd (f_X5_in a1 (0 : Int32) ((h.1 110 7) - (1 : Int32)) h) (fun r1 h2 => bz r1 (some (r1, h2)))
set_option maxHeartbeats 4000000 in
set_option maxRecDepth 100000 in
theorem c_X5_isValve (l : Launch) (G : GG) {a1 : Int32} {h : PH} {res : Int32 × PH} (hF : f_X5_isValve a1 h = some res) : MI l G yX5_isValve cX5_isValve 2 .boolean 1 [.ref (G.2.2.2.2 110), .int a1] h res := by
  unfold f_X5_isValve at hF
  refine MI_of (by decide +kernel) (Nat.le_of_ble_eq_true rfl) ?_
  intro p e s m args below meth c ls C hl
  have hK := hF
  clear hF
  have hl : lv_has ls 2 [(0, .ref (G.2.2.2.2 110)), (1, .int a1)] := hl
  have C : cx p s m args meth c G RX5 cX5_isValve 2 (some .boolean) := C
  refine q_iload_n C dX5_isValve_0 rfl (lv_at hl 1 rfl) ?_
  refine q_iconst C (v := 0) dX5_isValve_1 (by decide) ?_
  refine q_aload_n C dX5_isValve_2 rfl (lv_at hl 0 rfl) ?_
  refine g_X5_valves C kd_110 w_fl_X5_76 dX5_isValve_3 ?_
  refine q_iconst C (v := 1) dX5_isValve_6 (by decide) ?_
  refine q_isub C dX5_isValve_7 ?_
  obtain ⟨r1, h2, hfr1, hK⟩ := bd_so hK
  refine q_callSi C s_X5_in w_ml_X5_72 (c_X5_in l G hfr1) (by decide) hl.1 rfl rfl (Nat.le_of_ble_eq_true rfl) dX5_isValve_8 ?_
  obtain ⟨hz, hK⟩ := bz_so hK
  cases hK
  exact q_zret C hz dX5_isValve_11
theorem s_X5_isValve : sv yX5_isValve cX5_isValve 2 (some .boolean) 1 := ⟨w_co_X5_isValve, w_im_X5_isValve, w_se_X5_isValve, w_in_X5, by decide +kernel, by decide⟩
def f_X5_write (a1 : Int32) (h : PH) : Option (Int32 × PH) := bd (f_X5_in a1 (0 : Int32) (255 : Int32) h) (fun r1 h2 => if r1 = 0 then some ((-2 : Int32), h2) else if (h2.1 110 1) = (90 : Int32) then some ((-4 : Int32), h2) else wr h2 111 (h2.1 110 1) a1 (fun h3 => st h3 110 1 ((h3.1 110 1) + (1 : Int32)) (fun h4 => some ((h4.1 110 1), h4))))
set_option maxHeartbeats 4000000 in
set_option maxRecDepth 100000 in
theorem c_X5_write (l : Launch) (G : GG) {a1 : Int32} {h : PH} {res : Int32 × PH} (hF : f_X5_write a1 h = some res) : MI l G yX5_write cX5_write 2 .int 1 [.ref (G.2.2.2.2 110), .int a1] h res := by
  unfold f_X5_write at hF
  refine MI_of (by decide +kernel) (Nat.le_of_ble_eq_true rfl) ?_
  intro p e s m args below meth c ls C hl
  have hK := hF
  clear hF
  have hl : lv_has ls 2 [(0, .ref (G.2.2.2.2 110)), (1, .int a1)] := hl
  have C : cx p s m args meth c G RX5 cX5_write 2 (some .int) := C
  refine q_iload_n C dX5_write_0 rfl (lv_at hl 1 rfl) ?_
  refine q_iconst C (v := 0) dX5_write_1 (by decide) ?_
  refine q_sipush C (v := 255) dX5_write_2 (by decide) ?_
  obtain ⟨r1, h2, hfr1, hK⟩ := bd_so hK
  refine q_callSi C s_X5_in w_ml_X5_72 (c_X5_in l G hfr1) (by decide) hl.1 rfl rfl (Nat.le_of_ble_eq_true rfl) dX5_write_5 ?_
  refine q_if_ne C dX5_write_8 (tgt := 14) (by decide) (fun hc => ?_) (fun hc => ?_)
  · replace hK := if_ne hc hK
    refine q_aload_n C dX5_write_14 rfl (lv_at hl 0 rfl) ?_
    refine g_X5_length C kd_110 w_fl_X5_79 dX5_write_15 ?_
    refine q_bipush C (v := 90) dX5_write_18 (by decide) ?_
    refine q_icmp_ne C dX5_write_20 (tgt := 26) (by decide) (fun hc => ?_) (fun hc => ?_)
    · replace hK := if_ne hc hK
      refine q_aload_n C dX5_write_26 rfl (lv_at hl 0 rfl) ?_
      refine g_X5_text C kd_110 w_fl_X5_7 dX5_write_27 ?_
      refine q_aload_n C dX5_write_30 rfl (lv_at hl 0 rfl) ?_
      refine g_X5_length C kd_110 w_fl_X5_79 dX5_write_31 ?_
      refine q_iload_n C dX5_write_34 rfl (lv_at hl 1 rfl) ?_
      obtain ⟨h3, hh3, hK⟩ := wr_so hK
      refine q_iast C kd_111 hh3 dX5_write_35 ?_
      refine q_aload_n C dX5_write_36 rfl (lv_at hl 0 rfl) ?_
      refine q_dup C dX5_write_37 rfl ?_
      refine g_X5_length C kd_110 w_fl_X5_79 dX5_write_38 ?_
      refine q_iconst C (v := 1) dX5_write_41 (by decide) ?_
      refine q_iadd C dX5_write_42 ?_
      obtain ⟨h4, hh4, hK⟩ := st_so hK
      refine p_X5_length C kd_110 w_fl_X5_79 hh4 dX5_write_43 ?_
      refine q_aload_n C dX5_write_46 rfl (lv_at hl 0 rfl) ?_
      refine g_X5_length C kd_110 w_fl_X5_79 dX5_write_47 ?_
      cases hK
      exact q_iret C dX5_write_50
    · replace hK := if_po hc hK
      refine q_bipush C (v := -4) dX5_write_23 (by decide) ?_
      cases hK
      exact q_iret C dX5_write_25
  · replace hK := if_po hc hK
    refine q_bipush C (v := -2) dX5_write_11 (by decide) ?_
    cases hK
    exact q_iret C dX5_write_13
theorem s_X5_write : sv yX5_write cX5_write 2 (some .int) 1 := ⟨w_co_X5_write, w_im_X5_write, w_se_X5_write, w_in_X5, by decide +kernel, by decide⟩
def f_X5_wipe (h : PH) : Option (Int32 × PH) := st h 110 1 (0 : Int32) (fun h1 => some ((h.1 110 1), h1))
set_option maxHeartbeats 4000000 in
set_option maxRecDepth 100000 in
theorem c_X5_wipe (l : Launch) (G : GG) {h : PH} {res : Int32 × PH} (hF : f_X5_wipe h = some res) : MI l G yX5_wipe cX5_wipe 2 .int 0 [.ref (G.2.2.2.2 110)] h res := by
  unfold f_X5_wipe at hF
  refine MI_of (by decide +kernel) (Nat.le_of_ble_eq_true rfl) ?_
  intro p e s m args below meth c ls C hl
  have hK := hF
  clear hF
  have hl : lv_has ls 2 [(0, .ref (G.2.2.2.2 110))] := hl
  have C : cx p s m args meth c G RX5 cX5_wipe 2 (some .int) := C
  refine q_aload_n C dX5_wipe_0 rfl (lv_at hl 0 rfl) ?_
  refine g_X5_length C kd_110 w_fl_X5_79 dX5_wipe_1 ?_
  refine q_istore_n C dX5_wipe_4 rfl hl (by decide) (lv2 := [(1, .int _), (0, .ref _)]) rfl (fun ls hl => ?_)
  refine q_aload_n C dX5_wipe_5 rfl (lv_at hl 1 rfl) ?_
  refine q_iconst C (v := 0) dX5_wipe_6 (by decide) ?_
  obtain ⟨h1, hh1, hK⟩ := st_so hK
  refine p_X5_length C kd_110 w_fl_X5_79 hh1 dX5_wipe_7 ?_
  refine q_iload_n C dX5_wipe_10 rfl (lv_at hl 0 rfl) ?_
  cases hK
  exact q_iret C dX5_wipe_11
theorem s_X5_wipe : sv yX5_wipe cX5_wipe 2 (some .int) 0 := ⟨w_co_X5_wipe, w_im_X5_wipe, w_se_X5_wipe, w_in_X5, by decide +kernel, by decide⟩
def f_X5_takeHead_b68 (v2 : Int32) (s0 : Int32) (s1 : Int32) (h : PH) : Option (Int32 × PH) := rd h 123 (0 : Int32) (fun x14 => bd (f_X5_in s1 s0 ((x14 - (6 : Int32)) + v2) h) (fun r15 h16 => bz r15 (some (r15, h16))))
set_option maxHeartbeats 4000000 in
set_option maxRecDepth 100000 in
theorem t_X5_takeHead_b68 {p : Program} {l : Launch} {e : Env} {s : State} {m : MethodId} {args : Array Value} {below : List Frame} {meth : Method} {c : Code} {G : GG} {res : Int32 × PH} (C : cx p s m args meth c G RX5 cX5_takeHead 3 (some .boolean)) {v2 : Int32} {s0 : Int32} {s1 : Int32} {h : PH} {ls : Array Slot} (hl : lv_has ls 3 [(0, .ref (G.2.2.2.2 110)), (2, .int v2)]) (hK : f_X5_takeHead_b68 v2 s0 s1 h = some res) : WW p l e 1 s m args below meth c G h (MQ below (QI G res) args s 0 0 (Ar G)) (F0 m 68 ls [.int s0, .int s1]) := by
  unfold f_X5_takeHead_b68 at hK
  refine q_aload_n C dX5_takeHead_68 rfl (lv_at hl 0 rfl) ?_
  refine g_X5_head C kd_110 w_fl_X5_51 dX5_takeHead_69 ?_
  refine q_iconst C (v := 0) dX5_takeHead_72 (by decide) ?_
  obtain ⟨x14, hx14, hK⟩ := rd_so hK
  refine q_iald C kd_123 hx14 dX5_takeHead_73 ?_
  refine q_bipush C (v := 6) dX5_takeHead_74 (by decide) ?_
  refine q_isub C dX5_takeHead_76 ?_
  refine q_iload_n C dX5_takeHead_77 rfl (lv_at hl 1 rfl) ?_
  refine q_iadd C dX5_takeHead_78 ?_
  obtain ⟨r15, h16, hfr15, hK⟩ := bd_so hK
  refine q_callSi C s_X5_in w_ml_X5_72 (c_X5_in l G hfr15) (by decide) hl.1 rfl rfl (Nat.le_of_ble_eq_true rfl) dX5_takeHead_79 ?_
  obtain ⟨hz, hK⟩ := bz_so hK
  cases hK
  exact q_zret C hz dX5_takeHead_82
def f_X5_takeHead (a1 : Int32) (h : PH) : Option (Int32 × PH) := st h 110 36 ((h.1 110 36) + (1 : Int32)) (fun h1 => if (h.1 110 36) = 0 then wr h1 123 (0 : Int32) a1 (fun h11 => bd (f_X5_in a1 (6 : Int32) (9 : Int32) h11) (fun r12 h13 => bz r12 (some (r12, h13)))) else if (6 : Int32) ≤ (h.1 110 36) then bd (f_X5_in a1 (0 : Int32) (9 : Int32) h1) (fun r2 h3 => if r2 = 0 then some ((0 : Int32), h3) else if (8 : Int32) ≤ (h.1 110 36) then if (h.1 110 36) = (8 : Int32) then st h3 110 27 a1 (fun h7 => some ((1 : Int32), h7)) else st h3 110 28 a1 (fun h4 => st h4 110 36 (0 : Int32) (fun h5 => st h5 110 35 (0 : Int32) (fun h6 => some ((1 : Int32), h6)))) else st h3 110 26 (((10 : Int32) * (h3.1 110 26)) + a1) (fun h8 => some ((1 : Int32), h8))) else wr h1 123 (h.1 110 36) a1 (fun h9 => if (h.1 110 36) = (1 : Int32) then f_X5_takeHead_b68 (h.1 110 36) (1 : Int32) a1 h9 else rd h9 123 ((h.1 110 36) - (1 : Int32)) (fun x10 => f_X5_takeHead_b68 (h.1 110 36) (x10 + (1 : Int32)) a1 h9)))
set_option maxHeartbeats 4000000 in
set_option maxRecDepth 100000 in
theorem c_X5_takeHead (l : Launch) (G : GG) {a1 : Int32} {h : PH} {res : Int32 × PH} (hF : f_X5_takeHead a1 h = some res) : MI l G yX5_takeHead cX5_takeHead 3 .boolean 1 [.ref (G.2.2.2.2 110), .int a1] h res := by
  unfold f_X5_takeHead at hF
  refine MI_of (by decide +kernel) (Nat.le_of_ble_eq_true rfl) ?_
  intro p e s m args below meth c ls C hl
  have hK := hF
  clear hF
  have hl : lv_has ls 3 [(0, .ref (G.2.2.2.2 110)), (1, .int a1)] := hl
  have C : cx p s m args meth c G RX5 cX5_takeHead 3 (some .boolean) := C
  refine q_aload_n C dX5_takeHead_0 rfl (lv_at hl 0 rfl) ?_
  refine g_X5_place C kd_110 w_fl_X5_82 dX5_takeHead_1 ?_
  refine q_istore_n C dX5_takeHead_4 rfl hl (by decide) (lv2 := [(2, .int _), (0, .ref _), (1, .int _)]) rfl (fun ls hl => ?_)
  refine q_aload_n C dX5_takeHead_5 rfl (lv_at hl 1 rfl) ?_
  refine q_dup C dX5_takeHead_6 rfl ?_
  refine g_X5_place C kd_110 w_fl_X5_82 dX5_takeHead_7 ?_
  refine q_iconst C (v := 1) dX5_takeHead_10 (by decide) ?_
  refine q_iadd C dX5_takeHead_11 ?_
  obtain ⟨h1, hh1, hK⟩ := st_so hK
  refine p_X5_place C kd_110 w_fl_X5_82 hh1 dX5_takeHead_12 ?_
  refine q_iload_n C dX5_takeHead_15 rfl (lv_at hl 0 rfl) ?_
  refine q_if_ne C dX5_takeHead_16 (tgt := 35) (by decide) (fun hc => ?_) (fun hc => ?_)
  · replace hK := if_ne hc hK
    refine q_iload_n C dX5_takeHead_35 rfl (lv_at hl 0 rfl) ?_
    refine q_bipush C (v := 6) dX5_takeHead_36 (by decide) ?_
    refine q_icmp_ge C dX5_takeHead_38 (tgt := 83) (by decide) (fun hc => ?_) (fun hc => ?_)
    · replace hK := if_po hc hK
      refine q_iload_n C dX5_takeHead_83 rfl (lv_at hl 2 rfl) ?_
      refine q_iconst C (v := 0) dX5_takeHead_84 (by decide) ?_
      refine q_bipush C (v := 9) dX5_takeHead_85 (by decide) ?_
      obtain ⟨r2, h3, hfr2, hK⟩ := bd_so hK
      refine q_callSi C s_X5_in w_ml_X5_72 (c_X5_in l G hfr2) (by decide) hl.1 rfl rfl (Nat.le_of_ble_eq_true rfl) dX5_takeHead_87 ?_
      refine q_if_ne C dX5_takeHead_90 (tgt := 95) (by decide) (fun hc => ?_) (fun hc => ?_)
      · replace hK := if_ne hc hK
        refine q_iload_n C dX5_takeHead_95 rfl (lv_at hl 0 rfl) ?_
        refine q_bipush C (v := 8) dX5_takeHead_96 (by decide) ?_
        refine q_icmp_ge C dX5_takeHead_98 (tgt := 117) (by decide) (fun hc => ?_) (fun hc => ?_)
        · replace hK := if_po hc hK
          refine q_iload_n C dX5_takeHead_117 rfl (lv_at hl 0 rfl) ?_
          refine q_bipush C (v := 8) dX5_takeHead_118 (by decide) ?_
          refine q_icmp_ne C dX5_takeHead_120 (tgt := 131) (by decide) (fun hc => ?_) (fun hc => ?_)
          · replace hK := if_ne hc hK
            refine q_aload_n C dX5_takeHead_131 rfl (lv_at hl 1 rfl) ?_
            refine q_iload_n C dX5_takeHead_132 rfl (lv_at hl 2 rfl) ?_
            obtain ⟨h4, hh4, hK⟩ := st_so hK
            refine p_X5_readEach C kd_110 w_fl_X5_91 hh4 dX5_takeHead_133 ?_
            refine q_aload_n C dX5_takeHead_136 rfl (lv_at hl 1 rfl) ?_
            refine q_iconst C (v := 0) dX5_takeHead_137 (by decide) ?_
            obtain ⟨h5, hh5, hK⟩ := st_so hK
            refine p_X5_place C kd_110 w_fl_X5_82 hh5 dX5_takeHead_138 ?_
            refine q_aload_n C dX5_takeHead_141 rfl (lv_at hl 1 rfl) ?_
            refine q_iconst C (v := 0) dX5_takeHead_142 (by decide) ?_
            obtain ⟨h6, hh6, hK⟩ := st_so hK
            refine p_X5_part C kd_110 w_fl_X5_94 hh6 dX5_takeHead_143 ?_
            refine q_iconst C (v := 1) dX5_takeHead_146 (by decide) ?_
            cases hK
            exact q_zret C (Or.inr rfl) dX5_takeHead_147
          · replace hK := if_po hc hK
            refine q_aload_n C dX5_takeHead_123 rfl (lv_at hl 1 rfl) ?_
            refine q_iload_n C dX5_takeHead_124 rfl (lv_at hl 2 rfl) ?_
            obtain ⟨h7, hh7, hK⟩ := st_so hK
            refine p_X5_readTolerance C kd_110 w_fl_X5_88 hh7 dX5_takeHead_125 ?_
            refine q_goto C dX5_takeHead_128 (tgt := 146) (by decide) ?_
            refine q_iconst C (v := 1) dX5_takeHead_146 (by decide) ?_
            cases hK
            exact q_zret C (Or.inr rfl) dX5_takeHead_147
        · replace hK := if_ne hc hK
          refine q_aload_n C dX5_takeHead_101 rfl (lv_at hl 1 rfl) ?_
          refine q_bipush C (v := 10) dX5_takeHead_102 (by decide) ?_
          refine q_aload_n C dX5_takeHead_104 rfl (lv_at hl 1 rfl) ?_
          refine g_X5_readTarget C kd_110 w_fl_X5_85 dX5_takeHead_105 ?_
          refine q_imul C dX5_takeHead_108 ?_
          refine q_iload_n C dX5_takeHead_109 rfl (lv_at hl 2 rfl) ?_
          refine q_iadd C dX5_takeHead_110 ?_
          obtain ⟨h8, hh8, hK⟩ := st_so hK
          refine p_X5_readTarget C kd_110 w_fl_X5_85 hh8 dX5_takeHead_111 ?_
          refine q_goto C dX5_takeHead_114 (tgt := 146) (by decide) ?_
          refine q_iconst C (v := 1) dX5_takeHead_146 (by decide) ?_
          cases hK
          exact q_zret C (Or.inr rfl) dX5_takeHead_147
      · replace hK := if_po hc hK
        refine q_iconst C (v := 0) dX5_takeHead_93 (by decide) ?_
        cases hK
        exact q_zret C (Or.inl rfl) dX5_takeHead_94
    · replace hK := if_ne hc hK
      refine q_aload_n C dX5_takeHead_41 rfl (lv_at hl 1 rfl) ?_
      refine g_X5_head C kd_110 w_fl_X5_51 dX5_takeHead_42 ?_
      refine q_iload_n C dX5_takeHead_45 rfl (lv_at hl 0 rfl) ?_
      refine q_iload_n C dX5_takeHead_46 rfl (lv_at hl 2 rfl) ?_
      obtain ⟨h9, hh9, hK⟩ := wr_so hK
      refine q_iast C kd_123 hh9 dX5_takeHead_47 ?_
      refine q_iload_n C dX5_takeHead_48 rfl (lv_at hl 2 rfl) ?_
      refine q_iload_n C dX5_takeHead_49 rfl (lv_at hl 0 rfl) ?_
      refine q_iconst C (v := 1) dX5_takeHead_50 (by decide) ?_
      refine q_icmp_ne C dX5_takeHead_51 (tgt := 58) (by decide) (fun hc => ?_) (fun hc => ?_)
      · replace hK := if_ne hc hK
        refine q_aload_n C dX5_takeHead_58 rfl (lv_at hl 1 rfl) ?_
        refine g_X5_head C kd_110 w_fl_X5_51 dX5_takeHead_59 ?_
        refine q_iload_n C dX5_takeHead_62 rfl (lv_at hl 0 rfl) ?_
        refine q_iconst C (v := 1) dX5_takeHead_63 (by decide) ?_
        refine q_isub C dX5_takeHead_64 ?_
        obtain ⟨x10, hx10, hK⟩ := rd_so hK
        refine q_iald C kd_123 hx10 dX5_takeHead_65 ?_
        refine q_iconst C (v := 1) dX5_takeHead_66 (by decide) ?_
        refine q_iadd C dX5_takeHead_67 ?_
        exact t_X5_takeHead_b68 C (lv_sub hl [1, 0] rfl) hK
      · replace hK := if_po hc hK
        refine q_iconst C (v := 1) dX5_takeHead_54 (by decide) ?_
        refine q_goto C dX5_takeHead_55 (tgt := 68) (by decide) ?_
        exact t_X5_takeHead_b68 C (lv_sub hl [1, 0] rfl) hK
  · replace hK := if_po hc hK
    refine q_aload_n C dX5_takeHead_19 rfl (lv_at hl 1 rfl) ?_
    refine g_X5_head C kd_110 w_fl_X5_51 dX5_takeHead_20 ?_
    refine q_iconst C (v := 0) dX5_takeHead_23 (by decide) ?_
    refine q_iload_n C dX5_takeHead_24 rfl (lv_at hl 2 rfl) ?_
    obtain ⟨h11, hh11, hK⟩ := wr_so hK
    refine q_iast C kd_123 hh11 dX5_takeHead_25 ?_
    refine q_iload_n C dX5_takeHead_26 rfl (lv_at hl 2 rfl) ?_
    refine q_bipush C (v := 6) dX5_takeHead_27 (by decide) ?_
    refine q_bipush C (v := 9) dX5_takeHead_29 (by decide) ?_
    obtain ⟨r12, h13, hfr12, hK⟩ := bd_so hK
    refine q_callSi C s_X5_in w_ml_X5_72 (c_X5_in l G hfr12) (by decide) hl.1 rfl rfl (Nat.le_of_ble_eq_true rfl) dX5_takeHead_31 ?_
    obtain ⟨hz, hK⟩ := bz_so hK
    cases hK
    exact q_zret C hz dX5_takeHead_34
theorem s_X5_takeHead : sv yX5_takeHead cX5_takeHead 3 (some .boolean) 1 := ⟨w_co_X5_takeHead, w_im_X5_takeHead, w_se_X5_takeHead, w_in_X5, by decide +kernel, by decide⟩
def f_X5_queueUp (a1 : Int32) (h : PH) : Option (Int32 × PH) := if (h.1 110 33) = (24 : Int32) then some ((0 : Int32), h) else wr h 127 (h.1 110 33) a1 (fun h1 => st h1 110 33 ((h1.1 110 33) + (1 : Int32)) (fun h2 => some ((1 : Int32), h2)))
set_option maxHeartbeats 4000000 in
set_option maxRecDepth 100000 in
theorem c_X5_queueUp (l : Launch) (G : GG) {a1 : Int32} {h : PH} {res : Int32 × PH} (hF : f_X5_queueUp a1 h = some res) : MI l G yX5_queueUp cX5_queueUp 2 .boolean 0 [.ref (G.2.2.2.2 110), .int a1] h res := by
  unfold f_X5_queueUp at hF
  refine MI_of (by decide +kernel) (Nat.le_of_ble_eq_true rfl) ?_
  intro p e s m args below meth c ls C hl
  have hK := hF
  clear hF
  have hl : lv_has ls 2 [(0, .ref (G.2.2.2.2 110)), (1, .int a1)] := hl
  have C : cx p s m args meth c G RX5 cX5_queueUp 2 (some .boolean) := C
  refine q_aload_n C dX5_queueUp_0 rfl (lv_at hl 0 rfl) ?_
  refine g_X5_readMany C kd_110 w_fl_X5_97 dX5_queueUp_1 ?_
  refine q_bipush C (v := 24) dX5_queueUp_4 (by decide) ?_
  refine q_icmp_ne C dX5_queueUp_6 (tgt := 11) (by decide) (fun hc => ?_) (fun hc => ?_)
  · replace hK := if_ne hc hK
    refine q_aload_n C dX5_queueUp_11 rfl (lv_at hl 0 rfl) ?_
    refine g_X5_readQueue C kd_110 w_fl_X5_63 dX5_queueUp_12 ?_
    refine q_aload_n C dX5_queueUp_15 rfl (lv_at hl 0 rfl) ?_
    refine g_X5_readMany C kd_110 w_fl_X5_97 dX5_queueUp_16 ?_
    refine q_iload_n C dX5_queueUp_19 rfl (lv_at hl 1 rfl) ?_
    obtain ⟨h1, hh1, hK⟩ := wr_so hK
    refine q_iast C kd_127 hh1 dX5_queueUp_20 ?_
    refine q_aload_n C dX5_queueUp_21 rfl (lv_at hl 0 rfl) ?_
    refine q_dup C dX5_queueUp_22 rfl ?_
    refine g_X5_readMany C kd_110 w_fl_X5_97 dX5_queueUp_23 ?_
    refine q_iconst C (v := 1) dX5_queueUp_26 (by decide) ?_
    refine q_iadd C dX5_queueUp_27 ?_
    obtain ⟨h2, hh2, hK⟩ := st_so hK
    refine p_X5_readMany C kd_110 w_fl_X5_97 hh2 dX5_queueUp_28 ?_
    refine q_iconst C (v := 1) dX5_queueUp_31 (by decide) ?_
    cases hK
    exact q_zret C (Or.inr rfl) dX5_queueUp_32
  · replace hK := if_po hc hK
    refine q_iconst C (v := 0) dX5_queueUp_9 (by decide) ?_
    cases hK
    exact q_zret C (Or.inl rfl) dX5_queueUp_10
theorem s_X5_queueUp : sv yX5_queueUp cX5_queueUp 2 (some .boolean) 1 := ⟨w_co_X5_queueUp, w_im_X5_queueUp, w_se_X5_queueUp, w_in_X5, by decide +kernel, by decide⟩
def f_X5_takeSign (a1 : Int32) (h : PH) : Option (Int32 × PH) := st h 110 35 a1 (fun h1 => st h1 110 36 (1 : Int32) (fun h2 => if a1 = 45 then st h2 110 35 (0 : Int32) (fun h3 => bd (f_X5_queueUp (0 : Int32) h3) (fun r4 h5 => bz r4 (some (r4, h5)))) else if a1 = 98 then st h2 110 35 (0 : Int32) (fun h6 => bd (f_X5_queueUp (1 : Int32) h6) (fun r7 h8 => bz r7 (some (r7, h8)))) else if a1 = 99 then rd h2 126 (0 : Int32) (fun x9 => if (99 : Int32) ≤ x9 then some ((0 : Int32), h2) else some ((1 : Int32), h2)) else if a1 = 108 then rd h2 126 (1 : Int32) (fun x10 => if (99 : Int32) ≤ x10 then some ((0 : Int32), h2) else some ((1 : Int32), h2)) else if a1 = 118 then if (4 : Int32) ≤ (h2.1 110 29) then some ((0 : Int32), h2) else some ((1 : Int32), h2) else if a1 = 120 then st h2 110 35 (0 : Int32) (fun h11 => bd (f_X5_queueUp (2 : Int32) h11) (fun r12 h13 => bz r12 (some (r12, h13)))) else some ((0 : Int32), h2)))
set_option maxHeartbeats 4000000 in
set_option maxRecDepth 100000 in
theorem c_X5_takeSign (l : Launch) (G : GG) {a1 : Int32} {h : PH} {res : Int32 × PH} (hF : f_X5_takeSign a1 h = some res) : MI l G yX5_takeSign cX5_takeSign 2 .boolean 1 [.ref (G.2.2.2.2 110), .int a1] h res := by
  unfold f_X5_takeSign at hF
  refine MI_of (by decide +kernel) (Nat.le_of_ble_eq_true rfl) ?_
  intro p e s m args below meth c ls C hl
  have hK := hF
  clear hF
  have hl : lv_has ls 2 [(0, .ref (G.2.2.2.2 110)), (1, .int a1)] := hl
  have C : cx p s m args meth c G RX5 cX5_takeSign 2 (some .boolean) := C
  refine q_aload_n C dX5_takeSign_0 rfl (lv_at hl 0 rfl) ?_
  refine q_iload_n C dX5_takeSign_1 rfl (lv_at hl 1 rfl) ?_
  obtain ⟨h1, hh1, hK⟩ := st_so hK
  refine p_X5_part C kd_110 w_fl_X5_94 hh1 dX5_takeSign_2 ?_
  refine q_aload_n C dX5_takeSign_5 rfl (lv_at hl 0 rfl) ?_
  refine q_iconst C (v := 1) dX5_takeSign_6 (by decide) ?_
  obtain ⟨h2, hh2, hK⟩ := st_so hK
  refine p_X5_place C kd_110 w_fl_X5_82 hh2 dX5_takeSign_7 ?_
  refine q_iload_n C dX5_takeSign_10 rfl (lv_at hl 1 rfl) ?_
  by_cases hc0 : a1 = 45
  · replace hK := if_po hc0 hK
    refine q_lsw C dX5_takeSign_11 (by decide) (off := 127) (by rw [hc0]; decide) (tgt := 138) (by decide) ?_
    refine q_aload_n C dX5_takeSign_138 rfl (lv_at hl 0 rfl) ?_
    refine q_iconst C (v := 0) dX5_takeSign_139 (by decide) ?_
    obtain ⟨h3, hh3, hK⟩ := st_so hK
    refine p_X5_part C kd_110 w_fl_X5_94 hh3 dX5_takeSign_140 ?_
    refine q_aload_n C dX5_takeSign_143 rfl (lv_at hl 0 rfl) ?_
    refine q_iconst C (v := 0) dX5_takeSign_144 (by decide) ?_
    obtain ⟨r4, h5, hfr4, hK⟩ := bd_so hK
    refine q_callVi C s_X5_queueUp w_ml_X5_103 (c_X5_queueUp l G hfr4) kd_110 rfl (by decide) (ce_4 kd_110) (by decide) hl.1 rfl rfl (Nat.le_of_ble_eq_true rfl) dX5_takeSign_145 ?_
    obtain ⟨hz, hK⟩ := bz_so hK
    cases hK
    exact q_zret C hz dX5_takeSign_148
  · replace hK := if_ne hc0 hK
    by_cases hc1 : a1 = 98
    · replace hK := if_po hc1 hK
      refine q_lsw C dX5_takeSign_11 (by decide) (off := 105) (by rw [hc1]; decide) (tgt := 116) (by decide) ?_
      refine q_aload_n C dX5_takeSign_116 rfl (lv_at hl 0 rfl) ?_
      refine q_iconst C (v := 0) dX5_takeSign_117 (by decide) ?_
      obtain ⟨h6, hh6, hK⟩ := st_so hK
      refine p_X5_part C kd_110 w_fl_X5_94 hh6 dX5_takeSign_118 ?_
      refine q_aload_n C dX5_takeSign_121 rfl (lv_at hl 0 rfl) ?_
      refine q_iconst C (v := 1) dX5_takeSign_122 (by decide) ?_
      obtain ⟨r7, h8, hfr7, hK⟩ := bd_so hK
      refine q_callVi C s_X5_queueUp w_ml_X5_103 (c_X5_queueUp l G hfr7) kd_110 rfl (by decide) (ce_4 kd_110) (by decide) hl.1 rfl rfl (Nat.le_of_ble_eq_true rfl) dX5_takeSign_123 ?_
      obtain ⟨hz, hK⟩ := bz_so hK
      cases hK
      exact q_zret C hz dX5_takeSign_126
    · replace hK := if_ne hc1 hK
      by_cases hc2 : a1 = 99
      · replace hK := if_po hc2 hK
        refine q_lsw C dX5_takeSign_11 (by decide) (off := 71) (by rw [hc2]; decide) (tgt := 82) (by decide) ?_
        refine q_aload_n C dX5_takeSign_82 rfl (lv_at hl 0 rfl) ?_
        refine g_X5_readStock C kd_110 w_fl_X5_60 dX5_takeSign_83 ?_
        refine q_iconst C (v := 0) dX5_takeSign_86 (by decide) ?_
        obtain ⟨x9, hx9, hK⟩ := rd_so hK
        refine q_iald C kd_126 hx9 dX5_takeSign_87 ?_
        refine q_bipush C (v := 99) dX5_takeSign_88 (by decide) ?_
        refine q_icmp_ge C dX5_takeSign_90 (tgt := 97) (by decide) (fun hc => ?_) (fun hc => ?_)
        · replace hK := if_po hc hK
          refine q_iconst C (v := 0) dX5_takeSign_97 (by decide) ?_
          cases hK
          exact q_zret C (Or.inl rfl) dX5_takeSign_98
        · replace hK := if_ne hc hK
          refine q_iconst C (v := 1) dX5_takeSign_93 (by decide) ?_
          refine q_goto C dX5_takeSign_94 (tgt := 98) (by decide) ?_
          cases hK
          exact q_zret C (Or.inr rfl) dX5_takeSign_98
      · replace hK := if_ne hc2 hK
        by_cases hc3 : a1 = 108
        · replace hK := if_po hc3 hK
          refine q_lsw C dX5_takeSign_11 (by decide) (off := 88) (by rw [hc3]; decide) (tgt := 99) (by decide) ?_
          refine q_aload_n C dX5_takeSign_99 rfl (lv_at hl 0 rfl) ?_
          refine g_X5_readStock C kd_110 w_fl_X5_60 dX5_takeSign_100 ?_
          refine q_iconst C (v := 1) dX5_takeSign_103 (by decide) ?_
          obtain ⟨x10, hx10, hK⟩ := rd_so hK
          refine q_iald C kd_126 hx10 dX5_takeSign_104 ?_
          refine q_bipush C (v := 99) dX5_takeSign_105 (by decide) ?_
          refine q_icmp_ge C dX5_takeSign_107 (tgt := 114) (by decide) (fun hc => ?_) (fun hc => ?_)
          · replace hK := if_po hc hK
            refine q_iconst C (v := 0) dX5_takeSign_114 (by decide) ?_
            cases hK
            exact q_zret C (Or.inl rfl) dX5_takeSign_115
          · replace hK := if_ne hc hK
            refine q_iconst C (v := 1) dX5_takeSign_110 (by decide) ?_
            refine q_goto C dX5_takeSign_111 (tgt := 115) (by decide) ?_
            cases hK
            exact q_zret C (Or.inr rfl) dX5_takeSign_115
        · replace hK := if_ne hc3 hK
          by_cases hc4 : a1 = 118
          · replace hK := if_po hc4 hK
            refine q_lsw C dX5_takeSign_11 (by decide) (off := 57) (by rw [hc4]; decide) (tgt := 68) (by decide) ?_
            refine q_aload_n C dX5_takeSign_68 rfl (lv_at hl 0 rfl) ?_
            refine g_X5_readValves C kd_110 w_fl_X5_100 dX5_takeSign_69 ?_
            refine q_iconst C (v := 4) dX5_takeSign_72 (by decide) ?_
            refine q_icmp_ge C dX5_takeSign_73 (tgt := 80) (by decide) (fun hc => ?_) (fun hc => ?_)
            · replace hK := if_po hc hK
              refine q_iconst C (v := 0) dX5_takeSign_80 (by decide) ?_
              cases hK
              exact q_zret C (Or.inl rfl) dX5_takeSign_81
            · replace hK := if_ne hc hK
              refine q_iconst C (v := 1) dX5_takeSign_76 (by decide) ?_
              refine q_goto C dX5_takeSign_77 (tgt := 81) (by decide) ?_
              cases hK
              exact q_zret C (Or.inr rfl) dX5_takeSign_81
          · replace hK := if_ne hc4 hK
            by_cases hc5 : a1 = 120
            · replace hK := if_po hc5 hK
              refine q_lsw C dX5_takeSign_11 (by decide) (off := 116) (by rw [hc5]; decide) (tgt := 127) (by decide) ?_
              refine q_aload_n C dX5_takeSign_127 rfl (lv_at hl 0 rfl) ?_
              refine q_iconst C (v := 0) dX5_takeSign_128 (by decide) ?_
              obtain ⟨h11, hh11, hK⟩ := st_so hK
              refine p_X5_part C kd_110 w_fl_X5_94 hh11 dX5_takeSign_129 ?_
              refine q_aload_n C dX5_takeSign_132 rfl (lv_at hl 0 rfl) ?_
              refine q_iconst C (v := 2) dX5_takeSign_133 (by decide) ?_
              obtain ⟨r12, h13, hfr12, hK⟩ := bd_so hK
              refine q_callVi C s_X5_queueUp w_ml_X5_103 (c_X5_queueUp l G hfr12) kd_110 rfl (by decide) (ce_4 kd_110) (by decide) hl.1 rfl rfl (Nat.le_of_ble_eq_true rfl) dX5_takeSign_134 ?_
              obtain ⟨hz, hK⟩ := bz_so hK
              cases hK
              exact q_zret C hz dX5_takeSign_137
            · replace hK := if_ne hc5 hK
              have q0 : (a1 : Int32).toInt ≠ 45 := ne_i hc0
              have q1 : (a1 : Int32).toInt ≠ 98 := ne_i hc1
              have q2 : (a1 : Int32).toInt ≠ 99 := ne_i hc2
              have q3 : (a1 : Int32).toInt ≠ 108 := ne_i hc3
              have q4 : (a1 : Int32).toInt ≠ 118 := ne_i hc4
              have q5 : (a1 : Int32).toInt ≠ 120 := ne_i hc5
              refine q_lsw C dX5_takeSign_11 (by decide) (off := 138) ((if_neg (Ne.symm q0)).trans ((if_neg (Ne.symm q1)).trans ((if_neg (Ne.symm q2)).trans ((if_neg (Ne.symm q3)).trans ((if_neg (Ne.symm q4)).trans ((if_neg (Ne.symm q5)).trans rfl)))))) (tgt := 149) (by decide) ?_
              refine q_iconst C (v := 0) dX5_takeSign_149 (by decide) ?_
              cases hK
              exact q_zret C (Or.inl rfl) dX5_takeSign_150
theorem s_X5_takeSign : sv yX5_takeSign cX5_takeSign 2 (some .boolean) 1 := ⟨w_co_X5_takeSign, w_im_X5_takeSign, w_se_X5_takeSign, w_in_X5, by decide +kernel, by decide⟩
def f_X5_takeOfValve (a1 : Int32) (h : PH) : Option (Int32 × PH) := bd (f_X5_in a1 (0 : Int32) (9 : Int32) h) (fun r1 h2 => if r1 = 0 then some ((0 : Int32), h2) else if (h2.1 110 36) = (1 : Int32) then st h2 110 37 a1 (fun h8 => st h8 110 36 (2 : Int32) (fun h9 => some ((1 : Int32), h9))) else if (h2.1 110 36) = (2 : Int32) then wr h2 124 (h2.1 110 29) (((10 : Int32) * (h2.1 110 37)) + a1) (fun h6 => st h6 110 36 (3 : Int32) (fun h7 => some ((1 : Int32), h7))) else wr h2 125 (h2.1 110 29) (a1 - (4 : Int32)) (fun h3 => st h3 110 29 ((h3.1 110 29) + (1 : Int32)) (fun h4 => st h4 110 35 (0 : Int32) (fun h5 => some ((1 : Int32), h5)))))
set_option maxHeartbeats 4000000 in
set_option maxRecDepth 100000 in
theorem c_X5_takeOfValve (l : Launch) (G : GG) {a1 : Int32} {h : PH} {res : Int32 × PH} (hF : f_X5_takeOfValve a1 h = some res) : MI l G yX5_takeOfValve cX5_takeOfValve 2 .boolean 1 [.ref (G.2.2.2.2 110), .int a1] h res := by
  unfold f_X5_takeOfValve at hF
  refine MI_of (by decide +kernel) (Nat.le_of_ble_eq_true rfl) ?_
  intro p e s m args below meth c ls C hl
  have hK := hF
  clear hF
  have hl : lv_has ls 2 [(0, .ref (G.2.2.2.2 110)), (1, .int a1)] := hl
  have C : cx p s m args meth c G RX5 cX5_takeOfValve 2 (some .boolean) := C
  refine q_iload_n C dX5_takeOfValve_0 rfl (lv_at hl 1 rfl) ?_
  refine q_iconst C (v := 0) dX5_takeOfValve_1 (by decide) ?_
  refine q_bipush C (v := 9) dX5_takeOfValve_2 (by decide) ?_
  obtain ⟨r1, h2, hfr1, hK⟩ := bd_so hK
  refine q_callSi C s_X5_in w_ml_X5_72 (c_X5_in l G hfr1) (by decide) hl.1 rfl rfl (Nat.le_of_ble_eq_true rfl) dX5_takeOfValve_4 ?_
  refine q_if_ne C dX5_takeOfValve_7 (tgt := 12) (by decide) (fun hc => ?_) (fun hc => ?_)
  · replace hK := if_ne hc hK
    refine q_aload_n C dX5_takeOfValve_12 rfl (lv_at hl 0 rfl) ?_
    refine g_X5_place C kd_110 w_fl_X5_82 dX5_takeOfValve_13 ?_
    refine q_iconst C (v := 1) dX5_takeOfValve_16 (by decide) ?_
    refine q_icmp_ne C dX5_takeOfValve_17 (tgt := 33) (by decide) (fun hc => ?_) (fun hc => ?_)
    · replace hK := if_ne hc hK
      refine q_aload_n C dX5_takeOfValve_33 rfl (lv_at hl 0 rfl) ?_
      refine g_X5_place C kd_110 w_fl_X5_82 dX5_takeOfValve_34 ?_
      refine q_iconst C (v := 2) dX5_takeOfValve_37 (by decide) ?_
      refine q_icmp_ne C dX5_takeOfValve_38 (tgt := 67) (by decide) (fun hc => ?_) (fun hc => ?_)
      · replace hK := if_ne hc hK
        refine q_aload_n C dX5_takeOfValve_67 rfl (lv_at hl 0 rfl) ?_
        refine g_X5_readDrift C kd_110 w_fl_X5_57 dX5_takeOfValve_68 ?_
        refine q_aload_n C dX5_takeOfValve_71 rfl (lv_at hl 0 rfl) ?_
        refine g_X5_readValves C kd_110 w_fl_X5_100 dX5_takeOfValve_72 ?_
        refine q_iload_n C dX5_takeOfValve_75 rfl (lv_at hl 1 rfl) ?_
        refine q_iconst C (v := 4) dX5_takeOfValve_76 (by decide) ?_
        refine q_isub C dX5_takeOfValve_77 ?_
        obtain ⟨h3, hh3, hK⟩ := wr_so hK
        refine q_iast C kd_125 hh3 dX5_takeOfValve_78 ?_
        refine q_aload_n C dX5_takeOfValve_79 rfl (lv_at hl 0 rfl) ?_
        refine q_dup C dX5_takeOfValve_80 rfl ?_
        refine g_X5_readValves C kd_110 w_fl_X5_100 dX5_takeOfValve_81 ?_
        refine q_iconst C (v := 1) dX5_takeOfValve_84 (by decide) ?_
        refine q_iadd C dX5_takeOfValve_85 ?_
        obtain ⟨h4, hh4, hK⟩ := st_so hK
        refine p_X5_readValves C kd_110 w_fl_X5_100 hh4 dX5_takeOfValve_86 ?_
        refine q_aload_n C dX5_takeOfValve_89 rfl (lv_at hl 0 rfl) ?_
        refine q_iconst C (v := 0) dX5_takeOfValve_90 (by decide) ?_
        obtain ⟨h5, hh5, hK⟩ := st_so hK
        refine p_X5_part C kd_110 w_fl_X5_94 hh5 dX5_takeOfValve_91 ?_
        refine q_iconst C (v := 1) dX5_takeOfValve_94 (by decide) ?_
        cases hK
        exact q_zret C (Or.inr rfl) dX5_takeOfValve_95
      · replace hK := if_po hc hK
        refine q_aload_n C dX5_takeOfValve_41 rfl (lv_at hl 0 rfl) ?_
        refine g_X5_readSetting C kd_110 w_fl_X5_54 dX5_takeOfValve_42 ?_
        refine q_aload_n C dX5_takeOfValve_45 rfl (lv_at hl 0 rfl) ?_
        refine g_X5_readValves C kd_110 w_fl_X5_100 dX5_takeOfValve_46 ?_
        refine q_bipush C (v := 10) dX5_takeOfValve_49 (by decide) ?_
        refine q_aload_n C dX5_takeOfValve_51 rfl (lv_at hl 0 rfl) ?_
        refine g_X5_figures C kd_110 w_fl_X5_107 dX5_takeOfValve_52 ?_
        refine q_imul C dX5_takeOfValve_55 ?_
        refine q_iload_n C dX5_takeOfValve_56 rfl (lv_at hl 1 rfl) ?_
        refine q_iadd C dX5_takeOfValve_57 ?_
        obtain ⟨h6, hh6, hK⟩ := wr_so hK
        refine q_iast C kd_124 hh6 dX5_takeOfValve_58 ?_
        refine q_aload_n C dX5_takeOfValve_59 rfl (lv_at hl 0 rfl) ?_
        refine q_iconst C (v := 3) dX5_takeOfValve_60 (by decide) ?_
        obtain ⟨h7, hh7, hK⟩ := st_so hK
        refine p_X5_place C kd_110 w_fl_X5_82 hh7 dX5_takeOfValve_61 ?_
        refine q_goto C dX5_takeOfValve_64 (tgt := 94) (by decide) ?_
        refine q_iconst C (v := 1) dX5_takeOfValve_94 (by decide) ?_
        cases hK
        exact q_zret C (Or.inr rfl) dX5_takeOfValve_95
    · replace hK := if_po hc hK
      refine q_aload_n C dX5_takeOfValve_20 rfl (lv_at hl 0 rfl) ?_
      refine q_iload_n C dX5_takeOfValve_21 rfl (lv_at hl 1 rfl) ?_
      obtain ⟨h8, hh8, hK⟩ := st_so hK
      refine p_X5_figures C kd_110 w_fl_X5_107 hh8 dX5_takeOfValve_22 ?_
      refine q_aload_n C dX5_takeOfValve_25 rfl (lv_at hl 0 rfl) ?_
      refine q_iconst C (v := 2) dX5_takeOfValve_26 (by decide) ?_
      obtain ⟨h9, hh9, hK⟩ := st_so hK
      refine p_X5_place C kd_110 w_fl_X5_82 hh9 dX5_takeOfValve_27 ?_
      refine q_goto C dX5_takeOfValve_30 (tgt := 94) (by decide) ?_
      refine q_iconst C (v := 1) dX5_takeOfValve_94 (by decide) ?_
      cases hK
      exact q_zret C (Or.inr rfl) dX5_takeOfValve_95
  · replace hK := if_po hc hK
    refine q_iconst C (v := 0) dX5_takeOfValve_10 (by decide) ?_
    cases hK
    exact q_zret C (Or.inl rfl) dX5_takeOfValve_11
theorem s_X5_takeOfValve : sv yX5_takeOfValve cX5_takeOfValve 2 (some .boolean) 1 := ⟨w_co_X5_takeOfValve, w_im_X5_takeOfValve, w_se_X5_takeOfValve, w_in_X5, by decide +kernel, by decide⟩
def f_X5_takeOfStock_b50 (v3 : Int32) (s0 : Int32) (h : PH) : Option (Int32 × PH) := if v3 < s0 then some ((0 : Int32), h) else some ((1 : Int32), h)
set_option maxHeartbeats 4000000 in
set_option maxRecDepth 100000 in
theorem t_X5_takeOfStock_b50 {p : Program} {l : Launch} {e : Env} {s : State} {m : MethodId} {args : Array Value} {below : List Frame} {meth : Method} {c : Code} {G : GG} {res : Int32 × PH} (C : cx p s m args meth c G RX5 cX5_takeOfStock 5 (some .boolean)) {v3 : Int32} {s0 : Int32} {h : PH} {ls : Array Slot} (hl : lv_has ls 5 [(3, .int v3)]) (hK : f_X5_takeOfStock_b50 v3 s0 h = some res) : WW p l e 1 s m args below meth c G h (MQ below (QI G res) args s 0 0 (Ar G)) (F0 m 50 ls [.int s0]) := by
  unfold f_X5_takeOfStock_b50 at hK
  refine q_iload_n C dX5_takeOfStock_50 rfl (lv_at hl 0 rfl) ?_
  refine q_icmp_gt C dX5_takeOfStock_51 (tgt := 58) (by decide) (fun hc => ?_) (fun hc => ?_)
  · replace hK := if_po hc hK
    refine q_iconst C (v := 0) dX5_takeOfStock_58 (by decide) ?_
    cases hK
    exact q_zret C (Or.inl rfl) dX5_takeOfStock_59
  · replace hK := if_ne hc hK
    refine q_iconst C (v := 1) dX5_takeOfStock_54 (by decide) ?_
    refine q_goto C dX5_takeOfStock_55 (tgt := 59) (by decide) ?_
    cases hK
    exact q_zret C (Or.inr rfl) dX5_takeOfStock_59
def f_X5_takeOfStock (a1 : Int32) (a2 : Int32) (h : PH) : Option (Int32 × PH) := rd h 126 a1 (fun x1 => if (h.1 110 36) = (1 : Int32) then st h 110 37 a2 (fun h9 => st h9 110 36 (2 : Int32) (fun h10 => bd (f_X5_in a2 (0 : Int32) (9 : Int32) h10) (fun r11 h12 => if r11 = 0 then some ((0 : Int32), h12) else if a2 = 0 then f_X5_takeOfStock_b50 ((99 : Int32) - x1) (1 : Int32) h12 else f_X5_takeOfStock_b50 ((99 : Int32) - x1) ((10 : Int32) * a2) h12))) else st h 110 35 (0 : Int32) (fun h2 => bd (f_X5_in a2 (0 : Int32) (9 : Int32) h2) (fun r3 h4 => if r3 = 0 then some ((0 : Int32), h4) else bd (f_X5_in (((10 : Int32) * (h.1 110 37)) + a2) (1 : Int32) ((99 : Int32) - x1) h4) (fun r5 h6 => if r5 = 0 then some ((0 : Int32), h6) else rd h6 126 a1 (fun x7 => wr h6 126 a1 (x7 + (((10 : Int32) * (h.1 110 37)) + a2)) (fun h8 => some ((1 : Int32), h8)))))))
set_option maxHeartbeats 4000000 in
set_option maxRecDepth 100000 in
theorem c_X5_takeOfStock (l : Launch) (G : GG) {a1 : Int32} {a2 : Int32} {h : PH} {res : Int32 × PH} (hF : f_X5_takeOfStock a1 a2 h = some res) : MI l G yX5_takeOfStock cX5_takeOfStock 5 .boolean 1 [.ref (G.2.2.2.2 110), .int a1, .int a2] h res := by
  unfold f_X5_takeOfStock at hF
  refine MI_of (by decide +kernel) (Nat.le_of_ble_eq_true rfl) ?_
  intro p e s m args below meth c ls C hl
  have hK := hF
  clear hF
  have hl : lv_has ls 5 [(0, .ref (G.2.2.2.2 110)), (1, .int a1), (2, .int a2)] := hl
  have C : cx p s m args meth c G RX5 cX5_takeOfStock 5 (some .boolean) := C
  refine q_bipush C (v := 99) dX5_takeOfStock_0 (by decide) ?_
  refine q_aload_n C dX5_takeOfStock_2 rfl (lv_at hl 0 rfl) ?_
  refine g_X5_readStock C kd_110 w_fl_X5_60 dX5_takeOfStock_3 ?_
  refine q_iload_n C dX5_takeOfStock_6 rfl (lv_at hl 1 rfl) ?_
  obtain ⟨x1, hx1, hK⟩ := rd_so hK
  refine q_iald C kd_126 hx1 dX5_takeOfStock_7 ?_
  refine q_isub C dX5_takeOfStock_8 ?_
  refine q_istore_n C dX5_takeOfStock_9 rfl hl (by decide) (lv2 := [(3, .int _), (0, .ref _), (1, .int _), (2, .int _)]) rfl (fun ls hl => ?_)
  refine q_aload_n C dX5_takeOfStock_10 rfl (lv_at hl 1 rfl) ?_
  refine g_X5_place C kd_110 w_fl_X5_82 dX5_takeOfStock_11 ?_
  refine q_iconst C (v := 1) dX5_takeOfStock_14 (by decide) ?_
  refine q_icmp_ne C dX5_takeOfStock_15 (tgt := 60) (by decide) (fun hc => ?_) (fun hc => ?_)
  · replace hK := if_ne hc hK
    refine q_bipush C (v := 10) dX5_takeOfStock_60 (by decide) ?_
    refine q_aload_n C dX5_takeOfStock_62 rfl (lv_at hl 1 rfl) ?_
    refine g_X5_figures C kd_110 w_fl_X5_107 dX5_takeOfStock_63 ?_
    refine q_imul C dX5_takeOfStock_66 ?_
    refine q_iload_n C dX5_takeOfStock_67 rfl (lv_at hl 3 rfl) ?_
    refine q_iadd C dX5_takeOfStock_68 ?_
    refine q_istore C dX5_takeOfStock_69 hl (by decide) (lv2 := [(4, .int _), (3, .int _), (0, .ref _), (1, .int _), (2, .int _)]) rfl (fun ls hl => ?_)
    refine q_aload_n C dX5_takeOfStock_71 rfl (lv_at hl 2 rfl) ?_
    refine q_iconst C (v := 0) dX5_takeOfStock_72 (by decide) ?_
    obtain ⟨h2, hh2, hK⟩ := st_so hK
    refine p_X5_part C kd_110 w_fl_X5_94 hh2 dX5_takeOfStock_73 ?_
    refine q_iload_n C dX5_takeOfStock_76 rfl (lv_at hl 4 rfl) ?_
    refine q_iconst C (v := 0) dX5_takeOfStock_77 (by decide) ?_
    refine q_bipush C (v := 9) dX5_takeOfStock_78 (by decide) ?_
    obtain ⟨r3, h4, hfr3, hK⟩ := bd_so hK
    refine q_callSi C s_X5_in w_ml_X5_72 (c_X5_in l G hfr3) (by decide) hl.1 rfl rfl (Nat.le_of_ble_eq_true rfl) dX5_takeOfStock_80 ?_
    refine q_if_eq C dX5_takeOfStock_83 (tgt := 96) (by decide) (fun hc => ?_) (fun hc => ?_)
    · replace hK := if_po hc hK
      refine q_iconst C (v := 0) dX5_takeOfStock_96 (by decide) ?_
      cases hK
      exact q_zret C (Or.inl rfl) dX5_takeOfStock_97
    · replace hK := if_ne hc hK
      refine q_iload C dX5_takeOfStock_86 (lv_at hl 0 rfl) ?_
      refine q_iconst C (v := 1) dX5_takeOfStock_88 (by decide) ?_
      refine q_iload_n C dX5_takeOfStock_89 rfl (lv_at hl 1 rfl) ?_
      obtain ⟨r5, h6, hfr5, hK⟩ := bd_so hK
      refine q_callSi C s_X5_in w_ml_X5_72 (c_X5_in l G hfr5) (by decide) hl.1 rfl rfl (Nat.le_of_ble_eq_true rfl) dX5_takeOfStock_90 ?_
      refine q_if_ne C dX5_takeOfStock_93 (tgt := 98) (by decide) (fun hc => ?_) (fun hc => ?_)
      · replace hK := if_ne hc hK
        refine q_aload_n C dX5_takeOfStock_98 rfl (lv_at hl 2 rfl) ?_
        refine g_X5_readStock C kd_110 w_fl_X5_60 dX5_takeOfStock_99 ?_
        refine q_iload_n C dX5_takeOfStock_102 rfl (lv_at hl 3 rfl) ?_
        refine q_dup2 C dX5_takeOfStock_103 rfl rfl ?_
        obtain ⟨x7, hx7, hK⟩ := rd_so hK
        refine q_iald C kd_126 hx7 dX5_takeOfStock_104 ?_
        refine q_iload C dX5_takeOfStock_105 (lv_at hl 0 rfl) ?_
        refine q_iadd C dX5_takeOfStock_107 ?_
        obtain ⟨h8, hh8, hK⟩ := wr_so hK
        refine q_iast C kd_126 hh8 dX5_takeOfStock_108 ?_
        refine q_iconst C (v := 1) dX5_takeOfStock_109 (by decide) ?_
        cases hK
        exact q_zret C (Or.inr rfl) dX5_takeOfStock_110
      · replace hK := if_po hc hK
        refine q_iconst C (v := 0) dX5_takeOfStock_96 (by decide) ?_
        cases hK
        exact q_zret C (Or.inl rfl) dX5_takeOfStock_97
  · replace hK := if_po hc hK
    refine q_aload_n C dX5_takeOfStock_18 rfl (lv_at hl 1 rfl) ?_
    refine q_iload_n C dX5_takeOfStock_19 rfl (lv_at hl 3 rfl) ?_
    obtain ⟨h9, hh9, hK⟩ := st_so hK
    refine p_X5_figures C kd_110 w_fl_X5_107 hh9 dX5_takeOfStock_20 ?_
    refine q_aload_n C dX5_takeOfStock_23 rfl (lv_at hl 1 rfl) ?_
    refine q_iconst C (v := 2) dX5_takeOfStock_24 (by decide) ?_
    obtain ⟨h10, hh10, hK⟩ := st_so hK
    refine p_X5_place C kd_110 w_fl_X5_82 hh10 dX5_takeOfStock_25 ?_
    refine q_iload_n C dX5_takeOfStock_28 rfl (lv_at hl 3 rfl) ?_
    refine q_iconst C (v := 0) dX5_takeOfStock_29 (by decide) ?_
    refine q_bipush C (v := 9) dX5_takeOfStock_30 (by decide) ?_
    obtain ⟨r11, h12, hfr11, hK⟩ := bd_so hK
    refine q_callSi C s_X5_in w_ml_X5_72 (c_X5_in l G hfr11) (by decide) hl.1 rfl rfl (Nat.le_of_ble_eq_true rfl) dX5_takeOfStock_32 ?_
    refine q_if_eq C dX5_takeOfStock_35 (tgt := 58) (by decide) (fun hc => ?_) (fun hc => ?_)
    · replace hK := if_po hc hK
      refine q_iconst C (v := 0) dX5_takeOfStock_58 (by decide) ?_
      cases hK
      exact q_zret C (Or.inl rfl) dX5_takeOfStock_59
    · replace hK := if_ne hc hK
      refine q_iload_n C dX5_takeOfStock_38 rfl (lv_at hl 3 rfl) ?_
      refine q_if_ne C dX5_takeOfStock_39 (tgt := 46) (by decide) (fun hc => ?_) (fun hc => ?_)
      · replace hK := if_ne hc hK
        refine q_bipush C (v := 10) dX5_takeOfStock_46 (by decide) ?_
        refine q_iload_n C dX5_takeOfStock_48 rfl (lv_at hl 3 rfl) ?_
        refine q_imul C dX5_takeOfStock_49 ?_
        exact t_X5_takeOfStock_b50 C (lv_sub hl [0] rfl) hK
      · replace hK := if_po hc hK
        refine q_iconst C (v := 1) dX5_takeOfStock_42 (by decide) ?_
        refine q_goto C dX5_takeOfStock_43 (tgt := 50) (by decide) ?_
        exact t_X5_takeOfStock_b50 C (lv_sub hl [0] rfl) hK
theorem s_X5_takeOfStock : sv yX5_takeOfStock cX5_takeOfStock 5 (some .boolean) 2 := ⟨w_co_X5_takeOfStock, w_im_X5_takeOfStock, w_se_X5_takeOfStock, w_in_X5, by decide +kernel, by decide⟩
def f_X5_take (a1 : Int32) (h : PH) : Option (Int32 × PH) := if (h.1 110 35) = 0 then bd (f_X5_takeSign a1 h) (fun r9 h10 => bz r9 (some (r9, h10))) else if (h.1 110 35) = (66 : Int32) then bd (f_X5_takeHead (a1 - (48 : Int32)) h) (fun r7 h8 => bz r7 (some (r7, h8))) else if (h.1 110 35) = (118 : Int32) then bd (f_X5_takeOfValve (a1 - (48 : Int32)) h) (fun r5 h6 => bz r5 (some (r5, h6))) else if (h.1 110 35) = (99 : Int32) then bd (f_X5_takeOfStock (0 : Int32) (a1 - (48 : Int32)) h) (fun r3 h4 => bz r3 (some (r3, h4))) else bd (f_X5_takeOfStock (1 : Int32) (a1 - (48 : Int32)) h) (fun r1 h2 => bz r1 (some (r1, h2)))
set_option maxHeartbeats 4000000 in
set_option maxRecDepth 100000 in
theorem c_X5_take (l : Launch) (G : GG) {a1 : Int32} {h : PH} {res : Int32 × PH} (hF : f_X5_take a1 h = some res) : MI l G yX5_take cX5_take 3 .boolean 2 [.ref (G.2.2.2.2 110), .int a1] h res := by
  unfold f_X5_take at hF
  refine MI_of (by decide +kernel) (Nat.le_of_ble_eq_true rfl) ?_
  intro p e s m args below meth c ls C hl
  have hK := hF
  clear hF
  have hl : lv_has ls 3 [(0, .ref (G.2.2.2.2 110)), (1, .int a1)] := hl
  have C : cx p s m args meth c G RX5 cX5_take 3 (some .boolean) := C
  refine q_aload_n C dX5_take_0 rfl (lv_at hl 0 rfl) ?_
  refine g_X5_part C kd_110 w_fl_X5_94 dX5_take_1 ?_
  refine q_if_ne C dX5_take_4 (tgt := 13) (by decide) (fun hc => ?_) (fun hc => ?_)
  · replace hK := if_ne hc hK
    refine q_iload_n C dX5_take_13 rfl (lv_at hl 1 rfl) ?_
    refine q_bipush C (v := 48) dX5_take_14 (by decide) ?_
    refine q_isub C dX5_take_16 ?_
    refine q_istore_n C dX5_take_17 rfl hl (by decide) (lv2 := [(2, .int _), (0, .ref _), (1, .int _)]) rfl (fun ls hl => ?_)
    refine q_aload_n C dX5_take_18 rfl (lv_at hl 1 rfl) ?_
    refine g_X5_part C kd_110 w_fl_X5_94 dX5_take_19 ?_
    refine q_bipush C (v := 66) dX5_take_22 (by decide) ?_
    refine q_icmp_ne C dX5_take_24 (tgt := 33) (by decide) (fun hc => ?_) (fun hc => ?_)
    · replace hK := if_ne hc hK
      refine q_aload_n C dX5_take_33 rfl (lv_at hl 1 rfl) ?_
      refine g_X5_part C kd_110 w_fl_X5_94 dX5_take_34 ?_
      refine q_bipush C (v := 118) dX5_take_37 (by decide) ?_
      refine q_icmp_ne C dX5_take_39 (tgt := 50) (by decide) (fun hc => ?_) (fun hc => ?_)
      · replace hK := if_ne hc hK
        refine q_aload_n C dX5_take_50 rfl (lv_at hl 1 rfl) ?_
        refine q_aload_n C dX5_take_51 rfl (lv_at hl 1 rfl) ?_
        refine g_X5_part C kd_110 w_fl_X5_94 dX5_take_52 ?_
        refine q_bipush C (v := 99) dX5_take_55 (by decide) ?_
        refine q_icmp_ne C dX5_take_57 (tgt := 64) (by decide) (fun hc => ?_) (fun hc => ?_)
        · replace hK := if_ne hc hK
          refine q_iconst C (v := 1) dX5_take_64 (by decide) ?_
          refine q_iload_n C dX5_take_65 rfl (lv_at hl 0 rfl) ?_
          obtain ⟨r1, h2, hfr1, hK⟩ := bd_so hK
          refine q_callVi C s_X5_takeOfStock w_ml_X5_119 (c_X5_takeOfStock l G hfr1) kd_110 rfl (by decide) (ce_4 kd_110) (by decide) hl.1 rfl rfl (Nat.le_of_ble_eq_true rfl) dX5_take_66 ?_
          obtain ⟨hz, hK⟩ := bz_so hK
          cases hK
          exact q_zret C hz dX5_take_69
        · replace hK := if_po hc hK
          refine q_iconst C (v := 0) dX5_take_60 (by decide) ?_
          refine q_goto C dX5_take_61 (tgt := 65) (by decide) ?_
          refine q_iload_n C dX5_take_65 rfl (lv_at hl 0 rfl) ?_
          obtain ⟨r3, h4, hfr3, hK⟩ := bd_so hK
          refine q_callVi C s_X5_takeOfStock w_ml_X5_119 (c_X5_takeOfStock l G hfr3) kd_110 rfl (by decide) (ce_4 kd_110) (by decide) hl.1 rfl rfl (Nat.le_of_ble_eq_true rfl) dX5_take_66 ?_
          obtain ⟨hz, hK⟩ := bz_so hK
          cases hK
          exact q_zret C hz dX5_take_69
      · replace hK := if_po hc hK
        refine q_aload_n C dX5_take_42 rfl (lv_at hl 1 rfl) ?_
        refine q_iload_n C dX5_take_43 rfl (lv_at hl 0 rfl) ?_
        obtain ⟨r5, h6, hfr5, hK⟩ := bd_so hK
        refine q_callVi C s_X5_takeOfValve w_ml_X5_116 (c_X5_takeOfValve l G hfr5) kd_110 rfl (by decide) (ce_4 kd_110) (by decide) hl.1 rfl rfl (Nat.le_of_ble_eq_true rfl) dX5_take_44 ?_
        refine q_goto C dX5_take_47 (tgt := 69) (by decide) ?_
        obtain ⟨hz, hK⟩ := bz_so hK
        cases hK
        exact q_zret C hz dX5_take_69
    · replace hK := if_po hc hK
      refine q_aload_n C dX5_take_27 rfl (lv_at hl 1 rfl) ?_
      refine q_iload_n C dX5_take_28 rfl (lv_at hl 0 rfl) ?_
      obtain ⟨r7, h8, hfr7, hK⟩ := bd_so hK
      refine q_callVi C s_X5_takeHead w_ml_X5_113 (c_X5_takeHead l G hfr7) kd_110 rfl (by decide) (ce_4 kd_110) (by decide) hl.1 rfl rfl (Nat.le_of_ble_eq_true rfl) dX5_take_29 ?_
      obtain ⟨hz, hK⟩ := bz_so hK
      cases hK
      exact q_zret C hz dX5_take_32
  · replace hK := if_po hc hK
    refine q_aload_n C dX5_take_7 rfl (lv_at hl 0 rfl) ?_
    refine q_iload_n C dX5_take_8 rfl (lv_at hl 1 rfl) ?_
    obtain ⟨r9, h10, hfr9, hK⟩ := bd_so hK
    refine q_callVi C s_X5_takeSign w_ml_X5_110 (c_X5_takeSign l G hfr9) kd_110 rfl (by decide) (ce_4 kd_110) (by decide) hl.1 rfl rfl (Nat.le_of_ble_eq_true rfl) dX5_take_9 ?_
    obtain ⟨hz, hK⟩ := bz_so hK
    cases hK
    exact q_zret C hz dX5_take_12
theorem s_X5_take : sv yX5_take cX5_take 3 (some .boolean) 1 := ⟨w_co_X5_take, w_im_X5_take, w_se_X5_take, w_in_X5, by decide +kernel, by decide⟩
def f_X5_readText_b62 : Nat → Int32 → PH → Option (Int32 × PH)
  | 0, _, _ => none
  | n + 1, v1, h => if (h.1 110 1) ≤ v1 then if (h.1 110 35) = 0 then some ((-9 : Int32), h) else some ((h.1 110 1), h) else rd h 111 v1 (fun x9 => bd (f_X5_take x9 h) (fun r10 h11 => if r10 = 0 then some (v1, h11) else (f_X5_readText_b62 n) (v1 + 1) h11))
set_option maxHeartbeats 4000000 in
set_option maxRecDepth 100000 in
theorem t_X5_readText_b62 {p : Program} {l : Launch} {e : Env} {s : State} {m : MethodId} {args : Array Value} {below : List Frame} {meth : Method} {c : Code} {G : GG} {res : Int32 × PH} (C : cx p s m args meth c G RX5 cX5_readText 2 (some .int)) (n : Nat) : ∀ (v1 : Int32) (h : PH) (ls : Array Slot), lv_has ls 2 [(0, .ref (G.2.2.2.2 110)), (1, .int v1)] → f_X5_readText_b62 n v1 h = some res → WW p l e 3 s m args below meth c G h (MQ below (QI G res) args s 0 0 (Ar G)) (F0 m 62 ls []) := by
  induction n with
  | zero => intro v1 h ls hl hK; cases hK
  | succ n ih =>
    intro v1 h ls hl hK
    unfold f_X5_readText_b62 at hK
    refine q_iload_n C dX5_readText_62 rfl (lv_at hl 1 rfl) ?_
    refine q_aload_n C dX5_readText_63 rfl (lv_at hl 0 rfl) ?_
    refine g_X5_length C kd_110 w_fl_X5_79 dX5_readText_64 ?_
    refine q_icmp_ge C dX5_readText_67 (tgt := 91) (by decide) (fun hc => ?_) (fun hc => ?_)
    · replace hK := if_po hc hK
      refine q_aload_n C dX5_readText_91 rfl (lv_at hl 0 rfl) ?_
      refine g_X5_part C kd_110 w_fl_X5_94 dX5_readText_92 ?_
      refine q_if_ne C dX5_readText_95 (tgt := 103) (by decide) (fun hc => ?_) (fun hc => ?_)
      · replace hK := if_ne hc hK
        refine q_aload_n C dX5_readText_103 rfl (lv_at hl 0 rfl) ?_
        refine g_X5_length C kd_110 w_fl_X5_79 dX5_readText_104 ?_
        cases hK
        exact q_iret C dX5_readText_107
      · replace hK := if_po hc hK
        refine q_bipush C (v := -9) dX5_readText_98 (by decide) ?_
        refine q_goto C dX5_readText_100 (tgt := 107) (by decide) ?_
        cases hK
        exact q_iret C dX5_readText_107
    · replace hK := if_ne hc hK
      refine q_aload_n C dX5_readText_70 rfl (lv_at hl 0 rfl) ?_
      refine q_aload_n C dX5_readText_71 rfl (lv_at hl 0 rfl) ?_
      refine g_X5_text C kd_110 w_fl_X5_7 dX5_readText_72 ?_
      refine q_iload_n C dX5_readText_75 rfl (lv_at hl 1 rfl) ?_
      obtain ⟨x9, hx9, hK⟩ := rd_so hK
      refine q_iald C kd_111 hx9 dX5_readText_76 ?_
      obtain ⟨r10, h11, hfr10, hK⟩ := bd_so hK
      refine q_callVi C s_X5_take w_ml_X5_123 (c_X5_take l G hfr10) kd_110 rfl (by decide) (ce_4 kd_110) (by decide) hl.1 rfl rfl (Nat.le_of_ble_eq_true rfl) dX5_readText_77 ?_
      refine q_if_ne C dX5_readText_80 (tgt := 85) (by decide) (fun hc => ?_) (fun hc => ?_)
      · replace hK := if_ne hc hK
        refine q_iinc C dX5_readText_85 hl (j := 1) (v := (v1 + 1)) rfl rfl (by decide) (lv2 := [(1, .int _), (0, .ref _)]) rfl (fun ls hl => ?_)
        refine q_goto C dX5_readText_88 (tgt := 62) (by decide) ?_
        exact ih _ _ _ (lv_sub hl [1, 0] rfl) hK
      · replace hK := if_po hc hK
        refine q_iload_n C dX5_readText_83 rfl (lv_at hl 1 rfl) ?_
        cases hK
        exact q_iret C dX5_readText_84
def f_X5_readText (h : PH) : Option (Int32 × PH) := st h 110 26 (0 : Int32) (fun h1 => st h1 110 29 (0 : Int32) (fun h2 => wr h2 126 (0 : Int32) (0 : Int32) (fun h3 => wr h3 126 (1 : Int32) (0 : Int32) (fun h4 => st h4 110 33 (0 : Int32) (fun h5 => st h5 110 35 (66 : Int32) (fun h6 => st h6 110 36 (0 : Int32) (fun h7 => if (h7.1 110 1) = 0 then some ((0 : Int32), h7) else rd h7 111 (0 : Int32) (fun x8 => if x8 = (66 : Int32) then f_X5_readText_b62 200 (1 : Int32) h7 else some ((0 : Int32), h7)))))))))
set_option maxHeartbeats 4000000 in
set_option maxRecDepth 100000 in
theorem c_X5_readText (l : Launch) (G : GG) {h : PH} {res : Int32 × PH} (hF : f_X5_readText h = some res) : MI l G yX5_readText cX5_readText 2 .int 3 [.ref (G.2.2.2.2 110)] h res := by
  unfold f_X5_readText at hF
  refine MI_of (by decide +kernel) (Nat.le_of_ble_eq_true rfl) ?_
  intro p e s m args below meth c ls C hl
  have hK := hF
  clear hF
  have hl : lv_has ls 2 [(0, .ref (G.2.2.2.2 110))] := hl
  have C : cx p s m args meth c G RX5 cX5_readText 2 (some .int) := C
  refine q_aload_n C dX5_readText_0 rfl (lv_at hl 0 rfl) ?_
  refine q_iconst C (v := 0) dX5_readText_1 (by decide) ?_
  obtain ⟨h1, hh1, hK⟩ := st_so hK
  refine p_X5_readTarget C kd_110 w_fl_X5_85 hh1 dX5_readText_2 ?_
  refine q_aload_n C dX5_readText_5 rfl (lv_at hl 0 rfl) ?_
  refine q_iconst C (v := 0) dX5_readText_6 (by decide) ?_
  obtain ⟨h2, hh2, hK⟩ := st_so hK
  refine p_X5_readValves C kd_110 w_fl_X5_100 hh2 dX5_readText_7 ?_
  refine q_aload_n C dX5_readText_10 rfl (lv_at hl 0 rfl) ?_
  refine g_X5_readStock C kd_110 w_fl_X5_60 dX5_readText_11 ?_
  refine q_iconst C (v := 0) dX5_readText_14 (by decide) ?_
  refine q_iconst C (v := 0) dX5_readText_15 (by decide) ?_
  obtain ⟨h3, hh3, hK⟩ := wr_so hK
  refine q_iast C kd_126 hh3 dX5_readText_16 ?_
  refine q_aload_n C dX5_readText_17 rfl (lv_at hl 0 rfl) ?_
  refine g_X5_readStock C kd_110 w_fl_X5_60 dX5_readText_18 ?_
  refine q_iconst C (v := 1) dX5_readText_21 (by decide) ?_
  refine q_iconst C (v := 0) dX5_readText_22 (by decide) ?_
  obtain ⟨h4, hh4, hK⟩ := wr_so hK
  refine q_iast C kd_126 hh4 dX5_readText_23 ?_
  refine q_aload_n C dX5_readText_24 rfl (lv_at hl 0 rfl) ?_
  refine q_iconst C (v := 0) dX5_readText_25 (by decide) ?_
  obtain ⟨h5, hh5, hK⟩ := st_so hK
  refine p_X5_readMany C kd_110 w_fl_X5_97 hh5 dX5_readText_26 ?_
  refine q_aload_n C dX5_readText_29 rfl (lv_at hl 0 rfl) ?_
  refine q_bipush C (v := 66) dX5_readText_30 (by decide) ?_
  obtain ⟨h6, hh6, hK⟩ := st_so hK
  refine p_X5_part C kd_110 w_fl_X5_94 hh6 dX5_readText_32 ?_
  refine q_aload_n C dX5_readText_35 rfl (lv_at hl 0 rfl) ?_
  refine q_iconst C (v := 0) dX5_readText_36 (by decide) ?_
  obtain ⟨h7, hh7, hK⟩ := st_so hK
  refine p_X5_place C kd_110 w_fl_X5_82 hh7 dX5_readText_37 ?_
  refine q_aload_n C dX5_readText_40 rfl (lv_at hl 0 rfl) ?_
  refine g_X5_length C kd_110 w_fl_X5_79 dX5_readText_41 ?_
  refine q_if_eq C dX5_readText_44 (tgt := 58) (by decide) (fun hc => ?_) (fun hc => ?_)
  · replace hK := if_po hc hK
    refine q_iconst C (v := 0) dX5_readText_58 (by decide) ?_
    cases hK
    exact q_iret C dX5_readText_59
  · replace hK := if_ne hc hK
    refine q_aload_n C dX5_readText_47 rfl (lv_at hl 0 rfl) ?_
    refine g_X5_text C kd_110 w_fl_X5_7 dX5_readText_48 ?_
    refine q_iconst C (v := 0) dX5_readText_51 (by decide) ?_
    obtain ⟨x8, hx8, hK⟩ := rd_so hK
    refine q_iald C kd_111 hx8 dX5_readText_52 ?_
    refine q_bipush C (v := 66) dX5_readText_53 (by decide) ?_
    refine q_icmp_eq C dX5_readText_55 (tgt := 60) (by decide) (fun hc => ?_) (fun hc => ?_)
    · replace hK := if_po hc hK
      refine q_iconst C (v := 1) dX5_readText_60 (by decide) ?_
      refine q_istore_n C dX5_readText_61 rfl hl (by decide) (lv2 := [(1, .int _), (0, .ref _)]) rfl (fun ls hl => ?_)
      exact t_X5_readText_b62 C 200 _ _ _ (lv_sub hl [1, 0] rfl) hK
    · replace hK := if_ne hc hK
      refine q_iconst C (v := 0) dX5_readText_58 (by decide) ?_
      cases hK
      exact q_iret C dX5_readText_59
theorem s_X5_readText : sv yX5_readText cX5_readText 2 (some .int) 0 := ⟨w_co_X5_readText, w_im_X5_readText, w_se_X5_readText, w_in_X5, by decide +kernel, by decide⟩
def f_X5_fault (h : PH) : Option (Int32 × PH) := bd (f_X5_readText h) (fun r1 h2 => some (r1, h2))
set_option maxHeartbeats 4000000 in
set_option maxRecDepth 100000 in
theorem c_X5_fault (l : Launch) (G : GG) {h : PH} {res : Int32 × PH} (hF : f_X5_fault h = some res) : MI l G yX5_fault cX5_fault 1 .int 4 [.ref (G.2.2.2.2 110)] h res := by
  unfold f_X5_fault at hF
  refine MI_of (by decide +kernel) (Nat.le_of_ble_eq_true rfl) ?_
  intro p e s m args below meth c ls C hl
  have hK := hF
  clear hF
  have hl : lv_has ls 1 [(0, .ref (G.2.2.2.2 110))] := hl
  have C : cx p s m args meth c G RX5 cX5_fault 1 (some .int) := C
  refine q_aload_n C dX5_fault_0 rfl (lv_at hl 0 rfl) ?_
  obtain ⟨r1, h2, hfr1, hK⟩ := bd_so hK
  refine q_callVi C s_X5_readText w_ml_X5_126 (c_X5_readText l G hfr1) kd_110 rfl (by decide) (ce_4 kd_110) (by decide) hl.1 rfl rfl (Nat.le_of_ble_eq_true rfl) dX5_fault_1 ?_
  cases hK
  exact q_iret C dX5_fault_4
theorem s_X5_fault : sv yX5_fault cX5_fault 1 (some .int) 0 := ⟨w_co_X5_fault, w_im_X5_fault, w_se_X5_fault, w_in_X5, by decide +kernel, by decide⟩
def f_X5_line_b201 : Nat → Int32 → PH → Option (Int32 × PH)
  | 0, _, _ => none
  | n + 1, v1, h => if (h.1 110 33) ≤ v1 then st h 110 12 (0 : Int32) (fun h23 => wr h23 118 (0 : Int32) (0 : Int32) (fun h24 => wr h24 118 (1 : Int32) (0 : Int32) (fun h25 => some ((h25.1 110 7), h25)))) else rd h 127 v1 (fun x26 => wr h 114 ((79 : Int32) + v1) x26 (fun h27 => (f_X5_line_b201 n) (v1 + 1) h27))
set_option maxHeartbeats 4000000 in
set_option maxRecDepth 100000 in
theorem t_X5_line_b201 {p : Program} {l : Launch} {e : Env} {s : State} {m : MethodId} {args : Array Value} {below : List Frame} {meth : Method} {c : Code} {G : GG} {res : Int32 × PH} (C : cx p s m args meth c G RX5 cX5_line 2 (some .int)) (n : Nat) : ∀ (v1 : Int32) (h : PH) (ls : Array Slot), lv_has ls 2 [(0, .ref (G.2.2.2.2 110)), (1, .int v1)] → f_X5_line_b201 n v1 h = some res → WW p l e 4 s m args below meth c G h (MQ below (QI G res) args s 0 0 (Ar G)) (F0 m 201 ls []) := by
  induction n with
  | zero => intro v1 h ls hl hK; cases hK
  | succ n ih =>
    intro v1 h ls hl hK
    unfold f_X5_line_b201 at hK
    refine q_iload_n C dX5_line_201 rfl (lv_at hl 1 rfl) ?_
    refine q_aload_n C dX5_line_202 rfl (lv_at hl 0 rfl) ?_
    refine g_X5_readMany C kd_110 w_fl_X5_97 dX5_line_203 ?_
    refine q_icmp_ge C dX5_line_206 (tgt := 230) (by decide) (fun hc => ?_) (fun hc => ?_)
    · replace hK := if_po hc hK
      refine q_aload_n C dX5_line_230 rfl (lv_at hl 0 rfl) ?_
      refine q_iconst C (v := 0) dX5_line_231 (by decide) ?_
      obtain ⟨h23, hh23, hK⟩ := st_so hK
      refine p_X5_acts C kd_110 w_fl_X5_139 hh23 dX5_line_232 ?_
      refine q_aload_n C dX5_line_235 rfl (lv_at hl 0 rfl) ?_
      refine g_X5_isKept C kd_110 w_fl_X5_35 dX5_line_236 ?_
      refine q_iconst C (v := 0) dX5_line_239 (by decide) ?_
      refine q_iconst C (v := 0) dX5_line_240 (by decide) ?_
      obtain ⟨h24, hh24, hK⟩ := wr_so hK
      refine q_zast C kd_118 (Or.inl rfl) hh24 dX5_line_241 ?_
      refine q_aload_n C dX5_line_242 rfl (lv_at hl 0 rfl) ?_
      refine g_X5_isKept C kd_110 w_fl_X5_35 dX5_line_243 ?_
      refine q_iconst C (v := 1) dX5_line_246 (by decide) ?_
      refine q_iconst C (v := 0) dX5_line_247 (by decide) ?_
      obtain ⟨h25, hh25, hK⟩ := wr_so hK
      refine q_zast C kd_118 (Or.inl rfl) hh25 dX5_line_248 ?_
      refine q_aload_n C dX5_line_249 rfl (lv_at hl 0 rfl) ?_
      refine g_X5_valves C kd_110 w_fl_X5_76 dX5_line_250 ?_
      cases hK
      exact q_iret C dX5_line_253
    · replace hK := if_ne hc hK
      refine q_aload_n C dX5_line_209 rfl (lv_at hl 0 rfl) ?_
      refine g_X5_now C kd_110 w_fl_X5_23 dX5_line_210 ?_
      refine q_bipush C (v := 79) dX5_line_213 (by decide) ?_
      refine q_iload_n C dX5_line_215 rfl (lv_at hl 1 rfl) ?_
      refine q_iadd C dX5_line_216 ?_
      refine q_aload_n C dX5_line_217 rfl (lv_at hl 0 rfl) ?_
      refine g_X5_readQueue C kd_110 w_fl_X5_63 dX5_line_218 ?_
      refine q_iload_n C dX5_line_221 rfl (lv_at hl 1 rfl) ?_
      obtain ⟨x26, hx26, hK⟩ := rd_so hK
      refine q_iald C kd_127 hx26 dX5_line_222 ?_
      obtain ⟨h27, hh27, hK⟩ := wr_so hK
      refine q_iast C kd_114 hh27 dX5_line_223 ?_
      refine q_iinc C dX5_line_224 hl (j := 1) (v := (v1 + 1)) rfl rfl (by decide) (lv2 := [(1, .int _), (0, .ref _)]) rfl (fun ls hl => ?_)
      refine q_goto C dX5_line_227 (tgt := 201) (by decide) ?_
      exact ih _ _ _ (lv_sub hl [1, 0] rfl) hK
def f_X5_line_b121 : Nat → Int32 → PH → Option (Int32 × PH)
  | 0, _, _ => none
  | n + 1, v1, h => if (h.1 110 7) ≤ v1 then rd h 126 (0 : Int32) (fun x14 => wr h 114 (67 : Int32) x14 (fun h15 => rd h15 126 (1 : Int32) (fun x16 => wr h15 114 (68 : Int32) x16 (fun h17 => wr h17 114 (78 : Int32) (h17.1 110 33) (fun h18 => f_X5_line_b201 200 (0 : Int32) h18))))) else rd h 124 v1 (fun x19 => wr h 114 ((63 : Int32) + v1) x19 (fun h20 => rd h20 125 v1 (fun x21 => wr h20 113 v1 x21 (fun h22 => (f_X5_line_b121 n) (v1 + 1) h22))))
set_option maxHeartbeats 4000000 in
set_option maxRecDepth 100000 in
theorem t_X5_line_b121 {p : Program} {l : Launch} {e : Env} {s : State} {m : MethodId} {args : Array Value} {below : List Frame} {meth : Method} {c : Code} {G : GG} {res : Int32 × PH} (C : cx p s m args meth c G RX5 cX5_line 2 (some .int)) (n : Nat) : ∀ (v1 : Int32) (h : PH) (ls : Array Slot), lv_has ls 2 [(0, .ref (G.2.2.2.2 110)), (1, .int v1)] → f_X5_line_b121 n v1 h = some res → WW p l e 4 s m args below meth c G h (MQ below (QI G res) args s 0 0 (Ar G)) (F0 m 121 ls []) := by
  induction n with
  | zero => intro v1 h ls hl hK; cases hK
  | succ n ih =>
    intro v1 h ls hl hK
    unfold f_X5_line_b121 at hK
    refine q_iload_n C dX5_line_121 rfl (lv_at hl 1 rfl) ?_
    refine q_aload_n C dX5_line_122 rfl (lv_at hl 0 rfl) ?_
    refine g_X5_valves C kd_110 w_fl_X5_76 dX5_line_123 ?_
    refine q_icmp_ge C dX5_line_126 (tgt := 162) (by decide) (fun hc => ?_) (fun hc => ?_)
    · replace hK := if_po hc hK
      refine q_aload_n C dX5_line_162 rfl (lv_at hl 0 rfl) ?_
      refine g_X5_now C kd_110 w_fl_X5_23 dX5_line_163 ?_
      refine q_bipush C (v := 67) dX5_line_166 (by decide) ?_
      refine q_aload_n C dX5_line_168 rfl (lv_at hl 0 rfl) ?_
      refine g_X5_readStock C kd_110 w_fl_X5_60 dX5_line_169 ?_
      refine q_iconst C (v := 0) dX5_line_172 (by decide) ?_
      obtain ⟨x14, hx14, hK⟩ := rd_so hK
      refine q_iald C kd_126 hx14 dX5_line_173 ?_
      obtain ⟨h15, hh15, hK⟩ := wr_so hK
      refine q_iast C kd_114 hh15 dX5_line_174 ?_
      refine q_aload_n C dX5_line_175 rfl (lv_at hl 0 rfl) ?_
      refine g_X5_now C kd_110 w_fl_X5_23 dX5_line_176 ?_
      refine q_bipush C (v := 68) dX5_line_179 (by decide) ?_
      refine q_aload_n C dX5_line_181 rfl (lv_at hl 0 rfl) ?_
      refine g_X5_readStock C kd_110 w_fl_X5_60 dX5_line_182 ?_
      refine q_iconst C (v := 1) dX5_line_185 (by decide) ?_
      obtain ⟨x16, hx16, hK⟩ := rd_so hK
      refine q_iald C kd_126 hx16 dX5_line_186 ?_
      obtain ⟨h17, hh17, hK⟩ := wr_so hK
      refine q_iast C kd_114 hh17 dX5_line_187 ?_
      refine q_aload_n C dX5_line_188 rfl (lv_at hl 0 rfl) ?_
      refine g_X5_now C kd_110 w_fl_X5_23 dX5_line_189 ?_
      refine q_bipush C (v := 78) dX5_line_192 (by decide) ?_
      refine q_aload_n C dX5_line_194 rfl (lv_at hl 0 rfl) ?_
      refine g_X5_readMany C kd_110 w_fl_X5_97 dX5_line_195 ?_
      obtain ⟨h18, hh18, hK⟩ := wr_so hK
      refine q_iast C kd_114 hh18 dX5_line_198 ?_
      refine q_iconst C (v := 0) dX5_line_199 (by decide) ?_
      refine q_istore_n C dX5_line_200 rfl hl (by decide) (lv2 := [(1, .int _), (0, .ref _)]) rfl (fun ls hl => ?_)
      exact t_X5_line_b201 C 200 _ _ _ (lv_sub hl [1, 0] rfl) hK
    · replace hK := if_ne hc hK
      refine q_aload_n C dX5_line_129 rfl (lv_at hl 0 rfl) ?_
      refine g_X5_now C kd_110 w_fl_X5_23 dX5_line_130 ?_
      refine q_bipush C (v := 63) dX5_line_133 (by decide) ?_
      refine q_iload_n C dX5_line_135 rfl (lv_at hl 1 rfl) ?_
      refine q_iadd C dX5_line_136 ?_
      refine q_aload_n C dX5_line_137 rfl (lv_at hl 0 rfl) ?_
      refine g_X5_readSetting C kd_110 w_fl_X5_54 dX5_line_138 ?_
      refine q_iload_n C dX5_line_141 rfl (lv_at hl 1 rfl) ?_
      obtain ⟨x19, hx19, hK⟩ := rd_so hK
      refine q_iald C kd_124 hx19 dX5_line_142 ?_
      obtain ⟨h20, hh20, hK⟩ := wr_so hK
      refine q_iast C kd_114 hh20 dX5_line_143 ?_
      refine q_aload_n C dX5_line_144 rfl (lv_at hl 0 rfl) ?_
      refine g_X5_drift C kd_110 w_fl_X5_20 dX5_line_145 ?_
      refine q_iload_n C dX5_line_148 rfl (lv_at hl 1 rfl) ?_
      refine q_aload_n C dX5_line_149 rfl (lv_at hl 0 rfl) ?_
      refine g_X5_readDrift C kd_110 w_fl_X5_57 dX5_line_150 ?_
      refine q_iload_n C dX5_line_153 rfl (lv_at hl 1 rfl) ?_
      obtain ⟨x21, hx21, hK⟩ := rd_so hK
      refine q_iald C kd_125 hx21 dX5_line_154 ?_
      obtain ⟨h22, hh22, hK⟩ := wr_so hK
      refine q_iast C kd_113 hh22 dX5_line_155 ?_
      refine q_iinc C dX5_line_156 hl (j := 1) (v := (v1 + 1)) rfl rfl (by decide) (lv2 := [(1, .int _), (0, .ref _)]) rfl (fun ls hl => ?_)
      refine q_goto C dX5_line_159 (tgt := 121) (by decide) ?_
      exact ih _ _ _ (lv_sub hl [1, 0] rfl) hK
def f_X5_line_b62 : Nat → Int32 → PH → Option (Int32 × PH)
  | 0, _, _ => none
  | n + 1, v1, h => if (5 : Int32) ≤ v1 then st h 110 4 (h.1 110 26) (fun h8 => st h8 110 5 (h8.1 110 27) (fun h9 => st h9 110 6 (h9.1 110 28) (fun h10 => st h10 110 7 (h10.1 110 29) (fun h11 => f_X5_line_b121 200 (0 : Int32) h11)))) else rd h 123 (v1 + (1 : Int32)) (fun x12 => wr h 112 v1 x12 (fun h13 => (f_X5_line_b62 n) (v1 + 1) h13))
set_option maxHeartbeats 4000000 in
set_option maxRecDepth 100000 in
theorem t_X5_line_b62 {p : Program} {l : Launch} {e : Env} {s : State} {m : MethodId} {args : Array Value} {below : List Frame} {meth : Method} {c : Code} {G : GG} {res : Int32 × PH} (C : cx p s m args meth c G RX5 cX5_line 2 (some .int)) (n : Nat) : ∀ (v1 : Int32) (h : PH) (ls : Array Slot), lv_has ls 2 [(0, .ref (G.2.2.2.2 110)), (1, .int v1)] → f_X5_line_b62 n v1 h = some res → WW p l e 4 s m args below meth c G h (MQ below (QI G res) args s 0 0 (Ar G)) (F0 m 62 ls []) := by
  induction n with
  | zero => intro v1 h ls hl hK; cases hK
  | succ n ih =>
    intro v1 h ls hl hK
    unfold f_X5_line_b62 at hK
    refine q_iload_n C dX5_line_62 rfl (lv_at hl 1 rfl) ?_
    refine q_iconst C (v := 5) dX5_line_63 (by decide) ?_
    refine q_icmp_ge C dX5_line_64 (tgt := 87) (by decide) (fun hc => ?_) (fun hc => ?_)
    · replace hK := if_po hc hK
      refine q_aload_n C dX5_line_87 rfl (lv_at hl 0 rfl) ?_
      refine q_aload_n C dX5_line_88 rfl (lv_at hl 0 rfl) ?_
      refine g_X5_readTarget C kd_110 w_fl_X5_85 dX5_line_89 ?_
      obtain ⟨h8, hh8, hK⟩ := st_so hK
      refine p_X5_target C kd_110 w_fl_X5_130 hh8 dX5_line_92 ?_
      refine q_aload_n C dX5_line_95 rfl (lv_at hl 0 rfl) ?_
      refine q_aload_n C dX5_line_96 rfl (lv_at hl 0 rfl) ?_
      refine g_X5_readTolerance C kd_110 w_fl_X5_88 dX5_line_97 ?_
      obtain ⟨h9, hh9, hK⟩ := st_so hK
      refine p_X5_tolerance C kd_110 w_fl_X5_133 hh9 dX5_line_100 ?_
      refine q_aload_n C dX5_line_103 rfl (lv_at hl 0 rfl) ?_
      refine q_aload_n C dX5_line_104 rfl (lv_at hl 0 rfl) ?_
      refine g_X5_readEach C kd_110 w_fl_X5_91 dX5_line_105 ?_
      obtain ⟨h10, hh10, hK⟩ := st_so hK
      refine p_X5_each C kd_110 w_fl_X5_136 hh10 dX5_line_108 ?_
      refine q_aload_n C dX5_line_111 rfl (lv_at hl 0 rfl) ?_
      refine q_aload_n C dX5_line_112 rfl (lv_at hl 0 rfl) ?_
      refine g_X5_readValves C kd_110 w_fl_X5_100 dX5_line_113 ?_
      obtain ⟨h11, hh11, hK⟩ := st_so hK
      refine p_X5_valves C kd_110 w_fl_X5_76 hh11 dX5_line_116 ?_
      refine q_iconst C (v := 0) dX5_line_119 (by decide) ?_
      refine q_istore_n C dX5_line_120 rfl hl (by decide) (lv2 := [(1, .int _), (0, .ref _)]) rfl (fun ls hl => ?_)
      exact t_X5_line_b121 C 200 _ _ _ (lv_sub hl [1, 0] rfl) hK
    · replace hK := if_ne hc hK
      refine q_aload_n C dX5_line_67 rfl (lv_at hl 0 rfl) ?_
      refine g_X5_places C kd_110 w_fl_X5_17 dX5_line_68 ?_
      refine q_iload_n C dX5_line_71 rfl (lv_at hl 1 rfl) ?_
      refine q_aload_n C dX5_line_72 rfl (lv_at hl 0 rfl) ?_
      refine g_X5_head C kd_110 w_fl_X5_51 dX5_line_73 ?_
      refine q_iload_n C dX5_line_76 rfl (lv_at hl 1 rfl) ?_
      refine q_iconst C (v := 1) dX5_line_77 (by decide) ?_
      refine q_iadd C dX5_line_78 ?_
      obtain ⟨x12, hx12, hK⟩ := rd_so hK
      refine q_iald C kd_123 hx12 dX5_line_79 ?_
      obtain ⟨h13, hh13, hK⟩ := wr_so hK
      refine q_iast C kd_112 hh13 dX5_line_80 ?_
      refine q_iinc C dX5_line_81 hl (j := 1) (v := (v1 + 1)) rfl rfl (by decide) (lv2 := [(1, .int _), (0, .ref _)]) rfl (fun ls hl => ?_)
      refine q_goto C dX5_line_84 (tgt := 62) (by decide) ?_
      exact ih _ _ _ (lv_sub hl [1, 0] rfl) hK
def f_X5_line_b14 : Nat → Int32 → PH → Option (Int32 × PH)
  | 0, _, _ => none
  | n + 1, v1, h => if (103 : Int32) ≤ v1 then rd h 123 (0 : Int32) (fun x3 => st h 110 2 x3 (fun h4 => f_X5_line_b62 200 (0 : Int32) h4)) else if v1 < (18 : Int32) then wr h 114 v1 (0 : Int32) (fun h5 => (f_X5_line_b14 n) (v1 + 1) h5) else if (27 : Int32) ≤ v1 then wr h 114 v1 (0 : Int32) (fun h6 => (f_X5_line_b14 n) (v1 + 1) h6) else wr h 114 v1 (-9 : Int32) (fun h7 => (f_X5_line_b14 n) (v1 + 1) h7)
set_option maxHeartbeats 4000000 in
set_option maxRecDepth 100000 in
theorem t_X5_line_b14 {p : Program} {l : Launch} {e : Env} {s : State} {m : MethodId} {args : Array Value} {below : List Frame} {meth : Method} {c : Code} {G : GG} {res : Int32 × PH} (C : cx p s m args meth c G RX5 cX5_line 2 (some .int)) (n : Nat) : ∀ (v1 : Int32) (h : PH) (ls : Array Slot), lv_has ls 2 [(0, .ref (G.2.2.2.2 110)), (1, .int v1)] → f_X5_line_b14 n v1 h = some res → WW p l e 4 s m args below meth c G h (MQ below (QI G res) args s 0 0 (Ar G)) (F0 m 14 ls []) := by
  induction n with
  | zero => intro v1 h ls hl hK; cases hK
  | succ n ih =>
    intro v1 h ls hl hK
    unfold f_X5_line_b14 at hK
    refine q_iload_n C dX5_line_14 rfl (lv_at hl 1 rfl) ?_
    refine q_bipush C (v := 103) dX5_line_15 (by decide) ?_
    refine q_icmp_ge C dX5_line_17 (tgt := 50) (by decide) (fun hc => ?_) (fun hc => ?_)
    · replace hK := if_po hc hK
      refine q_aload_n C dX5_line_50 rfl (lv_at hl 0 rfl) ?_
      refine q_aload_n C dX5_line_51 rfl (lv_at hl 0 rfl) ?_
      refine g_X5_head C kd_110 w_fl_X5_51 dX5_line_52 ?_
      refine q_iconst C (v := 0) dX5_line_55 (by decide) ?_
      obtain ⟨x3, hx3, hK⟩ := rd_so hK
      refine q_iald C kd_123 hx3 dX5_line_56 ?_
      obtain ⟨h4, hh4, hK⟩ := st_so hK
      refine p_X5_cells C kd_110 w_fl_X5_13 hh4 dX5_line_57 ?_
      refine q_iconst C (v := 0) dX5_line_60 (by decide) ?_
      refine q_istore_n C dX5_line_61 rfl hl (by decide) (lv2 := [(1, .int _), (0, .ref _)]) rfl (fun ls hl => ?_)
      exact t_X5_line_b62 C 200 _ _ _ (lv_sub hl [1, 0] rfl) hK
    · replace hK := if_ne hc hK
      refine q_aload_n C dX5_line_20 rfl (lv_at hl 0 rfl) ?_
      refine g_X5_now C kd_110 w_fl_X5_23 dX5_line_21 ?_
      refine q_iload_n C dX5_line_24 rfl (lv_at hl 1 rfl) ?_
      refine q_iload_n C dX5_line_25 rfl (lv_at hl 1 rfl) ?_
      refine q_bipush C (v := 18) dX5_line_26 (by decide) ?_
      refine q_icmp_lt C dX5_line_28 (tgt := 42) (by decide) (fun hc => ?_) (fun hc => ?_)
      · replace hK := if_po hc hK
        refine q_iconst C (v := 0) dX5_line_42 (by decide) ?_
        obtain ⟨h5, hh5, hK⟩ := wr_so hK
        refine q_iast C kd_114 hh5 dX5_line_43 ?_
        refine q_iinc C dX5_line_44 hl (j := 1) (v := (v1 + 1)) rfl rfl (by decide) (lv2 := [(1, .int _), (0, .ref _)]) rfl (fun ls hl => ?_)
        refine q_goto C dX5_line_47 (tgt := 14) (by decide) ?_
        exact ih _ _ _ (lv_sub hl [1, 0] rfl) hK
      · replace hK := if_ne hc hK
        refine q_iload_n C dX5_line_31 rfl (lv_at hl 1 rfl) ?_
        refine q_bipush C (v := 27) dX5_line_32 (by decide) ?_
        refine q_icmp_ge C dX5_line_34 (tgt := 42) (by decide) (fun hc => ?_) (fun hc => ?_)
        · replace hK := if_po hc hK
          refine q_iconst C (v := 0) dX5_line_42 (by decide) ?_
          obtain ⟨h6, hh6, hK⟩ := wr_so hK
          refine q_iast C kd_114 hh6 dX5_line_43 ?_
          refine q_iinc C dX5_line_44 hl (j := 1) (v := (v1 + 1)) rfl rfl (by decide) (lv2 := [(1, .int _), (0, .ref _)]) rfl (fun ls hl => ?_)
          refine q_goto C dX5_line_47 (tgt := 14) (by decide) ?_
          exact ih _ _ _ (lv_sub hl [1, 0] rfl) hK
        · replace hK := if_ne hc hK
          refine q_bipush C (v := -9) dX5_line_37 (by decide) ?_
          refine q_goto C dX5_line_39 (tgt := 43) (by decide) ?_
          obtain ⟨h7, hh7, hK⟩ := wr_so hK
          refine q_iast C kd_114 hh7 dX5_line_43 ?_
          refine q_iinc C dX5_line_44 hl (j := 1) (v := (v1 + 1)) rfl rfl (by decide) (lv2 := [(1, .int _), (0, .ref _)]) rfl (fun ls hl => ?_)
          refine q_goto C dX5_line_47 (tgt := 14) (by decide) ?_
          exact ih _ _ _ (lv_sub hl [1, 0] rfl) hK
def f_X5_line (h : PH) : Option (Int32 × PH) := bd (f_X5_readText h) (fun r1 h2 => if r1 = (-9 : Int32) then f_X5_line_b14 200 (0 : Int32) h2 else some ((-3 : Int32), h2))
set_option maxHeartbeats 4000000 in
set_option maxRecDepth 100000 in
theorem c_X5_line (l : Launch) (G : GG) {h : PH} {res : Int32 × PH} (hF : f_X5_line h = some res) : MI l G yX5_line cX5_line 2 .int 4 [.ref (G.2.2.2.2 110)] h res := by
  unfold f_X5_line at hF
  refine MI_of (by decide +kernel) (Nat.le_of_ble_eq_true rfl) ?_
  intro p e s m args below meth c ls C hl
  have hK := hF
  clear hF
  have hl : lv_has ls 2 [(0, .ref (G.2.2.2.2 110))] := hl
  have C : cx p s m args meth c G RX5 cX5_line 2 (some .int) := C
  refine q_aload_n C dX5_line_0 rfl (lv_at hl 0 rfl) ?_
  obtain ⟨r1, h2, hfr1, hK⟩ := bd_so hK
  refine q_callVi C s_X5_readText w_ml_X5_126 (c_X5_readText l G hfr1) kd_110 rfl (by decide) (ce_4 kd_110) (by decide) hl.1 rfl rfl (Nat.le_of_ble_eq_true rfl) dX5_line_1 ?_
  refine q_bipush C (v := -9) dX5_line_4 (by decide) ?_
  refine q_icmp_eq C dX5_line_6 (tgt := 12) (by decide) (fun hc => ?_) (fun hc => ?_)
  · replace hK := if_po hc hK
    refine q_iconst C (v := 0) dX5_line_12 (by decide) ?_
    refine q_istore_n C dX5_line_13 rfl hl (by decide) (lv2 := [(1, .int _), (0, .ref _)]) rfl (fun ls hl => ?_)
    exact t_X5_line_b14 C 200 _ _ _ (lv_sub hl [1, 0] rfl) hK
  · replace hK := if_ne hc hK
    refine q_bipush C (v := -3) dX5_line_9 (by decide) ?_
    cases hK
    exact q_iret C dX5_line_11
theorem s_X5_line : sv yX5_line cX5_line 2 (some .int) 0 := ⟨w_co_X5_line, w_im_X5_line, w_se_X5_line, w_in_X5, by decide +kernel, by decide⟩
def f_X5_isGood_b31 (r1 : Nat) (v2 : Int32) (s0 : Int32) (h : PH) : Option (Int32 × PH) := if (h.1 110 5) < s0 then some ((0 : Int32), h) else rd h r1 ((27 : Int32) + v2) (fun x3 => if x3 = (1 : Int32) then rd h r1 ((36 : Int32) + v2) (fun x4 => if x4 = (1 : Int32) then some ((1 : Int32), h) else some ((0 : Int32), h)) else some ((0 : Int32), h))
set_option maxHeartbeats 4000000 in
set_option maxRecDepth 100000 in
theorem t_X5_isGood_b31 {p : Program} {l : Launch} {e : Env} {s : State} {m : MethodId} {args : Array Value} {below : List Frame} {meth : Method} {c : Code} {G : GG} {r1 : Nat} {res : Int32 × PH} (C : cx p s m args meth c G RX5 cX5_isGood 4 (some .boolean)) (hr1 : kd r1 = 5) {v2 : Int32} {s0 : Int32} {h : PH} {ls : Array Slot} (hl : lv_has ls 4 [(0, .ref (G.2.2.2.2 110)), (1, .ref (G.2.2.2.2 r1)), (2, .int v2)]) (hK : f_X5_isGood_b31 r1 v2 s0 h = some res) : WW p l e 0 s m args below meth c G h (MQ below (QI G res) args s 0 0 (Ar G)) (F0 m 31 ls [.int s0]) := by
  unfold f_X5_isGood_b31 at hK
  refine q_aload_n C dX5_isGood_31 rfl (lv_at hl 0 rfl) ?_
  refine g_X5_tolerance C kd_110 w_fl_X5_133 dX5_isGood_32 ?_
  refine q_icmp_gt C dX5_isGood_35 (tgt := 62) (by decide) (fun hc => ?_) (fun hc => ?_)
  · replace hK := if_po hc hK
    refine q_iconst C (v := 0) dX5_isGood_62 (by decide) ?_
    cases hK
    exact q_zret C (Or.inl rfl) dX5_isGood_63
  · replace hK := if_ne hc hK
    refine q_aload_n C dX5_isGood_38 rfl (lv_at hl 1 rfl) ?_
    refine q_bipush C (v := 27) dX5_isGood_39 (by decide) ?_
    refine q_iload_n C dX5_isGood_41 rfl (lv_at hl 2 rfl) ?_
    refine q_iadd C dX5_isGood_42 ?_
    obtain ⟨x3, hx3, hK⟩ := rd_so hK
    refine q_iald C hr1 hx3 dX5_isGood_43 ?_
    refine q_iconst C (v := 1) dX5_isGood_44 (by decide) ?_
    refine q_icmp_ne C dX5_isGood_45 (tgt := 62) (by decide) (fun hc => ?_) (fun hc => ?_)
    · replace hK := if_ne hc hK
      refine q_iconst C (v := 0) dX5_isGood_62 (by decide) ?_
      cases hK
      exact q_zret C (Or.inl rfl) dX5_isGood_63
    · replace hK := if_po hc hK
      refine q_aload_n C dX5_isGood_48 rfl (lv_at hl 1 rfl) ?_
      refine q_bipush C (v := 36) dX5_isGood_49 (by decide) ?_
      refine q_iload_n C dX5_isGood_51 rfl (lv_at hl 2 rfl) ?_
      refine q_iadd C dX5_isGood_52 ?_
      obtain ⟨x4, hx4, hK⟩ := rd_so hK
      refine q_iald C hr1 hx4 dX5_isGood_53 ?_
      refine q_iconst C (v := 1) dX5_isGood_54 (by decide) ?_
      refine q_icmp_ne C dX5_isGood_55 (tgt := 62) (by decide) (fun hc => ?_) (fun hc => ?_)
      · replace hK := if_ne hc hK
        refine q_iconst C (v := 0) dX5_isGood_62 (by decide) ?_
        cases hK
        exact q_zret C (Or.inl rfl) dX5_isGood_63
      · replace hK := if_po hc hK
        refine q_iconst C (v := 1) dX5_isGood_58 (by decide) ?_
        refine q_goto C dX5_isGood_59 (tgt := 63) (by decide) ?_
        cases hK
        exact q_zret C (Or.inr rfl) dX5_isGood_63
def f_X5_isGood (r1 : Nat) (a2 : Int32) (h : PH) : Option (Int32 × PH) := gd r1 5 (rd h r1 ((9 : Int32) + a2) (fun x1 => rd h r1 ((0 : Int32) + a2) (fun x2 => if x2 = (1 : Int32) then if 0 ≤ (x1 - (h.1 110 4)) then f_X5_isGood_b31 r1 a2 (x1 - (h.1 110 4)) h else f_X5_isGood_b31 r1 a2 (-(x1 - (h.1 110 4))) h else some ((0 : Int32), h))))
set_option maxHeartbeats 4000000 in
set_option maxRecDepth 100000 in
theorem c_X5_isGood (l : Launch) (G : GG) {r1 : Nat} {a2 : Int32} {h : PH} {res : Int32 × PH} (hF : f_X5_isGood r1 a2 h = some res) : MI l G yX5_isGood cX5_isGood 4 .boolean 0 [.ref (G.2.2.2.2 110), .ref (G.2.2.2.2 r1), .int a2] h res := by
  unfold f_X5_isGood at hF
  obtain ⟨hr1, hF⟩ := gd_so hF
  refine MI_of (by decide +kernel) (Nat.le_of_ble_eq_true rfl) ?_
  intro p e s m args below meth c ls C hl
  have hK := hF
  clear hF
  have hl : lv_has ls 4 [(0, .ref (G.2.2.2.2 110)), (1, .ref (G.2.2.2.2 r1)), (2, .int a2)] := hl
  have C : cx p s m args meth c G RX5 cX5_isGood 4 (some .boolean) := C
  refine q_aload_n C dX5_isGood_0 rfl (lv_at hl 1 rfl) ?_
  refine q_bipush C (v := 9) dX5_isGood_1 (by decide) ?_
  refine q_iload_n C dX5_isGood_3 rfl (lv_at hl 2 rfl) ?_
  refine q_iadd C dX5_isGood_4 ?_
  obtain ⟨x1, hx1, hK⟩ := rd_so hK
  refine q_iald C hr1 hx1 dX5_isGood_5 ?_
  refine q_aload_n C dX5_isGood_6 rfl (lv_at hl 0 rfl) ?_
  refine g_X5_target C kd_110 w_fl_X5_130 dX5_isGood_7 ?_
  refine q_isub C dX5_isGood_10 ?_
  refine q_istore_n C dX5_isGood_11 rfl hl (by decide) (lv2 := [(3, .int _), (0, .ref _), (1, .ref _), (2, .int _)]) rfl (fun ls hl => ?_)
  refine q_aload_n C dX5_isGood_12 rfl (lv_at hl 2 rfl) ?_
  refine q_iconst C (v := 0) dX5_isGood_13 (by decide) ?_
  refine q_iload_n C dX5_isGood_14 rfl (lv_at hl 3 rfl) ?_
  refine q_iadd C dX5_isGood_15 ?_
  obtain ⟨x2, hx2, hK⟩ := rd_so hK
  refine q_iald C hr1 hx2 dX5_isGood_16 ?_
  refine q_iconst C (v := 1) dX5_isGood_17 (by decide) ?_
  refine q_icmp_ne C dX5_isGood_18 (tgt := 62) (by decide) (fun hc => ?_) (fun hc => ?_)
  · replace hK := if_ne hc hK
    refine q_iconst C (v := 0) dX5_isGood_62 (by decide) ?_
    cases hK
    exact q_zret C (Or.inl rfl) dX5_isGood_63
  · replace hK := if_po hc hK
    refine q_iload_n C dX5_isGood_21 rfl (lv_at hl 0 rfl) ?_
    refine q_if_ge C dX5_isGood_22 (tgt := 30) (by decide) (fun hc => ?_) (fun hc => ?_)
    · replace hK := if_po hc hK
      refine q_iload_n C dX5_isGood_30 rfl (lv_at hl 0 rfl) ?_
      exact t_X5_isGood_b31 C hr1 (lv_sub hl [1, 2, 3] rfl) hK
    · replace hK := if_ne hc hK
      refine q_iload_n C dX5_isGood_25 rfl (lv_at hl 0 rfl) ?_
      refine q_ineg C dX5_isGood_26 ?_
      refine q_goto C dX5_isGood_27 (tgt := 31) (by decide) ?_
      exact t_X5_isGood_b31 C hr1 (lv_sub hl [1, 2, 3] rfl) hK
theorem s_X5_isGood : sv yX5_isGood cX5_isGood 4 (some .boolean) 2 := ⟨w_co_X5_isGood, w_im_X5_isGood, w_se_X5_isGood, w_in_X5, by decide +kernel, by decide⟩
def f_X5_empty_b2 (r1 : Nat) : Nat → Int32 → Int32 → PH → Option (Unit × PH)
  | 0, _, _, _ => none
  | n + 1, v2, v3, h => if (54 : Int32) ≤ v3 then some ((), h) else if v3 = (18 : Int32) then wr h r1 (v3 + v2) (-9 : Int32) (fun h2 => (f_X5_empty_b2 r1 n) v2 (v3 + 9) h2) else wr h r1 (v3 + v2) (0 : Int32) (fun h1 => (f_X5_empty_b2 r1 n) v2 (v3 + 9) h1)
set_option maxHeartbeats 4000000 in
set_option maxRecDepth 100000 in
theorem t_X5_empty_b2 {p : Program} {l : Launch} {e : Env} {s : State} {m : MethodId} {args : Array Value} {below : List Frame} {meth : Method} {c : Code} {G : GG} {r1 : Nat} {res : Unit × PH} (C : cx p s m args meth c G RX5 cX5_empty 4 none) (hr1 : kd r1 = 5) (n : Nat) : ∀ (v2 : Int32) (v3 : Int32) (h : PH) (ls : Array Slot), lv_has ls 4 [(1, .ref (G.2.2.2.2 r1)), (2, .int v2), (3, .int v3)] → f_X5_empty_b2 r1 n v2 v3 h = some res → WW p l e 0 s m args below meth c G h (MQ below (QV G res) args s 0 0 (Ar G)) (F0 m 2 ls []) := by
  induction n with
  | zero => intro v2 v3 h ls hl hK; cases hK
  | succ n ih =>
    intro v2 v3 h ls hl hK
    unfold f_X5_empty_b2 at hK
    refine q_iload_n C dX5_empty_2 rfl (lv_at hl 2 rfl) ?_
    refine q_bipush C (v := 54) dX5_empty_3 (by decide) ?_
    refine q_icmp_ge C dX5_empty_5 (tgt := 31) (by decide) (fun hc => ?_) (fun hc => ?_)
    · replace hK := if_po hc hK
      cases hK
      exact q_vret C dX5_empty_31
    · replace hK := if_ne hc hK
      refine q_aload_n C dX5_empty_8 rfl (lv_at hl 0 rfl) ?_
      refine q_iload_n C dX5_empty_9 rfl (lv_at hl 2 rfl) ?_
      refine q_iload_n C dX5_empty_10 rfl (lv_at hl 1 rfl) ?_
      refine q_iadd C dX5_empty_11 ?_
      refine q_iload_n C dX5_empty_12 rfl (lv_at hl 2 rfl) ?_
      refine q_bipush C (v := 18) dX5_empty_13 (by decide) ?_
      refine q_icmp_ne C dX5_empty_15 (tgt := 23) (by decide) (fun hc => ?_) (fun hc => ?_)
      · replace hK := if_ne hc hK
        refine q_iconst C (v := 0) dX5_empty_23 (by decide) ?_
        obtain ⟨h1, hh1, hK⟩ := wr_so hK
        refine q_iast C hr1 hh1 dX5_empty_24 ?_
        refine q_iinc C dX5_empty_25 hl (j := 2) (v := (v3 + 9)) rfl rfl (by decide) (lv2 := [(3, .int _), (1, .ref _), (2, .int _)]) rfl (fun ls hl => ?_)
        refine q_goto C dX5_empty_28 (tgt := 2) (by decide) ?_
        exact ih _ _ _ _ (lv_sub hl [1, 2, 0] rfl) hK
      · replace hK := if_po hc hK
        refine q_bipush C (v := -9) dX5_empty_18 (by decide) ?_
        refine q_goto C dX5_empty_20 (tgt := 24) (by decide) ?_
        obtain ⟨h2, hh2, hK⟩ := wr_so hK
        refine q_iast C hr1 hh2 dX5_empty_24 ?_
        refine q_iinc C dX5_empty_25 hl (j := 2) (v := (v3 + 9)) rfl rfl (by decide) (lv2 := [(3, .int _), (1, .ref _), (2, .int _)]) rfl (fun ls hl => ?_)
        refine q_goto C dX5_empty_28 (tgt := 2) (by decide) ?_
        exact ih _ _ _ _ (lv_sub hl [1, 2, 0] rfl) hK
def f_X5_empty (r1 : Nat) (a2 : Int32) (h : PH) : Option (Unit × PH) := gd r1 5 (f_X5_empty_b2 r1 200 a2 (0 : Int32) h)
set_option maxHeartbeats 4000000 in
set_option maxRecDepth 100000 in
theorem c_X5_empty (l : Launch) (G : GG) {r1 : Nat} {a2 : Int32} {h : PH} {res : Unit × PH} (hF : f_X5_empty r1 a2 h = some res) : MV l G yX5_empty cX5_empty 4 0 [.ref (G.2.2.2.2 110), .ref (G.2.2.2.2 r1), .int a2] h res := by
  unfold f_X5_empty at hF
  obtain ⟨hr1, hF⟩ := gd_so hF
  refine MV_of (by decide +kernel) (Nat.le_of_ble_eq_true rfl) ?_
  intro p e s m args below meth c ls C hl
  have hK := hF
  clear hF
  have hl : lv_has ls 4 [(0, .ref (G.2.2.2.2 110)), (1, .ref (G.2.2.2.2 r1)), (2, .int a2)] := hl
  have C : cx p s m args meth c G RX5 cX5_empty 4 none := C
  refine q_iconst C (v := 0) dX5_empty_0 (by decide) ?_
  refine q_istore_n C dX5_empty_1 rfl hl (by decide) (lv2 := [(3, .int _), (0, .ref _), (1, .ref _), (2, .int _)]) rfl (fun ls hl => ?_)
  exact t_X5_empty_b2 C hr1 200 _ _ _ _ (lv_sub hl [2, 3, 0] rfl) hK
theorem s_X5_empty : sv yX5_empty cX5_empty 4 none 2 := ⟨w_co_X5_empty, w_im_X5_empty, w_se_X5_empty, w_in_X5, by decide +kernel, by decide⟩
def f_X5_leave_b58 (r1 : Nat) (v2 : Int32) (s0 : Int32) (h : PH) : Option (Unit × PH) := st h 110 23 s0 (fun h8 => st h8 110 22 (-9 : Int32) (fun h9 => bd (f_X5_empty r1 v2 h9) (fun _ h11 => some ((), h11))))
set_option maxHeartbeats 4000000 in
set_option maxRecDepth 100000 in
theorem t_X5_leave_b58 {p : Program} {l : Launch} {e : Env} {s : State} {m : MethodId} {args : Array Value} {below : List Frame} {meth : Method} {c : Code} {G : GG} {r1 : Nat} {res : Unit × PH} (C : cx p s m args meth c G RX5 cX5_leave 4 none) (hr1 : kd r1 = 5) {v2 : Int32} {s0 : Int32} {h : PH} {ls : Array Slot} (hl : lv_has ls 4 [(0, .ref (G.2.2.2.2 110)), (1, .ref (G.2.2.2.2 r1)), (2, .int v2)]) (hK : f_X5_leave_b58 r1 v2 s0 h = some res) : WW p l e 1 s m args below meth c G h (MQ below (QV G res) args s 0 0 (Ar G)) (F0 m 58 ls [.int s0, .ref (G.2.2.2.2 110)]) := by
  unfold f_X5_leave_b58 at hK
  obtain ⟨h8, hh8, hK⟩ := st_so hK
  refine p_X5_went C kd_110 w_fl_X5_146 hh8 dX5_leave_58 ?_
  refine q_aload_n C dX5_leave_61 rfl (lv_at hl 0 rfl) ?_
  refine q_bipush C (v := -9) dX5_leave_62 (by decide) ?_
  obtain ⟨h9, hh9, hK⟩ := st_so hK
  refine p_X5_watched C kd_110 w_fl_X5_69 hh9 dX5_leave_64 ?_
  refine q_aload_n C dX5_leave_67 rfl (lv_at hl 0 rfl) ?_
  refine q_aload_n C dX5_leave_68 rfl (lv_at hl 1 rfl) ?_
  refine q_iload_n C dX5_leave_69 rfl (lv_at hl 2 rfl) ?_
  obtain ⟨r10, h11, hfr10, hK⟩ := bd_so hK
  refine q_callVv C s_X5_empty w_ml_X5_149 (c_X5_empty l G hfr10) kd_110 rfl (by decide) (ce_4 kd_110) (by decide) hl.1 rfl rfl (Nat.le_of_ble_eq_true rfl) dX5_leave_70 ?_
  cases hK
  exact q_vret C dX5_leave_73
def f_X5_leave_b35 (r1 : Nat) (v2 : Int32) (v3 : Int32) (s0 : Int32) (h : PH) : Option (Unit × PH) := rd h r1 s0 (fun x4 => wr h r1 s0 (x4 + (1 : Int32)) (fun h5 => if (h5.1 110 22) = v2 then if v3 = 0 then f_X5_leave_b58 r1 v2 (2 : Int32) h5 else f_X5_leave_b58 r1 v2 (1 : Int32) h5 else bd (f_X5_empty r1 v2 h5) (fun _ h7 => some ((), h7))))
set_option maxHeartbeats 4000000 in
set_option maxRecDepth 100000 in
theorem t_X5_leave_b35 {p : Program} {l : Launch} {e : Env} {s : State} {m : MethodId} {args : Array Value} {below : List Frame} {meth : Method} {c : Code} {G : GG} {r1 : Nat} {res : Unit × PH} (C : cx p s m args meth c G RX5 cX5_leave 4 none) (hr1 : kd r1 = 5) {v2 : Int32} {v3 : Int32} {s0 : Int32} {h : PH} {ls : Array Slot} (hl : lv_has ls 4 [(0, .ref (G.2.2.2.2 110)), (1, .ref (G.2.2.2.2 r1)), (2, .int v2), (3, .int v3)]) (hK : f_X5_leave_b35 r1 v2 v3 s0 h = some res) : WW p l e 1 s m args below meth c G h (MQ below (QV G res) args s 0 0 (Ar G)) (F0 m 35 ls [.int s0, .ref (G.2.2.2.2 r1)]) := by
  unfold f_X5_leave_b35 at hK
  refine q_dup2 C dX5_leave_35 rfl rfl ?_
  obtain ⟨x4, hx4, hK⟩ := rd_so hK
  refine q_iald C hr1 hx4 dX5_leave_36 ?_
  refine q_iconst C (v := 1) dX5_leave_37 (by decide) ?_
  refine q_iadd C dX5_leave_38 ?_
  obtain ⟨h5, hh5, hK⟩ := wr_so hK
  refine q_iast C hr1 hh5 dX5_leave_39 ?_
  refine q_aload_n C dX5_leave_40 rfl (lv_at hl 0 rfl) ?_
  refine g_X5_watched C kd_110 w_fl_X5_69 dX5_leave_41 ?_
  refine q_iload_n C dX5_leave_44 rfl (lv_at hl 2 rfl) ?_
  refine q_icmp_ne C dX5_leave_45 (tgt := 67) (by decide) (fun hc => ?_) (fun hc => ?_)
  · replace hK := if_ne hc hK
    refine q_aload_n C dX5_leave_67 rfl (lv_at hl 0 rfl) ?_
    refine q_aload_n C dX5_leave_68 rfl (lv_at hl 1 rfl) ?_
    refine q_iload_n C dX5_leave_69 rfl (lv_at hl 2 rfl) ?_
    obtain ⟨r6, h7, hfr6, hK⟩ := bd_so hK
    refine q_callVv C s_X5_empty w_ml_X5_149 (c_X5_empty l G hfr6) kd_110 rfl (by decide) (ce_4 kd_110) (by decide) hl.1 rfl rfl (Nat.le_of_ble_eq_true rfl) dX5_leave_70 ?_
    cases hK
    exact q_vret C dX5_leave_73
  · replace hK := if_po hc hK
    refine q_aload_n C dX5_leave_48 rfl (lv_at hl 0 rfl) ?_
    refine q_iload_n C dX5_leave_49 rfl (lv_at hl 3 rfl) ?_
    refine q_if_eq C dX5_leave_50 (tgt := 57) (by decide) (fun hc => ?_) (fun hc => ?_)
    · replace hK := if_po hc hK
      refine q_iconst C (v := 2) dX5_leave_57 (by decide) ?_
      exact t_X5_leave_b58 C hr1 (lv_sub hl [0, 1, 2] rfl) hK
    · replace hK := if_ne hc hK
      refine q_iconst C (v := 1) dX5_leave_53 (by decide) ?_
      refine q_goto C dX5_leave_54 (tgt := 58) (by decide) ?_
      exact t_X5_leave_b58 C hr1 (lv_sub hl [0, 1, 2] rfl) hK
def f_X5_leave (r1 : Nat) (h : PH) : Option (Unit × PH) := gd r1 5 (rd h r1 ((0 : Int32) + ((h.1 110 2) - (1 : Int32))) (fun x1 => if x1 = 0 then some ((), h) else bd (f_X5_isGood r1 ((h.1 110 2) - (1 : Int32)) h) (fun r2 h3 => if r2 = 0 then f_X5_leave_b35 r1 ((h.1 110 2) - (1 : Int32)) r2 (73 : Int32) h3 else f_X5_leave_b35 r1 ((h.1 110 2) - (1 : Int32)) r2 (72 : Int32) h3)))
set_option maxHeartbeats 4000000 in
set_option maxRecDepth 100000 in
theorem c_X5_leave (l : Launch) (G : GG) {r1 : Nat} {h : PH} {res : Unit × PH} (hF : f_X5_leave r1 h = some res) : MV l G yX5_leave cX5_leave 4 1 [.ref (G.2.2.2.2 110), .ref (G.2.2.2.2 r1)] h res := by
  unfold f_X5_leave at hF
  obtain ⟨hr1, hF⟩ := gd_so hF
  refine MV_of (by decide +kernel) (Nat.le_of_ble_eq_true rfl) ?_
  intro p e s m args below meth c ls C hl
  have hK := hF
  clear hF
  have hl : lv_has ls 4 [(0, .ref (G.2.2.2.2 110)), (1, .ref (G.2.2.2.2 r1))] := hl
  have C : cx p s m args meth c G RX5 cX5_leave 4 none := C
  refine q_aload_n C dX5_leave_0 rfl (lv_at hl 0 rfl) ?_
  refine g_X5_cells C kd_110 w_fl_X5_13 dX5_leave_1 ?_
  refine q_iconst C (v := 1) dX5_leave_4 (by decide) ?_
  refine q_isub C dX5_leave_5 ?_
  refine q_istore_n C dX5_leave_6 rfl hl (by decide) (lv2 := [(2, .int _), (0, .ref _), (1, .ref _)]) rfl (fun ls hl => ?_)
  refine q_aload_n C dX5_leave_7 rfl (lv_at hl 2 rfl) ?_
  refine q_iconst C (v := 0) dX5_leave_8 (by decide) ?_
  refine q_iload_n C dX5_leave_9 rfl (lv_at hl 0 rfl) ?_
  refine q_iadd C dX5_leave_10 ?_
  obtain ⟨x1, hx1, hK⟩ := rd_so hK
  refine q_iald C hr1 hx1 dX5_leave_11 ?_
  refine q_if_ne C dX5_leave_12 (tgt := 16) (by decide) (fun hc => ?_) (fun hc => ?_)
  · replace hK := if_ne hc hK
    refine q_aload_n C dX5_leave_16 rfl (lv_at hl 1 rfl) ?_
    refine q_aload_n C dX5_leave_17 rfl (lv_at hl 2 rfl) ?_
    refine q_iload_n C dX5_leave_18 rfl (lv_at hl 0 rfl) ?_
    obtain ⟨r2, h3, hfr2, hK⟩ := bd_so hK
    refine q_callVi C s_X5_isGood w_ml_X5_142 (c_X5_isGood l G hfr2) kd_110 rfl (by decide) (ce_4 kd_110) (by decide) hl.1 rfl rfl (Nat.le_of_ble_eq_true rfl) dX5_leave_19 ?_
    refine q_istore_n C dX5_leave_22 rfl hl (by decide) (lv2 := [(3, .int _), (2, .int _), (0, .ref _), (1, .ref _)]) rfl (fun ls hl => ?_)
    refine q_aload_n C dX5_leave_23 rfl (lv_at hl 3 rfl) ?_
    refine q_iload_n C dX5_leave_24 rfl (lv_at hl 0 rfl) ?_
    refine q_if_eq C dX5_leave_25 (tgt := 33) (by decide) (fun hc => ?_) (fun hc => ?_)
    · replace hK := if_po hc hK
      refine q_bipush C (v := 73) dX5_leave_33 (by decide) ?_
      exact t_X5_leave_b35 C hr1 (lv_sub hl [2, 3, 1, 0] rfl) hK
    · replace hK := if_ne hc hK
      refine q_bipush C (v := 72) dX5_leave_28 (by decide) ?_
      refine q_goto C dX5_leave_30 (tgt := 35) (by decide) ?_
      exact t_X5_leave_b35 C hr1 (lv_sub hl [2, 3, 1, 0] rfl) hK
  · replace hK := if_po hc hK
    cases hK
    exact q_vret C dX5_leave_15
theorem s_X5_leave : sv yX5_leave cX5_leave 4 none 1 := ⟨w_co_X5_leave, w_im_X5_leave, w_se_X5_leave, w_in_X5, by decide +kernel, by decide⟩
def f_X5_slipOn_b7 (r1 : Nat) : Nat → Int32 → PH → Option (Unit × PH)
  | 0, _, _ => none
  | n + 1, v2, h => if v2 ≤ 0 then wr h r1 (54 : Int32) (0 : Int32) (fun h1 => some ((), h1)) else rd h r1 (((54 : Int32) + v2) - (1 : Int32)) (fun x2 => wr h r1 ((54 : Int32) + v2) x2 (fun h3 => (f_X5_slipOn_b7 r1 n) (v2 + -1) h3))
set_option maxHeartbeats 4000000 in
set_option maxRecDepth 100000 in
theorem t_X5_slipOn_b7 {p : Program} {l : Launch} {e : Env} {s : State} {m : MethodId} {args : Array Value} {below : List Frame} {meth : Method} {c : Code} {G : GG} {r1 : Nat} {res : Unit × PH} (C : cx p s m args meth c G RX5 cX5_slipOn 3 none) (hr1 : kd r1 = 5) (n : Nat) : ∀ (v2 : Int32) (h : PH) (ls : Array Slot), lv_has ls 3 [(1, .ref (G.2.2.2.2 r1)), (2, .int v2)] → f_X5_slipOn_b7 r1 n v2 h = some res → WW p l e 0 s m args below meth c G h (MQ below (QV G res) args s 0 0 (Ar G)) (F0 m 7 ls []) := by
  induction n with
  | zero => intro v2 h ls hl hK; cases hK
  | succ n ih =>
    intro v2 h ls hl hK
    unfold f_X5_slipOn_b7 at hK
    refine q_iload_n C dX5_slipOn_7 rfl (lv_at hl 1 rfl) ?_
    refine q_if_le C dX5_slipOn_8 (tgt := 31) (by decide) (fun hc => ?_) (fun hc => ?_)
    · replace hK := if_po hc hK
      refine q_aload_n C dX5_slipOn_31 rfl (lv_at hl 0 rfl) ?_
      refine q_bipush C (v := 54) dX5_slipOn_32 (by decide) ?_
      refine q_iconst C (v := 0) dX5_slipOn_34 (by decide) ?_
      obtain ⟨h1, hh1, hK⟩ := wr_so hK
      refine q_iast C hr1 hh1 dX5_slipOn_35 ?_
      cases hK
      exact q_vret C dX5_slipOn_36
    · replace hK := if_ne hc hK
      refine q_aload_n C dX5_slipOn_11 rfl (lv_at hl 0 rfl) ?_
      refine q_bipush C (v := 54) dX5_slipOn_12 (by decide) ?_
      refine q_iload_n C dX5_slipOn_14 rfl (lv_at hl 1 rfl) ?_
      refine q_iadd C dX5_slipOn_15 ?_
      refine q_aload_n C dX5_slipOn_16 rfl (lv_at hl 0 rfl) ?_
      refine q_bipush C (v := 54) dX5_slipOn_17 (by decide) ?_
      refine q_iload_n C dX5_slipOn_19 rfl (lv_at hl 1 rfl) ?_
      refine q_iadd C dX5_slipOn_20 ?_
      refine q_iconst C (v := 1) dX5_slipOn_21 (by decide) ?_
      refine q_isub C dX5_slipOn_22 ?_
      obtain ⟨x2, hx2, hK⟩ := rd_so hK
      refine q_iald C hr1 hx2 dX5_slipOn_23 ?_
      obtain ⟨h3, hh3, hK⟩ := wr_so hK
      refine q_iast C hr1 hh3 dX5_slipOn_24 ?_
      refine q_iinc C dX5_slipOn_25 hl (j := 1) (v := (v2 + -1)) rfl rfl (by decide) (lv2 := [(2, .int _), (1, .ref _)]) rfl (fun ls hl => ?_)
      refine q_goto C dX5_slipOn_28 (tgt := 7) (by decide) ?_
      exact ih _ _ _ (lv_sub hl [1, 0] rfl) hK
def f_X5_slipOn (r1 : Nat) (h : PH) : Option (Unit × PH) := gd r1 5 (f_X5_slipOn_b7 r1 200 ((h.1 110 2) - (1 : Int32)) h)
set_option maxHeartbeats 4000000 in
set_option maxRecDepth 100000 in
theorem c_X5_slipOn (l : Launch) (G : GG) {r1 : Nat} {h : PH} {res : Unit × PH} (hF : f_X5_slipOn r1 h = some res) : MV l G yX5_slipOn cX5_slipOn 3 0 [.ref (G.2.2.2.2 110), .ref (G.2.2.2.2 r1)] h res := by
  unfold f_X5_slipOn at hF
  obtain ⟨hr1, hF⟩ := gd_so hF
  refine MV_of (by decide +kernel) (Nat.le_of_ble_eq_true rfl) ?_
  intro p e s m args below meth c ls C hl
  have hK := hF
  clear hF
  have hl : lv_has ls 3 [(0, .ref (G.2.2.2.2 110)), (1, .ref (G.2.2.2.2 r1))] := hl
  have C : cx p s m args meth c G RX5 cX5_slipOn 3 none := C
  refine q_aload_n C dX5_slipOn_0 rfl (lv_at hl 0 rfl) ?_
  refine g_X5_cells C kd_110 w_fl_X5_13 dX5_slipOn_1 ?_
  refine q_iconst C (v := 1) dX5_slipOn_4 (by decide) ?_
  refine q_isub C dX5_slipOn_5 ?_
  refine q_istore_n C dX5_slipOn_6 rfl hl (by decide) (lv2 := [(2, .int _), (0, .ref _), (1, .ref _)]) rfl (fun ls hl => ?_)
  exact t_X5_slipOn_b7 C hr1 200 _ _ _ (lv_sub hl [2, 0] rfl) hK
theorem s_X5_slipOn : sv yX5_slipOn cX5_slipOn 3 none 1 := ⟨w_co_X5_slipOn, w_im_X5_slipOn, w_se_X5_slipOn, w_in_X5, by decide +kernel, by decide⟩
def f_X5_moveOn_b126 (r1 : Nat) : Nat → Int32 → PH → Option (Unit × PH)
  | 0, _, _ => none
  | n + 1, v2, h => rd h r1 (78 : Int32) (fun x13 => if x13 ≤ v2 then some ((), h) else rd h r1 (((79 : Int32) + v2) + (1 : Int32)) (fun x14 => wr h r1 ((79 : Int32) + v2) x14 (fun h15 => (f_X5_moveOn_b126 r1 n) (v2 + 1) h15)))
set_option maxHeartbeats 4000000 in
set_option maxRecDepth 100000 in
theorem t_X5_moveOn_b126 {p : Program} {l : Launch} {e : Env} {s : State} {m : MethodId} {args : Array Value} {below : List Frame} {meth : Method} {c : Code} {G : GG} {r1 : Nat} {res : Unit × PH} (C : cx p s m args meth c G RX5 cX5_moveOn 4 none) (hr1 : kd r1 = 5) (n : Nat) : ∀ (v2 : Int32) (h : PH) (ls : Array Slot), lv_has ls 4 [(1, .ref (G.2.2.2.2 r1)), (2, .int v2)] → f_X5_moveOn_b126 r1 n v2 h = some res → WW p l e 1 s m args below meth c G h (MQ below (QV G res) args s 0 0 (Ar G)) (F0 m 126 ls []) := by
  induction n with
  | zero => intro v2 h ls hl hK; cases hK
  | succ n ih =>
    intro v2 h ls hl hK
    unfold f_X5_moveOn_b126 at hK
    refine q_iload_n C dX5_moveOn_126 rfl (lv_at hl 1 rfl) ?_
    refine q_aload_n C dX5_moveOn_127 rfl (lv_at hl 0 rfl) ?_
    refine q_bipush C (v := 78) dX5_moveOn_128 (by decide) ?_
    obtain ⟨x13, hx13, hK⟩ := rd_so hK
    refine q_iald C hr1 hx13 dX5_moveOn_130 ?_
    refine q_icmp_ge C dX5_moveOn_131 (tgt := 154) (by decide) (fun hc => ?_) (fun hc => ?_)
    · replace hK := if_po hc hK
      cases hK
      exact q_vret C dX5_moveOn_154
    · replace hK := if_ne hc hK
      refine q_aload_n C dX5_moveOn_134 rfl (lv_at hl 0 rfl) ?_
      refine q_bipush C (v := 79) dX5_moveOn_135 (by decide) ?_
      refine q_iload_n C dX5_moveOn_137 rfl (lv_at hl 1 rfl) ?_
      refine q_iadd C dX5_moveOn_138 ?_
      refine q_aload_n C dX5_moveOn_139 rfl (lv_at hl 0 rfl) ?_
      refine q_bipush C (v := 79) dX5_moveOn_140 (by decide) ?_
      refine q_iload_n C dX5_moveOn_142 rfl (lv_at hl 1 rfl) ?_
      refine q_iadd C dX5_moveOn_143 ?_
      refine q_iconst C (v := 1) dX5_moveOn_144 (by decide) ?_
      refine q_iadd C dX5_moveOn_145 ?_
      obtain ⟨x14, hx14, hK⟩ := rd_so hK
      refine q_iald C hr1 hx14 dX5_moveOn_146 ?_
      obtain ⟨h15, hh15, hK⟩ := wr_so hK
      refine q_iast C hr1 hh15 dX5_moveOn_147 ?_
      refine q_iinc C dX5_moveOn_148 hl (j := 1) (v := (v2 + 1)) rfl rfl (by decide) (lv2 := [(2, .int _), (1, .ref _)]) rfl (fun ls hl => ?_)
      refine q_goto C dX5_moveOn_151 (tgt := 126) (by decide) ?_
      exact ih _ _ _ (lv_sub hl [1, 0] rfl) hK
def f_X5_moveOn_b115 (r1 : Nat) (s0 : Int32) (s1 : Int32) (h : PH) : Option (Unit × PH) := wr h r1 s1 s0 (fun h10 => rd h10 r1 (78 : Int32) (fun x11 => wr h10 r1 (78 : Int32) (x11 - (1 : Int32)) (fun h12 => f_X5_moveOn_b126 r1 200 (0 : Int32) h12)))
set_option maxHeartbeats 4000000 in
set_option maxRecDepth 100000 in
theorem t_X5_moveOn_b115 {p : Program} {l : Launch} {e : Env} {s : State} {m : MethodId} {args : Array Value} {below : List Frame} {meth : Method} {c : Code} {G : GG} {r1 : Nat} {res : Unit × PH} (C : cx p s m args meth c G RX5 cX5_moveOn 4 none) (hr1 : kd r1 = 5) {s0 : Int32} {s1 : Int32} {h : PH} {ls : Array Slot} (hl : lv_has ls 4 [(1, .ref (G.2.2.2.2 r1))]) (hK : f_X5_moveOn_b115 r1 s0 s1 h = some res) : WW p l e 1 s m args below meth c G h (MQ below (QV G res) args s 0 0 (Ar G)) (F0 m 115 ls [.int s0, .int s1, .ref (G.2.2.2.2 r1)]) := by
  unfold f_X5_moveOn_b115 at hK
  obtain ⟨h10, hh10, hK⟩ := wr_so hK
  refine q_iast C hr1 hh10 dX5_moveOn_115 ?_
  refine q_aload_n C dX5_moveOn_116 rfl (lv_at hl 0 rfl) ?_
  refine q_bipush C (v := 78) dX5_moveOn_117 (by decide) ?_
  refine q_dup2 C dX5_moveOn_119 rfl rfl ?_
  obtain ⟨x11, hx11, hK⟩ := rd_so hK
  refine q_iald C hr1 hx11 dX5_moveOn_120 ?_
  refine q_iconst C (v := 1) dX5_moveOn_121 (by decide) ?_
  refine q_isub C dX5_moveOn_122 ?_
  obtain ⟨h12, hh12, hK⟩ := wr_so hK
  refine q_iast C hr1 hh12 dX5_moveOn_123 ?_
  refine q_iconst C (v := 0) dX5_moveOn_124 (by decide) ?_
  refine q_istore_n C dX5_moveOn_125 rfl hl (by decide) (lv2 := [(2, .int _), (1, .ref _)]) rfl (fun ls hl => ?_)
  exact t_X5_moveOn_b126 C hr1 200 _ _ _ (lv_sub hl [1, 0] rfl) hK
def f_X5_moveOn_b98 (r1 : Nat) (s0 : Int32) (s1 : Int32) (h : PH) : Option (Unit × PH) := wr h r1 s1 s0 (fun h8 => rd h8 r1 (79 : Int32) (fun x9 => if x9 = (2 : Int32) then f_X5_moveOn_b115 r1 (1 : Int32) (45 : Int32) h8 else f_X5_moveOn_b115 r1 (0 : Int32) (45 : Int32) h8))
set_option maxHeartbeats 4000000 in
set_option maxRecDepth 100000 in
theorem t_X5_moveOn_b98 {p : Program} {l : Launch} {e : Env} {s : State} {m : MethodId} {args : Array Value} {below : List Frame} {meth : Method} {c : Code} {G : GG} {r1 : Nat} {res : Unit × PH} (C : cx p s m args meth c G RX5 cX5_moveOn 4 none) (hr1 : kd r1 = 5) {s0 : Int32} {s1 : Int32} {h : PH} {ls : Array Slot} (hl : lv_has ls 4 [(1, .ref (G.2.2.2.2 r1))]) (hK : f_X5_moveOn_b98 r1 s0 s1 h = some res) : WW p l e 1 s m args below meth c G h (MQ below (QV G res) args s 0 0 (Ar G)) (F0 m 98 ls [.int s0, .int s1, .ref (G.2.2.2.2 r1)]) := by
  unfold f_X5_moveOn_b98 at hK
  obtain ⟨h8, hh8, hK⟩ := wr_so hK
  refine q_iast C hr1 hh8 dX5_moveOn_98 ?_
  refine q_aload_n C dX5_moveOn_99 rfl (lv_at hl 0 rfl) ?_
  refine q_bipush C (v := 45) dX5_moveOn_100 (by decide) ?_
  refine q_aload_n C dX5_moveOn_102 rfl (lv_at hl 0 rfl) ?_
  refine q_bipush C (v := 79) dX5_moveOn_103 (by decide) ?_
  obtain ⟨x9, hx9, hK⟩ := rd_so hK
  refine q_iald C hr1 hx9 dX5_moveOn_105 ?_
  refine q_iconst C (v := 2) dX5_moveOn_106 (by decide) ?_
  refine q_icmp_ne C dX5_moveOn_107 (tgt := 114) (by decide) (fun hc => ?_) (fun hc => ?_)
  · replace hK := if_ne hc hK
    refine q_iconst C (v := 0) dX5_moveOn_114 (by decide) ?_
    exact t_X5_moveOn_b115 C hr1 (lv_sub hl [0] rfl) hK
  · replace hK := if_po hc hK
    refine q_iconst C (v := 1) dX5_moveOn_110 (by decide) ?_
    refine q_goto C dX5_moveOn_111 (tgt := 115) (by decide) ?_
    exact t_X5_moveOn_b115 C hr1 (lv_sub hl [0] rfl) hK
def f_X5_moveOn_b73 (r1 : Nat) (s0 : Int32) (s1 : Int32) (h : PH) : Option (Unit × PH) := st h 110 22 (s1 + s0) (fun h5 => rd h5 r1 (78 : Int32) (fun x6 => if x6 ≤ 0 then some ((), h5) else rd h5 r1 (79 : Int32) (fun x7 => if x7 ≤ 0 then f_X5_moveOn_b98 r1 (0 : Int32) (0 : Int32) h5 else f_X5_moveOn_b98 r1 (1 : Int32) (0 : Int32) h5)))
set_option maxHeartbeats 4000000 in
set_option maxRecDepth 100000 in
theorem t_X5_moveOn_b73 {p : Program} {l : Launch} {e : Env} {s : State} {m : MethodId} {args : Array Value} {below : List Frame} {meth : Method} {c : Code} {G : GG} {r1 : Nat} {res : Unit × PH} (C : cx p s m args meth c G RX5 cX5_moveOn 4 none) (hr1 : kd r1 = 5) {s0 : Int32} {s1 : Int32} {h : PH} {ls : Array Slot} (hl : lv_has ls 4 [(1, .ref (G.2.2.2.2 r1))]) (hK : f_X5_moveOn_b73 r1 s0 s1 h = some res) : WW p l e 1 s m args below meth c G h (MQ below (QV G res) args s 0 0 (Ar G)) (F0 m 73 ls [.int s0, .int s1, .ref (G.2.2.2.2 110)]) := by
  unfold f_X5_moveOn_b73 at hK
  refine q_iadd C dX5_moveOn_73 ?_
  obtain ⟨h5, hh5, hK⟩ := st_so hK
  refine p_X5_watched C kd_110 w_fl_X5_69 hh5 dX5_moveOn_74 ?_
  refine q_aload_n C dX5_moveOn_77 rfl (lv_at hl 0 rfl) ?_
  refine q_bipush C (v := 78) dX5_moveOn_78 (by decide) ?_
  obtain ⟨x6, hx6, hK⟩ := rd_so hK
  refine q_iald C hr1 hx6 dX5_moveOn_80 ?_
  refine q_if_le C dX5_moveOn_81 (tgt := 154) (by decide) (fun hc => ?_) (fun hc => ?_)
  · replace hK := if_po hc hK
    cases hK
    exact q_vret C dX5_moveOn_154
  · replace hK := if_ne hc hK
    refine q_aload_n C dX5_moveOn_84 rfl (lv_at hl 0 rfl) ?_
    refine q_iconst C (v := 0) dX5_moveOn_85 (by decide) ?_
    refine q_aload_n C dX5_moveOn_86 rfl (lv_at hl 0 rfl) ?_
    refine q_bipush C (v := 79) dX5_moveOn_87 (by decide) ?_
    obtain ⟨x7, hx7, hK⟩ := rd_so hK
    refine q_iald C hr1 hx7 dX5_moveOn_89 ?_
    refine q_if_le C dX5_moveOn_90 (tgt := 97) (by decide) (fun hc => ?_) (fun hc => ?_)
    · replace hK := if_po hc hK
      refine q_iconst C (v := 0) dX5_moveOn_97 (by decide) ?_
      exact t_X5_moveOn_b98 C hr1 (lv_sub hl [0] rfl) hK
    · replace hK := if_ne hc hK
      refine q_iconst C (v := 1) dX5_moveOn_93 (by decide) ?_
      refine q_goto C dX5_moveOn_94 (tgt := 98) (by decide) ?_
      exact t_X5_moveOn_b98 C hr1 (lv_sub hl [0] rfl) hK
def f_X5_moveOn_b13 (r1 : Nat) (rec7 : Int32 → PH → Option (Unit × PH)) : Nat → Int32 → Int32 → PH → Option (Unit × PH)
  | 0, _, _, _ => none
  | n + 1, v2, v3, h => if (54 : Int32) ≤ v3 then rec7 (v2 + -1) h else rd h r1 ((v3 + v2) - (1 : Int32)) (fun x16 => wr h r1 (v3 + v2) x16 (fun h17 => (f_X5_moveOn_b13 r1 rec7 n) v2 (v3 + 9) h17))
set_option maxHeartbeats 4000000 in
set_option maxRecDepth 100000 in
theorem t_X5_moveOn_b13 {p : Program} {l : Launch} {e : Env} {s : State} {m : MethodId} {args : Array Value} {below : List Frame} {meth : Method} {c : Code} {G : GG} {r1 : Nat} {res : Unit × PH} (C : cx p s m args meth c G RX5 cX5_moveOn 4 none) (hr1 : kd r1 = 5) {rec7 : Int32 → PH → Option (Unit × PH)} (hrec7 : ∀ (v2 : Int32) (h : PH) (ls : Array Slot), lv_has ls 4 [(0, .ref (G.2.2.2.2 110)), (1, .ref (G.2.2.2.2 r1)), (2, .int v2)] → rec7 v2 h = some res → WW p l e 1 s m args below meth c G h (MQ below (QV G res) args s 0 0 (Ar G)) (F0 m 7 ls [])) (n : Nat) : ∀ (v2 : Int32) (v3 : Int32) (h : PH) (ls : Array Slot), lv_has ls 4 [(0, .ref (G.2.2.2.2 110)), (1, .ref (G.2.2.2.2 r1)), (2, .int v2), (3, .int v3)] → f_X5_moveOn_b13 r1 rec7 n v2 v3 h = some res → WW p l e 1 s m args below meth c G h (MQ below (QV G res) args s 0 0 (Ar G)) (F0 m 13 ls []) := by
  induction n with
  | zero => intro v2 v3 h ls hl hK; cases hK
  | succ n ih =>
    intro v2 v3 h ls hl hK
    unfold f_X5_moveOn_b13 at hK
    refine q_iload_n C dX5_moveOn_13 rfl (lv_at hl 3 rfl) ?_
    refine q_bipush C (v := 54) dX5_moveOn_14 (by decide) ?_
    refine q_icmp_ge C dX5_moveOn_16 (tgt := 37) (by decide) (fun hc => ?_) (fun hc => ?_)
    · replace hK := if_po hc hK
      refine q_iinc C dX5_moveOn_37 hl (j := 2) (v := (v2 + -1)) rfl rfl (by decide) (lv2 := [(2, .int _), (0, .ref _), (1, .ref _), (3, .int _)]) rfl (fun ls hl => ?_)
      refine q_goto C dX5_moveOn_40 (tgt := 7) (by decide) ?_
      exact hrec7 _ _ _ (lv_sub hl [1, 2, 0] rfl) hK
    · replace hK := if_ne hc hK
      refine q_aload_n C dX5_moveOn_19 rfl (lv_at hl 1 rfl) ?_
      refine q_iload_n C dX5_moveOn_20 rfl (lv_at hl 3 rfl) ?_
      refine q_iload_n C dX5_moveOn_21 rfl (lv_at hl 2 rfl) ?_
      refine q_iadd C dX5_moveOn_22 ?_
      refine q_aload_n C dX5_moveOn_23 rfl (lv_at hl 1 rfl) ?_
      refine q_iload_n C dX5_moveOn_24 rfl (lv_at hl 3 rfl) ?_
      refine q_iload_n C dX5_moveOn_25 rfl (lv_at hl 2 rfl) ?_
      refine q_iadd C dX5_moveOn_26 ?_
      refine q_iconst C (v := 1) dX5_moveOn_27 (by decide) ?_
      refine q_isub C dX5_moveOn_28 ?_
      obtain ⟨x16, hx16, hK⟩ := rd_so hK
      refine q_iald C hr1 hx16 dX5_moveOn_29 ?_
      obtain ⟨h17, hh17, hK⟩ := wr_so hK
      refine q_iast C hr1 hh17 dX5_moveOn_30 ?_
      refine q_iinc C dX5_moveOn_31 hl (j := 3) (v := (v3 + 9)) rfl rfl (by decide) (lv2 := [(3, .int _), (0, .ref _), (1, .ref _), (2, .int _)]) rfl (fun ls hl => ?_)
      refine q_goto C dX5_moveOn_34 (tgt := 13) (by decide) ?_
      exact ih _ _ _ _ (lv_sub hl [1, 2, 3, 0] rfl) hK
def f_X5_moveOn_b7 (r1 : Nat) : Nat → Int32 → PH → Option (Unit × PH)
  | 0, _, _ => none
  | n + 1, v2, h => if v2 ≤ 0 then bd (f_X5_slipOn r1 h) (fun _ h2 => bd (f_X5_empty r1 (0 : Int32) h2) (fun _ h4 => if (h4.1 110 22) = (-9 : Int32) then f_X5_moveOn_b73 r1 (0 : Int32) (h4.1 110 22) h4 else f_X5_moveOn_b73 r1 (1 : Int32) (h4.1 110 22) h4)) else f_X5_moveOn_b13 r1 (f_X5_moveOn_b7 r1 n) 200 v2 (0 : Int32) h
set_option maxHeartbeats 4000000 in
set_option maxRecDepth 100000 in
theorem t_X5_moveOn_b7 {p : Program} {l : Launch} {e : Env} {s : State} {m : MethodId} {args : Array Value} {below : List Frame} {meth : Method} {c : Code} {G : GG} {r1 : Nat} {res : Unit × PH} (C : cx p s m args meth c G RX5 cX5_moveOn 4 none) (hr1 : kd r1 = 5) (n : Nat) : ∀ (v2 : Int32) (h : PH) (ls : Array Slot), lv_has ls 4 [(0, .ref (G.2.2.2.2 110)), (1, .ref (G.2.2.2.2 r1)), (2, .int v2)] → f_X5_moveOn_b7 r1 n v2 h = some res → WW p l e 1 s m args below meth c G h (MQ below (QV G res) args s 0 0 (Ar G)) (F0 m 7 ls []) := by
  induction n with
  | zero => intro v2 h ls hl hK; cases hK
  | succ n ih =>
    intro v2 h ls hl hK
    unfold f_X5_moveOn_b7 at hK
    refine q_iload_n C dX5_moveOn_7 rfl (lv_at hl 2 rfl) ?_
    refine q_if_le C dX5_moveOn_8 (tgt := 43) (by decide) (fun hc => ?_) (fun hc => ?_)
    · replace hK := if_po hc hK
      refine q_aload_n C dX5_moveOn_43 rfl (lv_at hl 0 rfl) ?_
      refine q_aload_n C dX5_moveOn_44 rfl (lv_at hl 1 rfl) ?_
      obtain ⟨r1, h2, hfr1, hK⟩ := bd_so hK
      refine q_callVv C s_X5_slipOn w_ml_X5_153 (c_X5_slipOn l G hfr1) kd_110 rfl (by decide) (ce_4 kd_110) (by decide) hl.1 rfl rfl (Nat.le_of_ble_eq_true rfl) dX5_moveOn_45 ?_
      refine q_aload_n C dX5_moveOn_48 rfl (lv_at hl 0 rfl) ?_
      refine q_aload_n C dX5_moveOn_49 rfl (lv_at hl 1 rfl) ?_
      refine q_iconst C (v := 0) dX5_moveOn_50 (by decide) ?_
      obtain ⟨r3, h4, hfr3, hK⟩ := bd_so hK
      refine q_callVv C s_X5_empty w_ml_X5_149 (c_X5_empty l G hfr3) kd_110 rfl (by decide) (ce_4 kd_110) (by decide) hl.1 rfl rfl (Nat.le_of_ble_eq_true rfl) dX5_moveOn_51 ?_
      refine q_aload_n C dX5_moveOn_54 rfl (lv_at hl 0 rfl) ?_
      refine q_dup C dX5_moveOn_55 rfl ?_
      refine g_X5_watched C kd_110 w_fl_X5_69 dX5_moveOn_56 ?_
      refine q_aload_n C dX5_moveOn_59 rfl (lv_at hl 0 rfl) ?_
      refine g_X5_watched C kd_110 w_fl_X5_69 dX5_moveOn_60 ?_
      refine q_bipush C (v := -9) dX5_moveOn_63 (by decide) ?_
      refine q_icmp_ne C dX5_moveOn_65 (tgt := 72) (by decide) (fun hc => ?_) (fun hc => ?_)
      · replace hK := if_ne hc hK
        refine q_iconst C (v := 1) dX5_moveOn_72 (by decide) ?_
        exact t_X5_moveOn_b73 C hr1 (lv_sub hl [1] rfl) hK
      · replace hK := if_po hc hK
        refine q_iconst C (v := 0) dX5_moveOn_68 (by decide) ?_
        refine q_goto C dX5_moveOn_69 (tgt := 73) (by decide) ?_
        exact t_X5_moveOn_b73 C hr1 (lv_sub hl [1] rfl) hK
    · replace hK := if_ne hc hK
      refine q_iconst C (v := 0) dX5_moveOn_11 (by decide) ?_
      refine q_istore_n C dX5_moveOn_12 rfl hl (by decide) (lv2 := [(3, .int _), (0, .ref _), (1, .ref _), (2, .int _)]) rfl (fun ls hl => ?_)
      exact t_X5_moveOn_b13 C hr1 ih 200 _ _ _ _ (lv_sub hl [1, 2, 3, 0] rfl) hK
def f_X5_moveOn (r1 : Nat) (h : PH) : Option (Unit × PH) := gd r1 5 (f_X5_moveOn_b7 r1 200 ((h.1 110 2) - (1 : Int32)) h)
set_option maxHeartbeats 4000000 in
set_option maxRecDepth 100000 in
theorem c_X5_moveOn (l : Launch) (G : GG) {r1 : Nat} {h : PH} {res : Unit × PH} (hF : f_X5_moveOn r1 h = some res) : MV l G yX5_moveOn cX5_moveOn 4 1 [.ref (G.2.2.2.2 110), .ref (G.2.2.2.2 r1)] h res := by
  unfold f_X5_moveOn at hF
  obtain ⟨hr1, hF⟩ := gd_so hF
  refine MV_of (by decide +kernel) (Nat.le_of_ble_eq_true rfl) ?_
  intro p e s m args below meth c ls C hl
  have hK := hF
  clear hF
  have hl : lv_has ls 4 [(0, .ref (G.2.2.2.2 110)), (1, .ref (G.2.2.2.2 r1))] := hl
  have C : cx p s m args meth c G RX5 cX5_moveOn 4 none := C
  refine q_aload_n C dX5_moveOn_0 rfl (lv_at hl 0 rfl) ?_
  refine g_X5_cells C kd_110 w_fl_X5_13 dX5_moveOn_1 ?_
  refine q_iconst C (v := 1) dX5_moveOn_4 (by decide) ?_
  refine q_isub C dX5_moveOn_5 ?_
  refine q_istore_n C dX5_moveOn_6 rfl hl (by decide) (lv2 := [(2, .int _), (0, .ref _), (1, .ref _)]) rfl (fun ls hl => ?_)
  exact t_X5_moveOn_b7 C hr1 200 _ _ _ (lv_sub hl [1, 2, 0] rfl) hK
theorem s_X5_moveOn : sv yX5_moveOn cX5_moveOn 4 none 1 := ⟨w_co_X5_moveOn, w_im_X5_moveOn, w_se_X5_moveOn, w_in_X5, by decide +kernel, by decide⟩
def f_X5_fillOn_b109 (r1 : Nat) (h : PH) : Option (Unit × PH) := rd h 112 (0 : Int32) (fun x18 => rd h r1 ((18 : Int32) + x18) (fun x19 => rd h r1 ((0 : Int32) + x18) (fun x20 => if x20 = (1 : Int32) then if x19 = (-9 : Int32) then some ((), h) else bd (f_X5_has (h.1 110 21) x19 h) (fun r21 h22 => if r21 = 0 then some ((), h22) else rd h22 r1 ((63 : Int32) + x19) (fun x23 => rd h22 r1 ((9 : Int32) + x18) (fun x24 => bd (f_X5_held (x23 + (((h22.1 110 4) - x24) / (2 : Int32))) h22) (fun r25 h26 => wr h26 r1 ((63 : Int32) + x19) r25 (fun h27 => some ((), h27)))))) else some ((), h))))
set_option maxHeartbeats 4000000 in
set_option maxRecDepth 100000 in
theorem t_X5_fillOn_b109 {p : Program} {l : Launch} {e : Env} {s : State} {m : MethodId} {args : Array Value} {below : List Frame} {meth : Method} {c : Code} {G : GG} {r1 : Nat} {res : Unit × PH} (C : cx p s m args meth c G RX5 cX5_fillOn 4 none) (hr1 : kd r1 = 5) {h : PH} {ls : Array Slot} (hl : lv_has ls 4 [(0, .ref (G.2.2.2.2 110)), (1, .ref (G.2.2.2.2 r1))]) (hK : f_X5_fillOn_b109 r1 h = some res) : WW p l e 1 s m args below meth c G h (MQ below (QV G res) args s 0 0 (Ar G)) (F0 m 109 ls []) := by
  unfold f_X5_fillOn_b109 at hK
  refine q_aload_n C dX5_fillOn_109 rfl (lv_at hl 0 rfl) ?_
  refine g_X5_places C kd_110 w_fl_X5_17 dX5_fillOn_110 ?_
  refine q_iconst C (v := 0) dX5_fillOn_113 (by decide) ?_
  obtain ⟨x18, hx18, hK⟩ := rd_so hK
  refine q_iald C kd_112 hx18 dX5_fillOn_114 ?_
  refine q_istore_n C dX5_fillOn_115 rfl hl (by decide) (lv2 := [(2, .int _), (0, .ref _), (1, .ref _)]) rfl (fun ls hl => ?_)
  refine q_aload_n C dX5_fillOn_116 rfl (lv_at hl 2 rfl) ?_
  refine q_bipush C (v := 18) dX5_fillOn_117 (by decide) ?_
  refine q_iload_n C dX5_fillOn_119 rfl (lv_at hl 0 rfl) ?_
  refine q_iadd C dX5_fillOn_120 ?_
  obtain ⟨x19, hx19, hK⟩ := rd_so hK
  refine q_iald C hr1 hx19 dX5_fillOn_121 ?_
  refine q_istore_n C dX5_fillOn_122 rfl hl (by decide) (lv2 := [(3, .int _), (2, .int _), (0, .ref _), (1, .ref _)]) rfl (fun ls hl => ?_)
  refine q_aload_n C dX5_fillOn_123 rfl (lv_at hl 3 rfl) ?_
  refine q_iconst C (v := 0) dX5_fillOn_124 (by decide) ?_
  refine q_iload_n C dX5_fillOn_125 rfl (lv_at hl 1 rfl) ?_
  refine q_iadd C dX5_fillOn_126 ?_
  obtain ⟨x20, hx20, hK⟩ := rd_so hK
  refine q_iald C hr1 hx20 dX5_fillOn_127 ?_
  refine q_iconst C (v := 1) dX5_fillOn_128 (by decide) ?_
  refine q_icmp_ne C dX5_fillOn_129 (tgt := 178) (by decide) (fun hc => ?_) (fun hc => ?_)
  · replace hK := if_ne hc hK
    cases hK
    exact q_vret C dX5_fillOn_178
  · replace hK := if_po hc hK
    refine q_iload_n C dX5_fillOn_132 rfl (lv_at hl 0 rfl) ?_
    refine q_bipush C (v := -9) dX5_fillOn_133 (by decide) ?_
    refine q_icmp_eq C dX5_fillOn_135 (tgt := 178) (by decide) (fun hc => ?_) (fun hc => ?_)
    · replace hK := if_po hc hK
      cases hK
      exact q_vret C dX5_fillOn_178
    · replace hK := if_ne hc hK
      refine q_aload_n C dX5_fillOn_138 rfl (lv_at hl 2 rfl) ?_
      refine g_X5_come C kd_110 w_fl_X5_66 dX5_fillOn_139 ?_
      refine q_iload_n C dX5_fillOn_142 rfl (lv_at hl 0 rfl) ?_
      obtain ⟨r21, h22, hfr21, hK⟩ := bd_so hK
      refine q_callSi C s_X5_has w_ml_X5_157 (c_X5_has l G hfr21) (by decide) hl.1 rfl rfl (Nat.le_of_ble_eq_true rfl) dX5_fillOn_143 ?_
      refine q_if_eq C dX5_fillOn_146 (tgt := 178) (by decide) (fun hc => ?_) (fun hc => ?_)
      · replace hK := if_po hc hK
        cases hK
        exact q_vret C dX5_fillOn_178
      · replace hK := if_ne hc hK
        refine q_aload_n C dX5_fillOn_149 rfl (lv_at hl 3 rfl) ?_
        refine q_bipush C (v := 63) dX5_fillOn_150 (by decide) ?_
        refine q_iload_n C dX5_fillOn_152 rfl (lv_at hl 0 rfl) ?_
        refine q_iadd C dX5_fillOn_153 ?_
        refine q_aload_n C dX5_fillOn_154 rfl (lv_at hl 3 rfl) ?_
        refine q_bipush C (v := 63) dX5_fillOn_155 (by decide) ?_
        refine q_iload_n C dX5_fillOn_157 rfl (lv_at hl 0 rfl) ?_
        refine q_iadd C dX5_fillOn_158 ?_
        obtain ⟨x23, hx23, hK⟩ := rd_so hK
        refine q_iald C hr1 hx23 dX5_fillOn_159 ?_
        refine q_aload_n C dX5_fillOn_160 rfl (lv_at hl 2 rfl) ?_
        refine g_X5_target C kd_110 w_fl_X5_130 dX5_fillOn_161 ?_
        refine q_aload_n C dX5_fillOn_164 rfl (lv_at hl 3 rfl) ?_
        refine q_bipush C (v := 9) dX5_fillOn_165 (by decide) ?_
        refine q_iload_n C dX5_fillOn_167 rfl (lv_at hl 1 rfl) ?_
        refine q_iadd C dX5_fillOn_168 ?_
        obtain ⟨x24, hx24, hK⟩ := rd_so hK
        refine q_iald C hr1 hx24 dX5_fillOn_169 ?_
        refine q_isub C dX5_fillOn_170 ?_
        refine q_iconst C (v := 2) dX5_fillOn_171 (by decide) ?_
        refine q_idiv C dX5_fillOn_172 (by decide) ?_
        refine q_iadd C dX5_fillOn_173 ?_
        obtain ⟨r25, h26, hfr25, hK⟩ := bd_so hK
        refine q_callSi C s_X5_held w_ml_X5_160 (c_X5_held l G hfr25) (by decide) hl.1 rfl rfl (Nat.le_of_ble_eq_true rfl) dX5_fillOn_174 ?_
        obtain ⟨h27, hh27, hK⟩ := wr_so hK
        refine q_iast C hr1 hh27 dX5_fillOn_177 ?_
        cases hK
        exact q_vret C dX5_fillOn_178
def f_X5_fillOn_b2 (r1 : Nat) : Nat → Int32 → PH → Option (Unit × PH)
  | 0, _, _ => none
  | n + 1, v2, h => if (h.1 110 2) ≤ v2 then rd h r1 (0 : Int32) (fun x1 => if x1 = (1 : Int32) then if (h.1 110 7) ≤ 0 then f_X5_fillOn_b109 r1 h else rd h r1 (71 : Int32) (fun x2 => nz (h.1 110 7) (bd (f_X5_has (h.1 110 21) (irm x2 (h.1 110 7)) h) (fun r4 h5 => if r4 = 0 then wr h5 r1 (9 : Int32) (0 : Int32) (fun h6 => wr h6 r1 (18 : Int32) (irm x2 (h.1 110 7)) (fun h7 => f_X5_fillOn_b109 r1 h7)) else rd h5 r1 ((63 : Int32) + (irm x2 (h.1 110 7))) (fun x8 => rd h5 113 (irm x2 (h.1 110 7)) (fun x9 => bd (f_X5_held (x8 + x9) h5) (fun r10 h11 => wr h11 r1 (9 : Int32) r10 (fun h12 => wr h12 r1 (18 : Int32) (irm x2 (h.1 110 7)) (fun h13 => f_X5_fillOn_b109 r1 h13)))))))) else f_X5_fillOn_b109 r1 h) else rd h r1 ((45 : Int32) + v2) (fun x14 => if x14 = (1 : Int32) then rd h r1 ((9 : Int32) + v2) (fun x15 => if x15 ≤ 0 then (f_X5_fillOn_b2 r1 n) (v2 + 1) h else rd h r1 ((9 : Int32) + v2) (fun x16 => wr h r1 ((9 : Int32) + v2) (x16 - (1 : Int32)) (fun h17 => (f_X5_fillOn_b2 r1 n) (v2 + 1) h17))) else (f_X5_fillOn_b2 r1 n) (v2 + 1) h)
set_option maxHeartbeats 4000000 in
set_option maxRecDepth 100000 in
theorem t_X5_fillOn_b2 {p : Program} {l : Launch} {e : Env} {s : State} {m : MethodId} {args : Array Value} {below : List Frame} {meth : Method} {c : Code} {G : GG} {r1 : Nat} {res : Unit × PH} (C : cx p s m args meth c G RX5 cX5_fillOn 4 none) (hr1 : kd r1 = 5) (n : Nat) : ∀ (v2 : Int32) (h : PH) (ls : Array Slot), lv_has ls 4 [(0, .ref (G.2.2.2.2 110)), (1, .ref (G.2.2.2.2 r1)), (2, .int v2)] → f_X5_fillOn_b2 r1 n v2 h = some res → WW p l e 1 s m args below meth c G h (MQ below (QV G res) args s 0 0 (Ar G)) (F0 m 2 ls []) := by
  induction n with
  | zero => intro v2 h ls hl hK; cases hK
  | succ n ih =>
    intro v2 h ls hl hK
    unfold f_X5_fillOn_b2 at hK
    refine q_iload_n C dX5_fillOn_2 rfl (lv_at hl 2 rfl) ?_
    refine q_aload_n C dX5_fillOn_3 rfl (lv_at hl 0 rfl) ?_
    refine g_X5_cells C kd_110 w_fl_X5_13 dX5_fillOn_4 ?_
    refine q_icmp_ge C dX5_fillOn_7 (tgt := 45) (by decide) (fun hc => ?_) (fun hc => ?_)
    · replace hK := if_po hc hK
      refine q_aload_n C dX5_fillOn_45 rfl (lv_at hl 1 rfl) ?_
      refine q_iconst C (v := 0) dX5_fillOn_46 (by decide) ?_
      obtain ⟨x1, hx1, hK⟩ := rd_so hK
      refine q_iald C hr1 hx1 dX5_fillOn_47 ?_
      refine q_iconst C (v := 1) dX5_fillOn_48 (by decide) ?_
      refine q_icmp_ne C dX5_fillOn_49 (tgt := 109) (by decide) (fun hc => ?_) (fun hc => ?_)
      · replace hK := if_ne hc hK
        exact t_X5_fillOn_b109 C hr1 (lv_sub hl [0, 1] rfl) hK
      · replace hK := if_po hc hK
        refine q_aload_n C dX5_fillOn_52 rfl (lv_at hl 0 rfl) ?_
        refine g_X5_valves C kd_110 w_fl_X5_76 dX5_fillOn_53 ?_
        refine q_if_le C dX5_fillOn_56 (tgt := 109) (by decide) (fun hc => ?_) (fun hc => ?_)
        · replace hK := if_po hc hK
          exact t_X5_fillOn_b109 C hr1 (lv_sub hl [0, 1] rfl) hK
        · replace hK := if_ne hc hK
          refine q_aload_n C dX5_fillOn_59 rfl (lv_at hl 1 rfl) ?_
          refine q_bipush C (v := 71) dX5_fillOn_60 (by decide) ?_
          obtain ⟨x2, hx2, hK⟩ := rd_so hK
          refine q_iald C hr1 hx2 dX5_fillOn_62 ?_
          refine q_aload_n C dX5_fillOn_63 rfl (lv_at hl 0 rfl) ?_
          refine g_X5_valves C kd_110 w_fl_X5_76 dX5_fillOn_64 ?_
          obtain ⟨hn3, hK⟩ := nz_so hK
          refine q_irem C dX5_fillOn_67 hn3 ?_
          refine q_istore_n C dX5_fillOn_68 rfl hl (by decide) (lv2 := [(2, .int _), (0, .ref _), (1, .ref _)]) rfl (fun ls hl => ?_)
          refine q_aload_n C dX5_fillOn_69 rfl (lv_at hl 2 rfl) ?_
          refine q_bipush C (v := 9) dX5_fillOn_70 (by decide) ?_
          refine q_aload_n C dX5_fillOn_72 rfl (lv_at hl 1 rfl) ?_
          refine g_X5_come C kd_110 w_fl_X5_66 dX5_fillOn_73 ?_
          refine q_iload_n C dX5_fillOn_76 rfl (lv_at hl 0 rfl) ?_
          obtain ⟨r4, h5, hfr4, hK⟩ := bd_so hK
          refine q_callSi C s_X5_has w_ml_X5_157 (c_X5_has l G hfr4) (by decide) hl.1 rfl rfl (Nat.le_of_ble_eq_true rfl) dX5_fillOn_77 ?_
          refine q_if_eq C dX5_fillOn_80 (tgt := 102) (by decide) (fun hc => ?_) (fun hc => ?_)
          · replace hK := if_po hc hK
            refine q_iconst C (v := 0) dX5_fillOn_102 (by decide) ?_
            obtain ⟨h6, hh6, hK⟩ := wr_so hK
            refine q_iast C hr1 hh6 dX5_fillOn_103 ?_
            refine q_aload_n C dX5_fillOn_104 rfl (lv_at hl 2 rfl) ?_
            refine q_bipush C (v := 18) dX5_fillOn_105 (by decide) ?_
            refine q_iload_n C dX5_fillOn_107 rfl (lv_at hl 0 rfl) ?_
            obtain ⟨h7, hh7, hK⟩ := wr_so hK
            refine q_iast C hr1 hh7 dX5_fillOn_108 ?_
            exact t_X5_fillOn_b109 C hr1 (lv_sub hl [1, 2] rfl) hK
          · replace hK := if_ne hc hK
            refine q_aload_n C dX5_fillOn_83 rfl (lv_at hl 2 rfl) ?_
            refine q_bipush C (v := 63) dX5_fillOn_84 (by decide) ?_
            refine q_iload_n C dX5_fillOn_86 rfl (lv_at hl 0 rfl) ?_
            refine q_iadd C dX5_fillOn_87 ?_
            obtain ⟨x8, hx8, hK⟩ := rd_so hK
            refine q_iald C hr1 hx8 dX5_fillOn_88 ?_
            refine q_aload_n C dX5_fillOn_89 rfl (lv_at hl 1 rfl) ?_
            refine g_X5_drift C kd_110 w_fl_X5_20 dX5_fillOn_90 ?_
            refine q_iload_n C dX5_fillOn_93 rfl (lv_at hl 0 rfl) ?_
            obtain ⟨x9, hx9, hK⟩ := rd_so hK
            refine q_iald C kd_113 hx9 dX5_fillOn_94 ?_
            refine q_iadd C dX5_fillOn_95 ?_
            obtain ⟨r10, h11, hfr10, hK⟩ := bd_so hK
            refine q_callSi C s_X5_held w_ml_X5_160 (c_X5_held l G hfr10) (by decide) hl.1 rfl rfl (Nat.le_of_ble_eq_true rfl) dX5_fillOn_96 ?_
            refine q_goto C dX5_fillOn_99 (tgt := 103) (by decide) ?_
            obtain ⟨h12, hh12, hK⟩ := wr_so hK
            refine q_iast C hr1 hh12 dX5_fillOn_103 ?_
            refine q_aload_n C dX5_fillOn_104 rfl (lv_at hl 2 rfl) ?_
            refine q_bipush C (v := 18) dX5_fillOn_105 (by decide) ?_
            refine q_iload_n C dX5_fillOn_107 rfl (lv_at hl 0 rfl) ?_
            obtain ⟨h13, hh13, hK⟩ := wr_so hK
            refine q_iast C hr1 hh13 dX5_fillOn_108 ?_
            exact t_X5_fillOn_b109 C hr1 (lv_sub hl [1, 2] rfl) hK
    · replace hK := if_ne hc hK
      refine q_aload_n C dX5_fillOn_10 rfl (lv_at hl 1 rfl) ?_
      refine q_bipush C (v := 45) dX5_fillOn_11 (by decide) ?_
      refine q_iload_n C dX5_fillOn_13 rfl (lv_at hl 2 rfl) ?_
      refine q_iadd C dX5_fillOn_14 ?_
      obtain ⟨x14, hx14, hK⟩ := rd_so hK
      refine q_iald C hr1 hx14 dX5_fillOn_15 ?_
      refine q_iconst C (v := 1) dX5_fillOn_16 (by decide) ?_
      refine q_icmp_ne C dX5_fillOn_17 (tgt := 39) (by decide) (fun hc => ?_) (fun hc => ?_)
      · replace hK := if_ne hc hK
        refine q_iinc C dX5_fillOn_39 hl (j := 2) (v := (v2 + 1)) rfl rfl (by decide) (lv2 := [(2, .int _), (0, .ref _), (1, .ref _)]) rfl (fun ls hl => ?_)
        refine q_goto C dX5_fillOn_42 (tgt := 2) (by decide) ?_
        exact ih _ _ _ (lv_sub hl [1, 2, 0] rfl) hK
      · replace hK := if_po hc hK
        refine q_aload_n C dX5_fillOn_20 rfl (lv_at hl 1 rfl) ?_
        refine q_bipush C (v := 9) dX5_fillOn_21 (by decide) ?_
        refine q_iload_n C dX5_fillOn_23 rfl (lv_at hl 2 rfl) ?_
        refine q_iadd C dX5_fillOn_24 ?_
        obtain ⟨x15, hx15, hK⟩ := rd_so hK
        refine q_iald C hr1 hx15 dX5_fillOn_25 ?_
        refine q_if_le C dX5_fillOn_26 (tgt := 39) (by decide) (fun hc => ?_) (fun hc => ?_)
        · replace hK := if_po hc hK
          refine q_iinc C dX5_fillOn_39 hl (j := 2) (v := (v2 + 1)) rfl rfl (by decide) (lv2 := [(2, .int _), (0, .ref _), (1, .ref _)]) rfl (fun ls hl => ?_)
          refine q_goto C dX5_fillOn_42 (tgt := 2) (by decide) ?_
          exact ih _ _ _ (lv_sub hl [1, 2, 0] rfl) hK
        · replace hK := if_ne hc hK
          refine q_aload_n C dX5_fillOn_29 rfl (lv_at hl 1 rfl) ?_
          refine q_bipush C (v := 9) dX5_fillOn_30 (by decide) ?_
          refine q_iload_n C dX5_fillOn_32 rfl (lv_at hl 2 rfl) ?_
          refine q_iadd C dX5_fillOn_33 ?_
          refine q_dup2 C dX5_fillOn_34 rfl rfl ?_
          obtain ⟨x16, hx16, hK⟩ := rd_so hK
          refine q_iald C hr1 hx16 dX5_fillOn_35 ?_
          refine q_iconst C (v := 1) dX5_fillOn_36 (by decide) ?_
          refine q_isub C dX5_fillOn_37 ?_
          obtain ⟨h17, hh17, hK⟩ := wr_so hK
          refine q_iast C hr1 hh17 dX5_fillOn_38 ?_
          refine q_iinc C dX5_fillOn_39 hl (j := 2) (v := (v2 + 1)) rfl rfl (by decide) (lv2 := [(2, .int _), (0, .ref _), (1, .ref _)]) rfl (fun ls hl => ?_)
          refine q_goto C dX5_fillOn_42 (tgt := 2) (by decide) ?_
          exact ih _ _ _ (lv_sub hl [1, 2, 0] rfl) hK
def f_X5_fillOn (r1 : Nat) (h : PH) : Option (Unit × PH) := gd r1 5 (f_X5_fillOn_b2 r1 200 (0 : Int32) h)
set_option maxHeartbeats 4000000 in
set_option maxRecDepth 100000 in
theorem c_X5_fillOn (l : Launch) (G : GG) {r1 : Nat} {h : PH} {res : Unit × PH} (hF : f_X5_fillOn r1 h = some res) : MV l G yX5_fillOn cX5_fillOn 4 1 [.ref (G.2.2.2.2 110), .ref (G.2.2.2.2 r1)] h res := by
  unfold f_X5_fillOn at hF
  obtain ⟨hr1, hF⟩ := gd_so hF
  refine MV_of (by decide +kernel) (Nat.le_of_ble_eq_true rfl) ?_
  intro p e s m args below meth c ls C hl
  have hK := hF
  clear hF
  have hl : lv_has ls 4 [(0, .ref (G.2.2.2.2 110)), (1, .ref (G.2.2.2.2 r1))] := hl
  have C : cx p s m args meth c G RX5 cX5_fillOn 4 none := C
  refine q_iconst C (v := 0) dX5_fillOn_0 (by decide) ?_
  refine q_istore_n C dX5_fillOn_1 rfl hl (by decide) (lv2 := [(2, .int _), (0, .ref _), (1, .ref _)]) rfl (fun ls hl => ?_)
  exact t_X5_fillOn_b2 C hr1 200 _ _ _ (lv_sub hl [1, 2, 0] rfl) hK
theorem s_X5_fillOn : sv yX5_fillOn cX5_fillOn 4 none 1 := ⟨w_co_X5_fillOn, w_im_X5_fillOn, w_se_X5_fillOn, w_in_X5, by decide +kernel, by decide⟩
def f_X5_dress (r1 : Nat) (a2 : Int32) (a3 : Int32) (a4 : Int32) (h : PH) : Option (Unit × PH) := gd r1 5 (rd h r1 ((0 : Int32) + a2) (fun x1 => if x1 = (1 : Int32) then rd h r1 a4 (fun x2 => if x2 ≤ 0 then some ((), h) else wr h r1 (a3 + a2) (1 : Int32) (fun h3 => rd h3 r1 a4 (fun x4 => wr h3 r1 a4 (x4 - (1 : Int32)) (fun h5 => some ((), h5))))) else some ((), h)))
set_option maxHeartbeats 4000000 in
set_option maxRecDepth 100000 in
theorem c_X5_dress (l : Launch) (G : GG) {r1 : Nat} {a2 : Int32} {a3 : Int32} {a4 : Int32} {h : PH} {res : Unit × PH} (hF : f_X5_dress r1 a2 a3 a4 h = some res) : MV l G yX5_dress cX5_dress 5 0 [.ref (G.2.2.2.2 110), .ref (G.2.2.2.2 r1), .int a2, .int a3, .int a4] h res := by
  unfold f_X5_dress at hF
  obtain ⟨hr1, hF⟩ := gd_so hF
  refine MV_of (by decide +kernel) (Nat.le_of_ble_eq_true rfl) ?_
  intro p e s m args below meth c ls C hl
  have hK := hF
  clear hF
  have hl : lv_has ls 5 [(0, .ref (G.2.2.2.2 110)), (1, .ref (G.2.2.2.2 r1)), (2, .int a2), (3, .int a3), (4, .int a4)] := hl
  have C : cx p s m args meth c G RX5 cX5_dress 5 none := C
  refine q_aload_n C dX5_dress_0 rfl (lv_at hl 1 rfl) ?_
  refine q_iconst C (v := 0) dX5_dress_1 (by decide) ?_
  refine q_iload_n C dX5_dress_2 rfl (lv_at hl 2 rfl) ?_
  refine q_iadd C dX5_dress_3 ?_
  obtain ⟨x1, hx1, hK⟩ := rd_so hK
  refine q_iald C hr1 hx1 dX5_dress_4 ?_
  refine q_iconst C (v := 1) dX5_dress_5 (by decide) ?_
  refine q_icmp_ne C dX5_dress_6 (tgt := 30) (by decide) (fun hc => ?_) (fun hc => ?_)
  · replace hK := if_ne hc hK
    cases hK
    exact q_vret C dX5_dress_30
  · replace hK := if_po hc hK
    refine q_aload_n C dX5_dress_9 rfl (lv_at hl 1 rfl) ?_
    refine q_iload C dX5_dress_10 (lv_at hl 4 rfl) ?_
    obtain ⟨x2, hx2, hK⟩ := rd_so hK
    refine q_iald C hr1 hx2 dX5_dress_12 ?_
    refine q_if_le C dX5_dress_13 (tgt := 30) (by decide) (fun hc => ?_) (fun hc => ?_)
    · replace hK := if_po hc hK
      cases hK
      exact q_vret C dX5_dress_30
    · replace hK := if_ne hc hK
      refine q_aload_n C dX5_dress_16 rfl (lv_at hl 1 rfl) ?_
      refine q_iload_n C dX5_dress_17 rfl (lv_at hl 3 rfl) ?_
      refine q_iload_n C dX5_dress_18 rfl (lv_at hl 2 rfl) ?_
      refine q_iadd C dX5_dress_19 ?_
      refine q_iconst C (v := 1) dX5_dress_20 (by decide) ?_
      obtain ⟨h3, hh3, hK⟩ := wr_so hK
      refine q_iast C hr1 hh3 dX5_dress_21 ?_
      refine q_aload_n C dX5_dress_22 rfl (lv_at hl 1 rfl) ?_
      refine q_iload C dX5_dress_23 (lv_at hl 4 rfl) ?_
      refine q_dup2 C dX5_dress_25 rfl rfl ?_
      obtain ⟨x4, hx4, hK⟩ := rd_so hK
      refine q_iald C hr1 hx4 dX5_dress_26 ?_
      refine q_iconst C (v := 1) dX5_dress_27 (by decide) ?_
      refine q_isub C dX5_dress_28 ?_
      obtain ⟨h5, hh5, hK⟩ := wr_so hK
      refine q_iast C hr1 hh5 dX5_dress_29 ?_
      cases hK
      exact q_vret C dX5_dress_30
theorem s_X5_dress : sv yX5_dress cX5_dress 5 none 4 := ⟨w_co_X5_dress, w_im_X5_dress, w_se_X5_dress, w_in_X5, by decide +kernel, by decide⟩
def f_X5_check (r1 : Nat) (h : PH) : Option (Unit × PH) := gd r1 5 (rd h 112 (3 : Int32) (fun x1 => rd h r1 ((0 : Int32) + x1) (fun x2 => if x2 = 0 then some ((), h) else bd (f_X5_isGood r1 x1 h) (fun r3 h4 => if r3 = 0 then wr h4 r1 ((54 : Int32) + x1) (1 : Int32) (fun h13 => some ((), h13)) else rd h4 r1 ((54 : Int32) + x1) (fun x5 => if x5 = 0 then rd h4 r1 (77 : Int32) (fun x6 => wr h4 r1 (77 : Int32) (x6 + (1 : Int32)) (fun h7 => if (h7.1 110 6) ≤ 0 then wr h7 r1 ((54 : Int32) + x1) (0 : Int32) (fun h8 => some ((), h8)) else rd h7 r1 (77 : Int32) (fun x9 => nz (h7.1 110 6) (if (irm x9 (h7.1 110 6)) = 0 then wr h7 r1 ((54 : Int32) + x1) (2 : Int32) (fun h12 => some ((), h12)) else wr h7 r1 ((54 : Int32) + x1) (0 : Int32) (fun h11 => some ((), h11)))))) else some ((), h4))))))
set_option maxHeartbeats 4000000 in
set_option maxRecDepth 100000 in
theorem c_X5_check (l : Launch) (G : GG) {r1 : Nat} {h : PH} {res : Unit × PH} (hF : f_X5_check r1 h = some res) : MV l G yX5_check cX5_check 3 1 [.ref (G.2.2.2.2 110), .ref (G.2.2.2.2 r1)] h res := by
  unfold f_X5_check at hF
  obtain ⟨hr1, hF⟩ := gd_so hF
  refine MV_of (by decide +kernel) (Nat.le_of_ble_eq_true rfl) ?_
  intro p e s m args below meth c ls C hl
  have hK := hF
  clear hF
  have hl : lv_has ls 3 [(0, .ref (G.2.2.2.2 110)), (1, .ref (G.2.2.2.2 r1))] := hl
  have C : cx p s m args meth c G RX5 cX5_check 3 none := C
  refine q_aload_n C dX5_check_0 rfl (lv_at hl 0 rfl) ?_
  refine g_X5_places C kd_110 w_fl_X5_17 dX5_check_1 ?_
  refine q_iconst C (v := 3) dX5_check_4 (by decide) ?_
  obtain ⟨x1, hx1, hK⟩ := rd_so hK
  refine q_iald C kd_112 hx1 dX5_check_5 ?_
  refine q_istore_n C dX5_check_6 rfl hl (by decide) (lv2 := [(2, .int _), (0, .ref _), (1, .ref _)]) rfl (fun ls hl => ?_)
  refine q_aload_n C dX5_check_7 rfl (lv_at hl 2 rfl) ?_
  refine q_iconst C (v := 0) dX5_check_8 (by decide) ?_
  refine q_iload_n C dX5_check_9 rfl (lv_at hl 0 rfl) ?_
  refine q_iadd C dX5_check_10 ?_
  obtain ⟨x2, hx2, hK⟩ := rd_so hK
  refine q_iald C hr1 hx2 dX5_check_11 ?_
  refine q_if_ne C dX5_check_12 (tgt := 16) (by decide) (fun hc => ?_) (fun hc => ?_)
  · replace hK := if_ne hc hK
    refine q_aload_n C dX5_check_16 rfl (lv_at hl 1 rfl) ?_
    refine q_aload_n C dX5_check_17 rfl (lv_at hl 2 rfl) ?_
    refine q_iload_n C dX5_check_18 rfl (lv_at hl 0 rfl) ?_
    obtain ⟨r3, h4, hfr3, hK⟩ := bd_so hK
    refine q_callVi C s_X5_isGood w_ml_X5_142 (c_X5_isGood l G hfr3) kd_110 rfl (by decide) (ce_4 kd_110) (by decide) hl.1 rfl rfl (Nat.le_of_ble_eq_true rfl) dX5_check_19 ?_
    refine q_if_ne C dX5_check_22 (tgt := 35) (by decide) (fun hc => ?_) (fun hc => ?_)
    · replace hK := if_ne hc hK
      refine q_aload_n C dX5_check_35 rfl (lv_at hl 2 rfl) ?_
      refine q_bipush C (v := 54) dX5_check_36 (by decide) ?_
      refine q_iload_n C dX5_check_38 rfl (lv_at hl 0 rfl) ?_
      refine q_iadd C dX5_check_39 ?_
      obtain ⟨x5, hx5, hK⟩ := rd_so hK
      refine q_iald C hr1 hx5 dX5_check_40 ?_
      refine q_if_ne C dX5_check_41 (tgt := 82) (by decide) (fun hc => ?_) (fun hc => ?_)
      · replace hK := if_ne hc hK
        cases hK
        exact q_vret C dX5_check_82
      · replace hK := if_po hc hK
        refine q_aload_n C dX5_check_44 rfl (lv_at hl 2 rfl) ?_
        refine q_bipush C (v := 77) dX5_check_45 (by decide) ?_
        refine q_dup2 C dX5_check_47 rfl rfl ?_
        obtain ⟨x6, hx6, hK⟩ := rd_so hK
        refine q_iald C hr1 hx6 dX5_check_48 ?_
        refine q_iconst C (v := 1) dX5_check_49 (by decide) ?_
        refine q_iadd C dX5_check_50 ?_
        obtain ⟨h7, hh7, hK⟩ := wr_so hK
        refine q_iast C hr1 hh7 dX5_check_51 ?_
        refine q_aload_n C dX5_check_52 rfl (lv_at hl 2 rfl) ?_
        refine q_bipush C (v := 54) dX5_check_53 (by decide) ?_
        refine q_iload_n C dX5_check_55 rfl (lv_at hl 0 rfl) ?_
        refine q_iadd C dX5_check_56 ?_
        refine q_aload_n C dX5_check_57 rfl (lv_at hl 1 rfl) ?_
        refine g_X5_each C kd_110 w_fl_X5_136 dX5_check_58 ?_
        refine q_if_le C dX5_check_61 (tgt := 80) (by decide) (fun hc => ?_) (fun hc => ?_)
        · replace hK := if_po hc hK
          refine q_iconst C (v := 0) dX5_check_80 (by decide) ?_
          obtain ⟨h8, hh8, hK⟩ := wr_so hK
          refine q_iast C hr1 hh8 dX5_check_81 ?_
          cases hK
          exact q_vret C dX5_check_82
        · replace hK := if_ne hc hK
          refine q_aload_n C dX5_check_64 rfl (lv_at hl 2 rfl) ?_
          refine q_bipush C (v := 77) dX5_check_65 (by decide) ?_
          obtain ⟨x9, hx9, hK⟩ := rd_so hK
          refine q_iald C hr1 hx9 dX5_check_67 ?_
          refine q_aload_n C dX5_check_68 rfl (lv_at hl 1 rfl) ?_
          refine g_X5_each C kd_110 w_fl_X5_136 dX5_check_69 ?_
          obtain ⟨hn10, hK⟩ := nz_so hK
          refine q_irem C dX5_check_72 hn10 ?_
          refine q_if_ne C dX5_check_73 (tgt := 80) (by decide) (fun hc => ?_) (fun hc => ?_)
          · replace hK := if_ne hc hK
            refine q_iconst C (v := 0) dX5_check_80 (by decide) ?_
            obtain ⟨h11, hh11, hK⟩ := wr_so hK
            refine q_iast C hr1 hh11 dX5_check_81 ?_
            cases hK
            exact q_vret C dX5_check_82
          · replace hK := if_po hc hK
            refine q_iconst C (v := 2) dX5_check_76 (by decide) ?_
            refine q_goto C dX5_check_77 (tgt := 81) (by decide) ?_
            obtain ⟨h12, hh12, hK⟩ := wr_so hK
            refine q_iast C hr1 hh12 dX5_check_81 ?_
            cases hK
            exact q_vret C dX5_check_82
    · replace hK := if_po hc hK
      refine q_aload_n C dX5_check_25 rfl (lv_at hl 2 rfl) ?_
      refine q_bipush C (v := 54) dX5_check_26 (by decide) ?_
      refine q_iload_n C dX5_check_28 rfl (lv_at hl 0 rfl) ?_
      refine q_iadd C dX5_check_29 ?_
      refine q_iconst C (v := 1) dX5_check_30 (by decide) ?_
      obtain ⟨h13, hh13, hK⟩ := wr_so hK
      refine q_iast C hr1 hh13 dX5_check_31 ?_
      refine q_goto C dX5_check_32 (tgt := 82) (by decide) ?_
      cases hK
      exact q_vret C dX5_check_82
  · replace hK := if_po hc hK
    cases hK
    exact q_vret C dX5_check_15
theorem s_X5_check : sv yX5_check cX5_check 3 none 1 := ⟨w_co_X5_check, w_im_X5_check, w_se_X5_check, w_in_X5, by decide +kernel, by decide⟩
def f_X5_push_b87 (r1 : Nat) (v3 : Int32) (h : PH) : Option (Unit × PH) := bd (f_X5_empty r1 v3 h) (fun _ h13 => wr h13 r1 ((54 : Int32) + v3) (0 : Int32) (fun h14 => some ((), h14)))
set_option maxHeartbeats 4000000 in
set_option maxRecDepth 100000 in
theorem t_X5_push_b87 {p : Program} {l : Launch} {e : Env} {s : State} {m : MethodId} {args : Array Value} {below : List Frame} {meth : Method} {c : Code} {G : GG} {r1 : Nat} {res : Unit × PH} (C : cx p s m args meth c G RX5 cX5_push 5 none) (hr1 : kd r1 = 5) {v3 : Int32} {h : PH} {ls : Array Slot} (hl : lv_has ls 5 [(0, .ref (G.2.2.2.2 110)), (1, .ref (G.2.2.2.2 r1)), (3, .int v3)]) (hK : f_X5_push_b87 r1 v3 h = some res) : WW p l e 1 s m args below meth c G h (MQ below (QV G res) args s 0 0 (Ar G)) (F0 m 87 ls []) := by
  unfold f_X5_push_b87 at hK
  refine q_aload_n C dX5_push_87 rfl (lv_at hl 0 rfl) ?_
  refine q_aload_n C dX5_push_88 rfl (lv_at hl 1 rfl) ?_
  refine q_iload_n C dX5_push_89 rfl (lv_at hl 2 rfl) ?_
  obtain ⟨r12, h13, hfr12, hK⟩ := bd_so hK
  refine q_callVv C s_X5_empty w_ml_X5_149 (c_X5_empty l G hfr12) kd_110 rfl (by decide) (ce_4 kd_110) (by decide) hl.1 rfl rfl (Nat.le_of_ble_eq_true rfl) dX5_push_90 ?_
  refine q_aload_n C dX5_push_93 rfl (lv_at hl 1 rfl) ?_
  refine q_bipush C (v := 54) dX5_push_94 (by decide) ?_
  refine q_iload_n C dX5_push_96 rfl (lv_at hl 2 rfl) ?_
  refine q_iadd C dX5_push_97 ?_
  refine q_iconst C (v := 0) dX5_push_98 (by decide) ?_
  obtain ⟨h14, hh14, hK⟩ := wr_so hK
  refine q_iast C hr1 hh14 dX5_push_99 ?_
  cases hK
  exact q_vret C dX5_push_100
def f_X5_push_b53 (r1 : Nat) (v3 : Int32) (v4 : Int32) (s0 : Int32) (h : PH) : Option (Unit × PH) := rd h r1 s0 (fun x6 => wr h r1 s0 (x6 + (1 : Int32)) (fun h7 => if (h7.1 110 22) = v3 then if v4 = (1 : Int32) then st h7 110 23 (3 : Int32) (fun h10 => st h10 110 22 (-9 : Int32) (fun h11 => f_X5_push_b87 r1 v3 h11)) else st h7 110 23 (4 : Int32) (fun h8 => st h8 110 22 (-9 : Int32) (fun h9 => f_X5_push_b87 r1 v3 h9)) else f_X5_push_b87 r1 v3 h7))
set_option maxHeartbeats 4000000 in
set_option maxRecDepth 100000 in
theorem t_X5_push_b53 {p : Program} {l : Launch} {e : Env} {s : State} {m : MethodId} {args : Array Value} {below : List Frame} {meth : Method} {c : Code} {G : GG} {r1 : Nat} {res : Unit × PH} (C : cx p s m args meth c G RX5 cX5_push 5 none) (hr1 : kd r1 = 5) {v3 : Int32} {v4 : Int32} {s0 : Int32} {h : PH} {ls : Array Slot} (hl : lv_has ls 5 [(0, .ref (G.2.2.2.2 110)), (1, .ref (G.2.2.2.2 r1)), (3, .int v3), (4, .int v4)]) (hK : f_X5_push_b53 r1 v3 v4 s0 h = some res) : WW p l e 1 s m args below meth c G h (MQ below (QV G res) args s 0 0 (Ar G)) (F0 m 53 ls [.int s0, .ref (G.2.2.2.2 r1)]) := by
  unfold f_X5_push_b53 at hK
  refine q_dup2 C dX5_push_53 rfl rfl ?_
  obtain ⟨x6, hx6, hK⟩ := rd_so hK
  refine q_iald C hr1 hx6 dX5_push_54 ?_
  refine q_iconst C (v := 1) dX5_push_55 (by decide) ?_
  refine q_iadd C dX5_push_56 ?_
  obtain ⟨h7, hh7, hK⟩ := wr_so hK
  refine q_iast C hr1 hh7 dX5_push_57 ?_
  refine q_aload_n C dX5_push_58 rfl (lv_at hl 0 rfl) ?_
  refine g_X5_watched C kd_110 w_fl_X5_69 dX5_push_59 ?_
  refine q_iload_n C dX5_push_62 rfl (lv_at hl 2 rfl) ?_
  refine q_icmp_ne C dX5_push_63 (tgt := 87) (by decide) (fun hc => ?_) (fun hc => ?_)
  · replace hK := if_ne hc hK
    exact t_X5_push_b87 C hr1 (lv_sub hl [0, 1, 2] rfl) hK
  · replace hK := if_po hc hK
    refine q_aload_n C dX5_push_66 rfl (lv_at hl 0 rfl) ?_
    refine q_iload C dX5_push_67 (lv_at hl 3 rfl) ?_
    refine q_iconst C (v := 1) dX5_push_69 (by decide) ?_
    refine q_icmp_ne C dX5_push_70 (tgt := 77) (by decide) (fun hc => ?_) (fun hc => ?_)
    · replace hK := if_ne hc hK
      refine q_iconst C (v := 4) dX5_push_77 (by decide) ?_
      obtain ⟨h8, hh8, hK⟩ := st_so hK
      refine p_X5_went C kd_110 w_fl_X5_146 hh8 dX5_push_78 ?_
      refine q_aload_n C dX5_push_81 rfl (lv_at hl 0 rfl) ?_
      refine q_bipush C (v := -9) dX5_push_82 (by decide) ?_
      obtain ⟨h9, hh9, hK⟩ := st_so hK
      refine p_X5_watched C kd_110 w_fl_X5_69 hh9 dX5_push_84 ?_
      exact t_X5_push_b87 C hr1 (lv_sub hl [0, 1, 2] rfl) hK
    · replace hK := if_po hc hK
      refine q_iconst C (v := 3) dX5_push_73 (by decide) ?_
      refine q_goto C dX5_push_74 (tgt := 78) (by decide) ?_
      obtain ⟨h10, hh10, hK⟩ := st_so hK
      refine p_X5_went C kd_110 w_fl_X5_146 hh10 dX5_push_78 ?_
      refine q_aload_n C dX5_push_81 rfl (lv_at hl 0 rfl) ?_
      refine q_bipush C (v := -9) dX5_push_82 (by decide) ?_
      obtain ⟨h11, hh11, hK⟩ := st_so hK
      refine p_X5_watched C kd_110 w_fl_X5_69 hh11 dX5_push_84 ?_
      exact t_X5_push_b87 C hr1 (lv_sub hl [0, 1, 2] rfl) hK
def f_X5_push (r1 : Nat) (a2 : Int32) (h : PH) : Option (Unit × PH) := gd r1 5 (rd h 112 (4 : Int32) (fun x1 => rd h r1 ((54 : Int32) + x1) (fun x2 => if x2 = 0 then some ((), h) else rd h r1 ((0 : Int32) + x1) (fun x3 => if x3 = 0 then wr h r1 (70 : Int32) (1 : Int32) (fun h4 => some ((), h4)) else if a2 = 0 then if x2 = (1 : Int32) then f_X5_push_b53 r1 x1 x2 (74 : Int32) h else f_X5_push_b53 r1 x1 x2 (75 : Int32) h else wr h r1 (70 : Int32) (1 : Int32) (fun h5 => some ((), h5))))))
set_option maxHeartbeats 4000000 in
set_option maxRecDepth 100000 in
theorem c_X5_push (l : Launch) (G : GG) {r1 : Nat} {a2 : Int32} {h : PH} {res : Unit × PH} (hF : f_X5_push r1 a2 h = some res) : MV l G yX5_push cX5_push 5 1 [.ref (G.2.2.2.2 110), .ref (G.2.2.2.2 r1), .int a2] h res := by
  unfold f_X5_push at hF
  obtain ⟨hr1, hF⟩ := gd_so hF
  refine MV_of (by decide +kernel) (Nat.le_of_ble_eq_true rfl) ?_
  intro p e s m args below meth c ls C hl
  have hK := hF
  clear hF
  have hl : lv_has ls 5 [(0, .ref (G.2.2.2.2 110)), (1, .ref (G.2.2.2.2 r1)), (2, .int a2)] := hl
  have C : cx p s m args meth c G RX5 cX5_push 5 none := C
  refine q_aload_n C dX5_push_0 rfl (lv_at hl 0 rfl) ?_
  refine g_X5_places C kd_110 w_fl_X5_17 dX5_push_1 ?_
  refine q_iconst C (v := 4) dX5_push_4 (by decide) ?_
  obtain ⟨x1, hx1, hK⟩ := rd_so hK
  refine q_iald C kd_112 hx1 dX5_push_5 ?_
  refine q_istore_n C dX5_push_6 rfl hl (by decide) (lv2 := [(3, .int _), (0, .ref _), (1, .ref _), (2, .int _)]) rfl (fun ls hl => ?_)
  refine q_aload_n C dX5_push_7 rfl (lv_at hl 2 rfl) ?_
  refine q_bipush C (v := 54) dX5_push_8 (by decide) ?_
  refine q_iload_n C dX5_push_10 rfl (lv_at hl 0 rfl) ?_
  refine q_iadd C dX5_push_11 ?_
  obtain ⟨x2, hx2, hK⟩ := rd_so hK
  refine q_iald C hr1 hx2 dX5_push_12 ?_
  refine q_istore C dX5_push_13 hl (by decide) (lv2 := [(4, .int _), (3, .int _), (0, .ref _), (1, .ref _), (2, .int _)]) rfl (fun ls hl => ?_)
  refine q_iload C dX5_push_15 (lv_at hl 0 rfl) ?_
  refine q_if_ne C dX5_push_17 (tgt := 21) (by decide) (fun hc => ?_) (fun hc => ?_)
  · replace hK := if_ne hc hK
    refine q_aload_n C dX5_push_21 rfl (lv_at hl 3 rfl) ?_
    refine q_iconst C (v := 0) dX5_push_22 (by decide) ?_
    refine q_iload_n C dX5_push_23 rfl (lv_at hl 1 rfl) ?_
    refine q_iadd C dX5_push_24 ?_
    obtain ⟨x3, hx3, hK⟩ := rd_so hK
    refine q_iald C hr1 hx3 dX5_push_25 ?_
    refine q_if_eq C dX5_push_26 (tgt := 33) (by decide) (fun hc => ?_) (fun hc => ?_)
    · replace hK := if_po hc hK
      refine q_aload_n C dX5_push_33 rfl (lv_at hl 3 rfl) ?_
      refine q_bipush C (v := 70) dX5_push_34 (by decide) ?_
      refine q_iconst C (v := 1) dX5_push_36 (by decide) ?_
      obtain ⟨h4, hh4, hK⟩ := wr_so hK
      refine q_iast C hr1 hh4 dX5_push_37 ?_
      cases hK
      exact q_vret C dX5_push_38
    · replace hK := if_ne hc hK
      refine q_iload_n C dX5_push_29 rfl (lv_at hl 4 rfl) ?_
      refine q_if_eq C dX5_push_30 (tgt := 39) (by decide) (fun hc => ?_) (fun hc => ?_)
      · replace hK := if_po hc hK
        refine q_aload_n C dX5_push_39 rfl (lv_at hl 3 rfl) ?_
        refine q_iload C dX5_push_40 (lv_at hl 0 rfl) ?_
        refine q_iconst C (v := 1) dX5_push_42 (by decide) ?_
        refine q_icmp_ne C dX5_push_43 (tgt := 51) (by decide) (fun hc => ?_) (fun hc => ?_)
        · replace hK := if_ne hc hK
          refine q_bipush C (v := 75) dX5_push_51 (by decide) ?_
          exact t_X5_push_b53 C hr1 (lv_sub hl [2, 3, 1, 0] rfl) hK
        · replace hK := if_po hc hK
          refine q_bipush C (v := 74) dX5_push_46 (by decide) ?_
          refine q_goto C dX5_push_48 (tgt := 53) (by decide) ?_
          exact t_X5_push_b53 C hr1 (lv_sub hl [2, 3, 1, 0] rfl) hK
      · replace hK := if_ne hc hK
        refine q_aload_n C dX5_push_33 rfl (lv_at hl 3 rfl) ?_
        refine q_bipush C (v := 70) dX5_push_34 (by decide) ?_
        refine q_iconst C (v := 1) dX5_push_36 (by decide) ?_
        obtain ⟨h5, hh5, hK⟩ := wr_so hK
        refine q_iast C hr1 hh5 dX5_push_37 ?_
        cases hK
        exact q_vret C dX5_push_38
  · replace hK := if_po hc hK
    cases hK
    exact q_vret C dX5_push_20
theorem s_X5_push : sv yX5_push cX5_push 5 none 2 := ⟨w_co_X5_push, w_im_X5_push, w_se_X5_push, w_in_X5, by decide +kernel, by decide⟩
def f_X5_stepBy (r1 : Nat) (a2 : Int32) (h : PH) : Option (Unit × PH) := gd r1 5 (bd (f_X5_leave r1 h) (fun _ h2 => bd (f_X5_moveOn r1 h2) (fun _ h4 => bd (f_X5_fillOn r1 h4) (fun _ h6 => rd h6 112 (1 : Int32) (fun x7 => bd (f_X5_dress r1 x7 (27 : Int32) (67 : Int32) h6) (fun _ h9 => rd h9 112 (2 : Int32) (fun x10 => bd (f_X5_dress r1 x10 (36 : Int32) (68 : Int32) h9) (fun _ h12 => bd (f_X5_check r1 h12) (fun _ h14 => bd (f_X5_push r1 a2 h14) (fun _ h16 => rd h16 r1 (71 : Int32) (fun x17 => wr h16 r1 (71 : Int32) (x17 + (1 : Int32)) (fun h18 => some ((), h18)))))))))))))
set_option maxHeartbeats 4000000 in
set_option maxRecDepth 100000 in
theorem c_X5_stepBy (l : Launch) (G : GG) {r1 : Nat} {a2 : Int32} {h : PH} {res : Unit × PH} (hF : f_X5_stepBy r1 a2 h = some res) : MV l G yX5_stepBy cX5_stepBy 3 2 [.ref (G.2.2.2.2 110), .ref (G.2.2.2.2 r1), .int a2] h res := by
  unfold f_X5_stepBy at hF
  obtain ⟨hr1, hF⟩ := gd_so hF
  refine MV_of (by decide +kernel) (Nat.le_of_ble_eq_true rfl) ?_
  intro p e s m args below meth c ls C hl
  have hK := hF
  clear hF
  have hl : lv_has ls 3 [(0, .ref (G.2.2.2.2 110)), (1, .ref (G.2.2.2.2 r1)), (2, .int a2)] := hl
  have C : cx p s m args meth c G RX5 cX5_stepBy 3 none := C
  refine q_aload_n C dX5_stepBy_0 rfl (lv_at hl 0 rfl) ?_
  refine q_aload_n C dX5_stepBy_1 rfl (lv_at hl 1 rfl) ?_
  obtain ⟨r1, h2, hfr1, hK⟩ := bd_so hK
  refine q_callVv C s_X5_leave w_ml_X5_164 (c_X5_leave l G hfr1) kd_110 rfl (by decide) (ce_4 kd_110) (by decide) hl.1 rfl rfl (Nat.le_of_ble_eq_true rfl) dX5_stepBy_2 ?_
  refine q_aload_n C dX5_stepBy_5 rfl (lv_at hl 0 rfl) ?_
  refine q_aload_n C dX5_stepBy_6 rfl (lv_at hl 1 rfl) ?_
  obtain ⟨r3, h4, hfr3, hK⟩ := bd_so hK
  refine q_callVv C s_X5_moveOn w_ml_X5_167 (c_X5_moveOn l G hfr3) kd_110 rfl (by decide) (ce_4 kd_110) (by decide) hl.1 rfl rfl (Nat.le_of_ble_eq_true rfl) dX5_stepBy_7 ?_
  refine q_aload_n C dX5_stepBy_10 rfl (lv_at hl 0 rfl) ?_
  refine q_aload_n C dX5_stepBy_11 rfl (lv_at hl 1 rfl) ?_
  obtain ⟨r5, h6, hfr5, hK⟩ := bd_so hK
  refine q_callVv C s_X5_fillOn w_ml_X5_170 (c_X5_fillOn l G hfr5) kd_110 rfl (by decide) (ce_4 kd_110) (by decide) hl.1 rfl rfl (Nat.le_of_ble_eq_true rfl) dX5_stepBy_12 ?_
  refine q_aload_n C dX5_stepBy_15 rfl (lv_at hl 0 rfl) ?_
  refine q_aload_n C dX5_stepBy_16 rfl (lv_at hl 1 rfl) ?_
  refine q_aload_n C dX5_stepBy_17 rfl (lv_at hl 0 rfl) ?_
  refine g_X5_places C kd_110 w_fl_X5_17 dX5_stepBy_18 ?_
  refine q_iconst C (v := 1) dX5_stepBy_21 (by decide) ?_
  obtain ⟨x7, hx7, hK⟩ := rd_so hK
  refine q_iald C kd_112 hx7 dX5_stepBy_22 ?_
  refine q_bipush C (v := 27) dX5_stepBy_23 (by decide) ?_
  refine q_bipush C (v := 67) dX5_stepBy_25 (by decide) ?_
  obtain ⟨r8, h9, hfr8, hK⟩ := bd_so hK
  refine q_callVv C s_X5_dress w_ml_X5_173 (c_X5_dress l G hfr8) kd_110 rfl (by decide) (ce_4 kd_110) (by decide) hl.1 rfl rfl (Nat.le_of_ble_eq_true rfl) dX5_stepBy_27 ?_
  refine q_aload_n C dX5_stepBy_30 rfl (lv_at hl 0 rfl) ?_
  refine q_aload_n C dX5_stepBy_31 rfl (lv_at hl 1 rfl) ?_
  refine q_aload_n C dX5_stepBy_32 rfl (lv_at hl 0 rfl) ?_
  refine g_X5_places C kd_110 w_fl_X5_17 dX5_stepBy_33 ?_
  refine q_iconst C (v := 2) dX5_stepBy_36 (by decide) ?_
  obtain ⟨x10, hx10, hK⟩ := rd_so hK
  refine q_iald C kd_112 hx10 dX5_stepBy_37 ?_
  refine q_bipush C (v := 36) dX5_stepBy_38 (by decide) ?_
  refine q_bipush C (v := 68) dX5_stepBy_40 (by decide) ?_
  obtain ⟨r11, h12, hfr11, hK⟩ := bd_so hK
  refine q_callVv C s_X5_dress w_ml_X5_173 (c_X5_dress l G hfr11) kd_110 rfl (by decide) (ce_4 kd_110) (by decide) hl.1 rfl rfl (Nat.le_of_ble_eq_true rfl) dX5_stepBy_42 ?_
  refine q_aload_n C dX5_stepBy_45 rfl (lv_at hl 0 rfl) ?_
  refine q_aload_n C dX5_stepBy_46 rfl (lv_at hl 1 rfl) ?_
  obtain ⟨r13, h14, hfr13, hK⟩ := bd_so hK
  refine q_callVv C s_X5_check w_ml_X5_177 (c_X5_check l G hfr13) kd_110 rfl (by decide) (ce_4 kd_110) (by decide) hl.1 rfl rfl (Nat.le_of_ble_eq_true rfl) dX5_stepBy_47 ?_
  refine q_aload_n C dX5_stepBy_50 rfl (lv_at hl 0 rfl) ?_
  refine q_aload_n C dX5_stepBy_51 rfl (lv_at hl 1 rfl) ?_
  refine q_iload_n C dX5_stepBy_52 rfl (lv_at hl 2 rfl) ?_
  obtain ⟨r15, h16, hfr15, hK⟩ := bd_so hK
  refine q_callVv C s_X5_push w_ml_X5_180 (c_X5_push l G hfr15) kd_110 rfl (by decide) (ce_4 kd_110) (by decide) hl.1 rfl rfl (Nat.le_of_ble_eq_true rfl) dX5_stepBy_53 ?_
  refine q_aload_n C dX5_stepBy_56 rfl (lv_at hl 1 rfl) ?_
  refine q_bipush C (v := 71) dX5_stepBy_57 (by decide) ?_
  refine q_dup2 C dX5_stepBy_59 rfl rfl ?_
  obtain ⟨x17, hx17, hK⟩ := rd_so hK
  refine q_iald C hr1 hx17 dX5_stepBy_60 ?_
  refine q_iconst C (v := 1) dX5_stepBy_61 (by decide) ?_
  refine q_iadd C dX5_stepBy_62 ?_
  obtain ⟨h18, hh18, hK⟩ := wr_so hK
  refine q_iast C hr1 hh18 dX5_stepBy_63 ?_
  cases hK
  exact q_vret C dX5_stepBy_64
theorem s_X5_stepBy : sv yX5_stepBy cX5_stepBy 3 none 2 := ⟨w_co_X5_stepBy, w_im_X5_stepBy, w_se_X5_stepBy, w_in_X5, by decide +kernel, by decide⟩
def f_X5_goOn_b2 (r1 : Nat) : Nat → Int32 → Int32 → PH → Option (Int32 × PH)
  | 0, _, _, _ => none
  | n + 1, v2, v3, h => if v2 ≤ v3 then some (v3, h) else rd h r1 (70 : Int32) (fun x1 => if x1 = 0 then rd h r1 (69 : Int32) (fun x2 => if x2 = (1 : Int32) then bd (f_X5_stepBy r1 (1 : Int32) h) (fun _ h6 => (f_X5_goOn_b2 r1 n) v2 (v3 + 1) h6) else bd (f_X5_stepBy r1 (0 : Int32) h) (fun _ h4 => (f_X5_goOn_b2 r1 n) v2 (v3 + 1) h4)) else some (v3, h))
set_option maxHeartbeats 4000000 in
set_option maxRecDepth 100000 in
theorem t_X5_goOn_b2 {p : Program} {l : Launch} {e : Env} {s : State} {m : MethodId} {args : Array Value} {below : List Frame} {meth : Method} {c : Code} {G : GG} {r1 : Nat} {res : Int32 × PH} (C : cx p s m args meth c G RX5 cX5_goOn 4 (some .int)) (hr1 : kd r1 = 5) (n : Nat) : ∀ (v2 : Int32) (v3 : Int32) (h : PH) (ls : Array Slot), lv_has ls 4 [(0, .ref (G.2.2.2.2 110)), (1, .ref (G.2.2.2.2 r1)), (2, .int v2), (3, .int v3)] → f_X5_goOn_b2 r1 n v2 v3 h = some res → WW p l e 3 s m args below meth c G h (MQ below (QI G res) args s 0 0 (Ar G)) (F0 m 2 ls []) := by
  induction n with
  | zero => intro v2 v3 h ls hl hK; cases hK
  | succ n ih =>
    intro v2 v3 h ls hl hK
    unfold f_X5_goOn_b2 at hK
    refine q_iload_n C dX5_goOn_2 rfl (lv_at hl 3 rfl) ?_
    refine q_iload_n C dX5_goOn_3 rfl (lv_at hl 2 rfl) ?_
    refine q_icmp_ge C dX5_goOn_4 (tgt := 38) (by decide) (fun hc => ?_) (fun hc => ?_)
    · replace hK := if_po hc hK
      refine q_iload_n C dX5_goOn_38 rfl (lv_at hl 3 rfl) ?_
      cases hK
      exact q_iret C dX5_goOn_39
    · replace hK := if_ne hc hK
      refine q_aload_n C dX5_goOn_7 rfl (lv_at hl 1 rfl) ?_
      refine q_bipush C (v := 70) dX5_goOn_8 (by decide) ?_
      obtain ⟨x1, hx1, hK⟩ := rd_so hK
      refine q_iald C hr1 hx1 dX5_goOn_10 ?_
      refine q_if_ne C dX5_goOn_11 (tgt := 38) (by decide) (fun hc => ?_) (fun hc => ?_)
      · replace hK := if_ne hc hK
        refine q_iload_n C dX5_goOn_38 rfl (lv_at hl 3 rfl) ?_
        cases hK
        exact q_iret C dX5_goOn_39
      · replace hK := if_po hc hK
        refine q_aload_n C dX5_goOn_14 rfl (lv_at hl 0 rfl) ?_
        refine q_aload_n C dX5_goOn_15 rfl (lv_at hl 1 rfl) ?_
        refine q_aload_n C dX5_goOn_16 rfl (lv_at hl 1 rfl) ?_
        refine q_bipush C (v := 69) dX5_goOn_17 (by decide) ?_
        obtain ⟨x2, hx2, hK⟩ := rd_so hK
        refine q_iald C hr1 hx2 dX5_goOn_19 ?_
        refine q_iconst C (v := 1) dX5_goOn_20 (by decide) ?_
        refine q_icmp_ne C dX5_goOn_21 (tgt := 28) (by decide) (fun hc => ?_) (fun hc => ?_)
        · replace hK := if_ne hc hK
          refine q_iconst C (v := 0) dX5_goOn_28 (by decide) ?_
          obtain ⟨r3, h4, hfr3, hK⟩ := bd_so hK
          refine q_callVv C s_X5_stepBy w_ml_X5_184 (c_X5_stepBy l G hfr3) kd_110 rfl (by decide) (ce_4 kd_110) (by decide) hl.1 rfl rfl (Nat.le_of_ble_eq_true rfl) dX5_goOn_29 ?_
          refine q_iinc C dX5_goOn_32 hl (j := 3) (v := (v3 + 1)) rfl rfl (by decide) (lv2 := [(3, .int _), (0, .ref _), (1, .ref _), (2, .int _)]) rfl (fun ls hl => ?_)
          refine q_goto C dX5_goOn_35 (tgt := 2) (by decide) ?_
          exact ih _ _ _ _ (lv_sub hl [1, 2, 3, 0] rfl) hK
        · replace hK := if_po hc hK
          refine q_iconst C (v := 1) dX5_goOn_24 (by decide) ?_
          refine q_goto C dX5_goOn_25 (tgt := 29) (by decide) ?_
          obtain ⟨r5, h6, hfr5, hK⟩ := bd_so hK
          refine q_callVv C s_X5_stepBy w_ml_X5_184 (c_X5_stepBy l G hfr5) kd_110 rfl (by decide) (ce_4 kd_110) (by decide) hl.1 rfl rfl (Nat.le_of_ble_eq_true rfl) dX5_goOn_29 ?_
          refine q_iinc C dX5_goOn_32 hl (j := 3) (v := (v3 + 1)) rfl rfl (by decide) (lv2 := [(3, .int _), (0, .ref _), (1, .ref _), (2, .int _)]) rfl (fun ls hl => ?_)
          refine q_goto C dX5_goOn_35 (tgt := 2) (by decide) ?_
          exact ih _ _ _ _ (lv_sub hl [1, 2, 3, 0] rfl) hK
def f_X5_goOn (r1 : Nat) (a2 : Int32) (h : PH) : Option (Int32 × PH) := gd r1 5 (f_X5_goOn_b2 r1 200 a2 (0 : Int32) h)
set_option maxHeartbeats 4000000 in
set_option maxRecDepth 100000 in
theorem c_X5_goOn (l : Launch) (G : GG) {r1 : Nat} {a2 : Int32} {h : PH} {res : Int32 × PH} (hF : f_X5_goOn r1 a2 h = some res) : MI l G yX5_goOn cX5_goOn 4 .int 3 [.ref (G.2.2.2.2 110), .ref (G.2.2.2.2 r1), .int a2] h res := by
  unfold f_X5_goOn at hF
  obtain ⟨hr1, hF⟩ := gd_so hF
  refine MI_of (by decide +kernel) (Nat.le_of_ble_eq_true rfl) ?_
  intro p e s m args below meth c ls C hl
  have hK := hF
  clear hF
  have hl : lv_has ls 4 [(0, .ref (G.2.2.2.2 110)), (1, .ref (G.2.2.2.2 r1)), (2, .int a2)] := hl
  have C : cx p s m args meth c G RX5 cX5_goOn 4 (some .int) := C
  refine q_iconst C (v := 0) dX5_goOn_0 (by decide) ?_
  refine q_istore_n C dX5_goOn_1 rfl hl (by decide) (lv2 := [(3, .int _), (0, .ref _), (1, .ref _), (2, .int _)]) rfl (fun ls hl => ?_)
  exact t_X5_goOn_b2 C hr1 200 _ _ _ _ (lv_sub hl [1, 2, 3, 0] rfl) hK
theorem s_X5_goOn : sv yX5_goOn cX5_goOn 4 (some .int) 2 := ⟨w_co_X5_goOn, w_im_X5_goOn, w_se_X5_goOn, w_in_X5, by decide +kernel, by decide⟩
def f_X5_bottles_b4 (r1 : Nat) : Nat → Int32 → Int32 → PH → Option (Int32 × PH)
  | 0, _, _, _ => none
  | n + 1, v2, v3, h => if (h.1 110 2) ≤ v3 then some (v2, h) else rd h r1 ((0 : Int32) + v3) (fun x1 => (f_X5_bottles_b4 r1 n) (v2 ||| (x1 <<< (v3 &&& 31))) (v3 + 1) h)
set_option maxHeartbeats 4000000 in
set_option maxRecDepth 100000 in
theorem t_X5_bottles_b4 {p : Program} {l : Launch} {e : Env} {s : State} {m : MethodId} {args : Array Value} {below : List Frame} {meth : Method} {c : Code} {G : GG} {r1 : Nat} {res : Int32 × PH} (C : cx p s m args meth c G RX5 cX5_bottles 4 (some .int)) (hr1 : kd r1 = 5) (n : Nat) : ∀ (v2 : Int32) (v3 : Int32) (h : PH) (ls : Array Slot), lv_has ls 4 [(0, .ref (G.2.2.2.2 110)), (1, .ref (G.2.2.2.2 r1)), (2, .int v2), (3, .int v3)] → f_X5_bottles_b4 r1 n v2 v3 h = some res → WW p l e 0 s m args below meth c G h (MQ below (QI G res) args s 0 0 (Ar G)) (F0 m 4 ls []) := by
  induction n with
  | zero => intro v2 v3 h ls hl hK; cases hK
  | succ n ih =>
    intro v2 v3 h ls hl hK
    unfold f_X5_bottles_b4 at hK
    refine q_iload_n C dX5_bottles_4 rfl (lv_at hl 3 rfl) ?_
    refine q_aload_n C dX5_bottles_5 rfl (lv_at hl 0 rfl) ?_
    refine g_X5_cells C kd_110 w_fl_X5_13 dX5_bottles_6 ?_
    refine q_icmp_ge C dX5_bottles_9 (tgt := 28) (by decide) (fun hc => ?_) (fun hc => ?_)
    · replace hK := if_po hc hK
      refine q_iload_n C dX5_bottles_28 rfl (lv_at hl 2 rfl) ?_
      cases hK
      exact q_iret C dX5_bottles_29
    · replace hK := if_ne hc hK
      refine q_iload_n C dX5_bottles_12 rfl (lv_at hl 2 rfl) ?_
      refine q_aload_n C dX5_bottles_13 rfl (lv_at hl 1 rfl) ?_
      refine q_iconst C (v := 0) dX5_bottles_14 (by decide) ?_
      refine q_iload_n C dX5_bottles_15 rfl (lv_at hl 3 rfl) ?_
      refine q_iadd C dX5_bottles_16 ?_
      obtain ⟨x1, hx1, hK⟩ := rd_so hK
      refine q_iald C hr1 hx1 dX5_bottles_17 ?_
      refine q_iload_n C dX5_bottles_18 rfl (lv_at hl 3 rfl) ?_
      refine q_ishl C dX5_bottles_19 ?_
      refine q_ior C dX5_bottles_20 ?_
      refine q_istore_n C dX5_bottles_21 rfl hl (by decide) (lv2 := [(2, .int _), (0, .ref _), (1, .ref _), (3, .int _)]) rfl (fun ls hl => ?_)
      refine q_iinc C dX5_bottles_22 hl (j := 3) (v := (v3 + 1)) rfl rfl (by decide) (lv2 := [(3, .int _), (2, .int _), (0, .ref _), (1, .ref _)]) rfl (fun ls hl => ?_)
      refine q_goto C dX5_bottles_25 (tgt := 4) (by decide) ?_
      exact ih _ _ _ _ (lv_sub hl [2, 3, 1, 0] rfl) hK
def f_X5_bottles (r1 : Nat) (h : PH) : Option (Int32 × PH) := gd r1 5 (f_X5_bottles_b4 r1 200 (0 : Int32) (0 : Int32) h)
set_option maxHeartbeats 4000000 in
set_option maxRecDepth 100000 in
theorem c_X5_bottles (l : Launch) (G : GG) {r1 : Nat} {h : PH} {res : Int32 × PH} (hF : f_X5_bottles r1 h = some res) : MI l G yX5_bottles cX5_bottles 4 .int 0 [.ref (G.2.2.2.2 110), .ref (G.2.2.2.2 r1)] h res := by
  unfold f_X5_bottles at hF
  obtain ⟨hr1, hF⟩ := gd_so hF
  refine MI_of (by decide +kernel) (Nat.le_of_ble_eq_true rfl) ?_
  intro p e s m args below meth c ls C hl
  have hK := hF
  clear hF
  have hl : lv_has ls 4 [(0, .ref (G.2.2.2.2 110)), (1, .ref (G.2.2.2.2 r1))] := hl
  have C : cx p s m args meth c G RX5 cX5_bottles 4 (some .int) := C
  refine q_iconst C (v := 0) dX5_bottles_0 (by decide) ?_
  refine q_istore_n C dX5_bottles_1 rfl hl (by decide) (lv2 := [(2, .int _), (0, .ref _), (1, .ref _)]) rfl (fun ls hl => ?_)
  refine q_iconst C (v := 0) dX5_bottles_2 (by decide) ?_
  refine q_istore_n C dX5_bottles_3 rfl hl (by decide) (lv2 := [(3, .int _), (2, .int _), (0, .ref _), (1, .ref _)]) rfl (fun ls hl => ?_)
  exact t_X5_bottles_b4 C hr1 200 _ _ _ _ (lv_sub hl [2, 3, 1, 0] rfl) hK
theorem s_X5_bottles : sv yX5_bottles cX5_bottles 4 (some .int) 1 := ⟨w_co_X5_bottles, w_im_X5_bottles, w_se_X5_bottles, w_in_X5, by decide +kernel, by decide⟩
def f_X5_marks_b4 (r1 : Nat) : Nat → Int32 → Int32 → PH → Option (Int32 × PH)
  | 0, _, _, _ => none
  | n + 1, v2, v3, h => if (h.1 110 2) ≤ v3 then some (v2, h) else rd h r1 ((54 : Int32) + v3) (fun x1 => if x1 ≤ 0 then (f_X5_marks_b4 r1 n) (v2 + (0 : Int32)) (v3 + 1) h else (f_X5_marks_b4 r1 n) (v2 + (1 : Int32)) (v3 + 1) h)
set_option maxHeartbeats 4000000 in
set_option maxRecDepth 100000 in
theorem t_X5_marks_b4 {p : Program} {l : Launch} {e : Env} {s : State} {m : MethodId} {args : Array Value} {below : List Frame} {meth : Method} {c : Code} {G : GG} {r1 : Nat} {res : Int32 × PH} (C : cx p s m args meth c G RX5 cX5_marks 4 (some .int)) (hr1 : kd r1 = 5) (n : Nat) : ∀ (v2 : Int32) (v3 : Int32) (h : PH) (ls : Array Slot), lv_has ls 4 [(0, .ref (G.2.2.2.2 110)), (1, .ref (G.2.2.2.2 r1)), (2, .int v2), (3, .int v3)] → f_X5_marks_b4 r1 n v2 v3 h = some res → WW p l e 0 s m args below meth c G h (MQ below (QI G res) args s 0 0 (Ar G)) (F0 m 4 ls []) := by
  induction n with
  | zero => intro v2 v3 h ls hl hK; cases hK
  | succ n ih =>
    intro v2 v3 h ls hl hK
    unfold f_X5_marks_b4 at hK
    refine q_iload_n C dX5_marks_4 rfl (lv_at hl 3 rfl) ?_
    refine q_aload_n C dX5_marks_5 rfl (lv_at hl 0 rfl) ?_
    refine g_X5_cells C kd_110 w_fl_X5_13 dX5_marks_6 ?_
    refine q_icmp_ge C dX5_marks_9 (tgt := 35) (by decide) (fun hc => ?_) (fun hc => ?_)
    · replace hK := if_po hc hK
      refine q_iload_n C dX5_marks_35 rfl (lv_at hl 2 rfl) ?_
      cases hK
      exact q_iret C dX5_marks_36
    · replace hK := if_ne hc hK
      refine q_iload_n C dX5_marks_12 rfl (lv_at hl 2 rfl) ?_
      refine q_aload_n C dX5_marks_13 rfl (lv_at hl 1 rfl) ?_
      refine q_bipush C (v := 54) dX5_marks_14 (by decide) ?_
      refine q_iload_n C dX5_marks_16 rfl (lv_at hl 3 rfl) ?_
      refine q_iadd C dX5_marks_17 ?_
      obtain ⟨x1, hx1, hK⟩ := rd_so hK
      refine q_iald C hr1 hx1 dX5_marks_18 ?_
      refine q_if_le C dX5_marks_19 (tgt := 26) (by decide) (fun hc => ?_) (fun hc => ?_)
      · replace hK := if_po hc hK
        refine q_iconst C (v := 0) dX5_marks_26 (by decide) ?_
        refine q_iadd C dX5_marks_27 ?_
        refine q_istore_n C dX5_marks_28 rfl hl (by decide) (lv2 := [(2, .int _), (0, .ref _), (1, .ref _), (3, .int _)]) rfl (fun ls hl => ?_)
        refine q_iinc C dX5_marks_29 hl (j := 3) (v := (v3 + 1)) rfl rfl (by decide) (lv2 := [(3, .int _), (2, .int _), (0, .ref _), (1, .ref _)]) rfl (fun ls hl => ?_)
        refine q_goto C dX5_marks_32 (tgt := 4) (by decide) ?_
        exact ih _ _ _ _ (lv_sub hl [2, 3, 1, 0] rfl) hK
      · replace hK := if_ne hc hK
        refine q_iconst C (v := 1) dX5_marks_22 (by decide) ?_
        refine q_goto C dX5_marks_23 (tgt := 27) (by decide) ?_
        refine q_iadd C dX5_marks_27 ?_
        refine q_istore_n C dX5_marks_28 rfl hl (by decide) (lv2 := [(2, .int _), (0, .ref _), (1, .ref _), (3, .int _)]) rfl (fun ls hl => ?_)
        refine q_iinc C dX5_marks_29 hl (j := 3) (v := (v3 + 1)) rfl rfl (by decide) (lv2 := [(3, .int _), (2, .int _), (0, .ref _), (1, .ref _)]) rfl (fun ls hl => ?_)
        refine q_goto C dX5_marks_32 (tgt := 4) (by decide) ?_
        exact ih _ _ _ _ (lv_sub hl [2, 3, 1, 0] rfl) hK
def f_X5_marks (r1 : Nat) (h : PH) : Option (Int32 × PH) := gd r1 5 (f_X5_marks_b4 r1 200 (0 : Int32) (0 : Int32) h)
set_option maxHeartbeats 4000000 in
set_option maxRecDepth 100000 in
theorem c_X5_marks (l : Launch) (G : GG) {r1 : Nat} {h : PH} {res : Int32 × PH} (hF : f_X5_marks r1 h = some res) : MI l G yX5_marks cX5_marks 4 .int 0 [.ref (G.2.2.2.2 110), .ref (G.2.2.2.2 r1)] h res := by
  unfold f_X5_marks at hF
  obtain ⟨hr1, hF⟩ := gd_so hF
  refine MI_of (by decide +kernel) (Nat.le_of_ble_eq_true rfl) ?_
  intro p e s m args below meth c ls C hl
  have hK := hF
  clear hF
  have hl : lv_has ls 4 [(0, .ref (G.2.2.2.2 110)), (1, .ref (G.2.2.2.2 r1))] := hl
  have C : cx p s m args meth c G RX5 cX5_marks 4 (some .int) := C
  refine q_iconst C (v := 0) dX5_marks_0 (by decide) ?_
  refine q_istore_n C dX5_marks_1 rfl hl (by decide) (lv2 := [(2, .int _), (0, .ref _), (1, .ref _)]) rfl (fun ls hl => ?_)
  refine q_iconst C (v := 0) dX5_marks_2 (by decide) ?_
  refine q_istore_n C dX5_marks_3 rfl hl (by decide) (lv2 := [(3, .int _), (2, .int _), (0, .ref _), (1, .ref _)]) rfl (fun ls hl => ?_)
  exact t_X5_marks_b4 C hr1 200 _ _ _ _ (lv_sub hl [2, 3, 1, 0] rfl) hK
theorem s_X5_marks : sv yX5_marks cX5_marks 4 (some .int) 1 := ⟨w_co_X5_marks, w_im_X5_marks, w_se_X5_marks, w_in_X5, by decide +kernel, by decide⟩
def f_X5_tell (r1 : Nat) (a2 : Int32) (h : PH) : Option (Int32 × PH) := gd r1 5 (if a2 = 5 then rd h r1 (67 : Int32) (fun x1 => some (x1, h)) else if a2 = 6 then rd h r1 (68 : Int32) (fun x2 => some (x2, h)) else if a2 = 7 then rd h r1 (78 : Int32) (fun x3 => some (x3, h)) else if a2 = 8 then rd h r1 (71 : Int32) (fun x4 => some (x4, h)) else if a2 = 9 then rd h r1 (70 : Int32) (fun x5 => some (x5, h)) else if a2 = 10 then rd h r1 (69 : Int32) (fun x6 => some (x6, h)) else if a2 = 11 then rd h r1 (((72 : Int32) + a2) - (11 : Int32)) (fun x7 => some (x7, h)) else if a2 = 12 then rd h r1 (((72 : Int32) + a2) - (11 : Int32)) (fun x8 => some (x8, h)) else if a2 = 13 then rd h r1 (((72 : Int32) + a2) - (11 : Int32)) (fun x9 => some (x9, h)) else if a2 = 14 then rd h r1 (((72 : Int32) + a2) - (11 : Int32)) (fun x10 => some (x10, h)) else if a2 = 15 then rd h r1 (((72 : Int32) + a2) - (11 : Int32)) (fun x11 => some (x11, h)) else if a2 = 16 then rd h r1 (((72 : Int32) + a2) - (11 : Int32)) (fun x12 => some (x12, h)) else if a2 = 17 then bd (f_X5_bottles r1 h) (fun r13 h14 => some (r13, h14)) else rd h r1 (((72 : Int32) + a2) - (11 : Int32)) (fun x15 => some (x15, h)))
set_option maxHeartbeats 4000000 in
set_option maxRecDepth 100000 in
theorem c_X5_tell (l : Launch) (G : GG) {r1 : Nat} {a2 : Int32} {h : PH} {res : Int32 × PH} (hF : f_X5_tell r1 a2 h = some res) : MI l G yX5_tell cX5_tell 3 .int 1 [.ref (G.2.2.2.2 110), .ref (G.2.2.2.2 r1), .int a2] h res := by
  unfold f_X5_tell at hF
  obtain ⟨hr1, hF⟩ := gd_so hF
  refine MI_of (by decide +kernel) (Nat.le_of_ble_eq_true rfl) ?_
  intro p e s m args below meth c ls C hl
  have hK := hF
  clear hF
  have hl : lv_has ls 3 [(0, .ref (G.2.2.2.2 110)), (1, .ref (G.2.2.2.2 r1)), (2, .int a2)] := hl
  have C : cx p s m args meth c G RX5 cX5_tell 3 (some .int) := C
  refine q_iload_n C dX5_tell_0 rfl (lv_at hl 2 rfl) ?_
  by_cases hc0 : a2 = 5
  · replace hK := if_po hc0 hK
    refine q_tsIn C 5 hc0 dX5_tell_1 (off := 67) (by decide) (tgt := 68) (by decide) ?_
    refine q_aload_n C dX5_tell_68 rfl (lv_at hl 1 rfl) ?_
    refine q_bipush C (v := 67) dX5_tell_69 (by decide) ?_
    obtain ⟨x1, hx1, hK⟩ := rd_so hK
    refine q_iald C hr1 hx1 dX5_tell_71 ?_
    cases hK
    exact q_iret C dX5_tell_72
  · replace hK := if_ne hc0 hK
    by_cases hc1 : a2 = 6
    · replace hK := if_po hc1 hK
      refine q_tsIn C 6 hc1 dX5_tell_1 (off := 72) (by decide) (tgt := 73) (by decide) ?_
      refine q_aload_n C dX5_tell_73 rfl (lv_at hl 1 rfl) ?_
      refine q_bipush C (v := 68) dX5_tell_74 (by decide) ?_
      obtain ⟨x2, hx2, hK⟩ := rd_so hK
      refine q_iald C hr1 hx2 dX5_tell_76 ?_
      cases hK
      exact q_iret C dX5_tell_77
    · replace hK := if_ne hc1 hK
      by_cases hc2 : a2 = 7
      · replace hK := if_po hc2 hK
        refine q_tsIn C 7 hc2 dX5_tell_1 (off := 77) (by decide) (tgt := 78) (by decide) ?_
        refine q_aload_n C dX5_tell_78 rfl (lv_at hl 1 rfl) ?_
        refine q_bipush C (v := 78) dX5_tell_79 (by decide) ?_
        obtain ⟨x3, hx3, hK⟩ := rd_so hK
        refine q_iald C hr1 hx3 dX5_tell_81 ?_
        cases hK
        exact q_iret C dX5_tell_82
      · replace hK := if_ne hc2 hK
        by_cases hc3 : a2 = 8
        · replace hK := if_po hc3 hK
          refine q_tsIn C 8 hc3 dX5_tell_1 (off := 82) (by decide) (tgt := 83) (by decide) ?_
          refine q_aload_n C dX5_tell_83 rfl (lv_at hl 1 rfl) ?_
          refine q_bipush C (v := 71) dX5_tell_84 (by decide) ?_
          obtain ⟨x4, hx4, hK⟩ := rd_so hK
          refine q_iald C hr1 hx4 dX5_tell_86 ?_
          cases hK
          exact q_iret C dX5_tell_87
        · replace hK := if_ne hc3 hK
          by_cases hc4 : a2 = 9
          · replace hK := if_po hc4 hK
            refine q_tsIn C 9 hc4 dX5_tell_1 (off := 87) (by decide) (tgt := 88) (by decide) ?_
            refine q_aload_n C dX5_tell_88 rfl (lv_at hl 1 rfl) ?_
            refine q_bipush C (v := 70) dX5_tell_89 (by decide) ?_
            obtain ⟨x5, hx5, hK⟩ := rd_so hK
            refine q_iald C hr1 hx5 dX5_tell_91 ?_
            cases hK
            exact q_iret C dX5_tell_92
          · replace hK := if_ne hc4 hK
            by_cases hc5 : a2 = 10
            · replace hK := if_po hc5 hK
              refine q_tsIn C 10 hc5 dX5_tell_1 (off := 92) (by decide) (tgt := 93) (by decide) ?_
              refine q_aload_n C dX5_tell_93 rfl (lv_at hl 1 rfl) ?_
              refine q_bipush C (v := 69) dX5_tell_94 (by decide) ?_
              obtain ⟨x6, hx6, hK⟩ := rd_so hK
              refine q_iald C hr1 hx6 dX5_tell_96 ?_
              cases hK
              exact q_iret C dX5_tell_97
            · replace hK := if_ne hc5 hK
              by_cases hc6 : a2 = 11
              · replace hK := if_po hc6 hK
                refine q_tsIn C 11 hc6 dX5_tell_1 (off := 103) (by decide) (tgt := 104) (by decide) ?_
                refine q_aload_n C dX5_tell_104 rfl (lv_at hl 1 rfl) ?_
                refine q_bipush C (v := 72) dX5_tell_105 (by decide) ?_
                refine q_iload_n C dX5_tell_107 rfl (lv_at hl 2 rfl) ?_
                refine q_iadd C dX5_tell_108 ?_
                refine q_bipush C (v := 11) dX5_tell_109 (by decide) ?_
                refine q_isub C dX5_tell_111 ?_
                obtain ⟨x7, hx7, hK⟩ := rd_so hK
                refine q_iald C hr1 hx7 dX5_tell_112 ?_
                cases hK
                exact q_iret C dX5_tell_113
              · replace hK := if_ne hc6 hK
                by_cases hc7 : a2 = 12
                · replace hK := if_po hc7 hK
                  refine q_tsIn C 12 hc7 dX5_tell_1 (off := 103) (by decide) (tgt := 104) (by decide) ?_
                  refine q_aload_n C dX5_tell_104 rfl (lv_at hl 1 rfl) ?_
                  refine q_bipush C (v := 72) dX5_tell_105 (by decide) ?_
                  refine q_iload_n C dX5_tell_107 rfl (lv_at hl 2 rfl) ?_
                  refine q_iadd C dX5_tell_108 ?_
                  refine q_bipush C (v := 11) dX5_tell_109 (by decide) ?_
                  refine q_isub C dX5_tell_111 ?_
                  obtain ⟨x8, hx8, hK⟩ := rd_so hK
                  refine q_iald C hr1 hx8 dX5_tell_112 ?_
                  cases hK
                  exact q_iret C dX5_tell_113
                · replace hK := if_ne hc7 hK
                  by_cases hc8 : a2 = 13
                  · replace hK := if_po hc8 hK
                    refine q_tsIn C 13 hc8 dX5_tell_1 (off := 103) (by decide) (tgt := 104) (by decide) ?_
                    refine q_aload_n C dX5_tell_104 rfl (lv_at hl 1 rfl) ?_
                    refine q_bipush C (v := 72) dX5_tell_105 (by decide) ?_
                    refine q_iload_n C dX5_tell_107 rfl (lv_at hl 2 rfl) ?_
                    refine q_iadd C dX5_tell_108 ?_
                    refine q_bipush C (v := 11) dX5_tell_109 (by decide) ?_
                    refine q_isub C dX5_tell_111 ?_
                    obtain ⟨x9, hx9, hK⟩ := rd_so hK
                    refine q_iald C hr1 hx9 dX5_tell_112 ?_
                    cases hK
                    exact q_iret C dX5_tell_113
                  · replace hK := if_ne hc8 hK
                    by_cases hc9 : a2 = 14
                    · replace hK := if_po hc9 hK
                      refine q_tsIn C 14 hc9 dX5_tell_1 (off := 103) (by decide) (tgt := 104) (by decide) ?_
                      refine q_aload_n C dX5_tell_104 rfl (lv_at hl 1 rfl) ?_
                      refine q_bipush C (v := 72) dX5_tell_105 (by decide) ?_
                      refine q_iload_n C dX5_tell_107 rfl (lv_at hl 2 rfl) ?_
                      refine q_iadd C dX5_tell_108 ?_
                      refine q_bipush C (v := 11) dX5_tell_109 (by decide) ?_
                      refine q_isub C dX5_tell_111 ?_
                      obtain ⟨x10, hx10, hK⟩ := rd_so hK
                      refine q_iald C hr1 hx10 dX5_tell_112 ?_
                      cases hK
                      exact q_iret C dX5_tell_113
                    · replace hK := if_ne hc9 hK
                      by_cases hc10 : a2 = 15
                      · replace hK := if_po hc10 hK
                        refine q_tsIn C 15 hc10 dX5_tell_1 (off := 103) (by decide) (tgt := 104) (by decide) ?_
                        refine q_aload_n C dX5_tell_104 rfl (lv_at hl 1 rfl) ?_
                        refine q_bipush C (v := 72) dX5_tell_105 (by decide) ?_
                        refine q_iload_n C dX5_tell_107 rfl (lv_at hl 2 rfl) ?_
                        refine q_iadd C dX5_tell_108 ?_
                        refine q_bipush C (v := 11) dX5_tell_109 (by decide) ?_
                        refine q_isub C dX5_tell_111 ?_
                        obtain ⟨x11, hx11, hK⟩ := rd_so hK
                        refine q_iald C hr1 hx11 dX5_tell_112 ?_
                        cases hK
                        exact q_iret C dX5_tell_113
                      · replace hK := if_ne hc10 hK
                        by_cases hc11 : a2 = 16
                        · replace hK := if_po hc11 hK
                          refine q_tsIn C 16 hc11 dX5_tell_1 (off := 103) (by decide) (tgt := 104) (by decide) ?_
                          refine q_aload_n C dX5_tell_104 rfl (lv_at hl 1 rfl) ?_
                          refine q_bipush C (v := 72) dX5_tell_105 (by decide) ?_
                          refine q_iload_n C dX5_tell_107 rfl (lv_at hl 2 rfl) ?_
                          refine q_iadd C dX5_tell_108 ?_
                          refine q_bipush C (v := 11) dX5_tell_109 (by decide) ?_
                          refine q_isub C dX5_tell_111 ?_
                          obtain ⟨x12, hx12, hK⟩ := rd_so hK
                          refine q_iald C hr1 hx12 dX5_tell_112 ?_
                          cases hK
                          exact q_iret C dX5_tell_113
                        · replace hK := if_ne hc11 hK
                          by_cases hc12 : a2 = 17
                          · replace hK := if_po hc12 hK
                            refine q_tsIn C 17 hc12 dX5_tell_1 (off := 97) (by decide) (tgt := 98) (by decide) ?_
                            refine q_aload_n C dX5_tell_98 rfl (lv_at hl 0 rfl) ?_
                            refine q_aload_n C dX5_tell_99 rfl (lv_at hl 1 rfl) ?_
                            obtain ⟨r13, h14, hfr13, hK⟩ := bd_so hK
                            refine q_callVi C s_X5_bottles w_ml_X5_187 (c_X5_bottles l G hfr13) kd_110 rfl (by decide) (ce_4 kd_110) (by decide) hl.1 rfl rfl (Nat.le_of_ble_eq_true rfl) dX5_tell_100 ?_
                            cases hK
                            exact q_iret C dX5_tell_103
                          · replace hK := if_ne hc12 hK
                            have q0 : (a2 : Int32).toInt ≠ 5 := ne_i hc0
                            have q1 : (a2 : Int32).toInt ≠ 6 := ne_i hc1
                            have q2 : (a2 : Int32).toInt ≠ 7 := ne_i hc2
                            have q3 : (a2 : Int32).toInt ≠ 8 := ne_i hc3
                            have q4 : (a2 : Int32).toInt ≠ 9 := ne_i hc4
                            have q5 : (a2 : Int32).toInt ≠ 10 := ne_i hc5
                            have q6 : (a2 : Int32).toInt ≠ 11 := ne_i hc6
                            have q7 : (a2 : Int32).toInt ≠ 12 := ne_i hc7
                            have q8 : (a2 : Int32).toInt ≠ 13 := ne_i hc8
                            have q9 : (a2 : Int32).toInt ≠ 14 := ne_i hc9
                            have q10 : (a2 : Int32).toInt ≠ 15 := ne_i hc10
                            have q11 : (a2 : Int32).toInt ≠ 16 := ne_i hc11
                            have q12 : (a2 : Int32).toInt ≠ 17 := ne_i hc12
                            refine q_tsOut C dX5_tell_1 (by omega) (tgt := 104) (by decide) ?_
                            refine q_aload_n C dX5_tell_104 rfl (lv_at hl 1 rfl) ?_
                            refine q_bipush C (v := 72) dX5_tell_105 (by decide) ?_
                            refine q_iload_n C dX5_tell_107 rfl (lv_at hl 2 rfl) ?_
                            refine q_iadd C dX5_tell_108 ?_
                            refine q_bipush C (v := 11) dX5_tell_109 (by decide) ?_
                            refine q_isub C dX5_tell_111 ?_
                            obtain ⟨x15, hx15, hK⟩ := rd_so hK
                            refine q_iald C hr1 hx15 dX5_tell_112 ?_
                            cases hK
                            exact q_iret C dX5_tell_113
theorem s_X5_tell : sv yX5_tell cX5_tell 3 (some .int) 2 := ⟨w_co_X5_tell, w_im_X5_tell, w_se_X5_tell, w_in_X5, by decide +kernel, by decide⟩
def f_X5_about (a1 : Int32) (h : PH) : Option (Int32 × PH) := if a1 = 0 then some ((h.1 110 2), h) else if a1 = 1 then some ((h.1 110 7), h) else if a1 = 2 then some ((h.1 110 4), h) else if a1 = 3 then some ((h.1 110 5), h) else if a1 = 4 then some ((h.1 110 6), h) else if a1 = 5 then bd (f_X5_in a1 (5 : Int32) (17 : Int32) h) (fun r1 h2 => if r1 = 0 then some ((-2 : Int32), h2) else bd (f_X5_tell 114 a1 h2) (fun r3 h4 => some (r3, h4))) else if a1 = 6 then bd (f_X5_in a1 (5 : Int32) (17 : Int32) h) (fun r5 h6 => if r5 = 0 then some ((-2 : Int32), h6) else bd (f_X5_tell 114 a1 h6) (fun r7 h8 => some (r7, h8))) else if a1 = 7 then bd (f_X5_in a1 (5 : Int32) (17 : Int32) h) (fun r9 h10 => if r9 = 0 then some ((-2 : Int32), h10) else bd (f_X5_tell 114 a1 h10) (fun r11 h12 => some (r11, h12))) else if a1 = 8 then bd (f_X5_in a1 (5 : Int32) (17 : Int32) h) (fun r13 h14 => if r13 = 0 then some ((-2 : Int32), h14) else bd (f_X5_tell 114 a1 h14) (fun r15 h16 => some (r15, h16))) else if a1 = 9 then bd (f_X5_in a1 (5 : Int32) (17 : Int32) h) (fun r17 h18 => if r17 = 0 then some ((-2 : Int32), h18) else bd (f_X5_tell 114 a1 h18) (fun r19 h20 => some (r19, h20))) else if a1 = 10 then bd (f_X5_in a1 (5 : Int32) (17 : Int32) h) (fun r21 h22 => if r21 = 0 then some ((-2 : Int32), h22) else bd (f_X5_tell 114 a1 h22) (fun r23 h24 => some (r23, h24))) else if a1 = 11 then bd (f_X5_in a1 (5 : Int32) (17 : Int32) h) (fun r25 h26 => if r25 = 0 then some ((-2 : Int32), h26) else bd (f_X5_tell 114 a1 h26) (fun r27 h28 => some (r27, h28))) else if a1 = 12 then bd (f_X5_in a1 (5 : Int32) (17 : Int32) h) (fun r29 h30 => if r29 = 0 then some ((-2 : Int32), h30) else bd (f_X5_tell 114 a1 h30) (fun r31 h32 => some (r31, h32))) else if a1 = 13 then bd (f_X5_in a1 (5 : Int32) (17 : Int32) h) (fun r33 h34 => if r33 = 0 then some ((-2 : Int32), h34) else bd (f_X5_tell 114 a1 h34) (fun r35 h36 => some (r35, h36))) else if a1 = 14 then bd (f_X5_in a1 (5 : Int32) (17 : Int32) h) (fun r37 h38 => if r37 = 0 then some ((-2 : Int32), h38) else bd (f_X5_tell 114 a1 h38) (fun r39 h40 => some (r39, h40))) else if a1 = 15 then bd (f_X5_in a1 (5 : Int32) (17 : Int32) h) (fun r41 h42 => if r41 = 0 then some ((-2 : Int32), h42) else bd (f_X5_tell 114 a1 h42) (fun r43 h44 => some (r43, h44))) else if a1 = 16 then bd (f_X5_in a1 (5 : Int32) (17 : Int32) h) (fun r45 h46 => if r45 = 0 then some ((-2 : Int32), h46) else bd (f_X5_tell 114 a1 h46) (fun r47 h48 => some (r47, h48))) else if a1 = 17 then bd (f_X5_in a1 (5 : Int32) (17 : Int32) h) (fun r49 h50 => if r49 = 0 then some ((-2 : Int32), h50) else bd (f_X5_tell 114 a1 h50) (fun r51 h52 => some (r51, h52))) else if a1 = 18 then some ((h.1 110 12), h) else if a1 = 19 then some ((h.1 110 19), h) else if a1 = 20 then some ((h.1 110 1), h) else bd (f_X5_in a1 (5 : Int32) (17 : Int32) h) (fun r53 h54 => if r53 = 0 then some ((-2 : Int32), h54) else bd (f_X5_tell 114 a1 h54) (fun r55 h56 => some (r55, h56)))
set_option maxHeartbeats 4000000 in
set_option maxRecDepth 100000 in
theorem c_X5_about (l : Launch) (G : GG) {a1 : Int32} {h : PH} {res : Int32 × PH} (hF : f_X5_about a1 h = some res) : MI l G yX5_about cX5_about 2 .int 2 [.ref (G.2.2.2.2 110), .int a1] h res := by
  unfold f_X5_about at hF
  refine MI_of (by decide +kernel) (Nat.le_of_ble_eq_true rfl) ?_
  intro p e s m args below meth c ls C hl
  have hK := hF
  clear hF
  have hl : lv_has ls 2 [(0, .ref (G.2.2.2.2 110)), (1, .int a1)] := hl
  have C : cx p s m args meth c G RX5 cX5_about 2 (some .int) := C
  refine q_iload_n C dX5_about_0 rfl (lv_at hl 1 rfl) ?_
  by_cases hc0 : a1 = 0
  · replace hK := if_po hc0 hK
    refine q_tsIn C 0 hc0 dX5_about_1 (off := 99) (by decide) (tgt := 100) (by decide) ?_
    refine q_aload_n C dX5_about_100 rfl (lv_at hl 0 rfl) ?_
    refine g_X5_cells C kd_110 w_fl_X5_13 dX5_about_101 ?_
    cases hK
    exact q_iret C dX5_about_104
  · replace hK := if_ne hc0 hK
    by_cases hc1 : a1 = 1
    · replace hK := if_po hc1 hK
      refine q_tsIn C 1 hc1 dX5_about_1 (off := 104) (by decide) (tgt := 105) (by decide) ?_
      refine q_aload_n C dX5_about_105 rfl (lv_at hl 0 rfl) ?_
      refine g_X5_valves C kd_110 w_fl_X5_76 dX5_about_106 ?_
      cases hK
      exact q_iret C dX5_about_109
    · replace hK := if_ne hc1 hK
      by_cases hc2 : a1 = 2
      · replace hK := if_po hc2 hK
        refine q_tsIn C 2 hc2 dX5_about_1 (off := 109) (by decide) (tgt := 110) (by decide) ?_
        refine q_aload_n C dX5_about_110 rfl (lv_at hl 0 rfl) ?_
        refine g_X5_target C kd_110 w_fl_X5_130 dX5_about_111 ?_
        cases hK
        exact q_iret C dX5_about_114
      · replace hK := if_ne hc2 hK
        by_cases hc3 : a1 = 3
        · replace hK := if_po hc3 hK
          refine q_tsIn C 3 hc3 dX5_about_1 (off := 114) (by decide) (tgt := 115) (by decide) ?_
          refine q_aload_n C dX5_about_115 rfl (lv_at hl 0 rfl) ?_
          refine g_X5_tolerance C kd_110 w_fl_X5_133 dX5_about_116 ?_
          cases hK
          exact q_iret C dX5_about_119
        · replace hK := if_ne hc3 hK
          by_cases hc4 : a1 = 4
          · replace hK := if_po hc4 hK
            refine q_tsIn C 4 hc4 dX5_about_1 (off := 119) (by decide) (tgt := 120) (by decide) ?_
            refine q_aload_n C dX5_about_120 rfl (lv_at hl 0 rfl) ?_
            refine g_X5_each C kd_110 w_fl_X5_136 dX5_about_121 ?_
            cases hK
            exact q_iret C dX5_about_124
          · replace hK := if_ne hc4 hK
            by_cases hc5 : a1 = 5
            · replace hK := if_po hc5 hK
              refine q_tsIn C 5 hc5 dX5_about_1 (off := 139) (by decide) (tgt := 140) (by decide) ?_
              refine q_iload_n C dX5_about_140 rfl (lv_at hl 1 rfl) ?_
              refine q_iconst C (v := 5) dX5_about_141 (by decide) ?_
              refine q_bipush C (v := 17) dX5_about_142 (by decide) ?_
              obtain ⟨r1, h2, hfr1, hK⟩ := bd_so hK
              refine q_callSi C s_X5_in w_ml_X5_72 (c_X5_in l G hfr1) (by decide) hl.1 rfl rfl (Nat.le_of_ble_eq_true rfl) dX5_about_144 ?_
              refine q_if_eq C dX5_about_147 (tgt := 162) (by decide) (fun hc => ?_) (fun hc => ?_)
              · replace hK := if_po hc hK
                refine q_bipush C (v := -2) dX5_about_162 (by decide) ?_
                cases hK
                exact q_iret C dX5_about_164
              · replace hK := if_ne hc hK
                refine q_aload_n C dX5_about_150 rfl (lv_at hl 0 rfl) ?_
                refine q_aload_n C dX5_about_151 rfl (lv_at hl 0 rfl) ?_
                refine g_X5_now C kd_110 w_fl_X5_23 dX5_about_152 ?_
                refine q_iload_n C dX5_about_155 rfl (lv_at hl 1 rfl) ?_
                obtain ⟨r3, h4, hfr3, hK⟩ := bd_so hK
                refine q_callVi C s_X5_tell w_ml_X5_194 (c_X5_tell l G hfr3) kd_110 rfl (by decide) (ce_4 kd_110) (by decide) hl.1 rfl rfl (Nat.le_of_ble_eq_true rfl) dX5_about_156 ?_
                refine q_goto C dX5_about_159 (tgt := 164) (by decide) ?_
                cases hK
                exact q_iret C dX5_about_164
            · replace hK := if_ne hc5 hK
              by_cases hc6 : a1 = 6
              · replace hK := if_po hc6 hK
                refine q_tsIn C 6 hc6 dX5_about_1 (off := 139) (by decide) (tgt := 140) (by decide) ?_
                refine q_iload_n C dX5_about_140 rfl (lv_at hl 1 rfl) ?_
                refine q_iconst C (v := 5) dX5_about_141 (by decide) ?_
                refine q_bipush C (v := 17) dX5_about_142 (by decide) ?_
                obtain ⟨r5, h6, hfr5, hK⟩ := bd_so hK
                refine q_callSi C s_X5_in w_ml_X5_72 (c_X5_in l G hfr5) (by decide) hl.1 rfl rfl (Nat.le_of_ble_eq_true rfl) dX5_about_144 ?_
                refine q_if_eq C dX5_about_147 (tgt := 162) (by decide) (fun hc => ?_) (fun hc => ?_)
                · replace hK := if_po hc hK
                  refine q_bipush C (v := -2) dX5_about_162 (by decide) ?_
                  cases hK
                  exact q_iret C dX5_about_164
                · replace hK := if_ne hc hK
                  refine q_aload_n C dX5_about_150 rfl (lv_at hl 0 rfl) ?_
                  refine q_aload_n C dX5_about_151 rfl (lv_at hl 0 rfl) ?_
                  refine g_X5_now C kd_110 w_fl_X5_23 dX5_about_152 ?_
                  refine q_iload_n C dX5_about_155 rfl (lv_at hl 1 rfl) ?_
                  obtain ⟨r7, h8, hfr7, hK⟩ := bd_so hK
                  refine q_callVi C s_X5_tell w_ml_X5_194 (c_X5_tell l G hfr7) kd_110 rfl (by decide) (ce_4 kd_110) (by decide) hl.1 rfl rfl (Nat.le_of_ble_eq_true rfl) dX5_about_156 ?_
                  refine q_goto C dX5_about_159 (tgt := 164) (by decide) ?_
                  cases hK
                  exact q_iret C dX5_about_164
              · replace hK := if_ne hc6 hK
                by_cases hc7 : a1 = 7
                · replace hK := if_po hc7 hK
                  refine q_tsIn C 7 hc7 dX5_about_1 (off := 139) (by decide) (tgt := 140) (by decide) ?_
                  refine q_iload_n C dX5_about_140 rfl (lv_at hl 1 rfl) ?_
                  refine q_iconst C (v := 5) dX5_about_141 (by decide) ?_
                  refine q_bipush C (v := 17) dX5_about_142 (by decide) ?_
                  obtain ⟨r9, h10, hfr9, hK⟩ := bd_so hK
                  refine q_callSi C s_X5_in w_ml_X5_72 (c_X5_in l G hfr9) (by decide) hl.1 rfl rfl (Nat.le_of_ble_eq_true rfl) dX5_about_144 ?_
                  refine q_if_eq C dX5_about_147 (tgt := 162) (by decide) (fun hc => ?_) (fun hc => ?_)
                  · replace hK := if_po hc hK
                    refine q_bipush C (v := -2) dX5_about_162 (by decide) ?_
                    cases hK
                    exact q_iret C dX5_about_164
                  · replace hK := if_ne hc hK
                    refine q_aload_n C dX5_about_150 rfl (lv_at hl 0 rfl) ?_
                    refine q_aload_n C dX5_about_151 rfl (lv_at hl 0 rfl) ?_
                    refine g_X5_now C kd_110 w_fl_X5_23 dX5_about_152 ?_
                    refine q_iload_n C dX5_about_155 rfl (lv_at hl 1 rfl) ?_
                    obtain ⟨r11, h12, hfr11, hK⟩ := bd_so hK
                    refine q_callVi C s_X5_tell w_ml_X5_194 (c_X5_tell l G hfr11) kd_110 rfl (by decide) (ce_4 kd_110) (by decide) hl.1 rfl rfl (Nat.le_of_ble_eq_true rfl) dX5_about_156 ?_
                    refine q_goto C dX5_about_159 (tgt := 164) (by decide) ?_
                    cases hK
                    exact q_iret C dX5_about_164
                · replace hK := if_ne hc7 hK
                  by_cases hc8 : a1 = 8
                  · replace hK := if_po hc8 hK
                    refine q_tsIn C 8 hc8 dX5_about_1 (off := 139) (by decide) (tgt := 140) (by decide) ?_
                    refine q_iload_n C dX5_about_140 rfl (lv_at hl 1 rfl) ?_
                    refine q_iconst C (v := 5) dX5_about_141 (by decide) ?_
                    refine q_bipush C (v := 17) dX5_about_142 (by decide) ?_
                    obtain ⟨r13, h14, hfr13, hK⟩ := bd_so hK
                    refine q_callSi C s_X5_in w_ml_X5_72 (c_X5_in l G hfr13) (by decide) hl.1 rfl rfl (Nat.le_of_ble_eq_true rfl) dX5_about_144 ?_
                    refine q_if_eq C dX5_about_147 (tgt := 162) (by decide) (fun hc => ?_) (fun hc => ?_)
                    · replace hK := if_po hc hK
                      refine q_bipush C (v := -2) dX5_about_162 (by decide) ?_
                      cases hK
                      exact q_iret C dX5_about_164
                    · replace hK := if_ne hc hK
                      refine q_aload_n C dX5_about_150 rfl (lv_at hl 0 rfl) ?_
                      refine q_aload_n C dX5_about_151 rfl (lv_at hl 0 rfl) ?_
                      refine g_X5_now C kd_110 w_fl_X5_23 dX5_about_152 ?_
                      refine q_iload_n C dX5_about_155 rfl (lv_at hl 1 rfl) ?_
                      obtain ⟨r15, h16, hfr15, hK⟩ := bd_so hK
                      refine q_callVi C s_X5_tell w_ml_X5_194 (c_X5_tell l G hfr15) kd_110 rfl (by decide) (ce_4 kd_110) (by decide) hl.1 rfl rfl (Nat.le_of_ble_eq_true rfl) dX5_about_156 ?_
                      refine q_goto C dX5_about_159 (tgt := 164) (by decide) ?_
                      cases hK
                      exact q_iret C dX5_about_164
                  · replace hK := if_ne hc8 hK
                    by_cases hc9 : a1 = 9
                    · replace hK := if_po hc9 hK
                      refine q_tsIn C 9 hc9 dX5_about_1 (off := 139) (by decide) (tgt := 140) (by decide) ?_
                      refine q_iload_n C dX5_about_140 rfl (lv_at hl 1 rfl) ?_
                      refine q_iconst C (v := 5) dX5_about_141 (by decide) ?_
                      refine q_bipush C (v := 17) dX5_about_142 (by decide) ?_
                      obtain ⟨r17, h18, hfr17, hK⟩ := bd_so hK
                      refine q_callSi C s_X5_in w_ml_X5_72 (c_X5_in l G hfr17) (by decide) hl.1 rfl rfl (Nat.le_of_ble_eq_true rfl) dX5_about_144 ?_
                      refine q_if_eq C dX5_about_147 (tgt := 162) (by decide) (fun hc => ?_) (fun hc => ?_)
                      · replace hK := if_po hc hK
                        refine q_bipush C (v := -2) dX5_about_162 (by decide) ?_
                        cases hK
                        exact q_iret C dX5_about_164
                      · replace hK := if_ne hc hK
                        refine q_aload_n C dX5_about_150 rfl (lv_at hl 0 rfl) ?_
                        refine q_aload_n C dX5_about_151 rfl (lv_at hl 0 rfl) ?_
                        refine g_X5_now C kd_110 w_fl_X5_23 dX5_about_152 ?_
                        refine q_iload_n C dX5_about_155 rfl (lv_at hl 1 rfl) ?_
                        obtain ⟨r19, h20, hfr19, hK⟩ := bd_so hK
                        refine q_callVi C s_X5_tell w_ml_X5_194 (c_X5_tell l G hfr19) kd_110 rfl (by decide) (ce_4 kd_110) (by decide) hl.1 rfl rfl (Nat.le_of_ble_eq_true rfl) dX5_about_156 ?_
                        refine q_goto C dX5_about_159 (tgt := 164) (by decide) ?_
                        cases hK
                        exact q_iret C dX5_about_164
                    · replace hK := if_ne hc9 hK
                      by_cases hc10 : a1 = 10
                      · replace hK := if_po hc10 hK
                        refine q_tsIn C 10 hc10 dX5_about_1 (off := 139) (by decide) (tgt := 140) (by decide) ?_
                        refine q_iload_n C dX5_about_140 rfl (lv_at hl 1 rfl) ?_
                        refine q_iconst C (v := 5) dX5_about_141 (by decide) ?_
                        refine q_bipush C (v := 17) dX5_about_142 (by decide) ?_
                        obtain ⟨r21, h22, hfr21, hK⟩ := bd_so hK
                        refine q_callSi C s_X5_in w_ml_X5_72 (c_X5_in l G hfr21) (by decide) hl.1 rfl rfl (Nat.le_of_ble_eq_true rfl) dX5_about_144 ?_
                        refine q_if_eq C dX5_about_147 (tgt := 162) (by decide) (fun hc => ?_) (fun hc => ?_)
                        · replace hK := if_po hc hK
                          refine q_bipush C (v := -2) dX5_about_162 (by decide) ?_
                          cases hK
                          exact q_iret C dX5_about_164
                        · replace hK := if_ne hc hK
                          refine q_aload_n C dX5_about_150 rfl (lv_at hl 0 rfl) ?_
                          refine q_aload_n C dX5_about_151 rfl (lv_at hl 0 rfl) ?_
                          refine g_X5_now C kd_110 w_fl_X5_23 dX5_about_152 ?_
                          refine q_iload_n C dX5_about_155 rfl (lv_at hl 1 rfl) ?_
                          obtain ⟨r23, h24, hfr23, hK⟩ := bd_so hK
                          refine q_callVi C s_X5_tell w_ml_X5_194 (c_X5_tell l G hfr23) kd_110 rfl (by decide) (ce_4 kd_110) (by decide) hl.1 rfl rfl (Nat.le_of_ble_eq_true rfl) dX5_about_156 ?_
                          refine q_goto C dX5_about_159 (tgt := 164) (by decide) ?_
                          cases hK
                          exact q_iret C dX5_about_164
                      · replace hK := if_ne hc10 hK
                        by_cases hc11 : a1 = 11
                        · replace hK := if_po hc11 hK
                          refine q_tsIn C 11 hc11 dX5_about_1 (off := 139) (by decide) (tgt := 140) (by decide) ?_
                          refine q_iload_n C dX5_about_140 rfl (lv_at hl 1 rfl) ?_
                          refine q_iconst C (v := 5) dX5_about_141 (by decide) ?_
                          refine q_bipush C (v := 17) dX5_about_142 (by decide) ?_
                          obtain ⟨r25, h26, hfr25, hK⟩ := bd_so hK
                          refine q_callSi C s_X5_in w_ml_X5_72 (c_X5_in l G hfr25) (by decide) hl.1 rfl rfl (Nat.le_of_ble_eq_true rfl) dX5_about_144 ?_
                          refine q_if_eq C dX5_about_147 (tgt := 162) (by decide) (fun hc => ?_) (fun hc => ?_)
                          · replace hK := if_po hc hK
                            refine q_bipush C (v := -2) dX5_about_162 (by decide) ?_
                            cases hK
                            exact q_iret C dX5_about_164
                          · replace hK := if_ne hc hK
                            refine q_aload_n C dX5_about_150 rfl (lv_at hl 0 rfl) ?_
                            refine q_aload_n C dX5_about_151 rfl (lv_at hl 0 rfl) ?_
                            refine g_X5_now C kd_110 w_fl_X5_23 dX5_about_152 ?_
                            refine q_iload_n C dX5_about_155 rfl (lv_at hl 1 rfl) ?_
                            obtain ⟨r27, h28, hfr27, hK⟩ := bd_so hK
                            refine q_callVi C s_X5_tell w_ml_X5_194 (c_X5_tell l G hfr27) kd_110 rfl (by decide) (ce_4 kd_110) (by decide) hl.1 rfl rfl (Nat.le_of_ble_eq_true rfl) dX5_about_156 ?_
                            refine q_goto C dX5_about_159 (tgt := 164) (by decide) ?_
                            cases hK
                            exact q_iret C dX5_about_164
                        · replace hK := if_ne hc11 hK
                          by_cases hc12 : a1 = 12
                          · replace hK := if_po hc12 hK
                            refine q_tsIn C 12 hc12 dX5_about_1 (off := 139) (by decide) (tgt := 140) (by decide) ?_
                            refine q_iload_n C dX5_about_140 rfl (lv_at hl 1 rfl) ?_
                            refine q_iconst C (v := 5) dX5_about_141 (by decide) ?_
                            refine q_bipush C (v := 17) dX5_about_142 (by decide) ?_
                            obtain ⟨r29, h30, hfr29, hK⟩ := bd_so hK
                            refine q_callSi C s_X5_in w_ml_X5_72 (c_X5_in l G hfr29) (by decide) hl.1 rfl rfl (Nat.le_of_ble_eq_true rfl) dX5_about_144 ?_
                            refine q_if_eq C dX5_about_147 (tgt := 162) (by decide) (fun hc => ?_) (fun hc => ?_)
                            · replace hK := if_po hc hK
                              refine q_bipush C (v := -2) dX5_about_162 (by decide) ?_
                              cases hK
                              exact q_iret C dX5_about_164
                            · replace hK := if_ne hc hK
                              refine q_aload_n C dX5_about_150 rfl (lv_at hl 0 rfl) ?_
                              refine q_aload_n C dX5_about_151 rfl (lv_at hl 0 rfl) ?_
                              refine g_X5_now C kd_110 w_fl_X5_23 dX5_about_152 ?_
                              refine q_iload_n C dX5_about_155 rfl (lv_at hl 1 rfl) ?_
                              obtain ⟨r31, h32, hfr31, hK⟩ := bd_so hK
                              refine q_callVi C s_X5_tell w_ml_X5_194 (c_X5_tell l G hfr31) kd_110 rfl (by decide) (ce_4 kd_110) (by decide) hl.1 rfl rfl (Nat.le_of_ble_eq_true rfl) dX5_about_156 ?_
                              refine q_goto C dX5_about_159 (tgt := 164) (by decide) ?_
                              cases hK
                              exact q_iret C dX5_about_164
                          · replace hK := if_ne hc12 hK
                            by_cases hc13 : a1 = 13
                            · replace hK := if_po hc13 hK
                              refine q_tsIn C 13 hc13 dX5_about_1 (off := 139) (by decide) (tgt := 140) (by decide) ?_
                              refine q_iload_n C dX5_about_140 rfl (lv_at hl 1 rfl) ?_
                              refine q_iconst C (v := 5) dX5_about_141 (by decide) ?_
                              refine q_bipush C (v := 17) dX5_about_142 (by decide) ?_
                              obtain ⟨r33, h34, hfr33, hK⟩ := bd_so hK
                              refine q_callSi C s_X5_in w_ml_X5_72 (c_X5_in l G hfr33) (by decide) hl.1 rfl rfl (Nat.le_of_ble_eq_true rfl) dX5_about_144 ?_
                              refine q_if_eq C dX5_about_147 (tgt := 162) (by decide) (fun hc => ?_) (fun hc => ?_)
                              · replace hK := if_po hc hK
                                refine q_bipush C (v := -2) dX5_about_162 (by decide) ?_
                                cases hK
                                exact q_iret C dX5_about_164
                              · replace hK := if_ne hc hK
                                refine q_aload_n C dX5_about_150 rfl (lv_at hl 0 rfl) ?_
                                refine q_aload_n C dX5_about_151 rfl (lv_at hl 0 rfl) ?_
                                refine g_X5_now C kd_110 w_fl_X5_23 dX5_about_152 ?_
                                refine q_iload_n C dX5_about_155 rfl (lv_at hl 1 rfl) ?_
                                obtain ⟨r35, h36, hfr35, hK⟩ := bd_so hK
                                refine q_callVi C s_X5_tell w_ml_X5_194 (c_X5_tell l G hfr35) kd_110 rfl (by decide) (ce_4 kd_110) (by decide) hl.1 rfl rfl (Nat.le_of_ble_eq_true rfl) dX5_about_156 ?_
                                refine q_goto C dX5_about_159 (tgt := 164) (by decide) ?_
                                cases hK
                                exact q_iret C dX5_about_164
                            · replace hK := if_ne hc13 hK
                              by_cases hc14 : a1 = 14
                              · replace hK := if_po hc14 hK
                                refine q_tsIn C 14 hc14 dX5_about_1 (off := 139) (by decide) (tgt := 140) (by decide) ?_
                                refine q_iload_n C dX5_about_140 rfl (lv_at hl 1 rfl) ?_
                                refine q_iconst C (v := 5) dX5_about_141 (by decide) ?_
                                refine q_bipush C (v := 17) dX5_about_142 (by decide) ?_
                                obtain ⟨r37, h38, hfr37, hK⟩ := bd_so hK
                                refine q_callSi C s_X5_in w_ml_X5_72 (c_X5_in l G hfr37) (by decide) hl.1 rfl rfl (Nat.le_of_ble_eq_true rfl) dX5_about_144 ?_
                                refine q_if_eq C dX5_about_147 (tgt := 162) (by decide) (fun hc => ?_) (fun hc => ?_)
                                · replace hK := if_po hc hK
                                  refine q_bipush C (v := -2) dX5_about_162 (by decide) ?_
                                  cases hK
                                  exact q_iret C dX5_about_164
                                · replace hK := if_ne hc hK
                                  refine q_aload_n C dX5_about_150 rfl (lv_at hl 0 rfl) ?_
                                  refine q_aload_n C dX5_about_151 rfl (lv_at hl 0 rfl) ?_
                                  refine g_X5_now C kd_110 w_fl_X5_23 dX5_about_152 ?_
                                  refine q_iload_n C dX5_about_155 rfl (lv_at hl 1 rfl) ?_
                                  obtain ⟨r39, h40, hfr39, hK⟩ := bd_so hK
                                  refine q_callVi C s_X5_tell w_ml_X5_194 (c_X5_tell l G hfr39) kd_110 rfl (by decide) (ce_4 kd_110) (by decide) hl.1 rfl rfl (Nat.le_of_ble_eq_true rfl) dX5_about_156 ?_
                                  refine q_goto C dX5_about_159 (tgt := 164) (by decide) ?_
                                  cases hK
                                  exact q_iret C dX5_about_164
                              · replace hK := if_ne hc14 hK
                                by_cases hc15 : a1 = 15
                                · replace hK := if_po hc15 hK
                                  refine q_tsIn C 15 hc15 dX5_about_1 (off := 139) (by decide) (tgt := 140) (by decide) ?_
                                  refine q_iload_n C dX5_about_140 rfl (lv_at hl 1 rfl) ?_
                                  refine q_iconst C (v := 5) dX5_about_141 (by decide) ?_
                                  refine q_bipush C (v := 17) dX5_about_142 (by decide) ?_
                                  obtain ⟨r41, h42, hfr41, hK⟩ := bd_so hK
                                  refine q_callSi C s_X5_in w_ml_X5_72 (c_X5_in l G hfr41) (by decide) hl.1 rfl rfl (Nat.le_of_ble_eq_true rfl) dX5_about_144 ?_
                                  refine q_if_eq C dX5_about_147 (tgt := 162) (by decide) (fun hc => ?_) (fun hc => ?_)
                                  · replace hK := if_po hc hK
                                    refine q_bipush C (v := -2) dX5_about_162 (by decide) ?_
                                    cases hK
                                    exact q_iret C dX5_about_164
                                  · replace hK := if_ne hc hK
                                    refine q_aload_n C dX5_about_150 rfl (lv_at hl 0 rfl) ?_
                                    refine q_aload_n C dX5_about_151 rfl (lv_at hl 0 rfl) ?_
                                    refine g_X5_now C kd_110 w_fl_X5_23 dX5_about_152 ?_
                                    refine q_iload_n C dX5_about_155 rfl (lv_at hl 1 rfl) ?_
                                    obtain ⟨r43, h44, hfr43, hK⟩ := bd_so hK
                                    refine q_callVi C s_X5_tell w_ml_X5_194 (c_X5_tell l G hfr43) kd_110 rfl (by decide) (ce_4 kd_110) (by decide) hl.1 rfl rfl (Nat.le_of_ble_eq_true rfl) dX5_about_156 ?_
                                    refine q_goto C dX5_about_159 (tgt := 164) (by decide) ?_
                                    cases hK
                                    exact q_iret C dX5_about_164
                                · replace hK := if_ne hc15 hK
                                  by_cases hc16 : a1 = 16
                                  · replace hK := if_po hc16 hK
                                    refine q_tsIn C 16 hc16 dX5_about_1 (off := 139) (by decide) (tgt := 140) (by decide) ?_
                                    refine q_iload_n C dX5_about_140 rfl (lv_at hl 1 rfl) ?_
                                    refine q_iconst C (v := 5) dX5_about_141 (by decide) ?_
                                    refine q_bipush C (v := 17) dX5_about_142 (by decide) ?_
                                    obtain ⟨r45, h46, hfr45, hK⟩ := bd_so hK
                                    refine q_callSi C s_X5_in w_ml_X5_72 (c_X5_in l G hfr45) (by decide) hl.1 rfl rfl (Nat.le_of_ble_eq_true rfl) dX5_about_144 ?_
                                    refine q_if_eq C dX5_about_147 (tgt := 162) (by decide) (fun hc => ?_) (fun hc => ?_)
                                    · replace hK := if_po hc hK
                                      refine q_bipush C (v := -2) dX5_about_162 (by decide) ?_
                                      cases hK
                                      exact q_iret C dX5_about_164
                                    · replace hK := if_ne hc hK
                                      refine q_aload_n C dX5_about_150 rfl (lv_at hl 0 rfl) ?_
                                      refine q_aload_n C dX5_about_151 rfl (lv_at hl 0 rfl) ?_
                                      refine g_X5_now C kd_110 w_fl_X5_23 dX5_about_152 ?_
                                      refine q_iload_n C dX5_about_155 rfl (lv_at hl 1 rfl) ?_
                                      obtain ⟨r47, h48, hfr47, hK⟩ := bd_so hK
                                      refine q_callVi C s_X5_tell w_ml_X5_194 (c_X5_tell l G hfr47) kd_110 rfl (by decide) (ce_4 kd_110) (by decide) hl.1 rfl rfl (Nat.le_of_ble_eq_true rfl) dX5_about_156 ?_
                                      refine q_goto C dX5_about_159 (tgt := 164) (by decide) ?_
                                      cases hK
                                      exact q_iret C dX5_about_164
                                  · replace hK := if_ne hc16 hK
                                    by_cases hc17 : a1 = 17
                                    · replace hK := if_po hc17 hK
                                      refine q_tsIn C 17 hc17 dX5_about_1 (off := 139) (by decide) (tgt := 140) (by decide) ?_
                                      refine q_iload_n C dX5_about_140 rfl (lv_at hl 1 rfl) ?_
                                      refine q_iconst C (v := 5) dX5_about_141 (by decide) ?_
                                      refine q_bipush C (v := 17) dX5_about_142 (by decide) ?_
                                      obtain ⟨r49, h50, hfr49, hK⟩ := bd_so hK
                                      refine q_callSi C s_X5_in w_ml_X5_72 (c_X5_in l G hfr49) (by decide) hl.1 rfl rfl (Nat.le_of_ble_eq_true rfl) dX5_about_144 ?_
                                      refine q_if_eq C dX5_about_147 (tgt := 162) (by decide) (fun hc => ?_) (fun hc => ?_)
                                      · replace hK := if_po hc hK
                                        refine q_bipush C (v := -2) dX5_about_162 (by decide) ?_
                                        cases hK
                                        exact q_iret C dX5_about_164
                                      · replace hK := if_ne hc hK
                                        refine q_aload_n C dX5_about_150 rfl (lv_at hl 0 rfl) ?_
                                        refine q_aload_n C dX5_about_151 rfl (lv_at hl 0 rfl) ?_
                                        refine g_X5_now C kd_110 w_fl_X5_23 dX5_about_152 ?_
                                        refine q_iload_n C dX5_about_155 rfl (lv_at hl 1 rfl) ?_
                                        obtain ⟨r51, h52, hfr51, hK⟩ := bd_so hK
                                        refine q_callVi C s_X5_tell w_ml_X5_194 (c_X5_tell l G hfr51) kd_110 rfl (by decide) (ce_4 kd_110) (by decide) hl.1 rfl rfl (Nat.le_of_ble_eq_true rfl) dX5_about_156 ?_
                                        refine q_goto C dX5_about_159 (tgt := 164) (by decide) ?_
                                        cases hK
                                        exact q_iret C dX5_about_164
                                    · replace hK := if_ne hc17 hK
                                      by_cases hc18 : a1 = 18
                                      · replace hK := if_po hc18 hK
                                        refine q_tsIn C 18 hc18 dX5_about_1 (off := 124) (by decide) (tgt := 125) (by decide) ?_
                                        refine q_aload_n C dX5_about_125 rfl (lv_at hl 0 rfl) ?_
                                        refine g_X5_acts C kd_110 w_fl_X5_139 dX5_about_126 ?_
                                        cases hK
                                        exact q_iret C dX5_about_129
                                      · replace hK := if_ne hc18 hK
                                        by_cases hc19 : a1 = 19
                                        · replace hK := if_po hc19 hK
                                          refine q_tsIn C 19 hc19 dX5_about_1 (off := 129) (by decide) (tgt := 130) (by decide) ?_
                                          refine q_aload_n C dX5_about_130 rfl (lv_at hl 0 rfl) ?_
                                          refine g_X5_seen C kd_110 w_fl_X5_191 dX5_about_131 ?_
                                          cases hK
                                          exact q_iret C dX5_about_134
                                        · replace hK := if_ne hc19 hK
                                          by_cases hc20 : a1 = 20
                                          · replace hK := if_po hc20 hK
                                            refine q_tsIn C 20 hc20 dX5_about_1 (off := 134) (by decide) (tgt := 135) (by decide) ?_
                                            refine q_aload_n C dX5_about_135 rfl (lv_at hl 0 rfl) ?_
                                            refine g_X5_length C kd_110 w_fl_X5_79 dX5_about_136 ?_
                                            cases hK
                                            exact q_iret C dX5_about_139
                                          · replace hK := if_ne hc20 hK
                                            have q0 : (a1 : Int32).toInt ≠ 0 := ne_i hc0
                                            have q1 : (a1 : Int32).toInt ≠ 1 := ne_i hc1
                                            have q2 : (a1 : Int32).toInt ≠ 2 := ne_i hc2
                                            have q3 : (a1 : Int32).toInt ≠ 3 := ne_i hc3
                                            have q4 : (a1 : Int32).toInt ≠ 4 := ne_i hc4
                                            have q5 : (a1 : Int32).toInt ≠ 5 := ne_i hc5
                                            have q6 : (a1 : Int32).toInt ≠ 6 := ne_i hc6
                                            have q7 : (a1 : Int32).toInt ≠ 7 := ne_i hc7
                                            have q8 : (a1 : Int32).toInt ≠ 8 := ne_i hc8
                                            have q9 : (a1 : Int32).toInt ≠ 9 := ne_i hc9
                                            have q10 : (a1 : Int32).toInt ≠ 10 := ne_i hc10
                                            have q11 : (a1 : Int32).toInt ≠ 11 := ne_i hc11
                                            have q12 : (a1 : Int32).toInt ≠ 12 := ne_i hc12
                                            have q13 : (a1 : Int32).toInt ≠ 13 := ne_i hc13
                                            have q14 : (a1 : Int32).toInt ≠ 14 := ne_i hc14
                                            have q15 : (a1 : Int32).toInt ≠ 15 := ne_i hc15
                                            have q16 : (a1 : Int32).toInt ≠ 16 := ne_i hc16
                                            have q17 : (a1 : Int32).toInt ≠ 17 := ne_i hc17
                                            have q18 : (a1 : Int32).toInt ≠ 18 := ne_i hc18
                                            have q19 : (a1 : Int32).toInt ≠ 19 := ne_i hc19
                                            have q20 : (a1 : Int32).toInt ≠ 20 := ne_i hc20
                                            refine q_tsOut C dX5_about_1 (by omega) (tgt := 140) (by decide) ?_
                                            refine q_iload_n C dX5_about_140 rfl (lv_at hl 1 rfl) ?_
                                            refine q_iconst C (v := 5) dX5_about_141 (by decide) ?_
                                            refine q_bipush C (v := 17) dX5_about_142 (by decide) ?_
                                            obtain ⟨r53, h54, hfr53, hK⟩ := bd_so hK
                                            refine q_callSi C s_X5_in w_ml_X5_72 (c_X5_in l G hfr53) (by decide) hl.1 rfl rfl (Nat.le_of_ble_eq_true rfl) dX5_about_144 ?_
                                            refine q_if_eq C dX5_about_147 (tgt := 162) (by decide) (fun hc => ?_) (fun hc => ?_)
                                            · replace hK := if_po hc hK
                                              refine q_bipush C (v := -2) dX5_about_162 (by decide) ?_
                                              cases hK
                                              exact q_iret C dX5_about_164
                                            · replace hK := if_ne hc hK
                                              refine q_aload_n C dX5_about_150 rfl (lv_at hl 0 rfl) ?_
                                              refine q_aload_n C dX5_about_151 rfl (lv_at hl 0 rfl) ?_
                                              refine g_X5_now C kd_110 w_fl_X5_23 dX5_about_152 ?_
                                              refine q_iload_n C dX5_about_155 rfl (lv_at hl 1 rfl) ?_
                                              obtain ⟨r55, h56, hfr55, hK⟩ := bd_so hK
                                              refine q_callVi C s_X5_tell w_ml_X5_194 (c_X5_tell l G hfr55) kd_110 rfl (by decide) (ce_4 kd_110) (by decide) hl.1 rfl rfl (Nat.le_of_ble_eq_true rfl) dX5_about_156 ?_
                                              refine q_goto C dX5_about_159 (tgt := 164) (by decide) ?_
                                              cases hK
                                              exact q_iret C dX5_about_164
theorem s_X5_about : sv yX5_about cX5_about 2 (some .int) 1 := ⟨w_co_X5_about, w_im_X5_about, w_se_X5_about, w_in_X5, by decide +kernel, by decide⟩
def f_X5_place (a1 : Int32) (h : PH) : Option (Int32 × PH) := bd (f_X5_in a1 (0 : Int32) (4 : Int32) h) (fun r1 h2 => if r1 = 0 then some ((-2 : Int32), h2) else rd h2 112 a1 (fun x3 => some (x3, h2)))
set_option maxHeartbeats 4000000 in
set_option maxRecDepth 100000 in
theorem c_X5_place (l : Launch) (G : GG) {a1 : Int32} {h : PH} {res : Int32 × PH} (hF : f_X5_place a1 h = some res) : MI l G yX5_place cX5_place 2 .int 1 [.ref (G.2.2.2.2 110), .int a1] h res := by
  unfold f_X5_place at hF
  refine MI_of (by decide +kernel) (Nat.le_of_ble_eq_true rfl) ?_
  intro p e s m args below meth c ls C hl
  have hK := hF
  clear hF
  have hl : lv_has ls 2 [(0, .ref (G.2.2.2.2 110)), (1, .int a1)] := hl
  have C : cx p s m args meth c G RX5 cX5_place 2 (some .int) := C
  refine q_iload_n C dX5_place_0 rfl (lv_at hl 1 rfl) ?_
  refine q_iconst C (v := 0) dX5_place_1 (by decide) ?_
  refine q_iconst C (v := 4) dX5_place_2 (by decide) ?_
  obtain ⟨r1, h2, hfr1, hK⟩ := bd_so hK
  refine q_callSi C s_X5_in w_ml_X5_72 (c_X5_in l G hfr1) (by decide) hl.1 rfl rfl (Nat.le_of_ble_eq_true rfl) dX5_place_3 ?_
  refine q_if_eq C dX5_place_6 (tgt := 18) (by decide) (fun hc => ?_) (fun hc => ?_)
  · replace hK := if_po hc hK
    refine q_bipush C (v := -2) dX5_place_18 (by decide) ?_
    cases hK
    exact q_iret C dX5_place_20
  · replace hK := if_ne hc hK
    refine q_aload_n C dX5_place_9 rfl (lv_at hl 0 rfl) ?_
    refine g_X5_places C kd_110 w_fl_X5_17 dX5_place_10 ?_
    refine q_iload_n C dX5_place_13 rfl (lv_at hl 1 rfl) ?_
    obtain ⟨x3, hx3, hK⟩ := rd_so hK
    refine q_iald C kd_112 hx3 dX5_place_14 ?_
    refine q_goto C dX5_place_15 (tgt := 20) (by decide) ?_
    cases hK
    exact q_iret C dX5_place_20
theorem s_X5_place : sv yX5_place cX5_place 2 (some .int) 1 := ⟨w_co_X5_place, w_im_X5_place, w_se_X5_place, w_in_X5, by decide +kernel, by decide⟩
def f_X5_cell_b27 (v1 : Int32) (v2 : Int32) (s0 : Int32) (h : PH) : Option (Int32 × PH) := if v2 = 0 then rd h 114 ((54 : Int32) + v1) (fun x4 => some (x4, h)) else if v2 = 1 then rd h 114 ((0 : Int32) + v1) (fun x5 => some (x5, h)) else if v2 = 2 then if s0 = 0 then some ((-9 : Int32), h) else rd h 114 ((9 : Int32) + v1) (fun x6 => some (x6, h)) else if v2 = 3 then if s0 = 0 then some ((-9 : Int32), h) else rd h 114 ((18 : Int32) + v1) (fun x7 => some (x7, h)) else if v2 = 4 then rd h 114 ((27 : Int32) + v1) (fun x8 => some (x8, h)) else if v2 = 5 then rd h 114 ((36 : Int32) + v1) (fun x9 => some (x9, h)) else if v2 = 6 then rd h 114 ((45 : Int32) + v1) (fun x10 => some (x10, h)) else if v2 = 7 then bd (f_X5_isGood 114 v1 h) (fun r11 h12 => if r11 = 0 then some ((0 : Int32), h12) else some ((1 : Int32), h12)) else some ((-2 : Int32), h)
set_option maxHeartbeats 4000000 in
set_option maxRecDepth 100000 in
theorem t_X5_cell_b27 {p : Program} {l : Launch} {e : Env} {s : State} {m : MethodId} {args : Array Value} {below : List Frame} {meth : Method} {c : Code} {G : GG} {res : Int32 × PH} (C : cx p s m args meth c G RX5 cX5_cell 4 (some .int)) {v1 : Int32} {v2 : Int32} {s0 : Int32} {h : PH} {ls : Array Slot} (hl : lv_has ls 4 [(0, .ref (G.2.2.2.2 110)), (1, .int v1), (2, .int v2)]) (hK : f_X5_cell_b27 v1 v2 s0 h = some res) : WW p l e 2 s m args below meth c G h (MQ below (QI G res) args s 0 0 (Ar G)) (F0 m 27 ls [.int s0]) := by
  unfold f_X5_cell_b27 at hK
  refine q_istore_n C dX5_cell_27 rfl hl (by decide) (lv2 := [(3, .int _), (0, .ref _), (1, .int _), (2, .int _)]) rfl (fun ls hl => ?_)
  refine q_iload_n C dX5_cell_28 rfl (lv_at hl 3 rfl) ?_
  by_cases hc0 : v2 = 0
  · replace hK := if_po hc0 hK
    refine q_tsIn C 0 hc0 dX5_cell_29 (off := 47) (by decide) (tgt := 76) (by decide) ?_
    refine q_aload_n C dX5_cell_76 rfl (lv_at hl 1 rfl) ?_
    refine g_X5_now C kd_110 w_fl_X5_23 dX5_cell_77 ?_
    refine q_bipush C (v := 54) dX5_cell_80 (by decide) ?_
    refine q_iload_n C dX5_cell_82 rfl (lv_at hl 2 rfl) ?_
    refine q_iadd C dX5_cell_83 ?_
    obtain ⟨x4, hx4, hK⟩ := rd_so hK
    refine q_iald C kd_114 hx4 dX5_cell_84 ?_
    cases hK
    exact q_iret C dX5_cell_85
  · replace hK := if_ne hc0 hK
    by_cases hc1 : v2 = 1
    · replace hK := if_po hc1 hK
      refine q_tsIn C 1 hc1 dX5_cell_29 (off := 57) (by decide) (tgt := 86) (by decide) ?_
      refine q_aload_n C dX5_cell_86 rfl (lv_at hl 1 rfl) ?_
      refine g_X5_now C kd_110 w_fl_X5_23 dX5_cell_87 ?_
      refine q_iconst C (v := 0) dX5_cell_90 (by decide) ?_
      refine q_iload_n C dX5_cell_91 rfl (lv_at hl 2 rfl) ?_
      refine q_iadd C dX5_cell_92 ?_
      obtain ⟨x5, hx5, hK⟩ := rd_so hK
      refine q_iald C kd_114 hx5 dX5_cell_93 ?_
      cases hK
      exact q_iret C dX5_cell_94
    · replace hK := if_ne hc1 hK
      by_cases hc2 : v2 = 2
      · replace hK := if_po hc2 hK
        refine q_tsIn C 2 hc2 dX5_cell_29 (off := 66) (by decide) (tgt := 95) (by decide) ?_
        refine q_iload_n C dX5_cell_95 rfl (lv_at hl 0 rfl) ?_
        refine q_if_eq C dX5_cell_96 (tgt := 111) (by decide) (fun hc => ?_) (fun hc => ?_)
        · replace hK := if_po hc hK
          refine q_bipush C (v := -9) dX5_cell_111 (by decide) ?_
          cases hK
          exact q_iret C dX5_cell_113
        · replace hK := if_ne hc hK
          refine q_aload_n C dX5_cell_99 rfl (lv_at hl 1 rfl) ?_
          refine g_X5_now C kd_110 w_fl_X5_23 dX5_cell_100 ?_
          refine q_bipush C (v := 9) dX5_cell_103 (by decide) ?_
          refine q_iload_n C dX5_cell_105 rfl (lv_at hl 2 rfl) ?_
          refine q_iadd C dX5_cell_106 ?_
          obtain ⟨x6, hx6, hK⟩ := rd_so hK
          refine q_iald C kd_114 hx6 dX5_cell_107 ?_
          refine q_goto C dX5_cell_108 (tgt := 113) (by decide) ?_
          cases hK
          exact q_iret C dX5_cell_113
      · replace hK := if_ne hc2 hK
        by_cases hc3 : v2 = 3
        · replace hK := if_po hc3 hK
          refine q_tsIn C 3 hc3 dX5_cell_29 (off := 85) (by decide) (tgt := 114) (by decide) ?_
          refine q_iload_n C dX5_cell_114 rfl (lv_at hl 0 rfl) ?_
          refine q_if_eq C dX5_cell_115 (tgt := 130) (by decide) (fun hc => ?_) (fun hc => ?_)
          · replace hK := if_po hc hK
            refine q_bipush C (v := -9) dX5_cell_130 (by decide) ?_
            cases hK
            exact q_iret C dX5_cell_132
          · replace hK := if_ne hc hK
            refine q_aload_n C dX5_cell_118 rfl (lv_at hl 1 rfl) ?_
            refine g_X5_now C kd_110 w_fl_X5_23 dX5_cell_119 ?_
            refine q_bipush C (v := 18) dX5_cell_122 (by decide) ?_
            refine q_iload_n C dX5_cell_124 rfl (lv_at hl 2 rfl) ?_
            refine q_iadd C dX5_cell_125 ?_
            obtain ⟨x7, hx7, hK⟩ := rd_so hK
            refine q_iald C kd_114 hx7 dX5_cell_126 ?_
            refine q_goto C dX5_cell_127 (tgt := 132) (by decide) ?_
            cases hK
            exact q_iret C dX5_cell_132
        · replace hK := if_ne hc3 hK
          by_cases hc4 : v2 = 4
          · replace hK := if_po hc4 hK
            refine q_tsIn C 4 hc4 dX5_cell_29 (off := 104) (by decide) (tgt := 133) (by decide) ?_
            refine q_aload_n C dX5_cell_133 rfl (lv_at hl 1 rfl) ?_
            refine g_X5_now C kd_110 w_fl_X5_23 dX5_cell_134 ?_
            refine q_bipush C (v := 27) dX5_cell_137 (by decide) ?_
            refine q_iload_n C dX5_cell_139 rfl (lv_at hl 2 rfl) ?_
            refine q_iadd C dX5_cell_140 ?_
            obtain ⟨x8, hx8, hK⟩ := rd_so hK
            refine q_iald C kd_114 hx8 dX5_cell_141 ?_
            cases hK
            exact q_iret C dX5_cell_142
          · replace hK := if_ne hc4 hK
            by_cases hc5 : v2 = 5
            · replace hK := if_po hc5 hK
              refine q_tsIn C 5 hc5 dX5_cell_29 (off := 114) (by decide) (tgt := 143) (by decide) ?_
              refine q_aload_n C dX5_cell_143 rfl (lv_at hl 1 rfl) ?_
              refine g_X5_now C kd_110 w_fl_X5_23 dX5_cell_144 ?_
              refine q_bipush C (v := 36) dX5_cell_147 (by decide) ?_
              refine q_iload_n C dX5_cell_149 rfl (lv_at hl 2 rfl) ?_
              refine q_iadd C dX5_cell_150 ?_
              obtain ⟨x9, hx9, hK⟩ := rd_so hK
              refine q_iald C kd_114 hx9 dX5_cell_151 ?_
              cases hK
              exact q_iret C dX5_cell_152
            · replace hK := if_ne hc5 hK
              by_cases hc6 : v2 = 6
              · replace hK := if_po hc6 hK
                refine q_tsIn C 6 hc6 dX5_cell_29 (off := 124) (by decide) (tgt := 153) (by decide) ?_
                refine q_aload_n C dX5_cell_153 rfl (lv_at hl 1 rfl) ?_
                refine g_X5_now C kd_110 w_fl_X5_23 dX5_cell_154 ?_
                refine q_bipush C (v := 45) dX5_cell_157 (by decide) ?_
                refine q_iload_n C dX5_cell_159 rfl (lv_at hl 2 rfl) ?_
                refine q_iadd C dX5_cell_160 ?_
                obtain ⟨x10, hx10, hK⟩ := rd_so hK
                refine q_iald C kd_114 hx10 dX5_cell_161 ?_
                cases hK
                exact q_iret C dX5_cell_162
              · replace hK := if_ne hc6 hK
                by_cases hc7 : v2 = 7
                · replace hK := if_po hc7 hK
                  refine q_tsIn C 7 hc7 dX5_cell_29 (off := 134) (by decide) (tgt := 163) (by decide) ?_
                  refine q_aload_n C dX5_cell_163 rfl (lv_at hl 1 rfl) ?_
                  refine q_aload_n C dX5_cell_164 rfl (lv_at hl 1 rfl) ?_
                  refine g_X5_now C kd_110 w_fl_X5_23 dX5_cell_165 ?_
                  refine q_iload_n C dX5_cell_168 rfl (lv_at hl 2 rfl) ?_
                  obtain ⟨r11, h12, hfr11, hK⟩ := bd_so hK
                  refine q_callVi C s_X5_isGood w_ml_X5_142 (c_X5_isGood l G hfr11) kd_110 rfl (by decide) (ce_4 kd_110) (by decide) hl.1 rfl rfl (Nat.le_of_ble_eq_true rfl) dX5_cell_169 ?_
                  refine q_if_eq C dX5_cell_172 (tgt := 179) (by decide) (fun hc => ?_) (fun hc => ?_)
                  · replace hK := if_po hc hK
                    refine q_iconst C (v := 0) dX5_cell_179 (by decide) ?_
                    cases hK
                    exact q_iret C dX5_cell_180
                  · replace hK := if_ne hc hK
                    refine q_iconst C (v := 1) dX5_cell_175 (by decide) ?_
                    refine q_goto C dX5_cell_176 (tgt := 180) (by decide) ?_
                    cases hK
                    exact q_iret C dX5_cell_180
                · replace hK := if_ne hc7 hK
                  have q0 : (v2 : Int32).toInt ≠ 0 := ne_i hc0
                  have q1 : (v2 : Int32).toInt ≠ 1 := ne_i hc1
                  have q2 : (v2 : Int32).toInt ≠ 2 := ne_i hc2
                  have q3 : (v2 : Int32).toInt ≠ 3 := ne_i hc3
                  have q4 : (v2 : Int32).toInt ≠ 4 := ne_i hc4
                  have q5 : (v2 : Int32).toInt ≠ 5 := ne_i hc5
                  have q6 : (v2 : Int32).toInt ≠ 6 := ne_i hc6
                  have q7 : (v2 : Int32).toInt ≠ 7 := ne_i hc7
                  refine q_tsOut C dX5_cell_29 (by omega) (tgt := 181) (by decide) ?_
                  refine q_bipush C (v := -2) dX5_cell_181 (by decide) ?_
                  cases hK
                  exact q_iret C dX5_cell_183
def f_X5_cell (a1 : Int32) (a2 : Int32) (h : PH) : Option (Int32 × PH) := bd (f_X5_isCell a1 h) (fun r1 h2 => if r1 = 0 then some ((-1 : Int32), h2) else rd h2 114 ((0 : Int32) + a1) (fun x3 => if x3 = (1 : Int32) then f_X5_cell_b27 a1 a2 (1 : Int32) h2 else f_X5_cell_b27 a1 a2 (0 : Int32) h2))
set_option maxHeartbeats 4000000 in
set_option maxRecDepth 100000 in
theorem c_X5_cell (l : Launch) (G : GG) {a1 : Int32} {a2 : Int32} {h : PH} {res : Int32 × PH} (hF : f_X5_cell a1 a2 h = some res) : MI l G yX5_cell cX5_cell 4 .int 2 [.ref (G.2.2.2.2 110), .int a1, .int a2] h res := by
  unfold f_X5_cell at hF
  refine MI_of (by decide +kernel) (Nat.le_of_ble_eq_true rfl) ?_
  intro p e s m args below meth c ls C hl
  have hK := hF
  clear hF
  have hl : lv_has ls 4 [(0, .ref (G.2.2.2.2 110)), (1, .int a1), (2, .int a2)] := hl
  have C : cx p s m args meth c G RX5 cX5_cell 4 (some .int) := C
  refine q_aload_n C dX5_cell_0 rfl (lv_at hl 0 rfl) ?_
  refine q_iload_n C dX5_cell_1 rfl (lv_at hl 1 rfl) ?_
  obtain ⟨r1, h2, hfr1, hK⟩ := bd_so hK
  refine q_callVi C s_X5_isCell w_ml_X5_198 (c_X5_isCell l G hfr1) kd_110 rfl (by decide) (ce_4 kd_110) (by decide) hl.1 rfl rfl (Nat.le_of_ble_eq_true rfl) dX5_cell_2 ?_
  refine q_if_ne C dX5_cell_5 (tgt := 10) (by decide) (fun hc => ?_) (fun hc => ?_)
  · replace hK := if_ne hc hK
    refine q_aload_n C dX5_cell_10 rfl (lv_at hl 0 rfl) ?_
    refine g_X5_now C kd_110 w_fl_X5_23 dX5_cell_11 ?_
    refine q_iconst C (v := 0) dX5_cell_14 (by decide) ?_
    refine q_iload_n C dX5_cell_15 rfl (lv_at hl 1 rfl) ?_
    refine q_iadd C dX5_cell_16 ?_
    obtain ⟨x3, hx3, hK⟩ := rd_so hK
    refine q_iald C kd_114 hx3 dX5_cell_17 ?_
    refine q_iconst C (v := 1) dX5_cell_18 (by decide) ?_
    refine q_icmp_ne C dX5_cell_19 (tgt := 26) (by decide) (fun hc => ?_) (fun hc => ?_)
    · replace hK := if_ne hc hK
      refine q_iconst C (v := 0) dX5_cell_26 (by decide) ?_
      exact t_X5_cell_b27 C (lv_sub hl [0, 1, 2] rfl) hK
    · replace hK := if_po hc hK
      refine q_iconst C (v := 1) dX5_cell_22 (by decide) ?_
      refine q_goto C dX5_cell_23 (tgt := 27) (by decide) ?_
      exact t_X5_cell_b27 C (lv_sub hl [0, 1, 2] rfl) hK
  · replace hK := if_po hc hK
    refine q_iconst C (v := -1) dX5_cell_8 (by decide) ?_
    cases hK
    exact q_iret C dX5_cell_9
theorem s_X5_cell : sv yX5_cell cX5_cell 4 (some .int) 2 := ⟨w_co_X5_cell, w_im_X5_cell, w_se_X5_cell, w_in_X5, by decide +kernel, by decide⟩
def f_X5_valve (a1 : Int32) (a2 : Int32) (h : PH) : Option (Int32 × PH) := bd (f_X5_isValve a1 h) (fun r1 h2 => if r1 = 0 then some ((-1 : Int32), h2) else if a2 = 0 then rd h2 114 ((63 : Int32) + a1) (fun x4 => some (x4, h2)) else if a2 = (1 : Int32) then rd h2 113 a1 (fun x3 => some ((x3 + (4 : Int32)), h2)) else some ((-2 : Int32), h2))
set_option maxHeartbeats 4000000 in
set_option maxRecDepth 100000 in
theorem c_X5_valve (l : Launch) (G : GG) {a1 : Int32} {a2 : Int32} {h : PH} {res : Int32 × PH} (hF : f_X5_valve a1 a2 h = some res) : MI l G yX5_valve cX5_valve 3 .int 2 [.ref (G.2.2.2.2 110), .int a1, .int a2] h res := by
  unfold f_X5_valve at hF
  refine MI_of (by decide +kernel) (Nat.le_of_ble_eq_true rfl) ?_
  intro p e s m args below meth c ls C hl
  have hK := hF
  clear hF
  have hl : lv_has ls 3 [(0, .ref (G.2.2.2.2 110)), (1, .int a1), (2, .int a2)] := hl
  have C : cx p s m args meth c G RX5 cX5_valve 3 (some .int) := C
  refine q_aload_n C dX5_valve_0 rfl (lv_at hl 0 rfl) ?_
  refine q_iload_n C dX5_valve_1 rfl (lv_at hl 1 rfl) ?_
  obtain ⟨r1, h2, hfr1, hK⟩ := bd_so hK
  refine q_callVi C s_X5_isValve w_ml_X5_201 (c_X5_isValve l G hfr1) kd_110 rfl (by decide) (ce_4 kd_110) (by decide) hl.1 rfl rfl (Nat.le_of_ble_eq_true rfl) dX5_valve_2 ?_
  refine q_if_ne C dX5_valve_5 (tgt := 10) (by decide) (fun hc => ?_) (fun hc => ?_)
  · replace hK := if_ne hc hK
    refine q_iload_n C dX5_valve_10 rfl (lv_at hl 2 rfl) ?_
    refine q_if_ne C dX5_valve_11 (tgt := 26) (by decide) (fun hc => ?_) (fun hc => ?_)
    · replace hK := if_ne hc hK
      refine q_iload_n C dX5_valve_26 rfl (lv_at hl 2 rfl) ?_
      refine q_iconst C (v := 1) dX5_valve_27 (by decide) ?_
      refine q_icmp_ne C dX5_valve_28 (tgt := 42) (by decide) (fun hc => ?_) (fun hc => ?_)
      · replace hK := if_ne hc hK
        refine q_bipush C (v := -2) dX5_valve_42 (by decide) ?_
        cases hK
        exact q_iret C dX5_valve_44
      · replace hK := if_po hc hK
        refine q_aload_n C dX5_valve_31 rfl (lv_at hl 0 rfl) ?_
        refine g_X5_drift C kd_110 w_fl_X5_20 dX5_valve_32 ?_
        refine q_iload_n C dX5_valve_35 rfl (lv_at hl 1 rfl) ?_
        obtain ⟨x3, hx3, hK⟩ := rd_so hK
        refine q_iald C kd_113 hx3 dX5_valve_36 ?_
        refine q_iconst C (v := 4) dX5_valve_37 (by decide) ?_
        refine q_iadd C dX5_valve_38 ?_
        refine q_goto C dX5_valve_39 (tgt := 44) (by decide) ?_
        cases hK
        exact q_iret C dX5_valve_44
    · replace hK := if_po hc hK
      refine q_aload_n C dX5_valve_14 rfl (lv_at hl 0 rfl) ?_
      refine g_X5_now C kd_110 w_fl_X5_23 dX5_valve_15 ?_
      refine q_bipush C (v := 63) dX5_valve_18 (by decide) ?_
      refine q_iload_n C dX5_valve_20 rfl (lv_at hl 1 rfl) ?_
      refine q_iadd C dX5_valve_21 ?_
      obtain ⟨x4, hx4, hK⟩ := rd_so hK
      refine q_iald C kd_114 hx4 dX5_valve_22 ?_
      refine q_goto C dX5_valve_23 (tgt := 44) (by decide) ?_
      cases hK
      exact q_iret C dX5_valve_44
  · replace hK := if_po hc hK
    refine q_iconst C (v := -1) dX5_valve_8 (by decide) ?_
    cases hK
    exact q_iret C dX5_valve_9
theorem s_X5_valve : sv yX5_valve cX5_valve 3 (some .int) 2 := ⟨w_co_X5_valve, w_im_X5_valve, w_se_X5_valve, w_in_X5, by decide +kernel, by decide⟩
def f_X5_queue (a1 : Int32) (h : PH) : Option (Int32 × PH) := bd (f_X5_in a1 (0 : Int32) (23 : Int32) h) (fun r1 h2 => if r1 = 0 then some ((-2 : Int32), h2) else rd h2 114 (78 : Int32) (fun x3 => if x3 ≤ a1 then some ((-9 : Int32), h2) else rd h2 114 ((79 : Int32) + a1) (fun x4 => some (x4, h2))))
set_option maxHeartbeats 4000000 in
set_option maxRecDepth 100000 in
theorem c_X5_queue (l : Launch) (G : GG) {a1 : Int32} {h : PH} {res : Int32 × PH} (hF : f_X5_queue a1 h = some res) : MI l G yX5_queue cX5_queue 2 .int 1 [.ref (G.2.2.2.2 110), .int a1] h res := by
  unfold f_X5_queue at hF
  refine MI_of (by decide +kernel) (Nat.le_of_ble_eq_true rfl) ?_
  intro p e s m args below meth c ls C hl
  have hK := hF
  clear hF
  have hl : lv_has ls 2 [(0, .ref (G.2.2.2.2 110)), (1, .int a1)] := hl
  have C : cx p s m args meth c G RX5 cX5_queue 2 (some .int) := C
  refine q_iload_n C dX5_queue_0 rfl (lv_at hl 1 rfl) ?_
  refine q_iconst C (v := 0) dX5_queue_1 (by decide) ?_
  refine q_bipush C (v := 23) dX5_queue_2 (by decide) ?_
  obtain ⟨r1, h2, hfr1, hK⟩ := bd_so hK
  refine q_callSi C s_X5_in w_ml_X5_72 (c_X5_in l G hfr1) (by decide) hl.1 rfl rfl (Nat.le_of_ble_eq_true rfl) dX5_queue_4 ?_
  refine q_if_ne C dX5_queue_7 (tgt := 13) (by decide) (fun hc => ?_) (fun hc => ?_)
  · replace hK := if_ne hc hK
    refine q_iload_n C dX5_queue_13 rfl (lv_at hl 1 rfl) ?_
    refine q_aload_n C dX5_queue_14 rfl (lv_at hl 0 rfl) ?_
    refine g_X5_now C kd_110 w_fl_X5_23 dX5_queue_15 ?_
    refine q_bipush C (v := 78) dX5_queue_18 (by decide) ?_
    obtain ⟨x3, hx3, hK⟩ := rd_so hK
    refine q_iald C kd_114 hx3 dX5_queue_20 ?_
    refine q_icmp_ge C dX5_queue_21 (tgt := 36) (by decide) (fun hc => ?_) (fun hc => ?_)
    · replace hK := if_po hc hK
      refine q_bipush C (v := -9) dX5_queue_36 (by decide) ?_
      cases hK
      exact q_iret C dX5_queue_38
    · replace hK := if_ne hc hK
      refine q_aload_n C dX5_queue_24 rfl (lv_at hl 0 rfl) ?_
      refine g_X5_now C kd_110 w_fl_X5_23 dX5_queue_25 ?_
      refine q_bipush C (v := 79) dX5_queue_28 (by decide) ?_
      refine q_iload_n C dX5_queue_30 rfl (lv_at hl 1 rfl) ?_
      refine q_iadd C dX5_queue_31 ?_
      obtain ⟨x4, hx4, hK⟩ := rd_so hK
      refine q_iald C kd_114 hx4 dX5_queue_32 ?_
      refine q_goto C dX5_queue_33 (tgt := 38) (by decide) ?_
      cases hK
      exact q_iret C dX5_queue_38
  · replace hK := if_po hc hK
    refine q_bipush C (v := -2) dX5_queue_10 (by decide) ?_
    cases hK
    exact q_iret C dX5_queue_12
theorem s_X5_queue : sv yX5_queue cX5_queue 2 (some .int) 1 := ⟨w_co_X5_queue, w_im_X5_queue, w_se_X5_queue, w_in_X5, by decide +kernel, by decide⟩
def f_X5_note_b2 : Nat → Int32 → PH → Option (Unit × PH)
  | 0, _, _ => none
  | n + 1, v1, h => if (103 : Int32) ≤ v1 then st h 110 13 (irm ((h.1 110 13) + (1 : Int32)) (14 : Int32)) (fun h1 => if (14 : Int32) ≤ (h1.1 110 12) then st h1 110 12 (14 : Int32) (fun h2 => some ((), h2)) else st h1 110 12 ((h1.1 110 12) + (1 : Int32)) (fun h3 => some ((), h3))) else rd h 114 v1 (fun x4 => wr h 116 (((103 : Int32) * (h.1 110 13)) + v1) x4 (fun h5 => (f_X5_note_b2 n) (v1 + 1) h5))
set_option maxHeartbeats 4000000 in
set_option maxRecDepth 100000 in
theorem t_X5_note_b2 {p : Program} {l : Launch} {e : Env} {s : State} {m : MethodId} {args : Array Value} {below : List Frame} {meth : Method} {c : Code} {G : GG} {res : Unit × PH} (C : cx p s m args meth c G RX5 cX5_note 2 none) (n : Nat) : ∀ (v1 : Int32) (h : PH) (ls : Array Slot), lv_has ls 2 [(0, .ref (G.2.2.2.2 110)), (1, .int v1)] → f_X5_note_b2 n v1 h = some res → WW p l e 0 s m args below meth c G h (MQ below (QV G res) args s 0 0 (Ar G)) (F0 m 2 ls []) := by
  induction n with
  | zero => intro v1 h ls hl hK; cases hK
  | succ n ih =>
    intro v1 h ls hl hK
    unfold f_X5_note_b2 at hK
    refine q_iload_n C dX5_note_2 rfl (lv_at hl 1 rfl) ?_
    refine q_bipush C (v := 103) dX5_note_3 (by decide) ?_
    refine q_icmp_ge C dX5_note_5 (tgt := 34) (by decide) (fun hc => ?_) (fun hc => ?_)
    · replace hK := if_po hc hK
      refine q_aload_n C dX5_note_34 rfl (lv_at hl 0 rfl) ?_
      refine q_aload_n C dX5_note_35 rfl (lv_at hl 0 rfl) ?_
      refine g_X5_next C kd_110 w_fl_X5_204 dX5_note_36 ?_
      refine q_iconst C (v := 1) dX5_note_39 (by decide) ?_
      refine q_iadd C dX5_note_40 ?_
      refine q_bipush C (v := 14) dX5_note_41 (by decide) ?_
      refine q_irem C dX5_note_43 (by decide) ?_
      obtain ⟨h1, hh1, hK⟩ := st_so hK
      refine p_X5_next C kd_110 w_fl_X5_204 hh1 dX5_note_44 ?_
      refine q_aload_n C dX5_note_47 rfl (lv_at hl 0 rfl) ?_
      refine q_aload_n C dX5_note_48 rfl (lv_at hl 0 rfl) ?_
      refine g_X5_acts C kd_110 w_fl_X5_139 dX5_note_49 ?_
      refine q_bipush C (v := 14) dX5_note_52 (by decide) ?_
      refine q_icmp_ge C dX5_note_54 (tgt := 66) (by decide) (fun hc => ?_) (fun hc => ?_)
      · replace hK := if_po hc hK
        refine q_bipush C (v := 14) dX5_note_66 (by decide) ?_
        obtain ⟨h2, hh2, hK⟩ := st_so hK
        refine p_X5_acts C kd_110 w_fl_X5_139 hh2 dX5_note_68 ?_
        cases hK
        exact q_vret C dX5_note_71
      · replace hK := if_ne hc hK
        refine q_aload_n C dX5_note_57 rfl (lv_at hl 0 rfl) ?_
        refine g_X5_acts C kd_110 w_fl_X5_139 dX5_note_58 ?_
        refine q_iconst C (v := 1) dX5_note_61 (by decide) ?_
        refine q_iadd C dX5_note_62 ?_
        refine q_goto C dX5_note_63 (tgt := 68) (by decide) ?_
        obtain ⟨h3, hh3, hK⟩ := st_so hK
        refine p_X5_acts C kd_110 w_fl_X5_139 hh3 dX5_note_68 ?_
        cases hK
        exact q_vret C dX5_note_71
    · replace hK := if_ne hc hK
      refine q_aload_n C dX5_note_8 rfl (lv_at hl 0 rfl) ?_
      refine g_X5_diary C kd_110 w_fl_X5_29 dX5_note_9 ?_
      refine q_bipush C (v := 103) dX5_note_12 (by decide) ?_
      refine q_aload_n C dX5_note_14 rfl (lv_at hl 0 rfl) ?_
      refine g_X5_next C kd_110 w_fl_X5_204 dX5_note_15 ?_
      refine q_imul C dX5_note_18 ?_
      refine q_iload_n C dX5_note_19 rfl (lv_at hl 1 rfl) ?_
      refine q_iadd C dX5_note_20 ?_
      refine q_aload_n C dX5_note_21 rfl (lv_at hl 0 rfl) ?_
      refine g_X5_now C kd_110 w_fl_X5_23 dX5_note_22 ?_
      refine q_iload_n C dX5_note_25 rfl (lv_at hl 1 rfl) ?_
      obtain ⟨x4, hx4, hK⟩ := rd_so hK
      refine q_iald C kd_114 hx4 dX5_note_26 ?_
      obtain ⟨h5, hh5, hK⟩ := wr_so hK
      refine q_iast C kd_116 hh5 dX5_note_27 ?_
      refine q_iinc C dX5_note_28 hl (j := 1) (v := (v1 + 1)) rfl rfl (by decide) (lv2 := [(1, .int _), (0, .ref _)]) rfl (fun ls hl => ?_)
      refine q_goto C dX5_note_31 (tgt := 2) (by decide) ?_
      exact ih _ _ _ (lv_sub hl [1, 0] rfl) hK
def f_X5_note (h : PH) : Option (Unit × PH) := f_X5_note_b2 200 (0 : Int32) h
set_option maxHeartbeats 4000000 in
set_option maxRecDepth 100000 in
theorem c_X5_note (l : Launch) (G : GG) {h : PH} {res : Unit × PH} (hF : f_X5_note h = some res) : MV l G yX5_note cX5_note 2 0 [.ref (G.2.2.2.2 110)] h res := by
  unfold f_X5_note at hF
  refine MV_of (by decide +kernel) (Nat.le_of_ble_eq_true rfl) ?_
  intro p e s m args below meth c ls C hl
  have hK := hF
  clear hF
  have hl : lv_has ls 2 [(0, .ref (G.2.2.2.2 110))] := hl
  have C : cx p s m args meth c G RX5 cX5_note 2 none := C
  refine q_iconst C (v := 0) dX5_note_0 (by decide) ?_
  refine q_istore_n C dX5_note_1 rfl hl (by decide) (lv2 := [(1, .int _), (0, .ref _)]) rfl (fun ls hl => ?_)
  exact t_X5_note_b2 C 200 _ _ _ (lv_sub hl [1, 0] rfl) hK
theorem s_X5_note : sv yX5_note cX5_note 2 none 0 := ⟨w_co_X5_note, w_im_X5_note, w_se_X5_note, w_in_X5, by decide +kernel, by decide⟩
def f_X5_step (a1 : Int32) (h : PH) : Option (Int32 × PH) := bd (f_X5_in a1 (1 : Int32) (99 : Int32) h) (fun r1 h2 => if r1 = 0 then some ((-2 : Int32), h2) else rd h2 114 (70 : Int32) (fun x3 => if x3 = (1 : Int32) then some ((-3 : Int32), h2) else bd (f_X5_note h2) (fun _ h5 => bd (f_X5_goOn 114 a1 h5) (fun r6 h7 => some (r6, h7)))))
set_option maxHeartbeats 4000000 in
set_option maxRecDepth 100000 in
theorem c_X5_step (l : Launch) (G : GG) {a1 : Int32} {h : PH} {res : Int32 × PH} (hF : f_X5_step a1 h = some res) : MI l G yX5_step cX5_step 2 .int 4 [.ref (G.2.2.2.2 110), .int a1] h res := by
  unfold f_X5_step at hF
  refine MI_of (by decide +kernel) (Nat.le_of_ble_eq_true rfl) ?_
  intro p e s m args below meth c ls C hl
  have hK := hF
  clear hF
  have hl : lv_has ls 2 [(0, .ref (G.2.2.2.2 110)), (1, .int a1)] := hl
  have C : cx p s m args meth c G RX5 cX5_step 2 (some .int) := C
  refine q_iload_n C dX5_step_0 rfl (lv_at hl 1 rfl) ?_
  refine q_iconst C (v := 1) dX5_step_1 (by decide) ?_
  refine q_bipush C (v := 99) dX5_step_2 (by decide) ?_
  obtain ⟨r1, h2, hfr1, hK⟩ := bd_so hK
  refine q_callSi C s_X5_in w_ml_X5_72 (c_X5_in l G hfr1) (by decide) hl.1 rfl rfl (Nat.le_of_ble_eq_true rfl) dX5_step_4 ?_
  refine q_if_ne C dX5_step_7 (tgt := 13) (by decide) (fun hc => ?_) (fun hc => ?_)
  · replace hK := if_ne hc hK
    refine q_aload_n C dX5_step_13 rfl (lv_at hl 0 rfl) ?_
    refine g_X5_now C kd_110 w_fl_X5_23 dX5_step_14 ?_
    refine q_bipush C (v := 70) dX5_step_17 (by decide) ?_
    obtain ⟨x3, hx3, hK⟩ := rd_so hK
    refine q_iald C kd_114 hx3 dX5_step_19 ?_
    refine q_iconst C (v := 1) dX5_step_20 (by decide) ?_
    refine q_icmp_ne C dX5_step_21 (tgt := 27) (by decide) (fun hc => ?_) (fun hc => ?_)
    · replace hK := if_ne hc hK
      refine q_aload_n C dX5_step_27 rfl (lv_at hl 0 rfl) ?_
      obtain ⟨r4, h5, hfr4, hK⟩ := bd_so hK
      refine q_callVv C s_X5_note w_ml_X5_207 (c_X5_note l G hfr4) kd_110 rfl (by decide) (ce_4 kd_110) (by decide) hl.1 rfl rfl (Nat.le_of_ble_eq_true rfl) dX5_step_28 ?_
      refine q_aload_n C dX5_step_31 rfl (lv_at hl 0 rfl) ?_
      refine q_aload_n C dX5_step_32 rfl (lv_at hl 0 rfl) ?_
      refine g_X5_now C kd_110 w_fl_X5_23 dX5_step_33 ?_
      refine q_iload_n C dX5_step_36 rfl (lv_at hl 1 rfl) ?_
      obtain ⟨r6, h7, hfr6, hK⟩ := bd_so hK
      refine q_callVi C s_X5_goOn w_ml_X5_210 (c_X5_goOn l G hfr6) kd_110 rfl (by decide) (ce_4 kd_110) (by decide) hl.1 rfl rfl (Nat.le_of_ble_eq_true rfl) dX5_step_37 ?_
      cases hK
      exact q_iret C dX5_step_40
    · replace hK := if_po hc hK
      refine q_bipush C (v := -3) dX5_step_24 (by decide) ?_
      cases hK
      exact q_iret C dX5_step_26
  · replace hK := if_po hc hK
    refine q_bipush C (v := -2) dX5_step_10 (by decide) ?_
    cases hK
    exact q_iret C dX5_step_12
theorem s_X5_step : sv yX5_step cX5_step 2 (some .int) 1 := ⟨w_co_X5_step, w_im_X5_step, w_se_X5_step, w_in_X5, by decide +kernel, by decide⟩
def f_X5_slip (h : PH) : Option (Int32 × PH) := bd (f_X5_note h) (fun _ h2 => bd (f_X5_slipOn 114 h2) (fun _ h4 => bd (f_X5_marks 114 h4) (fun r5 h6 => some (r5, h6))))
set_option maxHeartbeats 4000000 in
set_option maxRecDepth 100000 in
theorem c_X5_slip (l : Launch) (G : GG) {h : PH} {res : Int32 × PH} (hF : f_X5_slip h = some res) : MI l G yX5_slip cX5_slip 1 .int 1 [.ref (G.2.2.2.2 110)] h res := by
  unfold f_X5_slip at hF
  refine MI_of (by decide +kernel) (Nat.le_of_ble_eq_true rfl) ?_
  intro p e s m args below meth c ls C hl
  have hK := hF
  clear hF
  have hl : lv_has ls 1 [(0, .ref (G.2.2.2.2 110))] := hl
  have C : cx p s m args meth c G RX5 cX5_slip 1 (some .int) := C
  refine q_aload_n C dX5_slip_0 rfl (lv_at hl 0 rfl) ?_
  obtain ⟨r1, h2, hfr1, hK⟩ := bd_so hK
  refine q_callVv C s_X5_note w_ml_X5_207 (c_X5_note l G hfr1) kd_110 rfl (by decide) (ce_4 kd_110) (by decide) hl.1 rfl rfl (Nat.le_of_ble_eq_true rfl) dX5_slip_1 ?_
  refine q_aload_n C dX5_slip_4 rfl (lv_at hl 0 rfl) ?_
  refine q_aload_n C dX5_slip_5 rfl (lv_at hl 0 rfl) ?_
  refine g_X5_now C kd_110 w_fl_X5_23 dX5_slip_6 ?_
  obtain ⟨r3, h4, hfr3, hK⟩ := bd_so hK
  refine q_callVv C s_X5_slipOn w_ml_X5_153 (c_X5_slipOn l G hfr3) kd_110 rfl (by decide) (ce_4 kd_110) (by decide) hl.1 rfl rfl (Nat.le_of_ble_eq_true rfl) dX5_slip_9 ?_
  refine q_aload_n C dX5_slip_12 rfl (lv_at hl 0 rfl) ?_
  refine q_aload_n C dX5_slip_13 rfl (lv_at hl 0 rfl) ?_
  refine g_X5_now C kd_110 w_fl_X5_23 dX5_slip_14 ?_
  obtain ⟨r5, h6, hfr5, hK⟩ := bd_so hK
  refine q_callVi C s_X5_marks w_ml_X5_213 (c_X5_marks l G hfr5) kd_110 rfl (by decide) (ce_4 kd_110) (by decide) hl.1 rfl rfl (Nat.le_of_ble_eq_true rfl) dX5_slip_17 ?_
  cases hK
  exact q_iret C dX5_slip_20
theorem s_X5_slip : sv yX5_slip cX5_slip 1 (some .int) 0 := ⟨w_co_X5_slip, w_im_X5_slip, w_se_X5_slip, w_in_X5, by decide +kernel, by decide⟩
def f_X5_jam (h : PH) : Option (Int32 × PH) := bd (f_X5_note h) (fun _ h2 => rd h2 114 (69 : Int32) (fun x3 => wr h2 114 (69 : Int32) ((1 : Int32) - x3) (fun h4 => rd h4 114 (69 : Int32) (fun x5 => some (x5, h4)))))
set_option maxHeartbeats 4000000 in
set_option maxRecDepth 100000 in
theorem c_X5_jam (l : Launch) (G : GG) {h : PH} {res : Int32 × PH} (hF : f_X5_jam h = some res) : MI l G yX5_jam cX5_jam 1 .int 1 [.ref (G.2.2.2.2 110)] h res := by
  unfold f_X5_jam at hF
  refine MI_of (by decide +kernel) (Nat.le_of_ble_eq_true rfl) ?_
  intro p e s m args below meth c ls C hl
  have hK := hF
  clear hF
  have hl : lv_has ls 1 [(0, .ref (G.2.2.2.2 110))] := hl
  have C : cx p s m args meth c G RX5 cX5_jam 1 (some .int) := C
  refine q_aload_n C dX5_jam_0 rfl (lv_at hl 0 rfl) ?_
  obtain ⟨r1, h2, hfr1, hK⟩ := bd_so hK
  refine q_callVv C s_X5_note w_ml_X5_207 (c_X5_note l G hfr1) kd_110 rfl (by decide) (ce_4 kd_110) (by decide) hl.1 rfl rfl (Nat.le_of_ble_eq_true rfl) dX5_jam_1 ?_
  refine q_aload_n C dX5_jam_4 rfl (lv_at hl 0 rfl) ?_
  refine g_X5_now C kd_110 w_fl_X5_23 dX5_jam_5 ?_
  refine q_bipush C (v := 69) dX5_jam_8 (by decide) ?_
  refine q_iconst C (v := 1) dX5_jam_10 (by decide) ?_
  refine q_aload_n C dX5_jam_11 rfl (lv_at hl 0 rfl) ?_
  refine g_X5_now C kd_110 w_fl_X5_23 dX5_jam_12 ?_
  refine q_bipush C (v := 69) dX5_jam_15 (by decide) ?_
  obtain ⟨x3, hx3, hK⟩ := rd_so hK
  refine q_iald C kd_114 hx3 dX5_jam_17 ?_
  refine q_isub C dX5_jam_18 ?_
  obtain ⟨h4, hh4, hK⟩ := wr_so hK
  refine q_iast C kd_114 hh4 dX5_jam_19 ?_
  refine q_aload_n C dX5_jam_20 rfl (lv_at hl 0 rfl) ?_
  refine g_X5_now C kd_110 w_fl_X5_23 dX5_jam_21 ?_
  refine q_bipush C (v := 69) dX5_jam_24 (by decide) ?_
  obtain ⟨x5, hx5, hK⟩ := rd_so hK
  refine q_iald C kd_114 hx5 dX5_jam_26 ?_
  cases hK
  exact q_iret C dX5_jam_27
theorem s_X5_jam : sv yX5_jam cX5_jam 1 (some .int) 0 := ⟨w_co_X5_jam, w_im_X5_jam, w_se_X5_jam, w_in_X5, by decide +kernel, by decide⟩
def f_X5_clearOn (r1 : Nat) (h : PH) : Option (Int32 × PH) := gd r1 5 (rd h 112 (4 : Int32) (fun x1 => rd h r1 ((0 : Int32) + x1) (fun x2 => rd h r1 (76 : Int32) (fun x3 => wr h r1 (76 : Int32) (x3 + x2) (fun h4 => bd (f_X5_empty r1 x1 h4) (fun _ h6 => wr h6 r1 ((54 : Int32) + x1) (0 : Int32) (fun h7 => wr h7 r1 (70 : Int32) (0 : Int32) (fun h8 => some (x2, h8)))))))))
set_option maxHeartbeats 4000000 in
set_option maxRecDepth 100000 in
theorem c_X5_clearOn (l : Launch) (G : GG) {r1 : Nat} {h : PH} {res : Int32 × PH} (hF : f_X5_clearOn r1 h = some res) : MI l G yX5_clearOn cX5_clearOn 4 .int 1 [.ref (G.2.2.2.2 110), .ref (G.2.2.2.2 r1)] h res := by
  unfold f_X5_clearOn at hF
  obtain ⟨hr1, hF⟩ := gd_so hF
  refine MI_of (by decide +kernel) (Nat.le_of_ble_eq_true rfl) ?_
  intro p e s m args below meth c ls C hl
  have hK := hF
  clear hF
  have hl : lv_has ls 4 [(0, .ref (G.2.2.2.2 110)), (1, .ref (G.2.2.2.2 r1))] := hl
  have C : cx p s m args meth c G RX5 cX5_clearOn 4 (some .int) := C
  refine q_aload_n C dX5_clearOn_0 rfl (lv_at hl 0 rfl) ?_
  refine g_X5_places C kd_110 w_fl_X5_17 dX5_clearOn_1 ?_
  refine q_iconst C (v := 4) dX5_clearOn_4 (by decide) ?_
  obtain ⟨x1, hx1, hK⟩ := rd_so hK
  refine q_iald C kd_112 hx1 dX5_clearOn_5 ?_
  refine q_istore_n C dX5_clearOn_6 rfl hl (by decide) (lv2 := [(2, .int _), (0, .ref _), (1, .ref _)]) rfl (fun ls hl => ?_)
  refine q_aload_n C dX5_clearOn_7 rfl (lv_at hl 2 rfl) ?_
  refine q_iconst C (v := 0) dX5_clearOn_8 (by decide) ?_
  refine q_iload_n C dX5_clearOn_9 rfl (lv_at hl 0 rfl) ?_
  refine q_iadd C dX5_clearOn_10 ?_
  obtain ⟨x2, hx2, hK⟩ := rd_so hK
  refine q_iald C hr1 hx2 dX5_clearOn_11 ?_
  refine q_istore_n C dX5_clearOn_12 rfl hl (by decide) (lv2 := [(3, .int _), (2, .int _), (0, .ref _), (1, .ref _)]) rfl (fun ls hl => ?_)
  refine q_aload_n C dX5_clearOn_13 rfl (lv_at hl 3 rfl) ?_
  refine q_bipush C (v := 76) dX5_clearOn_14 (by decide) ?_
  refine q_dup2 C dX5_clearOn_16 rfl rfl ?_
  obtain ⟨x3, hx3, hK⟩ := rd_so hK
  refine q_iald C hr1 hx3 dX5_clearOn_17 ?_
  refine q_iload_n C dX5_clearOn_18 rfl (lv_at hl 0 rfl) ?_
  refine q_iadd C dX5_clearOn_19 ?_
  obtain ⟨h4, hh4, hK⟩ := wr_so hK
  refine q_iast C hr1 hh4 dX5_clearOn_20 ?_
  refine q_aload_n C dX5_clearOn_21 rfl (lv_at hl 2 rfl) ?_
  refine q_aload_n C dX5_clearOn_22 rfl (lv_at hl 3 rfl) ?_
  refine q_iload_n C dX5_clearOn_23 rfl (lv_at hl 1 rfl) ?_
  obtain ⟨r5, h6, hfr5, hK⟩ := bd_so hK
  refine q_callVv C s_X5_empty w_ml_X5_149 (c_X5_empty l G hfr5) kd_110 rfl (by decide) (ce_4 kd_110) (by decide) hl.1 rfl rfl (Nat.le_of_ble_eq_true rfl) dX5_clearOn_24 ?_
  refine q_aload_n C dX5_clearOn_27 rfl (lv_at hl 3 rfl) ?_
  refine q_bipush C (v := 54) dX5_clearOn_28 (by decide) ?_
  refine q_iload_n C dX5_clearOn_30 rfl (lv_at hl 1 rfl) ?_
  refine q_iadd C dX5_clearOn_31 ?_
  refine q_iconst C (v := 0) dX5_clearOn_32 (by decide) ?_
  obtain ⟨h7, hh7, hK⟩ := wr_so hK
  refine q_iast C hr1 hh7 dX5_clearOn_33 ?_
  refine q_aload_n C dX5_clearOn_34 rfl (lv_at hl 3 rfl) ?_
  refine q_bipush C (v := 70) dX5_clearOn_35 (by decide) ?_
  refine q_iconst C (v := 0) dX5_clearOn_37 (by decide) ?_
  obtain ⟨h8, hh8, hK⟩ := wr_so hK
  refine q_iast C hr1 hh8 dX5_clearOn_38 ?_
  refine q_iload_n C dX5_clearOn_39 rfl (lv_at hl 0 rfl) ?_
  cases hK
  exact q_iret C dX5_clearOn_40
theorem s_X5_clearOn : sv yX5_clearOn cX5_clearOn 4 (some .int) 1 := ⟨w_co_X5_clearOn, w_im_X5_clearOn, w_se_X5_clearOn, w_in_X5, by decide +kernel, by decide⟩
def f_X5_clear (h : PH) : Option (Int32 × PH) := rd h 114 (70 : Int32) (fun x1 => if x1 = 0 then some ((-3 : Int32), h) else bd (f_X5_note h) (fun _ h3 => bd (f_X5_clearOn 114 h3) (fun r4 h5 => some (r4, h5))))
set_option maxHeartbeats 4000000 in
set_option maxRecDepth 100000 in
theorem c_X5_clear (l : Launch) (G : GG) {h : PH} {res : Int32 × PH} (hF : f_X5_clear h = some res) : MI l G yX5_clear cX5_clear 1 .int 2 [.ref (G.2.2.2.2 110)] h res := by
  unfold f_X5_clear at hF
  refine MI_of (by decide +kernel) (Nat.le_of_ble_eq_true rfl) ?_
  intro p e s m args below meth c ls C hl
  have hK := hF
  clear hF
  have hl : lv_has ls 1 [(0, .ref (G.2.2.2.2 110))] := hl
  have C : cx p s m args meth c G RX5 cX5_clear 1 (some .int) := C
  refine q_aload_n C dX5_clear_0 rfl (lv_at hl 0 rfl) ?_
  refine g_X5_now C kd_110 w_fl_X5_23 dX5_clear_1 ?_
  refine q_bipush C (v := 70) dX5_clear_4 (by decide) ?_
  obtain ⟨x1, hx1, hK⟩ := rd_so hK
  refine q_iald C kd_114 hx1 dX5_clear_6 ?_
  refine q_if_ne C dX5_clear_7 (tgt := 13) (by decide) (fun hc => ?_) (fun hc => ?_)
  · replace hK := if_ne hc hK
    refine q_aload_n C dX5_clear_13 rfl (lv_at hl 0 rfl) ?_
    obtain ⟨r2, h3, hfr2, hK⟩ := bd_so hK
    refine q_callVv C s_X5_note w_ml_X5_207 (c_X5_note l G hfr2) kd_110 rfl (by decide) (ce_4 kd_110) (by decide) hl.1 rfl rfl (Nat.le_of_ble_eq_true rfl) dX5_clear_14 ?_
    refine q_aload_n C dX5_clear_17 rfl (lv_at hl 0 rfl) ?_
    refine q_aload_n C dX5_clear_18 rfl (lv_at hl 0 rfl) ?_
    refine g_X5_now C kd_110 w_fl_X5_23 dX5_clear_19 ?_
    obtain ⟨r4, h5, hfr4, hK⟩ := bd_so hK
    refine q_callVi C s_X5_clearOn w_ml_X5_216 (c_X5_clearOn l G hfr4) kd_110 rfl (by decide) (ce_4 kd_110) (by decide) hl.1 rfl rfl (Nat.le_of_ble_eq_true rfl) dX5_clear_22 ?_
    cases hK
    exact q_iret C dX5_clear_25
  · replace hK := if_po hc hK
    refine q_bipush C (v := -3) dX5_clear_10 (by decide) ?_
    cases hK
    exact q_iret C dX5_clear_12
theorem s_X5_clear : sv yX5_clear cX5_clear 1 (some .int) 0 := ⟨w_co_X5_clear, w_im_X5_clear, w_se_X5_clear, w_in_X5, by decide +kernel, by decide⟩
def f_X5_restartOn_b2 (r1 : Nat) : Nat → Int32 → PH → Option (Unit × PH)
  | 0, _, _ => none
  | n + 1, v2, h => rd h 112 (0 : Int32) (fun x1 => if x1 < v2 then some ((), h) else rd h r1 ((0 : Int32) + v2) (fun x2 => if x2 = (1 : Int32) then wr h r1 ((54 : Int32) + v2) (1 : Int32) (fun h5 => (f_X5_restartOn_b2 r1 n) (v2 + 1) h5) else rd h r1 ((54 : Int32) + v2) (fun x3 => wr h r1 ((54 : Int32) + v2) x3 (fun h4 => (f_X5_restartOn_b2 r1 n) (v2 + 1) h4))))
set_option maxHeartbeats 4000000 in
set_option maxRecDepth 100000 in
theorem t_X5_restartOn_b2 {p : Program} {l : Launch} {e : Env} {s : State} {m : MethodId} {args : Array Value} {below : List Frame} {meth : Method} {c : Code} {G : GG} {r1 : Nat} {res : Unit × PH} (C : cx p s m args meth c G RX5 cX5_restartOn 3 none) (hr1 : kd r1 = 5) (n : Nat) : ∀ (v2 : Int32) (h : PH) (ls : Array Slot), lv_has ls 3 [(0, .ref (G.2.2.2.2 110)), (1, .ref (G.2.2.2.2 r1)), (2, .int v2)] → f_X5_restartOn_b2 r1 n v2 h = some res → WW p l e 0 s m args below meth c G h (MQ below (QV G res) args s 0 0 (Ar G)) (F0 m 2 ls []) := by
  induction n with
  | zero => intro v2 h ls hl hK; cases hK
  | succ n ih =>
    intro v2 h ls hl hK
    unfold f_X5_restartOn_b2 at hK
    refine q_iload_n C dX5_restartOn_2 rfl (lv_at hl 2 rfl) ?_
    refine q_aload_n C dX5_restartOn_3 rfl (lv_at hl 0 rfl) ?_
    refine g_X5_places C kd_110 w_fl_X5_17 dX5_restartOn_4 ?_
    refine q_iconst C (v := 0) dX5_restartOn_7 (by decide) ?_
    obtain ⟨x1, hx1, hK⟩ := rd_so hK
    refine q_iald C kd_112 hx1 dX5_restartOn_8 ?_
    refine q_icmp_gt C dX5_restartOn_9 (tgt := 43) (by decide) (fun hc => ?_) (fun hc => ?_)
    · replace hK := if_po hc hK
      cases hK
      exact q_vret C dX5_restartOn_43
    · replace hK := if_ne hc hK
      refine q_aload_n C dX5_restartOn_12 rfl (lv_at hl 1 rfl) ?_
      refine q_bipush C (v := 54) dX5_restartOn_13 (by decide) ?_
      refine q_iload_n C dX5_restartOn_15 rfl (lv_at hl 2 rfl) ?_
      refine q_iadd C dX5_restartOn_16 ?_
      refine q_aload_n C dX5_restartOn_17 rfl (lv_at hl 1 rfl) ?_
      refine q_iconst C (v := 0) dX5_restartOn_18 (by decide) ?_
      refine q_iload_n C dX5_restartOn_19 rfl (lv_at hl 2 rfl) ?_
      refine q_iadd C dX5_restartOn_20 ?_
      obtain ⟨x2, hx2, hK⟩ := rd_so hK
      refine q_iald C hr1 hx2 dX5_restartOn_21 ?_
      refine q_iconst C (v := 1) dX5_restartOn_22 (by decide) ?_
      refine q_icmp_ne C dX5_restartOn_23 (tgt := 30) (by decide) (fun hc => ?_) (fun hc => ?_)
      · replace hK := if_ne hc hK
        refine q_aload_n C dX5_restartOn_30 rfl (lv_at hl 1 rfl) ?_
        refine q_bipush C (v := 54) dX5_restartOn_31 (by decide) ?_
        refine q_iload_n C dX5_restartOn_33 rfl (lv_at hl 2 rfl) ?_
        refine q_iadd C dX5_restartOn_34 ?_
        obtain ⟨x3, hx3, hK⟩ := rd_so hK
        refine q_iald C hr1 hx3 dX5_restartOn_35 ?_
        obtain ⟨h4, hh4, hK⟩ := wr_so hK
        refine q_iast C hr1 hh4 dX5_restartOn_36 ?_
        refine q_iinc C dX5_restartOn_37 hl (j := 2) (v := (v2 + 1)) rfl rfl (by decide) (lv2 := [(2, .int _), (0, .ref _), (1, .ref _)]) rfl (fun ls hl => ?_)
        refine q_goto C dX5_restartOn_40 (tgt := 2) (by decide) ?_
        exact ih _ _ _ (lv_sub hl [1, 2, 0] rfl) hK
      · replace hK := if_po hc hK
        refine q_iconst C (v := 1) dX5_restartOn_26 (by decide) ?_
        refine q_goto C dX5_restartOn_27 (tgt := 36) (by decide) ?_
        obtain ⟨h5, hh5, hK⟩ := wr_so hK
        refine q_iast C hr1 hh5 dX5_restartOn_36 ?_
        refine q_iinc C dX5_restartOn_37 hl (j := 2) (v := (v2 + 1)) rfl rfl (by decide) (lv2 := [(2, .int _), (0, .ref _), (1, .ref _)]) rfl (fun ls hl => ?_)
        refine q_goto C dX5_restartOn_40 (tgt := 2) (by decide) ?_
        exact ih _ _ _ (lv_sub hl [1, 2, 0] rfl) hK
def f_X5_restartOn (r1 : Nat) (h : PH) : Option (Unit × PH) := gd r1 5 (f_X5_restartOn_b2 r1 200 (0 : Int32) h)
set_option maxHeartbeats 4000000 in
set_option maxRecDepth 100000 in
theorem c_X5_restartOn (l : Launch) (G : GG) {r1 : Nat} {h : PH} {res : Unit × PH} (hF : f_X5_restartOn r1 h = some res) : MV l G yX5_restartOn cX5_restartOn 3 0 [.ref (G.2.2.2.2 110), .ref (G.2.2.2.2 r1)] h res := by
  unfold f_X5_restartOn at hF
  obtain ⟨hr1, hF⟩ := gd_so hF
  refine MV_of (by decide +kernel) (Nat.le_of_ble_eq_true rfl) ?_
  intro p e s m args below meth c ls C hl
  have hK := hF
  clear hF
  have hl : lv_has ls 3 [(0, .ref (G.2.2.2.2 110)), (1, .ref (G.2.2.2.2 r1))] := hl
  have C : cx p s m args meth c G RX5 cX5_restartOn 3 none := C
  refine q_iconst C (v := 0) dX5_restartOn_0 (by decide) ?_
  refine q_istore_n C dX5_restartOn_1 rfl hl (by decide) (lv2 := [(2, .int _), (0, .ref _), (1, .ref _)]) rfl (fun ls hl => ?_)
  exact t_X5_restartOn_b2 C hr1 200 _ _ _ (lv_sub hl [1, 2, 0] rfl) hK
theorem s_X5_restartOn : sv yX5_restartOn cX5_restartOn 3 none 1 := ⟨w_co_X5_restartOn, w_im_X5_restartOn, w_se_X5_restartOn, w_in_X5, by decide +kernel, by decide⟩
def f_X5_restart (h : PH) : Option (Int32 × PH) := bd (f_X5_note h) (fun _ h2 => bd (f_X5_restartOn 114 h2) (fun _ h4 => bd (f_X5_marks 114 h4) (fun r5 h6 => some (r5, h6))))
set_option maxHeartbeats 4000000 in
set_option maxRecDepth 100000 in
theorem c_X5_restart (l : Launch) (G : GG) {h : PH} {res : Int32 × PH} (hF : f_X5_restart h = some res) : MI l G yX5_restart cX5_restart 1 .int 1 [.ref (G.2.2.2.2 110)] h res := by
  unfold f_X5_restart at hF
  refine MI_of (by decide +kernel) (Nat.le_of_ble_eq_true rfl) ?_
  intro p e s m args below meth c ls C hl
  have hK := hF
  clear hF
  have hl : lv_has ls 1 [(0, .ref (G.2.2.2.2 110))] := hl
  have C : cx p s m args meth c G RX5 cX5_restart 1 (some .int) := C
  refine q_aload_n C dX5_restart_0 rfl (lv_at hl 0 rfl) ?_
  obtain ⟨r1, h2, hfr1, hK⟩ := bd_so hK
  refine q_callVv C s_X5_note w_ml_X5_207 (c_X5_note l G hfr1) kd_110 rfl (by decide) (ce_4 kd_110) (by decide) hl.1 rfl rfl (Nat.le_of_ble_eq_true rfl) dX5_restart_1 ?_
  refine q_aload_n C dX5_restart_4 rfl (lv_at hl 0 rfl) ?_
  refine q_aload_n C dX5_restart_5 rfl (lv_at hl 0 rfl) ?_
  refine g_X5_now C kd_110 w_fl_X5_23 dX5_restart_6 ?_
  obtain ⟨r3, h4, hfr3, hK⟩ := bd_so hK
  refine q_callVv C s_X5_restartOn w_ml_X5_219 (c_X5_restartOn l G hfr3) kd_110 rfl (by decide) (ce_4 kd_110) (by decide) hl.1 rfl rfl (Nat.le_of_ble_eq_true rfl) dX5_restart_9 ?_
  refine q_aload_n C dX5_restart_12 rfl (lv_at hl 0 rfl) ?_
  refine q_aload_n C dX5_restart_13 rfl (lv_at hl 0 rfl) ?_
  refine g_X5_now C kd_110 w_fl_X5_23 dX5_restart_14 ?_
  obtain ⟨r5, h6, hfr5, hK⟩ := bd_so hK
  refine q_callVi C s_X5_marks w_ml_X5_213 (c_X5_marks l G hfr5) kd_110 rfl (by decide) (ce_4 kd_110) (by decide) hl.1 rfl rfl (Nat.le_of_ble_eq_true rfl) dX5_restart_17 ?_
  cases hK
  exact q_iret C dX5_restart_20
theorem s_X5_restart : sv yX5_restart cX5_restart 1 (some .int) 0 := ⟨w_co_X5_restart, w_im_X5_restart, w_se_X5_restart, w_in_X5, by decide +kernel, by decide⟩
def f_X5_lay_b24 (v2 : Int32) (s0 : Int32) (h : PH) : Option (Int32 × PH) := rd h 114 s0 (fun x3 => if (x3 + v2) ≤ (99 : Int32) then bd (f_X5_note h) (fun _ h5 => rd h5 114 s0 (fun x6 => wr h5 114 s0 (x6 + v2) (fun h7 => rd h7 114 s0 (fun x8 => some (x8, h7))))) else some ((-4 : Int32), h))
set_option maxHeartbeats 4000000 in
set_option maxRecDepth 100000 in
theorem t_X5_lay_b24 {p : Program} {l : Launch} {e : Env} {s : State} {m : MethodId} {args : Array Value} {below : List Frame} {meth : Method} {c : Code} {G : GG} {res : Int32 × PH} (C : cx p s m args meth c G RX5 cX5_lay 4 (some .int)) {v2 : Int32} {s0 : Int32} {h : PH} {ls : Array Slot} (hl : lv_has ls 4 [(0, .ref (G.2.2.2.2 110)), (2, .int v2)]) (hK : f_X5_lay_b24 v2 s0 h = some res) : WW p l e 1 s m args below meth c G h (MQ below (QI G res) args s 0 0 (Ar G)) (F0 m 24 ls [.int s0]) := by
  unfold f_X5_lay_b24 at hK
  refine q_istore_n C dX5_lay_24 rfl hl (by decide) (lv2 := [(3, .int _), (0, .ref _), (2, .int _)]) rfl (fun ls hl => ?_)
  refine q_aload_n C dX5_lay_25 rfl (lv_at hl 1 rfl) ?_
  refine g_X5_now C kd_110 w_fl_X5_23 dX5_lay_26 ?_
  refine q_iload_n C dX5_lay_29 rfl (lv_at hl 0 rfl) ?_
  obtain ⟨x3, hx3, hK⟩ := rd_so hK
  refine q_iald C kd_114 hx3 dX5_lay_30 ?_
  refine q_iload_n C dX5_lay_31 rfl (lv_at hl 2 rfl) ?_
  refine q_iadd C dX5_lay_32 ?_
  refine q_bipush C (v := 99) dX5_lay_33 (by decide) ?_
  refine q_icmp_le C dX5_lay_35 (tgt := 41) (by decide) (fun hc => ?_) (fun hc => ?_)
  · replace hK := if_po hc hK
    refine q_aload_n C dX5_lay_41 rfl (lv_at hl 1 rfl) ?_
    obtain ⟨r4, h5, hfr4, hK⟩ := bd_so hK
    refine q_callVv C s_X5_note w_ml_X5_207 (c_X5_note l G hfr4) kd_110 rfl (by decide) (ce_4 kd_110) (by decide) hl.1 rfl rfl (Nat.le_of_ble_eq_true rfl) dX5_lay_42 ?_
    refine q_aload_n C dX5_lay_45 rfl (lv_at hl 1 rfl) ?_
    refine g_X5_now C kd_110 w_fl_X5_23 dX5_lay_46 ?_
    refine q_iload_n C dX5_lay_49 rfl (lv_at hl 0 rfl) ?_
    refine q_dup2 C dX5_lay_50 rfl rfl ?_
    obtain ⟨x6, hx6, hK⟩ := rd_so hK
    refine q_iald C kd_114 hx6 dX5_lay_51 ?_
    refine q_iload_n C dX5_lay_52 rfl (lv_at hl 2 rfl) ?_
    refine q_iadd C dX5_lay_53 ?_
    obtain ⟨h7, hh7, hK⟩ := wr_so hK
    refine q_iast C kd_114 hh7 dX5_lay_54 ?_
    refine q_aload_n C dX5_lay_55 rfl (lv_at hl 1 rfl) ?_
    refine g_X5_now C kd_110 w_fl_X5_23 dX5_lay_56 ?_
    refine q_iload_n C dX5_lay_59 rfl (lv_at hl 0 rfl) ?_
    obtain ⟨x8, hx8, hK⟩ := rd_so hK
    refine q_iald C kd_114 hx8 dX5_lay_60 ?_
    cases hK
    exact q_iret C dX5_lay_61
  · replace hK := if_ne hc hK
    refine q_bipush C (v := -4) dX5_lay_38 (by decide) ?_
    cases hK
    exact q_iret C dX5_lay_40
def f_X5_lay (a1 : Int32) (a2 : Int32) (h : PH) : Option (Int32 × PH) := bd (f_X5_in a2 (1 : Int32) (9 : Int32) h) (fun r1 h2 => if r1 = 0 then some ((-2 : Int32), h2) else if a1 = 0 then f_X5_lay_b24 a2 (67 : Int32) h2 else f_X5_lay_b24 a2 (68 : Int32) h2)
set_option maxHeartbeats 4000000 in
set_option maxRecDepth 100000 in
theorem c_X5_lay (l : Launch) (G : GG) {a1 : Int32} {a2 : Int32} {h : PH} {res : Int32 × PH} (hF : f_X5_lay a1 a2 h = some res) : MI l G yX5_lay cX5_lay 4 .int 1 [.ref (G.2.2.2.2 110), .int a1, .int a2] h res := by
  unfold f_X5_lay at hF
  refine MI_of (by decide +kernel) (Nat.le_of_ble_eq_true rfl) ?_
  intro p e s m args below meth c ls C hl
  have hK := hF
  clear hF
  have hl : lv_has ls 4 [(0, .ref (G.2.2.2.2 110)), (1, .int a1), (2, .int a2)] := hl
  have C : cx p s m args meth c G RX5 cX5_lay 4 (some .int) := C
  refine q_iload_n C dX5_lay_0 rfl (lv_at hl 2 rfl) ?_
  refine q_iconst C (v := 1) dX5_lay_1 (by decide) ?_
  refine q_bipush C (v := 9) dX5_lay_2 (by decide) ?_
  obtain ⟨r1, h2, hfr1, hK⟩ := bd_so hK
  refine q_callSi C s_X5_in w_ml_X5_72 (c_X5_in l G hfr1) (by decide) hl.1 rfl rfl (Nat.le_of_ble_eq_true rfl) dX5_lay_4 ?_
  refine q_if_ne C dX5_lay_7 (tgt := 13) (by decide) (fun hc => ?_) (fun hc => ?_)
  · replace hK := if_ne hc hK
    refine q_iload_n C dX5_lay_13 rfl (lv_at hl 1 rfl) ?_
    refine q_if_eq C dX5_lay_14 (tgt := 22) (by decide) (fun hc => ?_) (fun hc => ?_)
    · replace hK := if_po hc hK
      refine q_bipush C (v := 67) dX5_lay_22 (by decide) ?_
      exact t_X5_lay_b24 C (lv_sub hl [0, 2] rfl) hK
    · replace hK := if_ne hc hK
      refine q_bipush C (v := 68) dX5_lay_17 (by decide) ?_
      refine q_goto C dX5_lay_19 (tgt := 24) (by decide) ?_
      exact t_X5_lay_b24 C (lv_sub hl [0, 2] rfl) hK
  · replace hK := if_po hc hK
    refine q_bipush C (v := -2) dX5_lay_10 (by decide) ?_
    cases hK
    exact q_iret C dX5_lay_12
theorem s_X5_lay : sv yX5_lay cX5_lay 4 (some .int) 2 := ⟨w_co_X5_lay, w_im_X5_lay, w_se_X5_lay, w_in_X5, by decide +kernel, by decide⟩
def f_X5_set (a1 : Int32) (a2 : Int32) (h : PH) : Option (Int32 × PH) := bd (f_X5_isValve a1 h) (fun r1 h2 => if r1 = 0 then some ((-1 : Int32), h2) else bd (f_X5_in a2 (0 : Int32) (99 : Int32) h2) (fun r3 h4 => if r3 = 0 then some ((-2 : Int32), h4) else bd (f_X5_note h4) (fun _ h6 => rd h6 114 ((63 : Int32) + a1) (fun x7 => wr h6 114 ((63 : Int32) + a1) a2 (fun h8 => some (x7, h8))))))
set_option maxHeartbeats 4000000 in
set_option maxRecDepth 100000 in
theorem c_X5_set (l : Launch) (G : GG) {a1 : Int32} {a2 : Int32} {h : PH} {res : Int32 × PH} (hF : f_X5_set a1 a2 h = some res) : MI l G yX5_set cX5_set 4 .int 2 [.ref (G.2.2.2.2 110), .int a1, .int a2] h res := by
  unfold f_X5_set at hF
  refine MI_of (by decide +kernel) (Nat.le_of_ble_eq_true rfl) ?_
  intro p e s m args below meth c ls C hl
  have hK := hF
  clear hF
  have hl : lv_has ls 4 [(0, .ref (G.2.2.2.2 110)), (1, .int a1), (2, .int a2)] := hl
  have C : cx p s m args meth c G RX5 cX5_set 4 (some .int) := C
  refine q_aload_n C dX5_set_0 rfl (lv_at hl 0 rfl) ?_
  refine q_iload_n C dX5_set_1 rfl (lv_at hl 1 rfl) ?_
  obtain ⟨r1, h2, hfr1, hK⟩ := bd_so hK
  refine q_callVi C s_X5_isValve w_ml_X5_201 (c_X5_isValve l G hfr1) kd_110 rfl (by decide) (ce_4 kd_110) (by decide) hl.1 rfl rfl (Nat.le_of_ble_eq_true rfl) dX5_set_2 ?_
  refine q_if_ne C dX5_set_5 (tgt := 10) (by decide) (fun hc => ?_) (fun hc => ?_)
  · replace hK := if_ne hc hK
    refine q_iload_n C dX5_set_10 rfl (lv_at hl 2 rfl) ?_
    refine q_iconst C (v := 0) dX5_set_11 (by decide) ?_
    refine q_bipush C (v := 99) dX5_set_12 (by decide) ?_
    obtain ⟨r3, h4, hfr3, hK⟩ := bd_so hK
    refine q_callSi C s_X5_in w_ml_X5_72 (c_X5_in l G hfr3) (by decide) hl.1 rfl rfl (Nat.le_of_ble_eq_true rfl) dX5_set_14 ?_
    refine q_if_ne C dX5_set_17 (tgt := 23) (by decide) (fun hc => ?_) (fun hc => ?_)
    · replace hK := if_ne hc hK
      refine q_aload_n C dX5_set_23 rfl (lv_at hl 0 rfl) ?_
      obtain ⟨r5, h6, hfr5, hK⟩ := bd_so hK
      refine q_callVv C s_X5_note w_ml_X5_207 (c_X5_note l G hfr5) kd_110 rfl (by decide) (ce_4 kd_110) (by decide) hl.1 rfl rfl (Nat.le_of_ble_eq_true rfl) dX5_set_24 ?_
      refine q_aload_n C dX5_set_27 rfl (lv_at hl 0 rfl) ?_
      refine g_X5_now C kd_110 w_fl_X5_23 dX5_set_28 ?_
      refine q_bipush C (v := 63) dX5_set_31 (by decide) ?_
      refine q_iload_n C dX5_set_33 rfl (lv_at hl 1 rfl) ?_
      refine q_iadd C dX5_set_34 ?_
      obtain ⟨x7, hx7, hK⟩ := rd_so hK
      refine q_iald C kd_114 hx7 dX5_set_35 ?_
      refine q_istore_n C dX5_set_36 rfl hl (by decide) (lv2 := [(3, .int _), (0, .ref _), (1, .int _), (2, .int _)]) rfl (fun ls hl => ?_)
      refine q_aload_n C dX5_set_37 rfl (lv_at hl 1 rfl) ?_
      refine g_X5_now C kd_110 w_fl_X5_23 dX5_set_38 ?_
      refine q_bipush C (v := 63) dX5_set_41 (by decide) ?_
      refine q_iload_n C dX5_set_43 rfl (lv_at hl 2 rfl) ?_
      refine q_iadd C dX5_set_44 ?_
      refine q_iload_n C dX5_set_45 rfl (lv_at hl 3 rfl) ?_
      obtain ⟨h8, hh8, hK⟩ := wr_so hK
      refine q_iast C kd_114 hh8 dX5_set_46 ?_
      refine q_iload_n C dX5_set_47 rfl (lv_at hl 0 rfl) ?_
      cases hK
      exact q_iret C dX5_set_48
    · replace hK := if_po hc hK
      refine q_bipush C (v := -2) dX5_set_20 (by decide) ?_
      cases hK
      exact q_iret C dX5_set_22
  · replace hK := if_po hc hK
    refine q_iconst C (v := -1) dX5_set_8 (by decide) ?_
    cases hK
    exact q_iret C dX5_set_9
theorem s_X5_set : sv yX5_set cX5_set 4 (some .int) 2 := ⟨w_co_X5_set, w_im_X5_set, w_se_X5_set, w_in_X5, by decide +kernel, by decide⟩
def f_X5_come (a1 : Int32) (h : PH) : Option (Int32 × PH) := bd (f_X5_in a1 (0 : Int32) (2 : Int32) h) (fun r1 h2 => if r1 = 0 then some ((-2 : Int32), h2) else rd h2 114 (78 : Int32) (fun x3 => if x3 = (24 : Int32) then some ((-4 : Int32), h2) else bd (f_X5_note h2) (fun _ h5 => rd h5 114 (78 : Int32) (fun x6 => wr h5 114 ((79 : Int32) + x6) a1 (fun h7 => rd h7 114 (78 : Int32) (fun x8 => wr h7 114 (78 : Int32) (x8 + (1 : Int32)) (fun h9 => rd h9 114 (78 : Int32) (fun x10 => some (x10, h9)))))))))
set_option maxHeartbeats 4000000 in
set_option maxRecDepth 100000 in
theorem c_X5_come (l : Launch) (G : GG) {a1 : Int32} {h : PH} {res : Int32 × PH} (hF : f_X5_come a1 h = some res) : MI l G yX5_come cX5_come 2 .int 1 [.ref (G.2.2.2.2 110), .int a1] h res := by
  unfold f_X5_come at hF
  refine MI_of (by decide +kernel) (Nat.le_of_ble_eq_true rfl) ?_
  intro p e s m args below meth c ls C hl
  have hK := hF
  clear hF
  have hl : lv_has ls 2 [(0, .ref (G.2.2.2.2 110)), (1, .int a1)] := hl
  have C : cx p s m args meth c G RX5 cX5_come 2 (some .int) := C
  refine q_iload_n C dX5_come_0 rfl (lv_at hl 1 rfl) ?_
  refine q_iconst C (v := 0) dX5_come_1 (by decide) ?_
  refine q_iconst C (v := 2) dX5_come_2 (by decide) ?_
  obtain ⟨r1, h2, hfr1, hK⟩ := bd_so hK
  refine q_callSi C s_X5_in w_ml_X5_72 (c_X5_in l G hfr1) (by decide) hl.1 rfl rfl (Nat.le_of_ble_eq_true rfl) dX5_come_3 ?_
  refine q_if_ne C dX5_come_6 (tgt := 12) (by decide) (fun hc => ?_) (fun hc => ?_)
  · replace hK := if_ne hc hK
    refine q_aload_n C dX5_come_12 rfl (lv_at hl 0 rfl) ?_
    refine g_X5_now C kd_110 w_fl_X5_23 dX5_come_13 ?_
    refine q_bipush C (v := 78) dX5_come_16 (by decide) ?_
    obtain ⟨x3, hx3, hK⟩ := rd_so hK
    refine q_iald C kd_114 hx3 dX5_come_18 ?_
    refine q_bipush C (v := 24) dX5_come_19 (by decide) ?_
    refine q_icmp_ne C dX5_come_21 (tgt := 27) (by decide) (fun hc => ?_) (fun hc => ?_)
    · replace hK := if_ne hc hK
      refine q_aload_n C dX5_come_27 rfl (lv_at hl 0 rfl) ?_
      obtain ⟨r4, h5, hfr4, hK⟩ := bd_so hK
      refine q_callVv C s_X5_note w_ml_X5_207 (c_X5_note l G hfr4) kd_110 rfl (by decide) (ce_4 kd_110) (by decide) hl.1 rfl rfl (Nat.le_of_ble_eq_true rfl) dX5_come_28 ?_
      refine q_aload_n C dX5_come_31 rfl (lv_at hl 0 rfl) ?_
      refine g_X5_now C kd_110 w_fl_X5_23 dX5_come_32 ?_
      refine q_bipush C (v := 79) dX5_come_35 (by decide) ?_
      refine q_aload_n C dX5_come_37 rfl (lv_at hl 0 rfl) ?_
      refine g_X5_now C kd_110 w_fl_X5_23 dX5_come_38 ?_
      refine q_bipush C (v := 78) dX5_come_41 (by decide) ?_
      obtain ⟨x6, hx6, hK⟩ := rd_so hK
      refine q_iald C kd_114 hx6 dX5_come_43 ?_
      refine q_iadd C dX5_come_44 ?_
      refine q_iload_n C dX5_come_45 rfl (lv_at hl 1 rfl) ?_
      obtain ⟨h7, hh7, hK⟩ := wr_so hK
      refine q_iast C kd_114 hh7 dX5_come_46 ?_
      refine q_aload_n C dX5_come_47 rfl (lv_at hl 0 rfl) ?_
      refine g_X5_now C kd_110 w_fl_X5_23 dX5_come_48 ?_
      refine q_bipush C (v := 78) dX5_come_51 (by decide) ?_
      refine q_dup2 C dX5_come_53 rfl rfl ?_
      obtain ⟨x8, hx8, hK⟩ := rd_so hK
      refine q_iald C kd_114 hx8 dX5_come_54 ?_
      refine q_iconst C (v := 1) dX5_come_55 (by decide) ?_
      refine q_iadd C dX5_come_56 ?_
      obtain ⟨h9, hh9, hK⟩ := wr_so hK
      refine q_iast C kd_114 hh9 dX5_come_57 ?_
      refine q_aload_n C dX5_come_58 rfl (lv_at hl 0 rfl) ?_
      refine g_X5_now C kd_110 w_fl_X5_23 dX5_come_59 ?_
      refine q_bipush C (v := 78) dX5_come_62 (by decide) ?_
      obtain ⟨x10, hx10, hK⟩ := rd_so hK
      refine q_iald C kd_114 hx10 dX5_come_64 ?_
      cases hK
      exact q_iret C dX5_come_65
    · replace hK := if_po hc hK
      refine q_bipush C (v := -4) dX5_come_24 (by decide) ?_
      cases hK
      exact q_iret C dX5_come_26
  · replace hK := if_po hc hK
    refine q_bipush C (v := -2) dX5_come_9 (by decide) ?_
    cases hK
    exact q_iret C dX5_come_11
theorem s_X5_come : sv yX5_come cX5_come 2 (some .int) 1 := ⟨w_co_X5_come, w_im_X5_come, w_se_X5_come, w_in_X5, by decide +kernel, by decide⟩
def f_X5_undo_b38 : Nat → Int32 → PH → Option (Int32 × PH)
  | 0, _, _ => none
  | n + 1, v1, h => if (103 : Int32) ≤ v1 then some ((h.1 110 12), h) else rd h 116 (((103 : Int32) * (h.1 110 13)) + v1) (fun x3 => wr h 114 v1 x3 (fun h4 => (f_X5_undo_b38 n) (v1 + 1) h4))
set_option maxHeartbeats 4000000 in
set_option maxRecDepth 100000 in
theorem t_X5_undo_b38 {p : Program} {l : Launch} {e : Env} {s : State} {m : MethodId} {args : Array Value} {below : List Frame} {meth : Method} {c : Code} {G : GG} {res : Int32 × PH} (C : cx p s m args meth c G RX5 cX5_undo 2 (some .int)) (n : Nat) : ∀ (v1 : Int32) (h : PH) (ls : Array Slot), lv_has ls 2 [(0, .ref (G.2.2.2.2 110)), (1, .int v1)] → f_X5_undo_b38 n v1 h = some res → WW p l e 0 s m args below meth c G h (MQ below (QI G res) args s 0 0 (Ar G)) (F0 m 38 ls []) := by
  induction n with
  | zero => intro v1 h ls hl hK; cases hK
  | succ n ih =>
    intro v1 h ls hl hK
    unfold f_X5_undo_b38 at hK
    refine q_iload_n C dX5_undo_38 rfl (lv_at hl 1 rfl) ?_
    refine q_bipush C (v := 103) dX5_undo_39 (by decide) ?_
    refine q_icmp_ge C dX5_undo_41 (tgt := 70) (by decide) (fun hc => ?_) (fun hc => ?_)
    · replace hK := if_po hc hK
      refine q_aload_n C dX5_undo_70 rfl (lv_at hl 0 rfl) ?_
      refine g_X5_acts C kd_110 w_fl_X5_139 dX5_undo_71 ?_
      cases hK
      exact q_iret C dX5_undo_74
    · replace hK := if_ne hc hK
      refine q_aload_n C dX5_undo_44 rfl (lv_at hl 0 rfl) ?_
      refine g_X5_now C kd_110 w_fl_X5_23 dX5_undo_45 ?_
      refine q_iload_n C dX5_undo_48 rfl (lv_at hl 1 rfl) ?_
      refine q_aload_n C dX5_undo_49 rfl (lv_at hl 0 rfl) ?_
      refine g_X5_diary C kd_110 w_fl_X5_29 dX5_undo_50 ?_
      refine q_bipush C (v := 103) dX5_undo_53 (by decide) ?_
      refine q_aload_n C dX5_undo_55 rfl (lv_at hl 0 rfl) ?_
      refine g_X5_next C kd_110 w_fl_X5_204 dX5_undo_56 ?_
      refine q_imul C dX5_undo_59 ?_
      refine q_iload_n C dX5_undo_60 rfl (lv_at hl 1 rfl) ?_
      refine q_iadd C dX5_undo_61 ?_
      obtain ⟨x3, hx3, hK⟩ := rd_so hK
      refine q_iald C kd_116 hx3 dX5_undo_62 ?_
      obtain ⟨h4, hh4, hK⟩ := wr_so hK
      refine q_iast C kd_114 hh4 dX5_undo_63 ?_
      refine q_iinc C dX5_undo_64 hl (j := 1) (v := (v1 + 1)) rfl rfl (by decide) (lv2 := [(1, .int _), (0, .ref _)]) rfl (fun ls hl => ?_)
      refine q_goto C dX5_undo_67 (tgt := 38) (by decide) ?_
      exact ih _ _ _ (lv_sub hl [1, 0] rfl) hK
def f_X5_undo (h : PH) : Option (Int32 × PH) := if (h.1 110 12) = 0 then some ((-3 : Int32), h) else st h 110 12 ((h.1 110 12) - (1 : Int32)) (fun h1 => st h1 110 13 (irm (((h1.1 110 13) + (14 : Int32)) - (1 : Int32)) (14 : Int32)) (fun h2 => f_X5_undo_b38 200 (0 : Int32) h2))
set_option maxHeartbeats 4000000 in
set_option maxRecDepth 100000 in
theorem c_X5_undo (l : Launch) (G : GG) {h : PH} {res : Int32 × PH} (hF : f_X5_undo h = some res) : MI l G yX5_undo cX5_undo 2 .int 0 [.ref (G.2.2.2.2 110)] h res := by
  unfold f_X5_undo at hF
  refine MI_of (by decide +kernel) (Nat.le_of_ble_eq_true rfl) ?_
  intro p e s m args below meth c ls C hl
  have hK := hF
  clear hF
  have hl : lv_has ls 2 [(0, .ref (G.2.2.2.2 110))] := hl
  have C : cx p s m args meth c G RX5 cX5_undo 2 (some .int) := C
  refine q_aload_n C dX5_undo_0 rfl (lv_at hl 0 rfl) ?_
  refine g_X5_acts C kd_110 w_fl_X5_139 dX5_undo_1 ?_
  refine q_if_ne C dX5_undo_4 (tgt := 10) (by decide) (fun hc => ?_) (fun hc => ?_)
  · replace hK := if_ne hc hK
    refine q_aload_n C dX5_undo_10 rfl (lv_at hl 0 rfl) ?_
    refine q_dup C dX5_undo_11 rfl ?_
    refine g_X5_acts C kd_110 w_fl_X5_139 dX5_undo_12 ?_
    refine q_iconst C (v := 1) dX5_undo_15 (by decide) ?_
    refine q_isub C dX5_undo_16 ?_
    obtain ⟨h1, hh1, hK⟩ := st_so hK
    refine p_X5_acts C kd_110 w_fl_X5_139 hh1 dX5_undo_17 ?_
    refine q_aload_n C dX5_undo_20 rfl (lv_at hl 0 rfl) ?_
    refine q_aload_n C dX5_undo_21 rfl (lv_at hl 0 rfl) ?_
    refine g_X5_next C kd_110 w_fl_X5_204 dX5_undo_22 ?_
    refine q_bipush C (v := 14) dX5_undo_25 (by decide) ?_
    refine q_iadd C dX5_undo_27 ?_
    refine q_iconst C (v := 1) dX5_undo_28 (by decide) ?_
    refine q_isub C dX5_undo_29 ?_
    refine q_bipush C (v := 14) dX5_undo_30 (by decide) ?_
    refine q_irem C dX5_undo_32 (by decide) ?_
    obtain ⟨h2, hh2, hK⟩ := st_so hK
    refine p_X5_next C kd_110 w_fl_X5_204 hh2 dX5_undo_33 ?_
    refine q_iconst C (v := 0) dX5_undo_36 (by decide) ?_
    refine q_istore_n C dX5_undo_37 rfl hl (by decide) (lv2 := [(1, .int _), (0, .ref _)]) rfl (fun ls hl => ?_)
    exact t_X5_undo_b38 C 200 _ _ _ (lv_sub hl [1, 0] rfl) hK
  · replace hK := if_po hc hK
    refine q_bipush C (v := -3) dX5_undo_7 (by decide) ?_
    cases hK
    exact q_iret C dX5_undo_9
theorem s_X5_undo : sv yX5_undo cX5_undo 2 (some .int) 0 := ⟨w_co_X5_undo, w_im_X5_undo, w_se_X5_undo, w_in_X5, by decide +kernel, by decide⟩
def f_X5_ahead (a1 : Int32) (a2 : Int32) (h : PH) : Option (Int32 × PH) := bd (f_X5_in a1 (0 : Int32) (99 : Int32) h) (fun r1 h2 => if r1 = 0 then some ((-2 : Int32), h2) else bd (f_X5_in a2 (5 : Int32) (17 : Int32) h2) (fun r3 h4 => if r3 = 0 then some ((-2 : Int32), h4) else bd (f_X5_copy 114 115 h4) (fun _ h6 => bd (f_X5_goOn 115 a1 h6) (fun r7 h8 => bd (f_X5_tell 115 a2 h8) (fun r9 h10 => some (r9, h10))))))
set_option maxHeartbeats 4000000 in
set_option maxRecDepth 100000 in
theorem c_X5_ahead (l : Launch) (G : GG) {a1 : Int32} {a2 : Int32} {h : PH} {res : Int32 × PH} (hF : f_X5_ahead a1 a2 h = some res) : MI l G yX5_ahead cX5_ahead 3 .int 4 [.ref (G.2.2.2.2 110), .int a1, .int a2] h res := by
  unfold f_X5_ahead at hF
  refine MI_of (by decide +kernel) (Nat.le_of_ble_eq_true rfl) ?_
  intro p e s m args below meth c ls C hl
  have hK := hF
  clear hF
  have hl : lv_has ls 3 [(0, .ref (G.2.2.2.2 110)), (1, .int a1), (2, .int a2)] := hl
  have C : cx p s m args meth c G RX5 cX5_ahead 3 (some .int) := C
  refine q_iload_n C dX5_ahead_0 rfl (lv_at hl 1 rfl) ?_
  refine q_iconst C (v := 0) dX5_ahead_1 (by decide) ?_
  refine q_bipush C (v := 99) dX5_ahead_2 (by decide) ?_
  obtain ⟨r1, h2, hfr1, hK⟩ := bd_so hK
  refine q_callSi C s_X5_in w_ml_X5_72 (c_X5_in l G hfr1) (by decide) hl.1 rfl rfl (Nat.le_of_ble_eq_true rfl) dX5_ahead_4 ?_
  refine q_if_eq C dX5_ahead_7 (tgt := 20) (by decide) (fun hc => ?_) (fun hc => ?_)
  · replace hK := if_po hc hK
    refine q_bipush C (v := -2) dX5_ahead_20 (by decide) ?_
    cases hK
    exact q_iret C dX5_ahead_22
  · replace hK := if_ne hc hK
    refine q_iload_n C dX5_ahead_10 rfl (lv_at hl 2 rfl) ?_
    refine q_iconst C (v := 5) dX5_ahead_11 (by decide) ?_
    refine q_bipush C (v := 17) dX5_ahead_12 (by decide) ?_
    obtain ⟨r3, h4, hfr3, hK⟩ := bd_so hK
    refine q_callSi C s_X5_in w_ml_X5_72 (c_X5_in l G hfr3) (by decide) hl.1 rfl rfl (Nat.le_of_ble_eq_true rfl) dX5_ahead_14 ?_
    refine q_if_ne C dX5_ahead_17 (tgt := 23) (by decide) (fun hc => ?_) (fun hc => ?_)
    · replace hK := if_ne hc hK
      refine q_aload_n C dX5_ahead_23 rfl (lv_at hl 0 rfl) ?_
      refine g_X5_now C kd_110 w_fl_X5_23 dX5_ahead_24 ?_
      refine q_aload_n C dX5_ahead_27 rfl (lv_at hl 0 rfl) ?_
      refine g_X5_trial C kd_110 w_fl_X5_26 dX5_ahead_28 ?_
      obtain ⟨r5, h6, hfr5, hK⟩ := bd_so hK
      refine q_callSv C s_X5_copy w_ml_X5_222 (c_X5_copy l G hfr5) (by decide) hl.1 rfl rfl (Nat.le_of_ble_eq_true rfl) dX5_ahead_31 ?_
      refine q_aload_n C dX5_ahead_34 rfl (lv_at hl 0 rfl) ?_
      refine q_aload_n C dX5_ahead_35 rfl (lv_at hl 0 rfl) ?_
      refine g_X5_trial C kd_110 w_fl_X5_26 dX5_ahead_36 ?_
      refine q_iload_n C dX5_ahead_39 rfl (lv_at hl 1 rfl) ?_
      obtain ⟨r7, h8, hfr7, hK⟩ := bd_so hK
      refine q_callVi C s_X5_goOn w_ml_X5_210 (c_X5_goOn l G hfr7) kd_110 rfl (by decide) (ce_4 kd_110) (by decide) hl.1 rfl rfl (Nat.le_of_ble_eq_true rfl) dX5_ahead_40 ?_
      refine q_pop C dX5_ahead_43 rfl ?_
      refine q_aload_n C dX5_ahead_44 rfl (lv_at hl 0 rfl) ?_
      refine q_aload_n C dX5_ahead_45 rfl (lv_at hl 0 rfl) ?_
      refine g_X5_trial C kd_110 w_fl_X5_26 dX5_ahead_46 ?_
      refine q_iload_n C dX5_ahead_49 rfl (lv_at hl 2 rfl) ?_
      obtain ⟨r9, h10, hfr9, hK⟩ := bd_so hK
      refine q_callVi C s_X5_tell w_ml_X5_194 (c_X5_tell l G hfr9) kd_110 rfl (by decide) (ce_4 kd_110) (by decide) hl.1 rfl rfl (Nat.le_of_ble_eq_true rfl) dX5_ahead_50 ?_
      cases hK
      exact q_iret C dX5_ahead_53
    · replace hK := if_po hc hK
      refine q_bipush C (v := -2) dX5_ahead_20 (by decide) ?_
      cases hK
      exact q_iret C dX5_ahead_22
theorem s_X5_ahead : sv yX5_ahead cX5_ahead 3 (some .int) 2 := ⟨w_co_X5_ahead, w_im_X5_ahead, w_se_X5_ahead, w_in_X5, by decide +kernel, by decide⟩
def f_X5_goes_b115 (v2 : Int32) (v3 : Int32) (s0 : Int32) (h : PH) : Option (Int32 × PH) := st h 110 22 (-9 : Int32) (fun h13 => if s0 = 0 then some ((-9 : Int32), h13) else if v2 = 0 then some (v3, h13) else some ((h13.1 110 23), h13))
set_option maxHeartbeats 4000000 in
set_option maxRecDepth 100000 in
theorem t_X5_goes_b115 {p : Program} {l : Launch} {e : Env} {s : State} {m : MethodId} {args : Array Value} {below : List Frame} {meth : Method} {c : Code} {G : GG} {res : Int32 × PH} (C : cx p s m args meth c G RX5 cX5_goes 5 (some .int)) {v2 : Int32} {v3 : Int32} {s0 : Int32} {h : PH} {ls : Array Slot} (hl : lv_has ls 5 [(0, .ref (G.2.2.2.2 110)), (2, .int v2), (3, .int v3)]) (hK : f_X5_goes_b115 v2 v3 s0 h = some res) : WW p l e 4 s m args below meth c G h (MQ below (QI G res) args s 0 0 (Ar G)) (F0 m 115 ls [.int s0]) := by
  unfold f_X5_goes_b115 at hK
  refine q_istore C dX5_goes_115 hl (by decide) (lv2 := [(4, .int _), (0, .ref _), (2, .int _), (3, .int _)]) rfl (fun ls hl => ?_)
  refine q_aload_n C dX5_goes_117 rfl (lv_at hl 1 rfl) ?_
  refine q_bipush C (v := -9) dX5_goes_118 (by decide) ?_
  obtain ⟨h13, hh13, hK⟩ := st_so hK
  refine p_X5_watched C kd_110 w_fl_X5_69 hh13 dX5_goes_120 ?_
  refine q_iload C dX5_goes_123 (lv_at hl 0 rfl) ?_
  refine q_if_ne C dX5_goes_125 (tgt := 133) (by decide) (fun hc => ?_) (fun hc => ?_)
  · replace hK := if_ne hc hK
    refine q_iload_n C dX5_goes_133 rfl (lv_at hl 2 rfl) ?_
    refine q_if_ne C dX5_goes_134 (tgt := 141) (by decide) (fun hc => ?_) (fun hc => ?_)
    · replace hK := if_ne hc hK
      refine q_aload_n C dX5_goes_141 rfl (lv_at hl 1 rfl) ?_
      refine g_X5_went C kd_110 w_fl_X5_146 dX5_goes_142 ?_
      cases hK
      exact q_iret C dX5_goes_145
    · replace hK := if_po hc hK
      refine q_iload_n C dX5_goes_137 rfl (lv_at hl 3 rfl) ?_
      refine q_goto C dX5_goes_138 (tgt := 145) (by decide) ?_
      cases hK
      exact q_iret C dX5_goes_145
  · replace hK := if_po hc hK
    refine q_bipush C (v := -9) dX5_goes_128 (by decide) ?_
    refine q_goto C dX5_goes_130 (tgt := 145) (by decide) ?_
    cases hK
    exact q_iret C dX5_goes_145
def f_X5_goes_b101 (v2 : Int32) (v3 : Int32) (h : PH) : Option (Int32 × PH) := if (h.1 110 22) = (-9 : Int32) then f_X5_goes_b115 v2 v3 (1 : Int32) h else f_X5_goes_b115 v2 v3 (0 : Int32) h
set_option maxHeartbeats 4000000 in
set_option maxRecDepth 100000 in
theorem t_X5_goes_b101 {p : Program} {l : Launch} {e : Env} {s : State} {m : MethodId} {args : Array Value} {below : List Frame} {meth : Method} {c : Code} {G : GG} {res : Int32 × PH} (C : cx p s m args meth c G RX5 cX5_goes 5 (some .int)) {v2 : Int32} {v3 : Int32} {h : PH} {ls : Array Slot} (hl : lv_has ls 5 [(0, .ref (G.2.2.2.2 110)), (2, .int v2), (3, .int v3)]) (hK : f_X5_goes_b101 v2 v3 h = some res) : WW p l e 4 s m args below meth c G h (MQ below (QI G res) args s 0 0 (Ar G)) (F0 m 101 ls []) := by
  unfold f_X5_goes_b101 at hK
  refine q_aload_n C dX5_goes_101 rfl (lv_at hl 0 rfl) ?_
  refine g_X5_watched C kd_110 w_fl_X5_69 dX5_goes_102 ?_
  refine q_bipush C (v := -9) dX5_goes_105 (by decide) ?_
  refine q_icmp_ne C dX5_goes_107 (tgt := 114) (by decide) (fun hc => ?_) (fun hc => ?_)
  · replace hK := if_ne hc hK
    refine q_iconst C (v := 0) dX5_goes_114 (by decide) ?_
    exact t_X5_goes_b115 C (lv_sub hl [0, 1, 2] rfl) hK
  · replace hK := if_po hc hK
    refine q_iconst C (v := 1) dX5_goes_110 (by decide) ?_
    refine q_goto C dX5_goes_111 (tgt := 115) (by decide) ?_
    exact t_X5_goes_b115 C (lv_sub hl [0, 1, 2] rfl) hK
def f_X5_goes_b60 : Nat → Int32 → Int32 → PH → Option (Int32 × PH)
  | 0, _, _, _ => none
  | n + 1, v2, v3, h => if (60 : Int32) ≤ v3 then f_X5_goes_b101 v2 v3 h else if (h.1 110 22) = (-9 : Int32) then f_X5_goes_b101 v2 v3 h else rd h 115 (70 : Int32) (fun x10 => if x10 = 0 then bd (f_X5_goOn 115 (1 : Int32) h) (fun r11 h12 => (f_X5_goes_b60 n) v2 (v3 + 1) h12) else f_X5_goes_b101 v2 v3 h)
set_option maxHeartbeats 4000000 in
set_option maxRecDepth 100000 in
theorem t_X5_goes_b60 {p : Program} {l : Launch} {e : Env} {s : State} {m : MethodId} {args : Array Value} {below : List Frame} {meth : Method} {c : Code} {G : GG} {res : Int32 × PH} (C : cx p s m args meth c G RX5 cX5_goes 5 (some .int)) (n : Nat) : ∀ (v2 : Int32) (v3 : Int32) (h : PH) (ls : Array Slot), lv_has ls 5 [(0, .ref (G.2.2.2.2 110)), (2, .int v2), (3, .int v3)] → f_X5_goes_b60 n v2 v3 h = some res → WW p l e 4 s m args below meth c G h (MQ below (QI G res) args s 0 0 (Ar G)) (F0 m 60 ls []) := by
  induction n with
  | zero => intro v2 v3 h ls hl hK; cases hK
  | succ n ih =>
    intro v2 v3 h ls hl hK
    unfold f_X5_goes_b60 at hK
    refine q_iload_n C dX5_goes_60 rfl (lv_at hl 2 rfl) ?_
    refine q_bipush C (v := 60) dX5_goes_61 (by decide) ?_
    refine q_icmp_ge C dX5_goes_63 (tgt := 101) (by decide) (fun hc => ?_) (fun hc => ?_)
    · replace hK := if_po hc hK
      exact t_X5_goes_b101 C (lv_sub hl [0, 1, 2] rfl) hK
    · replace hK := if_ne hc hK
      refine q_aload_n C dX5_goes_66 rfl (lv_at hl 0 rfl) ?_
      refine g_X5_watched C kd_110 w_fl_X5_69 dX5_goes_67 ?_
      refine q_bipush C (v := -9) dX5_goes_70 (by decide) ?_
      refine q_icmp_eq C dX5_goes_72 (tgt := 101) (by decide) (fun hc => ?_) (fun hc => ?_)
      · replace hK := if_po hc hK
        exact t_X5_goes_b101 C (lv_sub hl [0, 1, 2] rfl) hK
      · replace hK := if_ne hc hK
        refine q_aload_n C dX5_goes_75 rfl (lv_at hl 0 rfl) ?_
        refine g_X5_trial C kd_110 w_fl_X5_26 dX5_goes_76 ?_
        refine q_bipush C (v := 70) dX5_goes_79 (by decide) ?_
        obtain ⟨x10, hx10, hK⟩ := rd_so hK
        refine q_iald C kd_115 hx10 dX5_goes_81 ?_
        refine q_if_ne C dX5_goes_82 (tgt := 101) (by decide) (fun hc => ?_) (fun hc => ?_)
        · replace hK := if_ne hc hK
          exact t_X5_goes_b101 C (lv_sub hl [0, 1, 2] rfl) hK
        · replace hK := if_po hc hK
          refine q_aload_n C dX5_goes_85 rfl (lv_at hl 0 rfl) ?_
          refine q_aload_n C dX5_goes_86 rfl (lv_at hl 0 rfl) ?_
          refine g_X5_trial C kd_110 w_fl_X5_26 dX5_goes_87 ?_
          refine q_iconst C (v := 1) dX5_goes_90 (by decide) ?_
          obtain ⟨r11, h12, hfr11, hK⟩ := bd_so hK
          refine q_callVi C s_X5_goOn w_ml_X5_210 (c_X5_goOn l G hfr11) kd_110 rfl (by decide) (ce_4 kd_110) (by decide) hl.1 rfl rfl (Nat.le_of_ble_eq_true rfl) dX5_goes_91 ?_
          refine q_pop C dX5_goes_94 rfl ?_
          refine q_iinc C dX5_goes_95 hl (j := 2) (v := (v3 + 1)) rfl rfl (by decide) (lv2 := [(3, .int _), (0, .ref _), (2, .int _)]) rfl (fun ls hl => ?_)
          refine q_goto C dX5_goes_98 (tgt := 60) (by decide) ?_
          exact ih _ _ _ _ (lv_sub hl [1, 2, 0] rfl) hK
def f_X5_goes (a1 : Int32) (a2 : Int32) (h : PH) : Option (Int32 × PH) := bd (f_X5_isCell a1 h) (fun r1 h2 => if r1 = 0 then some ((-1 : Int32), h2) else bd (f_X5_in a2 (0 : Int32) (1 : Int32) h2) (fun r3 h4 => if r3 = 0 then some ((-2 : Int32), h4) else rd h4 114 ((0 : Int32) + a1) (fun x5 => if x5 = 0 then some ((-3 : Int32), h4) else bd (f_X5_copy 114 115 h4) (fun _ h7 => st h7 110 22 a1 (fun h8 => st h8 110 23 (-9 : Int32) (fun h9 => f_X5_goes_b60 200 a2 (0 : Int32) h9))))))
set_option maxHeartbeats 4000000 in
set_option maxRecDepth 100000 in
theorem c_X5_goes (l : Launch) (G : GG) {a1 : Int32} {a2 : Int32} {h : PH} {res : Int32 × PH} (hF : f_X5_goes a1 a2 h = some res) : MI l G yX5_goes cX5_goes 5 .int 4 [.ref (G.2.2.2.2 110), .int a1, .int a2] h res := by
  unfold f_X5_goes at hF
  refine MI_of (by decide +kernel) (Nat.le_of_ble_eq_true rfl) ?_
  intro p e s m args below meth c ls C hl
  have hK := hF
  clear hF
  have hl : lv_has ls 5 [(0, .ref (G.2.2.2.2 110)), (1, .int a1), (2, .int a2)] := hl
  have C : cx p s m args meth c G RX5 cX5_goes 5 (some .int) := C
  refine q_aload_n C dX5_goes_0 rfl (lv_at hl 0 rfl) ?_
  refine q_iload_n C dX5_goes_1 rfl (lv_at hl 1 rfl) ?_
  obtain ⟨r1, h2, hfr1, hK⟩ := bd_so hK
  refine q_callVi C s_X5_isCell w_ml_X5_198 (c_X5_isCell l G hfr1) kd_110 rfl (by decide) (ce_4 kd_110) (by decide) hl.1 rfl rfl (Nat.le_of_ble_eq_true rfl) dX5_goes_2 ?_
  refine q_if_ne C dX5_goes_5 (tgt := 10) (by decide) (fun hc => ?_) (fun hc => ?_)
  · replace hK := if_ne hc hK
    refine q_iload_n C dX5_goes_10 rfl (lv_at hl 2 rfl) ?_
    refine q_iconst C (v := 0) dX5_goes_11 (by decide) ?_
    refine q_iconst C (v := 1) dX5_goes_12 (by decide) ?_
    obtain ⟨r3, h4, hfr3, hK⟩ := bd_so hK
    refine q_callSi C s_X5_in w_ml_X5_72 (c_X5_in l G hfr3) (by decide) hl.1 rfl rfl (Nat.le_of_ble_eq_true rfl) dX5_goes_13 ?_
    refine q_if_ne C dX5_goes_16 (tgt := 22) (by decide) (fun hc => ?_) (fun hc => ?_)
    · replace hK := if_ne hc hK
      refine q_aload_n C dX5_goes_22 rfl (lv_at hl 0 rfl) ?_
      refine g_X5_now C kd_110 w_fl_X5_23 dX5_goes_23 ?_
      refine q_iconst C (v := 0) dX5_goes_26 (by decide) ?_
      refine q_iload_n C dX5_goes_27 rfl (lv_at hl 1 rfl) ?_
      refine q_iadd C dX5_goes_28 ?_
      obtain ⟨x5, hx5, hK⟩ := rd_so hK
      refine q_iald C kd_114 hx5 dX5_goes_29 ?_
      refine q_if_ne C dX5_goes_30 (tgt := 36) (by decide) (fun hc => ?_) (fun hc => ?_)
      · replace hK := if_ne hc hK
        refine q_aload_n C dX5_goes_36 rfl (lv_at hl 0 rfl) ?_
        refine g_X5_now C kd_110 w_fl_X5_23 dX5_goes_37 ?_
        refine q_aload_n C dX5_goes_40 rfl (lv_at hl 0 rfl) ?_
        refine g_X5_trial C kd_110 w_fl_X5_26 dX5_goes_41 ?_
        obtain ⟨r6, h7, hfr6, hK⟩ := bd_so hK
        refine q_callSv C s_X5_copy w_ml_X5_222 (c_X5_copy l G hfr6) (by decide) hl.1 rfl rfl (Nat.le_of_ble_eq_true rfl) dX5_goes_44 ?_
        refine q_aload_n C dX5_goes_47 rfl (lv_at hl 0 rfl) ?_
        refine q_iload_n C dX5_goes_48 rfl (lv_at hl 1 rfl) ?_
        obtain ⟨h8, hh8, hK⟩ := st_so hK
        refine p_X5_watched C kd_110 w_fl_X5_69 hh8 dX5_goes_49 ?_
        refine q_aload_n C dX5_goes_52 rfl (lv_at hl 0 rfl) ?_
        refine q_bipush C (v := -9) dX5_goes_53 (by decide) ?_
        obtain ⟨h9, hh9, hK⟩ := st_so hK
        refine p_X5_went C kd_110 w_fl_X5_146 hh9 dX5_goes_55 ?_
        refine q_iconst C (v := 0) dX5_goes_58 (by decide) ?_
        refine q_istore_n C dX5_goes_59 rfl hl (by decide) (lv2 := [(3, .int _), (0, .ref _), (1, .int _), (2, .int _)]) rfl (fun ls hl => ?_)
        exact t_X5_goes_b60 C 200 _ _ _ _ (lv_sub hl [1, 3, 0] rfl) hK
      · replace hK := if_po hc hK
        refine q_bipush C (v := -3) dX5_goes_33 (by decide) ?_
        cases hK
        exact q_iret C dX5_goes_35
    · replace hK := if_po hc hK
      refine q_bipush C (v := -2) dX5_goes_19 (by decide) ?_
      cases hK
      exact q_iret C dX5_goes_21
  · replace hK := if_po hc hK
    refine q_iconst C (v := -1) dX5_goes_8 (by decide) ?_
    cases hK
    exact q_iret C dX5_goes_9
theorem s_X5_goes : sv yX5_goes cX5_goes 5 (some .int) 2 := ⟨w_co_X5_goes, w_im_X5_goes, w_se_X5_goes, w_in_X5, by decide +kernel, by decide⟩
def f_X5_best_b74 (rec17 : Int32 → Int32 → Int32 → Int32 → PH → Option (Int32 × PH)) (v1 : Int32) (v3 : Int32) (v4 : Int32) (s0 : Int32) (h : PH) : Option (Int32 × PH) := rd h 115 (72 : Int32) (fun x9 => if x9 ≤ v3 then rec17 v1 s0 v3 (v4 + 1) h else rd h 115 (72 : Int32) (fun x10 => rec17 v1 s0 x10 (v4 + 1) h))
set_option maxHeartbeats 4000000 in
set_option maxRecDepth 100000 in
theorem t_X5_best_b74 {p : Program} {l : Launch} {e : Env} {s : State} {m : MethodId} {args : Array Value} {below : List Frame} {meth : Method} {c : Code} {G : GG} {res : Int32 × PH} (C : cx p s m args meth c G RX5 cX5_best 5 (some .int)) {rec17 : Int32 → Int32 → Int32 → Int32 → PH → Option (Int32 × PH)} (hrec17 : ∀ (v1 : Int32) (v2 : Int32) (v3 : Int32) (v4 : Int32) (h : PH) (ls : Array Slot), lv_has ls 5 [(0, .ref (G.2.2.2.2 110)), (1, .int v1), (2, .int v2), (3, .int v3), (4, .int v4)] → rec17 v1 v2 v3 v4 h = some res → WW p l e 4 s m args below meth c G h (MQ below (QI G res) args s 0 0 (Ar G)) (F0 m 17 ls [])) {v1 : Int32} {v3 : Int32} {v4 : Int32} {s0 : Int32} {h : PH} {ls : Array Slot} (hl : lv_has ls 5 [(0, .ref (G.2.2.2.2 110)), (1, .int v1), (3, .int v3), (4, .int v4)]) (hK : f_X5_best_b74 rec17 v1 v3 v4 s0 h = some res) : WW p l e 4 s m args below meth c G h (MQ below (QI G res) args s 0 0 (Ar G)) (F0 m 74 ls [.int s0]) := by
  unfold f_X5_best_b74 at hK
  refine q_istore_n C dX5_best_74 rfl hl (by decide) (lv2 := [(2, .int _), (0, .ref _), (1, .int _), (3, .int _), (4, .int _)]) rfl (fun ls hl => ?_)
  refine q_aload_n C dX5_best_75 rfl (lv_at hl 1 rfl) ?_
  refine g_X5_trial C kd_110 w_fl_X5_26 dX5_best_76 ?_
  refine q_bipush C (v := 72) dX5_best_79 (by decide) ?_
  obtain ⟨x9, hx9, hK⟩ := rd_so hK
  refine q_iald C kd_115 hx9 dX5_best_81 ?_
  refine q_iload_n C dX5_best_82 rfl (lv_at hl 3 rfl) ?_
  refine q_icmp_le C dX5_best_83 (tgt := 96) (by decide) (fun hc => ?_) (fun hc => ?_)
  · replace hK := if_po hc hK
    refine q_iload_n C dX5_best_96 rfl (lv_at hl 3 rfl) ?_
    refine q_istore_n C dX5_best_97 rfl hl (by decide) (lv2 := [(3, .int _), (2, .int _), (0, .ref _), (1, .int _), (4, .int _)]) rfl (fun ls hl => ?_)
    refine q_iinc C dX5_best_98 hl (j := 4) (v := (v4 + 1)) rfl rfl (by decide) (lv2 := [(4, .int _), (3, .int _), (2, .int _), (0, .ref _), (1, .int _)]) rfl (fun ls hl => ?_)
    refine q_goto C dX5_best_101 (tgt := 17) (by decide) ?_
    exact hrec17 _ _ _ _ _ _ (lv_sub hl [3, 4, 2, 1, 0] rfl) hK
  · replace hK := if_ne hc hK
    refine q_aload_n C dX5_best_86 rfl (lv_at hl 1 rfl) ?_
    refine g_X5_trial C kd_110 w_fl_X5_26 dX5_best_87 ?_
    refine q_bipush C (v := 72) dX5_best_90 (by decide) ?_
    obtain ⟨x10, hx10, hK⟩ := rd_so hK
    refine q_iald C kd_115 hx10 dX5_best_92 ?_
    refine q_goto C dX5_best_93 (tgt := 97) (by decide) ?_
    refine q_istore_n C dX5_best_97 rfl hl (by decide) (lv2 := [(3, .int _), (2, .int _), (0, .ref _), (1, .int _), (4, .int _)]) rfl (fun ls hl => ?_)
    refine q_iinc C dX5_best_98 hl (j := 4) (v := (v4 + 1)) rfl rfl (by decide) (lv2 := [(4, .int _), (3, .int _), (2, .int _), (0, .ref _), (1, .int _)]) rfl (fun ls hl => ?_)
    refine q_goto C dX5_best_101 (tgt := 17) (by decide) ?_
    exact hrec17 _ _ _ _ _ _ (lv_sub hl [3, 4, 2, 1, 0] rfl) hK
def f_X5_best_b17 : Nat → Int32 → Int32 → Int32 → Int32 → PH → Option (Int32 × PH)
  | 0, _, _, _, _, _ => none
  | n + 1, v1, v2, v3, v4, h => if (100 : Int32) ≤ v4 then some (v2, h) else bd (f_X5_copy 114 115 h) (fun _ h4 => wr h4 115 ((63 : Int32) + v1) v4 (fun h5 => bd (f_X5_goOn 115 (30 : Int32) h5) (fun r6 h7 => rd h7 115 (72 : Int32) (fun x8 => if x8 ≤ v3 then f_X5_best_b74 (f_X5_best_b17 n) v1 v3 v4 v2 h7 else f_X5_best_b74 (f_X5_best_b17 n) v1 v3 v4 v4 h7))))
set_option maxHeartbeats 4000000 in
set_option maxRecDepth 100000 in
theorem t_X5_best_b17 {p : Program} {l : Launch} {e : Env} {s : State} {m : MethodId} {args : Array Value} {below : List Frame} {meth : Method} {c : Code} {G : GG} {res : Int32 × PH} (C : cx p s m args meth c G RX5 cX5_best 5 (some .int)) (n : Nat) : ∀ (v1 : Int32) (v2 : Int32) (v3 : Int32) (v4 : Int32) (h : PH) (ls : Array Slot), lv_has ls 5 [(0, .ref (G.2.2.2.2 110)), (1, .int v1), (2, .int v2), (3, .int v3), (4, .int v4)] → f_X5_best_b17 n v1 v2 v3 v4 h = some res → WW p l e 4 s m args below meth c G h (MQ below (QI G res) args s 0 0 (Ar G)) (F0 m 17 ls []) := by
  induction n with
  | zero => intro v1 v2 v3 v4 h ls hl hK; cases hK
  | succ n ih =>
    intro v1 v2 v3 v4 h ls hl hK
    unfold f_X5_best_b17 at hK
    refine q_iload C dX5_best_17 (lv_at hl 4 rfl) ?_
    refine q_bipush C (v := 100) dX5_best_19 (by decide) ?_
    refine q_icmp_ge C dX5_best_21 (tgt := 104) (by decide) (fun hc => ?_) (fun hc => ?_)
    · replace hK := if_po hc hK
      refine q_iload_n C dX5_best_104 rfl (lv_at hl 2 rfl) ?_
      cases hK
      exact q_iret C dX5_best_105
    · replace hK := if_ne hc hK
      refine q_aload_n C dX5_best_24 rfl (lv_at hl 0 rfl) ?_
      refine g_X5_now C kd_110 w_fl_X5_23 dX5_best_25 ?_
      refine q_aload_n C dX5_best_28 rfl (lv_at hl 0 rfl) ?_
      refine g_X5_trial C kd_110 w_fl_X5_26 dX5_best_29 ?_
      obtain ⟨r3, h4, hfr3, hK⟩ := bd_so hK
      refine q_callSv C s_X5_copy w_ml_X5_222 (c_X5_copy l G hfr3) (by decide) hl.1 rfl rfl (Nat.le_of_ble_eq_true rfl) dX5_best_32 ?_
      refine q_aload_n C dX5_best_35 rfl (lv_at hl 0 rfl) ?_
      refine g_X5_trial C kd_110 w_fl_X5_26 dX5_best_36 ?_
      refine q_bipush C (v := 63) dX5_best_39 (by decide) ?_
      refine q_iload_n C dX5_best_41 rfl (lv_at hl 1 rfl) ?_
      refine q_iadd C dX5_best_42 ?_
      refine q_iload C dX5_best_43 (lv_at hl 4 rfl) ?_
      obtain ⟨h5, hh5, hK⟩ := wr_so hK
      refine q_iast C kd_115 hh5 dX5_best_45 ?_
      refine q_aload_n C dX5_best_46 rfl (lv_at hl 0 rfl) ?_
      refine q_aload_n C dX5_best_47 rfl (lv_at hl 0 rfl) ?_
      refine g_X5_trial C kd_110 w_fl_X5_26 dX5_best_48 ?_
      refine q_bipush C (v := 30) dX5_best_51 (by decide) ?_
      obtain ⟨r6, h7, hfr6, hK⟩ := bd_so hK
      refine q_callVi C s_X5_goOn w_ml_X5_210 (c_X5_goOn l G hfr6) kd_110 rfl (by decide) (ce_4 kd_110) (by decide) hl.1 rfl rfl (Nat.le_of_ble_eq_true rfl) dX5_best_53 ?_
      refine q_pop C dX5_best_56 rfl ?_
      refine q_aload_n C dX5_best_57 rfl (lv_at hl 0 rfl) ?_
      refine g_X5_trial C kd_110 w_fl_X5_26 dX5_best_58 ?_
      refine q_bipush C (v := 72) dX5_best_61 (by decide) ?_
      obtain ⟨x8, hx8, hK⟩ := rd_so hK
      refine q_iald C kd_115 hx8 dX5_best_63 ?_
      refine q_iload_n C dX5_best_64 rfl (lv_at hl 3 rfl) ?_
      refine q_icmp_le C dX5_best_65 (tgt := 73) (by decide) (fun hc => ?_) (fun hc => ?_)
      · replace hK := if_po hc hK
        refine q_iload_n C dX5_best_73 rfl (lv_at hl 2 rfl) ?_
        exact t_X5_best_b74 C ih (lv_sub hl [0, 1, 3, 4] rfl) hK
      · replace hK := if_ne hc hK
        refine q_iload C dX5_best_68 (lv_at hl 4 rfl) ?_
        refine q_goto C dX5_best_70 (tgt := 74) (by decide) ?_
        exact t_X5_best_b74 C ih (lv_sub hl [0, 1, 3, 4] rfl) hK
def f_X5_best (a1 : Int32) (h : PH) : Option (Int32 × PH) := bd (f_X5_isValve a1 h) (fun r1 h2 => if r1 = 0 then some ((-1 : Int32), h2) else f_X5_best_b17 200 a1 (0 : Int32) (-1 : Int32) (0 : Int32) h2)
set_option maxHeartbeats 4000000 in
set_option maxRecDepth 100000 in
theorem c_X5_best (l : Launch) (G : GG) {a1 : Int32} {h : PH} {res : Int32 × PH} (hF : f_X5_best a1 h = some res) : MI l G yX5_best cX5_best 5 .int 4 [.ref (G.2.2.2.2 110), .int a1] h res := by
  unfold f_X5_best at hF
  refine MI_of (by decide +kernel) (Nat.le_of_ble_eq_true rfl) ?_
  intro p e s m args below meth c ls C hl
  have hK := hF
  clear hF
  have hl : lv_has ls 5 [(0, .ref (G.2.2.2.2 110)), (1, .int a1)] := hl
  have C : cx p s m args meth c G RX5 cX5_best 5 (some .int) := C
  refine q_aload_n C dX5_best_0 rfl (lv_at hl 0 rfl) ?_
  refine q_iload_n C dX5_best_1 rfl (lv_at hl 1 rfl) ?_
  obtain ⟨r1, h2, hfr1, hK⟩ := bd_so hK
  refine q_callVi C s_X5_isValve w_ml_X5_201 (c_X5_isValve l G hfr1) kd_110 rfl (by decide) (ce_4 kd_110) (by decide) hl.1 rfl rfl (Nat.le_of_ble_eq_true rfl) dX5_best_2 ?_
  refine q_if_ne C dX5_best_5 (tgt := 10) (by decide) (fun hc => ?_) (fun hc => ?_)
  · replace hK := if_ne hc hK
    refine q_iconst C (v := 0) dX5_best_10 (by decide) ?_
    refine q_istore_n C dX5_best_11 rfl hl (by decide) (lv2 := [(2, .int _), (0, .ref _), (1, .int _)]) rfl (fun ls hl => ?_)
    refine q_iconst C (v := -1) dX5_best_12 (by decide) ?_
    refine q_istore_n C dX5_best_13 rfl hl (by decide) (lv2 := [(3, .int _), (2, .int _), (0, .ref _), (1, .int _)]) rfl (fun ls hl => ?_)
    refine q_iconst C (v := 0) dX5_best_14 (by decide) ?_
    refine q_istore C dX5_best_15 hl (by decide) (lv2 := [(4, .int _), (3, .int _), (2, .int _), (0, .ref _), (1, .int _)]) rfl (fun ls hl => ?_)
    exact t_X5_best_b17 C 200 _ _ _ _ _ _ (lv_sub hl [3, 4, 2, 1, 0] rfl) hK
  · replace hK := if_po hc hK
    refine q_iconst C (v := -1) dX5_best_8 (by decide) ?_
    cases hK
    exact q_iret C dX5_best_9
theorem s_X5_best : sv yX5_best cX5_best 5 (some .int) 1 := ⟨w_co_X5_best, w_im_X5_best, w_se_X5_best, w_in_X5, by decide +kernel, by decide⟩
def f_X5_outWith (a1 : Int32) (a2 : Int32) (h : PH) : Option (Int32 × PH) := bd (f_X5_copy 114 115 h) (fun _ h2 => rd h2 115 a1 (fun x3 => bd (f_X5_held (x3 + a2) h2) (fun r4 h5 => wr h5 115 a1 r4 (fun h6 => bd (f_X5_goOn 115 (40 : Int32) h6) (fun r7 h8 => rd h8 115 (72 : Int32) (fun x9 => some (x9, h8)))))))
set_option maxHeartbeats 4000000 in
set_option maxRecDepth 100000 in
theorem c_X5_outWith (l : Launch) (G : GG) {a1 : Int32} {a2 : Int32} {h : PH} {res : Int32 × PH} (hF : f_X5_outWith a1 a2 h = some res) : MI l G yX5_outWith cX5_outWith 3 .int 4 [.ref (G.2.2.2.2 110), .int a1, .int a2] h res := by
  unfold f_X5_outWith at hF
  refine MI_of (by decide +kernel) (Nat.le_of_ble_eq_true rfl) ?_
  intro p e s m args below meth c ls C hl
  have hK := hF
  clear hF
  have hl : lv_has ls 3 [(0, .ref (G.2.2.2.2 110)), (1, .int a1), (2, .int a2)] := hl
  have C : cx p s m args meth c G RX5 cX5_outWith 3 (some .int) := C
  refine q_aload_n C dX5_outWith_0 rfl (lv_at hl 0 rfl) ?_
  refine g_X5_now C kd_110 w_fl_X5_23 dX5_outWith_1 ?_
  refine q_aload_n C dX5_outWith_4 rfl (lv_at hl 0 rfl) ?_
  refine g_X5_trial C kd_110 w_fl_X5_26 dX5_outWith_5 ?_
  obtain ⟨r1, h2, hfr1, hK⟩ := bd_so hK
  refine q_callSv C s_X5_copy w_ml_X5_222 (c_X5_copy l G hfr1) (by decide) hl.1 rfl rfl (Nat.le_of_ble_eq_true rfl) dX5_outWith_8 ?_
  refine q_aload_n C dX5_outWith_11 rfl (lv_at hl 0 rfl) ?_
  refine g_X5_trial C kd_110 w_fl_X5_26 dX5_outWith_12 ?_
  refine q_iload_n C dX5_outWith_15 rfl (lv_at hl 1 rfl) ?_
  refine q_aload_n C dX5_outWith_16 rfl (lv_at hl 0 rfl) ?_
  refine g_X5_trial C kd_110 w_fl_X5_26 dX5_outWith_17 ?_
  refine q_iload_n C dX5_outWith_20 rfl (lv_at hl 1 rfl) ?_
  obtain ⟨x3, hx3, hK⟩ := rd_so hK
  refine q_iald C kd_115 hx3 dX5_outWith_21 ?_
  refine q_iload_n C dX5_outWith_22 rfl (lv_at hl 2 rfl) ?_
  refine q_iadd C dX5_outWith_23 ?_
  obtain ⟨r4, h5, hfr4, hK⟩ := bd_so hK
  refine q_callSi C s_X5_held w_ml_X5_160 (c_X5_held l G hfr4) (by decide) hl.1 rfl rfl (Nat.le_of_ble_eq_true rfl) dX5_outWith_24 ?_
  obtain ⟨h6, hh6, hK⟩ := wr_so hK
  refine q_iast C kd_115 hh6 dX5_outWith_27 ?_
  refine q_aload_n C dX5_outWith_28 rfl (lv_at hl 0 rfl) ?_
  refine q_aload_n C dX5_outWith_29 rfl (lv_at hl 0 rfl) ?_
  refine g_X5_trial C kd_110 w_fl_X5_26 dX5_outWith_30 ?_
  refine q_bipush C (v := 40) dX5_outWith_33 (by decide) ?_
  obtain ⟨r7, h8, hfr7, hK⟩ := bd_so hK
  refine q_callVi C s_X5_goOn w_ml_X5_210 (c_X5_goOn l G hfr7) kd_110 rfl (by decide) (ce_4 kd_110) (by decide) hl.1 rfl rfl (Nat.le_of_ble_eq_true rfl) dX5_outWith_35 ?_
  refine q_pop C dX5_outWith_38 rfl ?_
  refine q_aload_n C dX5_outWith_39 rfl (lv_at hl 0 rfl) ?_
  refine g_X5_trial C kd_110 w_fl_X5_26 dX5_outWith_40 ?_
  refine q_bipush C (v := 72) dX5_outWith_43 (by decide) ?_
  obtain ⟨x9, hx9, hK⟩ := rd_so hK
  refine q_iald C kd_115 hx9 dX5_outWith_45 ?_
  cases hK
  exact q_iret C dX5_outWith_46
theorem s_X5_outWith : sv yX5_outWith cX5_outWith 3 (some .int) 2 := ⟨w_co_X5_outWith, w_im_X5_outWith, w_se_X5_outWith, w_in_X5, by decide +kernel, by decide⟩
def f_X5_needs_b23 : Nat → Int32 → Int32 → Int32 → PH → Option (Int32 × PH)
  | 0, _, _, _, _ => none
  | n + 1, v2, v3, v4, h => bd (f_X5_outWith v2 v4 h) (fun r3 h4 => if r3 = v3 then some (v4, h4) else (f_X5_needs_b23 n) v2 v3 (v4 + 1) h4)
set_option maxHeartbeats 4000000 in
set_option maxRecDepth 100000 in
theorem t_X5_needs_b23 {p : Program} {l : Launch} {e : Env} {s : State} {m : MethodId} {args : Array Value} {below : List Frame} {meth : Method} {c : Code} {G : GG} {res : Int32 × PH} (C : cx p s m args meth c G RX5 cX5_needs 5 (some .int)) (n : Nat) : ∀ (v2 : Int32) (v3 : Int32) (v4 : Int32) (h : PH) (ls : Array Slot), lv_has ls 5 [(0, .ref (G.2.2.2.2 110)), (2, .int v2), (3, .int v3), (4, .int v4)] → f_X5_needs_b23 n v2 v3 v4 h = some res → WW p l e 5 s m args below meth c G h (MQ below (QI G res) args s 0 0 (Ar G)) (F0 m 23 ls []) := by
  induction n with
  | zero => intro v2 v3 v4 h ls hl hK; cases hK
  | succ n ih =>
    intro v2 v3 v4 h ls hl hK
    unfold f_X5_needs_b23 at hK
    refine q_aload_n C dX5_needs_23 rfl (lv_at hl 0 rfl) ?_
    refine q_iload_n C dX5_needs_24 rfl (lv_at hl 1 rfl) ?_
    refine q_iload C dX5_needs_25 (lv_at hl 3 rfl) ?_
    obtain ⟨r3, h4, hfr3, hK⟩ := bd_so hK
    refine q_callVi C s_X5_outWith w_ml_X5_226 (c_X5_outWith l G hfr3) kd_110 rfl (by decide) (ce_4 kd_110) (by decide) hl.1 rfl rfl (Nat.le_of_ble_eq_true rfl) dX5_needs_27 ?_
    refine q_iload_n C dX5_needs_30 rfl (lv_at hl 2 rfl) ?_
    refine q_icmp_eq C dX5_needs_31 (tgt := 40) (by decide) (fun hc => ?_) (fun hc => ?_)
    · replace hK := if_po hc hK
      refine q_iload C dX5_needs_40 (lv_at hl 3 rfl) ?_
      cases hK
      exact q_iret C dX5_needs_42
    · replace hK := if_ne hc hK
      refine q_iinc C dX5_needs_34 hl (j := 3) (v := (v4 + 1)) rfl rfl (by decide) (lv2 := [(4, .int _), (0, .ref _), (2, .int _), (3, .int _)]) rfl (fun ls hl => ?_)
      refine q_goto C dX5_needs_37 (tgt := 23) (by decide) ?_
      exact ih _ _ _ _ _ (lv_sub hl [1, 2, 3, 0] rfl) hK
def f_X5_needs_b11 (s0 : Int32) (h : PH) : Option (Int32 × PH) := bd (f_X5_outWith s0 (40 : Int32) h) (fun r1 h2 => f_X5_needs_b23 200 s0 r1 (0 : Int32) h2)
set_option maxHeartbeats 4000000 in
set_option maxRecDepth 100000 in
theorem t_X5_needs_b11 {p : Program} {l : Launch} {e : Env} {s : State} {m : MethodId} {args : Array Value} {below : List Frame} {meth : Method} {c : Code} {G : GG} {res : Int32 × PH} (C : cx p s m args meth c G RX5 cX5_needs 5 (some .int)) {s0 : Int32} {h : PH} {ls : Array Slot} (hl : lv_has ls 5 [(0, .ref (G.2.2.2.2 110))]) (hK : f_X5_needs_b11 s0 h = some res) : WW p l e 5 s m args below meth c G h (MQ below (QI G res) args s 0 0 (Ar G)) (F0 m 11 ls [.int s0]) := by
  unfold f_X5_needs_b11 at hK
  refine q_istore_n C dX5_needs_11 rfl hl (by decide) (lv2 := [(2, .int _), (0, .ref _)]) rfl (fun ls hl => ?_)
  refine q_aload_n C dX5_needs_12 rfl (lv_at hl 1 rfl) ?_
  refine q_iload_n C dX5_needs_13 rfl (lv_at hl 0 rfl) ?_
  refine q_bipush C (v := 40) dX5_needs_14 (by decide) ?_
  obtain ⟨r1, h2, hfr1, hK⟩ := bd_so hK
  refine q_callVi C s_X5_outWith w_ml_X5_226 (c_X5_outWith l G hfr1) kd_110 rfl (by decide) (ce_4 kd_110) (by decide) hl.1 rfl rfl (Nat.le_of_ble_eq_true rfl) dX5_needs_16 ?_
  refine q_istore_n C dX5_needs_19 rfl hl (by decide) (lv2 := [(3, .int _), (2, .int _), (0, .ref _)]) rfl (fun ls hl => ?_)
  refine q_iconst C (v := 0) dX5_needs_20 (by decide) ?_
  refine q_istore C dX5_needs_21 hl (by decide) (lv2 := [(4, .int _), (3, .int _), (2, .int _), (0, .ref _)]) rfl (fun ls hl => ?_)
  exact t_X5_needs_b23 C 200 _ _ _ _ _ (lv_sub hl [3, 2, 1, 0] rfl) hK
def f_X5_needs (a1 : Int32) (h : PH) : Option (Int32 × PH) := if a1 = 0 then f_X5_needs_b11 (67 : Int32) h else f_X5_needs_b11 (68 : Int32) h
set_option maxHeartbeats 4000000 in
set_option maxRecDepth 100000 in
theorem c_X5_needs (l : Launch) (G : GG) {a1 : Int32} {h : PH} {res : Int32 × PH} (hF : f_X5_needs a1 h = some res) : MI l G yX5_needs cX5_needs 5 .int 5 [.ref (G.2.2.2.2 110), .int a1] h res := by
  unfold f_X5_needs at hF
  refine MI_of (by decide +kernel) (Nat.le_of_ble_eq_true rfl) ?_
  intro p e s m args below meth c ls C hl
  have hK := hF
  clear hF
  have hl : lv_has ls 5 [(0, .ref (G.2.2.2.2 110)), (1, .int a1)] := hl
  have C : cx p s m args meth c G RX5 cX5_needs 5 (some .int) := C
  refine q_iload_n C dX5_needs_0 rfl (lv_at hl 1 rfl) ?_
  refine q_if_eq C dX5_needs_1 (tgt := 9) (by decide) (fun hc => ?_) (fun hc => ?_)
  · replace hK := if_po hc hK
    refine q_bipush C (v := 67) dX5_needs_9 (by decide) ?_
    exact t_X5_needs_b11 C (lv_sub hl [0] rfl) hK
  · replace hK := if_ne hc hK
    refine q_bipush C (v := 68) dX5_needs_4 (by decide) ?_
    refine q_goto C dX5_needs_6 (tgt := 11) (by decide) ?_
    exact t_X5_needs_b11 C (lv_sub hl [0] rfl) hK
theorem s_X5_needs : sv yX5_needs cX5_needs 5 (some .int) 1 := ⟨w_co_X5_needs, w_im_X5_needs, w_se_X5_needs, w_in_X5, by decide +kernel, by decide⟩
def f_X5_judged_b319 (s0 : Int32) (s1 : Int32) (h : PH) : Option (Int32 × PH) := if s1 = s0 then some ((1 : Int32), h) else some ((0 : Int32), h)
set_option maxHeartbeats 4000000 in
set_option maxRecDepth 100000 in
theorem t_X5_judged_b319 {p : Program} {l : Launch} {e : Env} {s : State} {m : MethodId} {args : Array Value} {below : List Frame} {meth : Method} {c : Code} {G : GG} {res : Int32 × PH} (C : cx p s m args meth c G RX5 cX5_judged 6 (some .boolean)) {s0 : Int32} {s1 : Int32} {h : PH} {ls : Array Slot} (hl : lv_has ls 6 []) (hK : f_X5_judged_b319 s0 s1 h = some res) : WW p l e 4 s m args below meth c G h (MQ below (QI G res) args s 0 0 (Ar G)) (F0 m 319 ls [.int s0, .int s1]) := by
  unfold f_X5_judged_b319 at hK
  refine q_icmp_ne C dX5_judged_319 (tgt := 326) (by decide) (fun hc => ?_) (fun hc => ?_)
  · replace hK := if_ne hc hK
    refine q_iconst C (v := 0) dX5_judged_326 (by decide) ?_
    cases hK
    exact q_zret C (Or.inl rfl) dX5_judged_327
  · replace hK := if_po hc hK
    refine q_iconst C (v := 1) dX5_judged_322 (by decide) ?_
    refine q_goto C dX5_judged_323 (tgt := 327) (by decide) ?_
    cases hK
    exact q_zret C (Or.inr rfl) dX5_judged_327
def f_X5_judged_b13 (v1 : Int32) (v2 : Int32) (v3 : Int32) (s0 : Int32) (h : PH) : Option (Int32 × PH) := if v1 = 1 then if (((10 : Int32) * v2) + v3) ≤ 0 then some ((0 : Int32), h) else bd (f_X5_goOn 115 (((10 : Int32) * v2) + v3) h) (fun r1 h2 => if r1 = (((10 : Int32) * v2) + v3) then some ((1 : Int32), h2) else some ((0 : Int32), h2)) else if v1 = 2 then if s0 = 0 then bz s0 (some (s0, h)) else bd (f_X5_slipOn 115 h) (fun _ h4 => bz s0 (some (s0, h4))) else if v1 = 3 then if s0 = 0 then rd h 115 (69 : Int32) (fun x5 => wr h 115 (69 : Int32) x5 (fun h6 => bz s0 (some (s0, h6)))) else rd h 115 (69 : Int32) (fun x7 => wr h 115 (69 : Int32) ((1 : Int32) - x7) (fun h8 => bz s0 (some (s0, h8)))) else if v1 = 4 then if s0 = 0 then some ((0 : Int32), h) else rd h 115 (70 : Int32) (fun x9 => if x9 = 0 then some ((0 : Int32), h) else bd (f_X5_clearOn 115 h) (fun r10 h11 => some ((1 : Int32), h11))) else if v1 = 5 then if s0 = 0 then bz s0 (some (s0, h)) else bd (f_X5_restartOn 115 h) (fun _ h13 => bz s0 (some (s0, h13))) else if v1 = 6 then bd (f_X5_isValve v2 h) (fun r14 h15 => if r14 = 0 then some ((0 : Int32), h15) else if v3 = 0 then rd h15 115 (71 : Int32) (fun x16 => nz (h15.1 110 7) (if (irm x16 (h15.1 110 7)) = v2 then some ((1 : Int32), h15) else some ((0 : Int32), h15))) else some ((0 : Int32), h15)) else if v1 = 7 then rd h 115 (72 : Int32) (fun x18 => if x18 = (((10 : Int32) * v2) + v3) then some ((1 : Int32), h) else some ((0 : Int32), h)) else if v1 = 8 then bd (f_X5_isCell v2 h) (fun r19 h20 => if r19 = 0 then some ((0 : Int32), h20) else rd h20 115 ((54 : Int32) + v2) (fun x21 => if x21 = v3 then some ((1 : Int32), h20) else some ((0 : Int32), h20))) else if v1 = 9 then bd (f_X5_isCell v2 h) (fun r22 h23 => if r22 = 0 then some ((0 : Int32), h23) else if (2 : Int32) ≤ v3 then some ((0 : Int32), h23) else rd h23 115 ((0 : Int32) + v2) (fun x24 => if x24 = (1 : Int32) then bd (f_X5_isGood 115 v2 h23) (fun r25 h26 => if v3 = (1 : Int32) then f_X5_judged_b319 (1 : Int32) r25 h26 else f_X5_judged_b319 (0 : Int32) r25 h26) else some ((0 : Int32), h23))) else some ((0 : Int32), h)
set_option maxHeartbeats 4000000 in
set_option maxRecDepth 100000 in
theorem t_X5_judged_b13 {p : Program} {l : Launch} {e : Env} {s : State} {m : MethodId} {args : Array Value} {below : List Frame} {meth : Method} {c : Code} {G : GG} {res : Int32 × PH} (C : cx p s m args meth c G RX5 cX5_judged 6 (some .boolean)) {v1 : Int32} {v2 : Int32} {v3 : Int32} {s0 : Int32} {h : PH} {ls : Array Slot} (hl : lv_has ls 6 [(0, .ref (G.2.2.2.2 110)), (1, .int v1), (2, .int v2), (3, .int v3)]) (hK : f_X5_judged_b13 v1 v2 v3 s0 h = some res) : WW p l e 4 s m args below meth c G h (MQ below (QI G res) args s 0 0 (Ar G)) (F0 m 13 ls [.int s0]) := by
  unfold f_X5_judged_b13 at hK
  refine q_istore C dX5_judged_13 hl (by decide) (lv2 := [(4, .int _), (0, .ref _), (1, .int _), (2, .int _), (3, .int _)]) rfl (fun ls hl => ?_)
  refine q_bipush C (v := 10) dX5_judged_15 (by decide) ?_
  refine q_iload_n C dX5_judged_17 rfl (lv_at hl 3 rfl) ?_
  refine q_imul C dX5_judged_18 ?_
  refine q_iload_n C dX5_judged_19 rfl (lv_at hl 4 rfl) ?_
  refine q_iadd C dX5_judged_20 ?_
  refine q_istore C dX5_judged_21 hl (by decide) (lv2 := [(5, .int _), (4, .int _), (0, .ref _), (1, .int _), (2, .int _), (3, .int _)]) rfl (fun ls hl => ?_)
  refine q_iload_n C dX5_judged_23 rfl (lv_at hl 3 rfl) ?_
  by_cases hc0 : v1 = 1
  · replace hK := if_po hc0 hK
    refine q_tsIn C 1 hc0 dX5_judged_24 (off := 52) (by decide) (tgt := 76) (by decide) ?_
    refine q_iload C dX5_judged_76 (lv_at hl 0 rfl) ?_
    refine q_if_le C dX5_judged_78 (tgt := 100) (by decide) (fun hc => ?_) (fun hc => ?_)
    · replace hK := if_po hc hK
      refine q_iconst C (v := 0) dX5_judged_100 (by decide) ?_
      cases hK
      exact q_zret C (Or.inl rfl) dX5_judged_101
    · replace hK := if_ne hc hK
      refine q_aload_n C dX5_judged_81 rfl (lv_at hl 2 rfl) ?_
      refine q_aload_n C dX5_judged_82 rfl (lv_at hl 2 rfl) ?_
      refine g_X5_trial C kd_110 w_fl_X5_26 dX5_judged_83 ?_
      refine q_iload C dX5_judged_86 (lv_at hl 0 rfl) ?_
      obtain ⟨r1, h2, hfr1, hK⟩ := bd_so hK
      refine q_callVi C s_X5_goOn w_ml_X5_210 (c_X5_goOn l G hfr1) kd_110 rfl (by decide) (ce_4 kd_110) (by decide) hl.1 rfl rfl (Nat.le_of_ble_eq_true rfl) dX5_judged_88 ?_
      refine q_iload C dX5_judged_91 (lv_at hl 0 rfl) ?_
      refine q_icmp_ne C dX5_judged_93 (tgt := 100) (by decide) (fun hc => ?_) (fun hc => ?_)
      · replace hK := if_ne hc hK
        refine q_iconst C (v := 0) dX5_judged_100 (by decide) ?_
        cases hK
        exact q_zret C (Or.inl rfl) dX5_judged_101
      · replace hK := if_po hc hK
        refine q_iconst C (v := 1) dX5_judged_96 (by decide) ?_
        refine q_goto C dX5_judged_97 (tgt := 101) (by decide) ?_
        cases hK
        exact q_zret C (Or.inr rfl) dX5_judged_101
  · replace hK := if_ne hc0 hK
    by_cases hc1 : v1 = 2
    · replace hK := if_po hc1 hK
      refine q_tsIn C 2 hc1 dX5_judged_24 (off := 78) (by decide) (tgt := 102) (by decide) ?_
      refine q_iload C dX5_judged_102 (lv_at hl 1 rfl) ?_
      refine q_if_eq C dX5_judged_104 (tgt := 115) (by decide) (fun hc => ?_) (fun hc => ?_)
      · replace hK := if_po hc hK
        refine q_iload C dX5_judged_115 (lv_at hl 1 rfl) ?_
        obtain ⟨hz, hK⟩ := bz_so hK
        cases hK
        exact q_zret C hz dX5_judged_117
      · replace hK := if_ne hc hK
        refine q_aload_n C dX5_judged_107 rfl (lv_at hl 2 rfl) ?_
        refine q_aload_n C dX5_judged_108 rfl (lv_at hl 2 rfl) ?_
        refine g_X5_trial C kd_110 w_fl_X5_26 dX5_judged_109 ?_
        obtain ⟨r3, h4, hfr3, hK⟩ := bd_so hK
        refine q_callVv C s_X5_slipOn w_ml_X5_153 (c_X5_slipOn l G hfr3) kd_110 rfl (by decide) (ce_4 kd_110) (by decide) hl.1 rfl rfl (Nat.le_of_ble_eq_true rfl) dX5_judged_112 ?_
        refine q_iload C dX5_judged_115 (lv_at hl 1 rfl) ?_
        obtain ⟨hz, hK⟩ := bz_so hK
        cases hK
        exact q_zret C hz dX5_judged_117
    · replace hK := if_ne hc1 hK
      by_cases hc2 : v1 = 3
      · replace hK := if_po hc2 hK
        refine q_tsIn C 3 hc2 dX5_judged_24 (off := 94) (by decide) (tgt := 118) (by decide) ?_
        refine q_aload_n C dX5_judged_118 rfl (lv_at hl 2 rfl) ?_
        refine g_X5_trial C kd_110 w_fl_X5_26 dX5_judged_119 ?_
        refine q_bipush C (v := 69) dX5_judged_122 (by decide) ?_
        refine q_iload C dX5_judged_124 (lv_at hl 1 rfl) ?_
        refine q_if_eq C dX5_judged_126 (tgt := 141) (by decide) (fun hc => ?_) (fun hc => ?_)
        · replace hK := if_po hc hK
          refine q_aload_n C dX5_judged_141 rfl (lv_at hl 2 rfl) ?_
          refine g_X5_trial C kd_110 w_fl_X5_26 dX5_judged_142 ?_
          refine q_bipush C (v := 69) dX5_judged_145 (by decide) ?_
          obtain ⟨x5, hx5, hK⟩ := rd_so hK
          refine q_iald C kd_115 hx5 dX5_judged_147 ?_
          obtain ⟨h6, hh6, hK⟩ := wr_so hK
          refine q_iast C kd_115 hh6 dX5_judged_148 ?_
          refine q_iload C dX5_judged_149 (lv_at hl 1 rfl) ?_
          obtain ⟨hz, hK⟩ := bz_so hK
          cases hK
          exact q_zret C hz dX5_judged_151
        · replace hK := if_ne hc hK
          refine q_iconst C (v := 1) dX5_judged_129 (by decide) ?_
          refine q_aload_n C dX5_judged_130 rfl (lv_at hl 2 rfl) ?_
          refine g_X5_trial C kd_110 w_fl_X5_26 dX5_judged_131 ?_
          refine q_bipush C (v := 69) dX5_judged_134 (by decide) ?_
          obtain ⟨x7, hx7, hK⟩ := rd_so hK
          refine q_iald C kd_115 hx7 dX5_judged_136 ?_
          refine q_isub C dX5_judged_137 ?_
          refine q_goto C dX5_judged_138 (tgt := 148) (by decide) ?_
          obtain ⟨h8, hh8, hK⟩ := wr_so hK
          refine q_iast C kd_115 hh8 dX5_judged_148 ?_
          refine q_iload C dX5_judged_149 (lv_at hl 1 rfl) ?_
          obtain ⟨hz, hK⟩ := bz_so hK
          cases hK
          exact q_zret C hz dX5_judged_151
      · replace hK := if_ne hc2 hK
        by_cases hc3 : v1 = 4
        · replace hK := if_po hc3 hK
          refine q_tsIn C 4 hc3 dX5_judged_24 (off := 128) (by decide) (tgt := 152) (by decide) ?_
          refine q_iload C dX5_judged_152 (lv_at hl 1 rfl) ?_
          refine q_if_eq C dX5_judged_154 (tgt := 167) (by decide) (fun hc => ?_) (fun hc => ?_)
          · replace hK := if_po hc hK
            refine q_iconst C (v := 0) dX5_judged_167 (by decide) ?_
            cases hK
            exact q_zret C (Or.inl rfl) dX5_judged_168
          · replace hK := if_ne hc hK
            refine q_aload_n C dX5_judged_157 rfl (lv_at hl 2 rfl) ?_
            refine g_X5_trial C kd_110 w_fl_X5_26 dX5_judged_158 ?_
            refine q_bipush C (v := 70) dX5_judged_161 (by decide) ?_
            obtain ⟨x9, hx9, hK⟩ := rd_so hK
            refine q_iald C kd_115 hx9 dX5_judged_163 ?_
            refine q_if_ne C dX5_judged_164 (tgt := 169) (by decide) (fun hc => ?_) (fun hc => ?_)
            · replace hK := if_ne hc hK
              refine q_aload_n C dX5_judged_169 rfl (lv_at hl 2 rfl) ?_
              refine q_aload_n C dX5_judged_170 rfl (lv_at hl 2 rfl) ?_
              refine g_X5_trial C kd_110 w_fl_X5_26 dX5_judged_171 ?_
              obtain ⟨r10, h11, hfr10, hK⟩ := bd_so hK
              refine q_callVi C s_X5_clearOn w_ml_X5_216 (c_X5_clearOn l G hfr10) kd_110 rfl (by decide) (ce_4 kd_110) (by decide) hl.1 rfl rfl (Nat.le_of_ble_eq_true rfl) dX5_judged_174 ?_
              refine q_pop C dX5_judged_177 rfl ?_
              refine q_iconst C (v := 1) dX5_judged_178 (by decide) ?_
              cases hK
              exact q_zret C (Or.inr rfl) dX5_judged_179
            · replace hK := if_po hc hK
              refine q_iconst C (v := 0) dX5_judged_167 (by decide) ?_
              cases hK
              exact q_zret C (Or.inl rfl) dX5_judged_168
        · replace hK := if_ne hc3 hK
          by_cases hc4 : v1 = 5
          · replace hK := if_po hc4 hK
            refine q_tsIn C 5 hc4 dX5_judged_24 (off := 156) (by decide) (tgt := 180) (by decide) ?_
            refine q_iload C dX5_judged_180 (lv_at hl 1 rfl) ?_
            refine q_if_eq C dX5_judged_182 (tgt := 193) (by decide) (fun hc => ?_) (fun hc => ?_)
            · replace hK := if_po hc hK
              refine q_iload C dX5_judged_193 (lv_at hl 1 rfl) ?_
              obtain ⟨hz, hK⟩ := bz_so hK
              cases hK
              exact q_zret C hz dX5_judged_195
            · replace hK := if_ne hc hK
              refine q_aload_n C dX5_judged_185 rfl (lv_at hl 2 rfl) ?_
              refine q_aload_n C dX5_judged_186 rfl (lv_at hl 2 rfl) ?_
              refine g_X5_trial C kd_110 w_fl_X5_26 dX5_judged_187 ?_
              obtain ⟨r12, h13, hfr12, hK⟩ := bd_so hK
              refine q_callVv C s_X5_restartOn w_ml_X5_219 (c_X5_restartOn l G hfr12) kd_110 rfl (by decide) (ce_4 kd_110) (by decide) hl.1 rfl rfl (Nat.le_of_ble_eq_true rfl) dX5_judged_190 ?_
              refine q_iload C dX5_judged_193 (lv_at hl 1 rfl) ?_
              obtain ⟨hz, hK⟩ := bz_so hK
              cases hK
              exact q_zret C hz dX5_judged_195
          · replace hK := if_ne hc4 hK
            by_cases hc5 : v1 = 6
            · replace hK := if_po hc5 hK
              refine q_tsIn C 6 hc5 dX5_judged_24 (off := 172) (by decide) (tgt := 196) (by decide) ?_
              refine q_aload_n C dX5_judged_196 rfl (lv_at hl 2 rfl) ?_
              refine q_iload_n C dX5_judged_197 rfl (lv_at hl 4 rfl) ?_
              obtain ⟨r14, h15, hfr14, hK⟩ := bd_so hK
              refine q_callVi C s_X5_isValve w_ml_X5_201 (c_X5_isValve l G hfr14) kd_110 rfl (by decide) (ce_4 kd_110) (by decide) hl.1 rfl rfl (Nat.le_of_ble_eq_true rfl) dX5_judged_198 ?_
              refine q_if_eq C dX5_judged_201 (tgt := 228) (by decide) (fun hc => ?_) (fun hc => ?_)
              · replace hK := if_po hc hK
                refine q_iconst C (v := 0) dX5_judged_228 (by decide) ?_
                cases hK
                exact q_zret C (Or.inl rfl) dX5_judged_229
              · replace hK := if_ne hc hK
                refine q_iload_n C dX5_judged_204 rfl (lv_at hl 5 rfl) ?_
                refine q_if_ne C dX5_judged_205 (tgt := 228) (by decide) (fun hc => ?_) (fun hc => ?_)
                · replace hK := if_ne hc hK
                  refine q_iconst C (v := 0) dX5_judged_228 (by decide) ?_
                  cases hK
                  exact q_zret C (Or.inl rfl) dX5_judged_229
                · replace hK := if_po hc hK
                  refine q_aload_n C dX5_judged_208 rfl (lv_at hl 2 rfl) ?_
                  refine g_X5_trial C kd_110 w_fl_X5_26 dX5_judged_209 ?_
                  refine q_bipush C (v := 71) dX5_judged_212 (by decide) ?_
                  obtain ⟨x16, hx16, hK⟩ := rd_so hK
                  refine q_iald C kd_115 hx16 dX5_judged_214 ?_
                  refine q_aload_n C dX5_judged_215 rfl (lv_at hl 2 rfl) ?_
                  refine g_X5_valves C kd_110 w_fl_X5_76 dX5_judged_216 ?_
                  obtain ⟨hn17, hK⟩ := nz_so hK
                  refine q_irem C dX5_judged_219 hn17 ?_
                  refine q_iload_n C dX5_judged_220 rfl (lv_at hl 4 rfl) ?_
                  refine q_icmp_ne C dX5_judged_221 (tgt := 228) (by decide) (fun hc => ?_) (fun hc => ?_)
                  · replace hK := if_ne hc hK
                    refine q_iconst C (v := 0) dX5_judged_228 (by decide) ?_
                    cases hK
                    exact q_zret C (Or.inl rfl) dX5_judged_229
                  · replace hK := if_po hc hK
                    refine q_iconst C (v := 1) dX5_judged_224 (by decide) ?_
                    refine q_goto C dX5_judged_225 (tgt := 229) (by decide) ?_
                    cases hK
                    exact q_zret C (Or.inr rfl) dX5_judged_229
            · replace hK := if_ne hc5 hK
              by_cases hc6 : v1 = 7
              · replace hK := if_po hc6 hK
                refine q_tsIn C 7 hc6 dX5_judged_24 (off := 206) (by decide) (tgt := 230) (by decide) ?_
                refine q_aload_n C dX5_judged_230 rfl (lv_at hl 2 rfl) ?_
                refine g_X5_trial C kd_110 w_fl_X5_26 dX5_judged_231 ?_
                refine q_bipush C (v := 72) dX5_judged_234 (by decide) ?_
                obtain ⟨x18, hx18, hK⟩ := rd_so hK
                refine q_iald C kd_115 hx18 dX5_judged_236 ?_
                refine q_iload C dX5_judged_237 (lv_at hl 0 rfl) ?_
                refine q_icmp_ne C dX5_judged_239 (tgt := 246) (by decide) (fun hc => ?_) (fun hc => ?_)
                · replace hK := if_ne hc hK
                  refine q_iconst C (v := 0) dX5_judged_246 (by decide) ?_
                  cases hK
                  exact q_zret C (Or.inl rfl) dX5_judged_247
                · replace hK := if_po hc hK
                  refine q_iconst C (v := 1) dX5_judged_242 (by decide) ?_
                  refine q_goto C dX5_judged_243 (tgt := 247) (by decide) ?_
                  cases hK
                  exact q_zret C (Or.inr rfl) dX5_judged_247
              · replace hK := if_ne hc6 hK
                by_cases hc7 : v1 = 8
                · replace hK := if_po hc7 hK
                  refine q_tsIn C 8 hc7 dX5_judged_24 (off := 224) (by decide) (tgt := 248) (by decide) ?_
                  refine q_aload_n C dX5_judged_248 rfl (lv_at hl 2 rfl) ?_
                  refine q_iload_n C dX5_judged_249 rfl (lv_at hl 4 rfl) ?_
                  obtain ⟨r19, h20, hfr19, hK⟩ := bd_so hK
                  refine q_callVi C s_X5_isCell w_ml_X5_198 (c_X5_isCell l G hfr19) kd_110 rfl (by decide) (ce_4 kd_110) (by decide) hl.1 rfl rfl (Nat.le_of_ble_eq_true rfl) dX5_judged_250 ?_
                  refine q_if_eq C dX5_judged_253 (tgt := 273) (by decide) (fun hc => ?_) (fun hc => ?_)
                  · replace hK := if_po hc hK
                    refine q_iconst C (v := 0) dX5_judged_273 (by decide) ?_
                    cases hK
                    exact q_zret C (Or.inl rfl) dX5_judged_274
                  · replace hK := if_ne hc hK
                    refine q_aload_n C dX5_judged_256 rfl (lv_at hl 2 rfl) ?_
                    refine g_X5_trial C kd_110 w_fl_X5_26 dX5_judged_257 ?_
                    refine q_bipush C (v := 54) dX5_judged_260 (by decide) ?_
                    refine q_iload_n C dX5_judged_262 rfl (lv_at hl 4 rfl) ?_
                    refine q_iadd C dX5_judged_263 ?_
                    obtain ⟨x21, hx21, hK⟩ := rd_so hK
                    refine q_iald C kd_115 hx21 dX5_judged_264 ?_
                    refine q_iload_n C dX5_judged_265 rfl (lv_at hl 5 rfl) ?_
                    refine q_icmp_ne C dX5_judged_266 (tgt := 273) (by decide) (fun hc => ?_) (fun hc => ?_)
                    · replace hK := if_ne hc hK
                      refine q_iconst C (v := 0) dX5_judged_273 (by decide) ?_
                      cases hK
                      exact q_zret C (Or.inl rfl) dX5_judged_274
                    · replace hK := if_po hc hK
                      refine q_iconst C (v := 1) dX5_judged_269 (by decide) ?_
                      refine q_goto C dX5_judged_270 (tgt := 274) (by decide) ?_
                      cases hK
                      exact q_zret C (Or.inr rfl) dX5_judged_274
                · replace hK := if_ne hc7 hK
                  by_cases hc8 : v1 = 9
                  · replace hK := if_po hc8 hK
                    refine q_tsIn C 9 hc8 dX5_judged_24 (off := 251) (by decide) (tgt := 275) (by decide) ?_
                    refine q_aload_n C dX5_judged_275 rfl (lv_at hl 2 rfl) ?_
                    refine q_iload_n C dX5_judged_276 rfl (lv_at hl 4 rfl) ?_
                    obtain ⟨r22, h23, hfr22, hK⟩ := bd_so hK
                    refine q_callVi C s_X5_isCell w_ml_X5_198 (c_X5_isCell l G hfr22) kd_110 rfl (by decide) (ce_4 kd_110) (by decide) hl.1 rfl rfl (Nat.le_of_ble_eq_true rfl) dX5_judged_277 ?_
                    refine q_if_eq C dX5_judged_280 (tgt := 326) (by decide) (fun hc => ?_) (fun hc => ?_)
                    · replace hK := if_po hc hK
                      refine q_iconst C (v := 0) dX5_judged_326 (by decide) ?_
                      cases hK
                      exact q_zret C (Or.inl rfl) dX5_judged_327
                    · replace hK := if_ne hc hK
                      refine q_iload_n C dX5_judged_283 rfl (lv_at hl 5 rfl) ?_
                      refine q_iconst C (v := 2) dX5_judged_284 (by decide) ?_
                      refine q_icmp_ge C dX5_judged_285 (tgt := 326) (by decide) (fun hc => ?_) (fun hc => ?_)
                      · replace hK := if_po hc hK
                        refine q_iconst C (v := 0) dX5_judged_326 (by decide) ?_
                        cases hK
                        exact q_zret C (Or.inl rfl) dX5_judged_327
                      · replace hK := if_ne hc hK
                        refine q_aload_n C dX5_judged_288 rfl (lv_at hl 2 rfl) ?_
                        refine g_X5_trial C kd_110 w_fl_X5_26 dX5_judged_289 ?_
                        refine q_iconst C (v := 0) dX5_judged_292 (by decide) ?_
                        refine q_iload_n C dX5_judged_293 rfl (lv_at hl 4 rfl) ?_
                        refine q_iadd C dX5_judged_294 ?_
                        obtain ⟨x24, hx24, hK⟩ := rd_so hK
                        refine q_iald C kd_115 hx24 dX5_judged_295 ?_
                        refine q_iconst C (v := 1) dX5_judged_296 (by decide) ?_
                        refine q_icmp_ne C dX5_judged_297 (tgt := 326) (by decide) (fun hc => ?_) (fun hc => ?_)
                        · replace hK := if_ne hc hK
                          refine q_iconst C (v := 0) dX5_judged_326 (by decide) ?_
                          cases hK
                          exact q_zret C (Or.inl rfl) dX5_judged_327
                        · replace hK := if_po hc hK
                          refine q_aload_n C dX5_judged_300 rfl (lv_at hl 2 rfl) ?_
                          refine q_aload_n C dX5_judged_301 rfl (lv_at hl 2 rfl) ?_
                          refine g_X5_trial C kd_110 w_fl_X5_26 dX5_judged_302 ?_
                          refine q_iload_n C dX5_judged_305 rfl (lv_at hl 4 rfl) ?_
                          obtain ⟨r25, h26, hfr25, hK⟩ := bd_so hK
                          refine q_callVi C s_X5_isGood w_ml_X5_142 (c_X5_isGood l G hfr25) kd_110 rfl (by decide) (ce_4 kd_110) (by decide) hl.1 rfl rfl (Nat.le_of_ble_eq_true rfl) dX5_judged_306 ?_
                          refine q_iload_n C dX5_judged_309 rfl (lv_at hl 5 rfl) ?_
                          refine q_iconst C (v := 1) dX5_judged_310 (by decide) ?_
                          refine q_icmp_ne C dX5_judged_311 (tgt := 318) (by decide) (fun hc => ?_) (fun hc => ?_)
                          · replace hK := if_ne hc hK
                            refine q_iconst C (v := 0) dX5_judged_318 (by decide) ?_
                            exact t_X5_judged_b319 C (lv_sub hl [] rfl) hK
                          · replace hK := if_po hc hK
                            refine q_iconst C (v := 1) dX5_judged_314 (by decide) ?_
                            refine q_goto C dX5_judged_315 (tgt := 319) (by decide) ?_
                            exact t_X5_judged_b319 C (lv_sub hl [] rfl) hK
                  · replace hK := if_ne hc8 hK
                    have q0 : (v1 : Int32).toInt ≠ 1 := ne_i hc0
                    have q1 : (v1 : Int32).toInt ≠ 2 := ne_i hc1
                    have q2 : (v1 : Int32).toInt ≠ 3 := ne_i hc2
                    have q3 : (v1 : Int32).toInt ≠ 4 := ne_i hc3
                    have q4 : (v1 : Int32).toInt ≠ 5 := ne_i hc4
                    have q5 : (v1 : Int32).toInt ≠ 6 := ne_i hc5
                    have q6 : (v1 : Int32).toInt ≠ 7 := ne_i hc6
                    have q7 : (v1 : Int32).toInt ≠ 8 := ne_i hc7
                    have q8 : (v1 : Int32).toInt ≠ 9 := ne_i hc8
                    refine q_tsOut C dX5_judged_24 (by omega) (tgt := 328) (by decide) ?_
                    refine q_iconst C (v := 0) dX5_judged_328 (by decide) ?_
                    cases hK
                    exact q_zret C (Or.inl rfl) dX5_judged_329
def f_X5_judged (a1 : Int32) (a2 : Int32) (a3 : Int32) (h : PH) : Option (Int32 × PH) := if a2 = 0 then if a3 = 0 then f_X5_judged_b13 a1 a2 a3 (1 : Int32) h else f_X5_judged_b13 a1 a2 a3 (0 : Int32) h else f_X5_judged_b13 a1 a2 a3 (0 : Int32) h
set_option maxHeartbeats 4000000 in
set_option maxRecDepth 100000 in
theorem c_X5_judged (l : Launch) (G : GG) {a1 : Int32} {a2 : Int32} {a3 : Int32} {h : PH} {res : Int32 × PH} (hF : f_X5_judged a1 a2 a3 h = some res) : MI l G yX5_judged cX5_judged 6 .boolean 4 [.ref (G.2.2.2.2 110), .int a1, .int a2, .int a3] h res := by
  unfold f_X5_judged at hF
  refine MI_of (by decide +kernel) (Nat.le_of_ble_eq_true rfl) ?_
  intro p e s m args below meth c ls C hl
  have hK := hF
  clear hF
  have hl : lv_has ls 6 [(0, .ref (G.2.2.2.2 110)), (1, .int a1), (2, .int a2), (3, .int a3)] := hl
  have C : cx p s m args meth c G RX5 cX5_judged 6 (some .boolean) := C
  refine q_iload_n C dX5_judged_0 rfl (lv_at hl 2 rfl) ?_
  refine q_if_ne C dX5_judged_1 (tgt := 12) (by decide) (fun hc => ?_) (fun hc => ?_)
  · replace hK := if_ne hc hK
    refine q_iconst C (v := 0) dX5_judged_12 (by decide) ?_
    exact t_X5_judged_b13 C (lv_sub hl [0, 1, 2, 3] rfl) hK
  · replace hK := if_po hc hK
    refine q_iload_n C dX5_judged_4 rfl (lv_at hl 3 rfl) ?_
    refine q_if_ne C dX5_judged_5 (tgt := 12) (by decide) (fun hc => ?_) (fun hc => ?_)
    · replace hK := if_ne hc hK
      refine q_iconst C (v := 0) dX5_judged_12 (by decide) ?_
      exact t_X5_judged_b13 C (lv_sub hl [0, 1, 2, 3] rfl) hK
    · replace hK := if_po hc hK
      refine q_iconst C (v := 1) dX5_judged_8 (by decide) ?_
      refine q_goto C dX5_judged_9 (tgt := 13) (by decide) ?_
      exact t_X5_judged_b13 C (lv_sub hl [0, 1, 2, 3] rfl) hK
theorem s_X5_judged : sv yX5_judged cX5_judged 6 (some .boolean) 3 := ⟨w_co_X5_judged, w_im_X5_judged, w_se_X5_judged, w_in_X5, by decide +kernel, by decide⟩
def f_X5_judge_b42 : Nat → Int32 → Int32 → Int32 → PH → Option (Int32 × PH)
  | 0, _, _, _, _ => none
  | n + 1, v1, v2, v3, h => if v1 ≤ v3 then some ((-9 : Int32), h) else bd (f_X5_power (1000 : Int32) ((v1 - (1 : Int32)) - v3) h) (fun r9 h10 => nz r9 (bd (f_X5_judged ((irm (v2 / r9) (1000 : Int32)) / (100 : Int32)) (irm ((irm (v2 / r9) (1000 : Int32)) / (10 : Int32)) (10 : Int32)) (irm (irm (v2 / r9) (1000 : Int32)) (10 : Int32)) h10) (fun r12 h13 => if r12 = 0 then some (v3, h13) else (f_X5_judge_b42 n) v1 v2 (v3 + 1) h13)))
set_option maxHeartbeats 4000000 in
set_option maxRecDepth 100000 in
theorem t_X5_judge_b42 {p : Program} {l : Launch} {e : Env} {s : State} {m : MethodId} {args : Array Value} {below : List Frame} {meth : Method} {c : Code} {G : GG} {res : Int32 × PH} (C : cx p s m args meth c G RX5 cX5_judge 5 (some .int)) (n : Nat) : ∀ (v1 : Int32) (v2 : Int32) (v3 : Int32) (h : PH) (ls : Array Slot), lv_has ls 5 [(0, .ref (G.2.2.2.2 110)), (1, .int v1), (2, .int v2), (3, .int v3)] → f_X5_judge_b42 n v1 v2 v3 h = some res → WW p l e 5 s m args below meth c G h (MQ below (QI G res) args s 0 0 (Ar G)) (F0 m 42 ls []) := by
  induction n with
  | zero => intro v1 v2 v3 h ls hl hK; cases hK
  | succ n ih =>
    intro v1 v2 v3 h ls hl hK
    unfold f_X5_judge_b42 at hK
    refine q_iload_n C dX5_judge_42 rfl (lv_at hl 3 rfl) ?_
    refine q_iload_n C dX5_judge_43 rfl (lv_at hl 1 rfl) ?_
    refine q_icmp_ge C dX5_judge_44 (tgt := 99) (by decide) (fun hc => ?_) (fun hc => ?_)
    · replace hK := if_po hc hK
      refine q_bipush C (v := -9) dX5_judge_99 (by decide) ?_
      cases hK
      exact q_iret C dX5_judge_101
    · replace hK := if_ne hc hK
      refine q_iload_n C dX5_judge_47 rfl (lv_at hl 2 rfl) ?_
      refine q_sipush C (v := 1000) dX5_judge_48 (by decide) ?_
      refine q_iload_n C dX5_judge_51 rfl (lv_at hl 1 rfl) ?_
      refine q_iconst C (v := 1) dX5_judge_52 (by decide) ?_
      refine q_isub C dX5_judge_53 ?_
      refine q_iload_n C dX5_judge_54 rfl (lv_at hl 3 rfl) ?_
      refine q_isub C dX5_judge_55 ?_
      obtain ⟨r9, h10, hfr9, hK⟩ := bd_so hK
      refine q_callSi C s_X5_power w_ml_X5_230 (c_X5_power l G hfr9) (by decide) hl.1 rfl rfl (Nat.le_of_ble_eq_true rfl) dX5_judge_56 ?_
      obtain ⟨hn11, hK⟩ := nz_so hK
      refine q_idiv C dX5_judge_59 hn11 ?_
      refine q_sipush C (v := 1000) dX5_judge_60 (by decide) ?_
      refine q_irem C dX5_judge_63 (by decide) ?_
      refine q_istore C dX5_judge_64 hl (by decide) (lv2 := [(4, .int _), (0, .ref _), (1, .int _), (2, .int _), (3, .int _)]) rfl (fun ls hl => ?_)
      refine q_aload_n C dX5_judge_66 rfl (lv_at hl 1 rfl) ?_
      refine q_iload C dX5_judge_67 (lv_at hl 0 rfl) ?_
      refine q_bipush C (v := 100) dX5_judge_69 (by decide) ?_
      refine q_idiv C dX5_judge_71 (by decide) ?_
      refine q_iload C dX5_judge_72 (lv_at hl 0 rfl) ?_
      refine q_bipush C (v := 10) dX5_judge_74 (by decide) ?_
      refine q_idiv C dX5_judge_76 (by decide) ?_
      refine q_bipush C (v := 10) dX5_judge_77 (by decide) ?_
      refine q_irem C dX5_judge_79 (by decide) ?_
      refine q_iload C dX5_judge_80 (lv_at hl 0 rfl) ?_
      refine q_bipush C (v := 10) dX5_judge_82 (by decide) ?_
      refine q_irem C dX5_judge_84 (by decide) ?_
      obtain ⟨r12, h13, hfr12, hK⟩ := bd_so hK
      refine q_callVi C s_X5_judged w_ml_X5_233 (c_X5_judged l G hfr12) kd_110 rfl (by decide) (ce_4 kd_110) (by decide) hl.1 rfl rfl (Nat.le_of_ble_eq_true rfl) dX5_judge_85 ?_
      refine q_if_ne C dX5_judge_88 (tgt := 93) (by decide) (fun hc => ?_) (fun hc => ?_)
      · replace hK := if_ne hc hK
        refine q_iinc C dX5_judge_93 hl (j := 4) (v := (v3 + 1)) rfl rfl (by decide) (lv2 := [(3, .int _), (4, .int _), (0, .ref _), (1, .int _), (2, .int _)]) rfl (fun ls hl => ?_)
        refine q_goto C dX5_judge_96 (tgt := 42) (by decide) ?_
        exact ih _ _ _ _ _ (lv_sub hl [2, 3, 4, 0] rfl) hK
      · replace hK := if_po hc hK
        refine q_iload_n C dX5_judge_91 rfl (lv_at hl 4 rfl) ?_
        cases hK
        exact q_iret C dX5_judge_92
def f_X5_judge (a1 : Int32) (a2 : Int32) (h : PH) : Option (Int32 × PH) := bd (f_X5_in a1 (1 : Int32) (3 : Int32) h) (fun r1 h2 => if r1 = 0 then some ((-2 : Int32), h2) else bd (f_X5_power (1000 : Int32) a1 h2) (fun r3 h4 => bd (f_X5_in a2 (0 : Int32) (r3 - (1 : Int32)) h4) (fun r5 h6 => if r5 = 0 then some ((-2 : Int32), h6) else bd (f_X5_copy 114 115 h6) (fun _ h8 => f_X5_judge_b42 200 a1 a2 (0 : Int32) h8))))
set_option maxHeartbeats 4000000 in
set_option maxRecDepth 100000 in
theorem c_X5_judge (l : Launch) (G : GG) {a1 : Int32} {a2 : Int32} {h : PH} {res : Int32 × PH} (hF : f_X5_judge a1 a2 h = some res) : MI l G yX5_judge cX5_judge 5 .int 5 [.ref (G.2.2.2.2 110), .int a1, .int a2] h res := by
  unfold f_X5_judge at hF
  refine MI_of (by decide +kernel) (Nat.le_of_ble_eq_true rfl) ?_
  intro p e s m args below meth c ls C hl
  have hK := hF
  clear hF
  have hl : lv_has ls 5 [(0, .ref (G.2.2.2.2 110)), (1, .int a1), (2, .int a2)] := hl
  have C : cx p s m args meth c G RX5 cX5_judge 5 (some .int) := C
  refine q_iload_n C dX5_judge_0 rfl (lv_at hl 1 rfl) ?_
  refine q_iconst C (v := 1) dX5_judge_1 (by decide) ?_
  refine q_iconst C (v := 3) dX5_judge_2 (by decide) ?_
  obtain ⟨r1, h2, hfr1, hK⟩ := bd_so hK
  refine q_callSi C s_X5_in w_ml_X5_72 (c_X5_in l G hfr1) (by decide) hl.1 rfl rfl (Nat.le_of_ble_eq_true rfl) dX5_judge_3 ?_
  refine q_if_eq C dX5_judge_6 (tgt := 26) (by decide) (fun hc => ?_) (fun hc => ?_)
  · replace hK := if_po hc hK
    refine q_bipush C (v := -2) dX5_judge_26 (by decide) ?_
    cases hK
    exact q_iret C dX5_judge_28
  · replace hK := if_ne hc hK
    refine q_iload_n C dX5_judge_9 rfl (lv_at hl 2 rfl) ?_
    refine q_iconst C (v := 0) dX5_judge_10 (by decide) ?_
    refine q_sipush C (v := 1000) dX5_judge_11 (by decide) ?_
    refine q_iload_n C dX5_judge_14 rfl (lv_at hl 1 rfl) ?_
    obtain ⟨r3, h4, hfr3, hK⟩ := bd_so hK
    refine q_callSi C s_X5_power w_ml_X5_230 (c_X5_power l G hfr3) (by decide) hl.1 rfl rfl (Nat.le_of_ble_eq_true rfl) dX5_judge_15 ?_
    refine q_iconst C (v := 1) dX5_judge_18 (by decide) ?_
    refine q_isub C dX5_judge_19 ?_
    obtain ⟨r5, h6, hfr5, hK⟩ := bd_so hK
    refine q_callSi C s_X5_in w_ml_X5_72 (c_X5_in l G hfr5) (by decide) hl.1 rfl rfl (Nat.le_of_ble_eq_true rfl) dX5_judge_20 ?_
    refine q_if_ne C dX5_judge_23 (tgt := 29) (by decide) (fun hc => ?_) (fun hc => ?_)
    · replace hK := if_ne hc hK
      refine q_aload_n C dX5_judge_29 rfl (lv_at hl 0 rfl) ?_
      refine g_X5_now C kd_110 w_fl_X5_23 dX5_judge_30 ?_
      refine q_aload_n C dX5_judge_33 rfl (lv_at hl 0 rfl) ?_
      refine g_X5_trial C kd_110 w_fl_X5_26 dX5_judge_34 ?_
      obtain ⟨r7, h8, hfr7, hK⟩ := bd_so hK
      refine q_callSv C s_X5_copy w_ml_X5_222 (c_X5_copy l G hfr7) (by decide) hl.1 rfl rfl (Nat.le_of_ble_eq_true rfl) dX5_judge_37 ?_
      refine q_iconst C (v := 0) dX5_judge_40 (by decide) ?_
      refine q_istore_n C dX5_judge_41 rfl hl (by decide) (lv2 := [(3, .int _), (0, .ref _), (1, .int _), (2, .int _)]) rfl (fun ls hl => ?_)
      exact t_X5_judge_b42 C 200 _ _ _ _ _ (lv_sub hl [1, 2, 3, 0] rfl) hK
    · replace hK := if_po hc hK
      refine q_bipush C (v := -2) dX5_judge_26 (by decide) ?_
      cases hK
      exact q_iret C dX5_judge_28
theorem s_X5_judge : sv yX5_judge cX5_judge 5 (some .int) 2 := ⟨w_co_X5_judge, w_im_X5_judge, w_se_X5_judge, w_in_X5, by decide +kernel, by decide⟩
def f_X5_see (a1 : Int32) (a2 : Int32) (a3 : Int32) (h : PH) : Option (Int32 × PH) := bd (f_X5_in a1 (0 : Int32) (2 : Int32) h) (fun r1 h2 => if r1 = 0 then some ((-2 : Int32), h2) else bd (f_X5_in a2 (0 : Int32) (20 : Int32) h2) (fun r3 h4 => if r3 = 0 then some ((-2 : Int32), h4) else bd (f_X5_in a3 (0 : Int32) (99 : Int32) h4) (fun r5 h6 => if r5 = 0 then some ((-2 : Int32), h6) else if (h6.1 110 19) = (6 : Int32) then some ((-4 : Int32), h6) else wr h6 119 (h6.1 110 19) a1 (fun h7 => wr h7 120 (h7.1 110 19) a2 (fun h8 => wr h8 121 (h8.1 110 19) a3 (fun h9 => st h9 110 19 ((h9.1 110 19) + (1 : Int32)) (fun h10 => some ((h10.1 110 19), h10))))))))
set_option maxHeartbeats 4000000 in
set_option maxRecDepth 100000 in
theorem c_X5_see (l : Launch) (G : GG) {a1 : Int32} {a2 : Int32} {a3 : Int32} {h : PH} {res : Int32 × PH} (hF : f_X5_see a1 a2 a3 h = some res) : MI l G yX5_see cX5_see 4 .int 1 [.ref (G.2.2.2.2 110), .int a1, .int a2, .int a3] h res := by
  unfold f_X5_see at hF
  refine MI_of (by decide +kernel) (Nat.le_of_ble_eq_true rfl) ?_
  intro p e s m args below meth c ls C hl
  have hK := hF
  clear hF
  have hl : lv_has ls 4 [(0, .ref (G.2.2.2.2 110)), (1, .int a1), (2, .int a2), (3, .int a3)] := hl
  have C : cx p s m args meth c G RX5 cX5_see 4 (some .int) := C
  refine q_iload_n C dX5_see_0 rfl (lv_at hl 1 rfl) ?_
  refine q_iconst C (v := 0) dX5_see_1 (by decide) ?_
  refine q_iconst C (v := 2) dX5_see_2 (by decide) ?_
  obtain ⟨r1, h2, hfr1, hK⟩ := bd_so hK
  refine q_callSi C s_X5_in w_ml_X5_72 (c_X5_in l G hfr1) (by decide) hl.1 rfl rfl (Nat.le_of_ble_eq_true rfl) dX5_see_3 ?_
  refine q_if_eq C dX5_see_6 (tgt := 29) (by decide) (fun hc => ?_) (fun hc => ?_)
  · replace hK := if_po hc hK
    refine q_bipush C (v := -2) dX5_see_29 (by decide) ?_
    cases hK
    exact q_iret C dX5_see_31
  · replace hK := if_ne hc hK
    refine q_iload_n C dX5_see_9 rfl (lv_at hl 2 rfl) ?_
    refine q_iconst C (v := 0) dX5_see_10 (by decide) ?_
    refine q_bipush C (v := 20) dX5_see_11 (by decide) ?_
    obtain ⟨r3, h4, hfr3, hK⟩ := bd_so hK
    refine q_callSi C s_X5_in w_ml_X5_72 (c_X5_in l G hfr3) (by decide) hl.1 rfl rfl (Nat.le_of_ble_eq_true rfl) dX5_see_13 ?_
    refine q_if_eq C dX5_see_16 (tgt := 29) (by decide) (fun hc => ?_) (fun hc => ?_)
    · replace hK := if_po hc hK
      refine q_bipush C (v := -2) dX5_see_29 (by decide) ?_
      cases hK
      exact q_iret C dX5_see_31
    · replace hK := if_ne hc hK
      refine q_iload_n C dX5_see_19 rfl (lv_at hl 3 rfl) ?_
      refine q_iconst C (v := 0) dX5_see_20 (by decide) ?_
      refine q_bipush C (v := 99) dX5_see_21 (by decide) ?_
      obtain ⟨r5, h6, hfr5, hK⟩ := bd_so hK
      refine q_callSi C s_X5_in w_ml_X5_72 (c_X5_in l G hfr5) (by decide) hl.1 rfl rfl (Nat.le_of_ble_eq_true rfl) dX5_see_23 ?_
      refine q_if_ne C dX5_see_26 (tgt := 32) (by decide) (fun hc => ?_) (fun hc => ?_)
      · replace hK := if_ne hc hK
        refine q_aload_n C dX5_see_32 rfl (lv_at hl 0 rfl) ?_
        refine g_X5_seen C kd_110 w_fl_X5_191 dX5_see_33 ?_
        refine q_bipush C (v := 6) dX5_see_36 (by decide) ?_
        refine q_icmp_ne C dX5_see_38 (tgt := 44) (by decide) (fun hc => ?_) (fun hc => ?_)
        · replace hK := if_ne hc hK
          refine q_aload_n C dX5_see_44 rfl (lv_at hl 0 rfl) ?_
          refine g_X5_seenWhat C kd_110 w_fl_X5_39 dX5_see_45 ?_
          refine q_aload_n C dX5_see_48 rfl (lv_at hl 0 rfl) ?_
          refine g_X5_seen C kd_110 w_fl_X5_191 dX5_see_49 ?_
          refine q_iload_n C dX5_see_52 rfl (lv_at hl 1 rfl) ?_
          obtain ⟨h7, hh7, hK⟩ := wr_so hK
          refine q_iast C kd_119 hh7 dX5_see_53 ?_
          refine q_aload_n C dX5_see_54 rfl (lv_at hl 0 rfl) ?_
          refine g_X5_seenBehind C kd_110 w_fl_X5_42 dX5_see_55 ?_
          refine q_aload_n C dX5_see_58 rfl (lv_at hl 0 rfl) ?_
          refine g_X5_seen C kd_110 w_fl_X5_191 dX5_see_59 ?_
          refine q_iload_n C dX5_see_62 rfl (lv_at hl 2 rfl) ?_
          obtain ⟨h8, hh8, hK⟩ := wr_so hK
          refine q_iast C kd_120 hh8 dX5_see_63 ?_
          refine q_aload_n C dX5_see_64 rfl (lv_at hl 0 rfl) ?_
          refine g_X5_seenIs C kd_110 w_fl_X5_45 dX5_see_65 ?_
          refine q_aload_n C dX5_see_68 rfl (lv_at hl 0 rfl) ?_
          refine g_X5_seen C kd_110 w_fl_X5_191 dX5_see_69 ?_
          refine q_iload_n C dX5_see_72 rfl (lv_at hl 3 rfl) ?_
          obtain ⟨h9, hh9, hK⟩ := wr_so hK
          refine q_iast C kd_121 hh9 dX5_see_73 ?_
          refine q_aload_n C dX5_see_74 rfl (lv_at hl 0 rfl) ?_
          refine q_dup C dX5_see_75 rfl ?_
          refine g_X5_seen C kd_110 w_fl_X5_191 dX5_see_76 ?_
          refine q_iconst C (v := 1) dX5_see_79 (by decide) ?_
          refine q_iadd C dX5_see_80 ?_
          obtain ⟨h10, hh10, hK⟩ := st_so hK
          refine p_X5_seen C kd_110 w_fl_X5_191 hh10 dX5_see_81 ?_
          refine q_aload_n C dX5_see_84 rfl (lv_at hl 0 rfl) ?_
          refine g_X5_seen C kd_110 w_fl_X5_191 dX5_see_85 ?_
          cases hK
          exact q_iret C dX5_see_88
        · replace hK := if_po hc hK
          refine q_bipush C (v := -4) dX5_see_41 (by decide) ?_
          cases hK
          exact q_iret C dX5_see_43
      · replace hK := if_po hc hK
        refine q_bipush C (v := -2) dX5_see_29 (by decide) ?_
        cases hK
        exact q_iret C dX5_see_31
theorem s_X5_see : sv yX5_see cX5_see 4 (some .int) 3 := ⟨w_co_X5_see, w_im_X5_see, w_se_X5_see, w_in_X5, by decide +kernel, by decide⟩
def f_X5_unsee (h : PH) : Option (Int32 × PH) := st h 110 19 (0 : Int32) (fun h1 => some ((h.1 110 19), h1))
set_option maxHeartbeats 4000000 in
set_option maxRecDepth 100000 in
theorem c_X5_unsee (l : Launch) (G : GG) {h : PH} {res : Int32 × PH} (hF : f_X5_unsee h = some res) : MI l G yX5_unsee cX5_unsee 2 .int 0 [.ref (G.2.2.2.2 110)] h res := by
  unfold f_X5_unsee at hF
  refine MI_of (by decide +kernel) (Nat.le_of_ble_eq_true rfl) ?_
  intro p e s m args below meth c ls C hl
  have hK := hF
  clear hF
  have hl : lv_has ls 2 [(0, .ref (G.2.2.2.2 110))] := hl
  have C : cx p s m args meth c G RX5 cX5_unsee 2 (some .int) := C
  refine q_aload_n C dX5_unsee_0 rfl (lv_at hl 0 rfl) ?_
  refine g_X5_seen C kd_110 w_fl_X5_191 dX5_unsee_1 ?_
  refine q_istore_n C dX5_unsee_4 rfl hl (by decide) (lv2 := [(1, .int _), (0, .ref _)]) rfl (fun ls hl => ?_)
  refine q_aload_n C dX5_unsee_5 rfl (lv_at hl 1 rfl) ?_
  refine q_iconst C (v := 0) dX5_unsee_6 (by decide) ?_
  obtain ⟨h1, hh1, hK⟩ := st_so hK
  refine p_X5_seen C kd_110 w_fl_X5_191 hh1 dX5_unsee_7 ?_
  refine q_iload_n C dX5_unsee_10 rfl (lv_at hl 0 rfl) ?_
  cases hK
  exact q_iret C dX5_unsee_11
theorem s_X5_unsee : sv yX5_unsee cX5_unsee 2 (some .int) 0 := ⟨w_co_X5_unsee, w_im_X5_unsee, w_se_X5_unsee, w_in_X5, by decide +kernel, by decide⟩
def f_X5_isSoBy_b84 (v2 : Int32) (s0 : Int32) (h : PH) : Option (Int32 × PH) := rd h 115 s0 (fun x7 => rd h 121 v2 (fun x8 => if x7 = x8 then some ((1 : Int32), h) else some ((0 : Int32), h)))
set_option maxHeartbeats 4000000 in
set_option maxRecDepth 100000 in
theorem t_X5_isSoBy_b84 {p : Program} {l : Launch} {e : Env} {s : State} {m : MethodId} {args : Array Value} {below : List Frame} {meth : Method} {c : Code} {G : GG} {res : Int32 × PH} (C : cx p s m args meth c G RX5 cX5_isSoBy 4 (some .boolean)) {v2 : Int32} {s0 : Int32} {h : PH} {ls : Array Slot} (hl : lv_has ls 4 [(0, .ref (G.2.2.2.2 110)), (2, .int v2)]) (hK : f_X5_isSoBy_b84 v2 s0 h = some res) : WW p l e 4 s m args below meth c G h (MQ below (QI G res) args s 0 0 (Ar G)) (F0 m 84 ls [.int s0, .ref (G.2.2.2.2 115)]) := by
  unfold f_X5_isSoBy_b84 at hK
  obtain ⟨x7, hx7, hK⟩ := rd_so hK
  refine q_iald C kd_115 hx7 dX5_isSoBy_84 ?_
  refine q_aload_n C dX5_isSoBy_85 rfl (lv_at hl 0 rfl) ?_
  refine g_X5_seenIs C kd_110 w_fl_X5_45 dX5_isSoBy_86 ?_
  refine q_iload_n C dX5_isSoBy_89 rfl (lv_at hl 1 rfl) ?_
  obtain ⟨x8, hx8, hK⟩ := rd_so hK
  refine q_iald C kd_121 hx8 dX5_isSoBy_90 ?_
  refine q_icmp_ne C dX5_isSoBy_91 (tgt := 98) (by decide) (fun hc => ?_) (fun hc => ?_)
  · replace hK := if_ne hc hK
    refine q_iconst C (v := 0) dX5_isSoBy_98 (by decide) ?_
    cases hK
    exact q_zret C (Or.inl rfl) dX5_isSoBy_99
  · replace hK := if_po hc hK
    refine q_iconst C (v := 1) dX5_isSoBy_94 (by decide) ?_
    refine q_goto C dX5_isSoBy_95 (tgt := 99) (by decide) ?_
    cases hK
    exact q_zret C (Or.inr rfl) dX5_isSoBy_99
def f_X5_isSoBy_b36 (rec13 : Int32 → Int32 → Int32 → PH → Option (Int32 × PH)) (v1 : Int32) (v2 : Int32) (v3 : Int32) (h : PH) : Option (Int32 × PH) := bd (f_X5_goOn 115 (1 : Int32) h) (fun r9 h10 => rec13 v1 v2 (v3 + 1) h10)
set_option maxHeartbeats 4000000 in
set_option maxRecDepth 100000 in
theorem t_X5_isSoBy_b36 {p : Program} {l : Launch} {e : Env} {s : State} {m : MethodId} {args : Array Value} {below : List Frame} {meth : Method} {c : Code} {G : GG} {res : Int32 × PH} (C : cx p s m args meth c G RX5 cX5_isSoBy 4 (some .boolean)) {rec13 : Int32 → Int32 → Int32 → PH → Option (Int32 × PH)} (hrec13 : ∀ (v1 : Int32) (v2 : Int32) (v3 : Int32) (h : PH) (ls : Array Slot), lv_has ls 4 [(0, .ref (G.2.2.2.2 110)), (1, .int v1), (2, .int v2), (3, .int v3)] → rec13 v1 v2 v3 h = some res → WW p l e 4 s m args below meth c G h (MQ below (QI G res) args s 0 0 (Ar G)) (F0 m 13 ls [])) {v1 : Int32} {v2 : Int32} {v3 : Int32} {h : PH} {ls : Array Slot} (hl : lv_has ls 4 [(0, .ref (G.2.2.2.2 110)), (1, .int v1), (2, .int v2), (3, .int v3)]) (hK : f_X5_isSoBy_b36 rec13 v1 v2 v3 h = some res) : WW p l e 4 s m args below meth c G h (MQ below (QI G res) args s 0 0 (Ar G)) (F0 m 36 ls []) := by
  unfold f_X5_isSoBy_b36 at hK
  refine q_aload_n C dX5_isSoBy_36 rfl (lv_at hl 0 rfl) ?_
  refine q_aload_n C dX5_isSoBy_37 rfl (lv_at hl 0 rfl) ?_
  refine g_X5_trial C kd_110 w_fl_X5_26 dX5_isSoBy_38 ?_
  refine q_iconst C (v := 1) dX5_isSoBy_41 (by decide) ?_
  obtain ⟨r9, h10, hfr9, hK⟩ := bd_so hK
  refine q_callVi C s_X5_goOn w_ml_X5_210 (c_X5_goOn l G hfr9) kd_110 rfl (by decide) (ce_4 kd_110) (by decide) hl.1 rfl rfl (Nat.le_of_ble_eq_true rfl) dX5_isSoBy_42 ?_
  refine q_pop C dX5_isSoBy_45 rfl ?_
  refine q_iinc C dX5_isSoBy_46 hl (j := 3) (v := (v3 + 1)) rfl rfl (by decide) (lv2 := [(3, .int _), (0, .ref _), (1, .int _), (2, .int _)]) rfl (fun ls hl => ?_)
  refine q_goto C dX5_isSoBy_49 (tgt := 13) (by decide) ?_
  exact hrec13 _ _ _ _ _ (lv_sub hl [1, 2, 3, 0] rfl) hK
def f_X5_isSoBy_b13 : Nat → Int32 → Int32 → Int32 → PH → Option (Int32 × PH)
  | 0, _, _, _, _ => none
  | n + 1, v1, v2, v3, h => rd h 120 v2 (fun x3 => if x3 ≤ v3 then rd h 119 v2 (fun x4 => if x4 = 0 then f_X5_isSoBy_b84 v2 (72 : Int32) h else if x4 = (1 : Int32) then f_X5_isSoBy_b84 v2 (74 : Int32) h else f_X5_isSoBy_b84 v2 (73 : Int32) h) else if v3 = v1 then bd (f_X5_slipOn 115 h) (fun _ h6 => f_X5_isSoBy_b36 (f_X5_isSoBy_b13 n) v1 v2 v3 h6) else f_X5_isSoBy_b36 (f_X5_isSoBy_b13 n) v1 v2 v3 h)
set_option maxHeartbeats 4000000 in
set_option maxRecDepth 100000 in
theorem t_X5_isSoBy_b13 {p : Program} {l : Launch} {e : Env} {s : State} {m : MethodId} {args : Array Value} {below : List Frame} {meth : Method} {c : Code} {G : GG} {res : Int32 × PH} (C : cx p s m args meth c G RX5 cX5_isSoBy 4 (some .boolean)) (n : Nat) : ∀ (v1 : Int32) (v2 : Int32) (v3 : Int32) (h : PH) (ls : Array Slot), lv_has ls 4 [(0, .ref (G.2.2.2.2 110)), (1, .int v1), (2, .int v2), (3, .int v3)] → f_X5_isSoBy_b13 n v1 v2 v3 h = some res → WW p l e 4 s m args below meth c G h (MQ below (QI G res) args s 0 0 (Ar G)) (F0 m 13 ls []) := by
  induction n with
  | zero => intro v1 v2 v3 h ls hl hK; cases hK
  | succ n ih =>
    intro v1 v2 v3 h ls hl hK
    unfold f_X5_isSoBy_b13 at hK
    refine q_iload_n C dX5_isSoBy_13 rfl (lv_at hl 3 rfl) ?_
    refine q_aload_n C dX5_isSoBy_14 rfl (lv_at hl 0 rfl) ?_
    refine g_X5_seenBehind C kd_110 w_fl_X5_42 dX5_isSoBy_15 ?_
    refine q_iload_n C dX5_isSoBy_18 rfl (lv_at hl 2 rfl) ?_
    obtain ⟨x3, hx3, hK⟩ := rd_so hK
    refine q_iald C kd_120 hx3 dX5_isSoBy_19 ?_
    refine q_icmp_ge C dX5_isSoBy_20 (tgt := 52) (by decide) (fun hc => ?_) (fun hc => ?_)
    · replace hK := if_po hc hK
      refine q_aload_n C dX5_isSoBy_52 rfl (lv_at hl 0 rfl) ?_
      refine g_X5_seenWhat C kd_110 w_fl_X5_39 dX5_isSoBy_53 ?_
      refine q_iload_n C dX5_isSoBy_56 rfl (lv_at hl 2 rfl) ?_
      obtain ⟨x4, hx4, hK⟩ := rd_so hK
      refine q_iald C kd_119 hx4 dX5_isSoBy_57 ?_
      refine q_istore_n C dX5_isSoBy_58 rfl hl (by decide) (lv2 := [(3, .int _), (0, .ref _), (1, .int _), (2, .int _)]) rfl (fun ls hl => ?_)
      refine q_aload_n C dX5_isSoBy_59 rfl (lv_at hl 1 rfl) ?_
      refine g_X5_trial C kd_110 w_fl_X5_26 dX5_isSoBy_60 ?_
      refine q_iload_n C dX5_isSoBy_63 rfl (lv_at hl 0 rfl) ?_
      refine q_if_ne C dX5_isSoBy_64 (tgt := 72) (by decide) (fun hc => ?_) (fun hc => ?_)
      · replace hK := if_ne hc hK
        refine q_iload_n C dX5_isSoBy_72 rfl (lv_at hl 0 rfl) ?_
        refine q_iconst C (v := 1) dX5_isSoBy_73 (by decide) ?_
        refine q_icmp_ne C dX5_isSoBy_74 (tgt := 82) (by decide) (fun hc => ?_) (fun hc => ?_)
        · replace hK := if_ne hc hK
          refine q_bipush C (v := 73) dX5_isSoBy_82 (by decide) ?_
          exact t_X5_isSoBy_b84 C (lv_sub hl [1, 3] rfl) hK
        · replace hK := if_po hc hK
          refine q_bipush C (v := 74) dX5_isSoBy_77 (by decide) ?_
          refine q_goto C dX5_isSoBy_79 (tgt := 84) (by decide) ?_
          exact t_X5_isSoBy_b84 C (lv_sub hl [1, 3] rfl) hK
      · replace hK := if_po hc hK
        refine q_bipush C (v := 72) dX5_isSoBy_67 (by decide) ?_
        refine q_goto C dX5_isSoBy_69 (tgt := 84) (by decide) ?_
        exact t_X5_isSoBy_b84 C (lv_sub hl [1, 3] rfl) hK
    · replace hK := if_ne hc hK
      refine q_iload_n C dX5_isSoBy_23 rfl (lv_at hl 3 rfl) ?_
      refine q_iload_n C dX5_isSoBy_24 rfl (lv_at hl 1 rfl) ?_
      refine q_icmp_ne C dX5_isSoBy_25 (tgt := 36) (by decide) (fun hc => ?_) (fun hc => ?_)
      · replace hK := if_ne hc hK
        exact t_X5_isSoBy_b36 C ih (lv_sub hl [0, 1, 2, 3] rfl) hK
      · replace hK := if_po hc hK
        refine q_aload_n C dX5_isSoBy_28 rfl (lv_at hl 0 rfl) ?_
        refine q_aload_n C dX5_isSoBy_29 rfl (lv_at hl 0 rfl) ?_
        refine g_X5_trial C kd_110 w_fl_X5_26 dX5_isSoBy_30 ?_
        obtain ⟨r5, h6, hfr5, hK⟩ := bd_so hK
        refine q_callVv C s_X5_slipOn w_ml_X5_153 (c_X5_slipOn l G hfr5) kd_110 rfl (by decide) (ce_4 kd_110) (by decide) hl.1 rfl rfl (Nat.le_of_ble_eq_true rfl) dX5_isSoBy_33 ?_
        exact t_X5_isSoBy_b36 C ih (lv_sub hl [0, 1, 2, 3] rfl) hK
def f_X5_isSoBy (a1 : Int32) (a2 : Int32) (h : PH) : Option (Int32 × PH) := bd (f_X5_copy 114 115 h) (fun _ h2 => f_X5_isSoBy_b13 200 a1 a2 (0 : Int32) h2)
set_option maxHeartbeats 4000000 in
set_option maxRecDepth 100000 in
theorem c_X5_isSoBy (l : Launch) (G : GG) {a1 : Int32} {a2 : Int32} {h : PH} {res : Int32 × PH} (hF : f_X5_isSoBy a1 a2 h = some res) : MI l G yX5_isSoBy cX5_isSoBy 4 .boolean 4 [.ref (G.2.2.2.2 110), .int a1, .int a2] h res := by
  unfold f_X5_isSoBy at hF
  refine MI_of (by decide +kernel) (Nat.le_of_ble_eq_true rfl) ?_
  intro p e s m args below meth c ls C hl
  have hK := hF
  clear hF
  have hl : lv_has ls 4 [(0, .ref (G.2.2.2.2 110)), (1, .int a1), (2, .int a2)] := hl
  have C : cx p s m args meth c G RX5 cX5_isSoBy 4 (some .boolean) := C
  refine q_aload_n C dX5_isSoBy_0 rfl (lv_at hl 0 rfl) ?_
  refine g_X5_now C kd_110 w_fl_X5_23 dX5_isSoBy_1 ?_
  refine q_aload_n C dX5_isSoBy_4 rfl (lv_at hl 0 rfl) ?_
  refine g_X5_trial C kd_110 w_fl_X5_26 dX5_isSoBy_5 ?_
  obtain ⟨r1, h2, hfr1, hK⟩ := bd_so hK
  refine q_callSv C s_X5_copy w_ml_X5_222 (c_X5_copy l G hfr1) (by decide) hl.1 rfl rfl (Nat.le_of_ble_eq_true rfl) dX5_isSoBy_8 ?_
  refine q_iconst C (v := 0) dX5_isSoBy_11 (by decide) ?_
  refine q_istore_n C dX5_isSoBy_12 rfl hl (by decide) (lv2 := [(3, .int _), (0, .ref _), (1, .int _), (2, .int _)]) rfl (fun ls hl => ?_)
  exact t_X5_isSoBy_b13 C 200 _ _ _ _ _ (lv_sub hl [1, 2, 3, 0] rfl) hK
theorem s_X5_isSoBy : sv yX5_isSoBy cX5_isSoBy 4 (some .boolean) 2 := ⟨w_co_X5_isSoBy, w_im_X5_isSoBy, w_se_X5_isSoBy, w_in_X5, by decide +kernel, by decide⟩
def f_X5_which_b15 (rec4 : Int32 → Int32 → PH → Option (Int32 × PH)) : Nat → Int32 → Int32 → Int32 → Int32 → PH → Option (Int32 × PH)
  | 0, _, _, _, _, _ => none
  | n + 1, v1, v2, v3, v4, h => if (h.1 110 19) ≤ v4 then if v3 = 0 then rec4 (v1 ||| (0 : Int32)) (v2 + 1) h else rec4 (v1 ||| ((1 : Int32) <<< (v2 &&& 31))) (v2 + 1) h else if v3 = 0 then (f_X5_which_b15 rec4 n) v1 v2 (0 : Int32) (v4 + 1) h else bd (f_X5_isSoBy v2 v4 h) (fun r1 h2 => if r1 = 0 then (f_X5_which_b15 rec4 n) v1 v2 (0 : Int32) (v4 + 1) h2 else (f_X5_which_b15 rec4 n) v1 v2 (1 : Int32) (v4 + 1) h2)
set_option maxHeartbeats 4000000 in
set_option maxRecDepth 100000 in
theorem t_X5_which_b15 {p : Program} {l : Launch} {e : Env} {s : State} {m : MethodId} {args : Array Value} {below : List Frame} {meth : Method} {c : Code} {G : GG} {res : Int32 × PH} (C : cx p s m args meth c G RX5 cX5_which 5 (some .int)) {rec4 : Int32 → Int32 → PH → Option (Int32 × PH)} (hrec4 : ∀ (v1 : Int32) (v2 : Int32) (h : PH) (ls : Array Slot), lv_has ls 5 [(0, .ref (G.2.2.2.2 110)), (1, .int v1), (2, .int v2)] → rec4 v1 v2 h = some res → WW p l e 5 s m args below meth c G h (MQ below (QI G res) args s 0 0 (Ar G)) (F0 m 4 ls [])) (n : Nat) : ∀ (v1 : Int32) (v2 : Int32) (v3 : Int32) (v4 : Int32) (h : PH) (ls : Array Slot), lv_has ls 5 [(0, .ref (G.2.2.2.2 110)), (1, .int v1), (2, .int v2), (3, .int v3), (4, .int v4)] → f_X5_which_b15 rec4 n v1 v2 v3 v4 h = some res → WW p l e 5 s m args below meth c G h (MQ below (QI G res) args s 0 0 (Ar G)) (F0 m 15 ls []) := by
  induction n with
  | zero => intro v1 v2 v3 v4 h ls hl hK; cases hK
  | succ n ih =>
    intro v1 v2 v3 v4 h ls hl hK
    unfold f_X5_which_b15 at hK
    refine q_iload C dX5_which_15 (lv_at hl 4 rfl) ?_
    refine q_aload_n C dX5_which_17 rfl (lv_at hl 0 rfl) ?_
    refine g_X5_seen C kd_110 w_fl_X5_191 dX5_which_18 ?_
    refine q_icmp_ge C dX5_which_21 (tgt := 50) (by decide) (fun hc => ?_) (fun hc => ?_)
    · replace hK := if_po hc hK
      refine q_iload_n C dX5_which_50 rfl (lv_at hl 1 rfl) ?_
      refine q_iload_n C dX5_which_51 rfl (lv_at hl 3 rfl) ?_
      refine q_if_eq C dX5_which_52 (tgt := 61) (by decide) (fun hc => ?_) (fun hc => ?_)
      · replace hK := if_po hc hK
        refine q_iconst C (v := 0) dX5_which_61 (by decide) ?_
        refine q_ior C dX5_which_62 ?_
        refine q_istore_n C dX5_which_63 rfl hl (by decide) (lv2 := [(1, .int _), (0, .ref _), (2, .int _), (3, .int _), (4, .int _)]) rfl (fun ls hl => ?_)
        refine q_iinc C dX5_which_64 hl (j := 2) (v := (v2 + 1)) rfl rfl (by decide) (lv2 := [(2, .int _), (1, .int _), (0, .ref _), (3, .int _), (4, .int _)]) rfl (fun ls hl => ?_)
        refine q_goto C dX5_which_67 (tgt := 4) (by decide) ?_
        exact hrec4 _ _ _ _ (lv_sub hl [2, 1, 0] rfl) hK
      · replace hK := if_ne hc hK
        refine q_iconst C (v := 1) dX5_which_55 (by decide) ?_
        refine q_iload_n C dX5_which_56 rfl (lv_at hl 2 rfl) ?_
        refine q_ishl C dX5_which_57 ?_
        refine q_goto C dX5_which_58 (tgt := 62) (by decide) ?_
        refine q_ior C dX5_which_62 ?_
        refine q_istore_n C dX5_which_63 rfl hl (by decide) (lv2 := [(1, .int _), (0, .ref _), (2, .int _), (3, .int _), (4, .int _)]) rfl (fun ls hl => ?_)
        refine q_iinc C dX5_which_64 hl (j := 2) (v := (v2 + 1)) rfl rfl (by decide) (lv2 := [(2, .int _), (1, .int _), (0, .ref _), (3, .int _), (4, .int _)]) rfl (fun ls hl => ?_)
        refine q_goto C dX5_which_67 (tgt := 4) (by decide) ?_
        exact hrec4 _ _ _ _ (lv_sub hl [2, 1, 0] rfl) hK
    · replace hK := if_ne hc hK
      refine q_iload_n C dX5_which_24 rfl (lv_at hl 3 rfl) ?_
      refine q_if_eq C dX5_which_25 (tgt := 42) (by decide) (fun hc => ?_) (fun hc => ?_)
      · replace hK := if_po hc hK
        refine q_iconst C (v := 0) dX5_which_42 (by decide) ?_
        refine q_istore_n C dX5_which_43 rfl hl (by decide) (lv2 := [(3, .int _), (0, .ref _), (1, .int _), (2, .int _), (4, .int _)]) rfl (fun ls hl => ?_)
        refine q_iinc C dX5_which_44 hl (j := 4) (v := (v4 + 1)) rfl rfl (by decide) (lv2 := [(4, .int _), (3, .int _), (0, .ref _), (1, .int _), (2, .int _)]) rfl (fun ls hl => ?_)
        refine q_goto C dX5_which_47 (tgt := 15) (by decide) ?_
        exact ih _ _ _ _ _ _ (lv_sub hl [2, 3, 4, 1, 0] rfl) hK
      · replace hK := if_ne hc hK
        refine q_aload_n C dX5_which_28 rfl (lv_at hl 0 rfl) ?_
        refine q_iload_n C dX5_which_29 rfl (lv_at hl 2 rfl) ?_
        refine q_iload C dX5_which_30 (lv_at hl 4 rfl) ?_
        obtain ⟨r1, h2, hfr1, hK⟩ := bd_so hK
        refine q_callVi C s_X5_isSoBy w_ml_X5_236 (c_X5_isSoBy l G hfr1) kd_110 rfl (by decide) (ce_4 kd_110) (by decide) hl.1 rfl rfl (Nat.le_of_ble_eq_true rfl) dX5_which_32 ?_
        refine q_if_eq C dX5_which_35 (tgt := 42) (by decide) (fun hc => ?_) (fun hc => ?_)
        · replace hK := if_po hc hK
          refine q_iconst C (v := 0) dX5_which_42 (by decide) ?_
          refine q_istore_n C dX5_which_43 rfl hl (by decide) (lv2 := [(3, .int _), (0, .ref _), (1, .int _), (2, .int _), (4, .int _)]) rfl (fun ls hl => ?_)
          refine q_iinc C dX5_which_44 hl (j := 4) (v := (v4 + 1)) rfl rfl (by decide) (lv2 := [(4, .int _), (3, .int _), (0, .ref _), (1, .int _), (2, .int _)]) rfl (fun ls hl => ?_)
          refine q_goto C dX5_which_47 (tgt := 15) (by decide) ?_
          exact ih _ _ _ _ _ _ (lv_sub hl [2, 3, 4, 1, 0] rfl) hK
        · replace hK := if_ne hc hK
          refine q_iconst C (v := 1) dX5_which_38 (by decide) ?_
          refine q_goto C dX5_which_39 (tgt := 43) (by decide) ?_
          refine q_istore_n C dX5_which_43 rfl hl (by decide) (lv2 := [(3, .int _), (0, .ref _), (1, .int _), (2, .int _), (4, .int _)]) rfl (fun ls hl => ?_)
          refine q_iinc C dX5_which_44 hl (j := 4) (v := (v4 + 1)) rfl rfl (by decide) (lv2 := [(4, .int _), (3, .int _), (0, .ref _), (1, .int _), (2, .int _)]) rfl (fun ls hl => ?_)
          refine q_goto C dX5_which_47 (tgt := 15) (by decide) ?_
          exact ih _ _ _ _ _ _ (lv_sub hl [2, 3, 4, 1, 0] rfl) hK
def f_X5_which_b4 : Nat → Int32 → Int32 → PH → Option (Int32 × PH)
  | 0, _, _, _ => none
  | n + 1, v1, v2, h => if (10 : Int32) ≤ v2 then some (v1, h) else f_X5_which_b15 (f_X5_which_b4 n) 200 v1 v2 (1 : Int32) (0 : Int32) h
set_option maxHeartbeats 4000000 in
set_option maxRecDepth 100000 in
theorem t_X5_which_b4 {p : Program} {l : Launch} {e : Env} {s : State} {m : MethodId} {args : Array Value} {below : List Frame} {meth : Method} {c : Code} {G : GG} {res : Int32 × PH} (C : cx p s m args meth c G RX5 cX5_which 5 (some .int)) (n : Nat) : ∀ (v1 : Int32) (v2 : Int32) (h : PH) (ls : Array Slot), lv_has ls 5 [(0, .ref (G.2.2.2.2 110)), (1, .int v1), (2, .int v2)] → f_X5_which_b4 n v1 v2 h = some res → WW p l e 5 s m args below meth c G h (MQ below (QI G res) args s 0 0 (Ar G)) (F0 m 4 ls []) := by
  induction n with
  | zero => intro v1 v2 h ls hl hK; cases hK
  | succ n ih =>
    intro v1 v2 h ls hl hK
    unfold f_X5_which_b4 at hK
    refine q_iload_n C dX5_which_4 rfl (lv_at hl 2 rfl) ?_
    refine q_bipush C (v := 10) dX5_which_5 (by decide) ?_
    refine q_icmp_ge C dX5_which_7 (tgt := 70) (by decide) (fun hc => ?_) (fun hc => ?_)
    · replace hK := if_po hc hK
      refine q_iload_n C dX5_which_70 rfl (lv_at hl 1 rfl) ?_
      cases hK
      exact q_iret C dX5_which_71
    · replace hK := if_ne hc hK
      refine q_iconst C (v := 1) dX5_which_10 (by decide) ?_
      refine q_istore_n C dX5_which_11 rfl hl (by decide) (lv2 := [(3, .int _), (0, .ref _), (1, .int _), (2, .int _)]) rfl (fun ls hl => ?_)
      refine q_iconst C (v := 0) dX5_which_12 (by decide) ?_
      refine q_istore C dX5_which_13 hl (by decide) (lv2 := [(4, .int _), (3, .int _), (0, .ref _), (1, .int _), (2, .int _)]) rfl (fun ls hl => ?_)
      exact t_X5_which_b15 C ih 200 _ _ _ _ _ _ (lv_sub hl [2, 3, 4, 1, 0] rfl) hK
def f_X5_which (h : PH) : Option (Int32 × PH) := f_X5_which_b4 200 (0 : Int32) (0 : Int32) h
set_option maxHeartbeats 4000000 in
set_option maxRecDepth 100000 in
theorem c_X5_which (l : Launch) (G : GG) {h : PH} {res : Int32 × PH} (hF : f_X5_which h = some res) : MI l G yX5_which cX5_which 5 .int 5 [.ref (G.2.2.2.2 110)] h res := by
  unfold f_X5_which at hF
  refine MI_of (by decide +kernel) (Nat.le_of_ble_eq_true rfl) ?_
  intro p e s m args below meth c ls C hl
  have hK := hF
  clear hF
  have hl : lv_has ls 5 [(0, .ref (G.2.2.2.2 110))] := hl
  have C : cx p s m args meth c G RX5 cX5_which 5 (some .int) := C
  refine q_iconst C (v := 0) dX5_which_0 (by decide) ?_
  refine q_istore_n C dX5_which_1 rfl hl (by decide) (lv2 := [(1, .int _), (0, .ref _)]) rfl (fun ls hl => ?_)
  refine q_iconst C (v := 0) dX5_which_2 (by decide) ?_
  refine q_istore_n C dX5_which_3 rfl hl (by decide) (lv2 := [(2, .int _), (1, .int _), (0, .ref _)]) rfl (fun ls hl => ?_)
  exact t_X5_which_b4 C 200 _ _ _ _ (lv_sub hl [2, 1, 0] rfl) hK
theorem s_X5_which : sv yX5_which cX5_which 5 (some .int) 0 := ⟨w_co_X5_which, w_im_X5_which, w_se_X5_which, w_in_X5, by decide +kernel, by decide⟩
def f_X5_outBy (a1 : Int32) (h : PH) : Option (Int32 × PH) := st h 110 21 a1 (fun h1 => bd (f_X5_copy 114 115 h1) (fun _ h3 => bd (f_X5_goOn 115 (30 : Int32) h3) (fun r4 h5 => st h5 110 21 (15 : Int32) (fun h6 => rd h6 115 (72 : Int32) (fun x7 => some (x7, h6))))))
set_option maxHeartbeats 4000000 in
set_option maxRecDepth 100000 in
theorem c_X5_outBy (l : Launch) (G : GG) {a1 : Int32} {h : PH} {res : Int32 × PH} (hF : f_X5_outBy a1 h = some res) : MI l G yX5_outBy cX5_outBy 2 .int 4 [.ref (G.2.2.2.2 110), .int a1] h res := by
  unfold f_X5_outBy at hF
  refine MI_of (by decide +kernel) (Nat.le_of_ble_eq_true rfl) ?_
  intro p e s m args below meth c ls C hl
  have hK := hF
  clear hF
  have hl : lv_has ls 2 [(0, .ref (G.2.2.2.2 110)), (1, .int a1)] := hl
  have C : cx p s m args meth c G RX5 cX5_outBy 2 (some .int) := C
  refine q_aload_n C dX5_outBy_0 rfl (lv_at hl 0 rfl) ?_
  refine q_iload_n C dX5_outBy_1 rfl (lv_at hl 1 rfl) ?_
  obtain ⟨h1, hh1, hK⟩ := st_so hK
  refine p_X5_come C kd_110 w_fl_X5_66 hh1 dX5_outBy_2 ?_
  refine q_aload_n C dX5_outBy_5 rfl (lv_at hl 0 rfl) ?_
  refine g_X5_now C kd_110 w_fl_X5_23 dX5_outBy_6 ?_
  refine q_aload_n C dX5_outBy_9 rfl (lv_at hl 0 rfl) ?_
  refine g_X5_trial C kd_110 w_fl_X5_26 dX5_outBy_10 ?_
  obtain ⟨r2, h3, hfr2, hK⟩ := bd_so hK
  refine q_callSv C s_X5_copy w_ml_X5_222 (c_X5_copy l G hfr2) (by decide) hl.1 rfl rfl (Nat.le_of_ble_eq_true rfl) dX5_outBy_13 ?_
  refine q_aload_n C dX5_outBy_16 rfl (lv_at hl 0 rfl) ?_
  refine q_aload_n C dX5_outBy_17 rfl (lv_at hl 0 rfl) ?_
  refine g_X5_trial C kd_110 w_fl_X5_26 dX5_outBy_18 ?_
  refine q_bipush C (v := 30) dX5_outBy_21 (by decide) ?_
  obtain ⟨r4, h5, hfr4, hK⟩ := bd_so hK
  refine q_callVi C s_X5_goOn w_ml_X5_210 (c_X5_goOn l G hfr4) kd_110 rfl (by decide) (ce_4 kd_110) (by decide) hl.1 rfl rfl (Nat.le_of_ble_eq_true rfl) dX5_outBy_23 ?_
  refine q_pop C dX5_outBy_26 rfl ?_
  refine q_aload_n C dX5_outBy_27 rfl (lv_at hl 0 rfl) ?_
  refine q_bipush C (v := 15) dX5_outBy_28 (by decide) ?_
  obtain ⟨h6, hh6, hK⟩ := st_so hK
  refine p_X5_come C kd_110 w_fl_X5_66 hh6 dX5_outBy_30 ?_
  refine q_aload_n C dX5_outBy_33 rfl (lv_at hl 0 rfl) ?_
  refine g_X5_trial C kd_110 w_fl_X5_26 dX5_outBy_34 ?_
  refine q_bipush C (v := 72) dX5_outBy_37 (by decide) ?_
  obtain ⟨x7, hx7, hK⟩ := rd_so hK
  refine q_iald C kd_115 hx7 dX5_outBy_39 ?_
  cases hK
  exact q_iret C dX5_outBy_40
theorem s_X5_outBy : sv yX5_outBy cX5_outBy 2 (some .int) 1 := ⟨w_co_X5_outBy, w_im_X5_outBy, w_se_X5_outBy, w_in_X5, by decide +kernel, by decide⟩
def f_X5_share_b44 : Nat → Int32 → Int32 → Int32 → Int32 → PH → Option (Int32 × PH)
  | 0, _, _, _, _, _ => none
  | n + 1, v1, v2, v3, v4, h => if ((1 : Int32) <<< ((h.1 110 7) &&& 31)) ≤ v4 then bd (f_X5_factorial (h.1 110 7) h) (fun r6 h7 => bd (f_X5_fraction v3 r6 v2 h7) (fun r8 h9 => some (r8, h9))) else bd (f_X5_has v4 v1 h) (fun r10 h11 => if r10 = 0 then bd (f_X5_ones v4 h11) (fun r12 h13 => bd (f_X5_factorial r12 h13) (fun r14 h15 => bd (f_X5_factorial (((h15.1 110 7) - (1 : Int32)) - r12) h15) (fun r16 h17 => rd h17 122 (v4 ||| ((1 : Int32) <<< (v1 &&& 31))) (fun x18 => rd h17 122 v4 (fun x19 => (f_X5_share_b44 n) v1 v2 (v3 + ((r14 * r16) * (x18 - x19))) (v4 + 1) h17))))) else (f_X5_share_b44 n) v1 v2 v3 (v4 + 1) h11)
set_option maxHeartbeats 4000000 in
set_option maxRecDepth 100000 in
theorem t_X5_share_b44 {p : Program} {l : Launch} {e : Env} {s : State} {m : MethodId} {args : Array Value} {below : List Frame} {meth : Method} {c : Code} {G : GG} {res : Int32 × PH} (C : cx p s m args meth c G RX5 cX5_share 6 (some .int)) (n : Nat) : ∀ (v1 : Int32) (v2 : Int32) (v3 : Int32) (v4 : Int32) (h : PH) (ls : Array Slot), lv_has ls 6 [(0, .ref (G.2.2.2.2 110)), (1, .int v1), (2, .int v2), (3, .int v3), (4, .int v4)] → f_X5_share_b44 n v1 v2 v3 v4 h = some res → WW p l e 5 s m args below meth c G h (MQ below (QI G res) args s 0 0 (Ar G)) (F0 m 44 ls []) := by
  induction n with
  | zero => intro v1 v2 v3 v4 h ls hl hK; cases hK
  | succ n ih =>
    intro v1 v2 v3 v4 h ls hl hK
    unfold f_X5_share_b44 at hK
    refine q_iload C dX5_share_44 (lv_at hl 4 rfl) ?_
    refine q_iconst C (v := 1) dX5_share_46 (by decide) ?_
    refine q_aload_n C dX5_share_47 rfl (lv_at hl 0 rfl) ?_
    refine g_X5_valves C kd_110 w_fl_X5_76 dX5_share_48 ?_
    refine q_ishl C dX5_share_51 ?_
    refine q_icmp_ge C dX5_share_52 (tgt := 118) (by decide) (fun hc => ?_) (fun hc => ?_)
    · replace hK := if_po hc hK
      refine q_iload_n C dX5_share_118 rfl (lv_at hl 3 rfl) ?_
      refine q_aload_n C dX5_share_119 rfl (lv_at hl 0 rfl) ?_
      refine g_X5_valves C kd_110 w_fl_X5_76 dX5_share_120 ?_
      obtain ⟨r6, h7, hfr6, hK⟩ := bd_so hK
      refine q_callSi C s_X5_factorial w_ml_X5_245 (c_X5_factorial l G hfr6) (by decide) hl.1 rfl rfl (Nat.le_of_ble_eq_true rfl) dX5_share_123 ?_
      refine q_iload_n C dX5_share_126 rfl (lv_at hl 2 rfl) ?_
      obtain ⟨r8, h9, hfr8, hK⟩ := bd_so hK
      refine q_callSi C s_X5_fraction w_ml_X5_248 (c_X5_fraction l G hfr8) (by decide) hl.1 rfl rfl (Nat.le_of_ble_eq_true rfl) dX5_share_127 ?_
      cases hK
      exact q_iret C dX5_share_130
    · replace hK := if_ne hc hK
      refine q_iload C dX5_share_55 (lv_at hl 4 rfl) ?_
      refine q_iload_n C dX5_share_57 rfl (lv_at hl 1 rfl) ?_
      obtain ⟨r10, h11, hfr10, hK⟩ := bd_so hK
      refine q_callSi C s_X5_has w_ml_X5_157 (c_X5_has l G hfr10) (by decide) hl.1 rfl rfl (Nat.le_of_ble_eq_true rfl) dX5_share_58 ?_
      refine q_if_ne C dX5_share_61 (tgt := 112) (by decide) (fun hc => ?_) (fun hc => ?_)
      · replace hK := if_ne hc hK
        refine q_iinc C dX5_share_112 hl (j := 4) (v := (v4 + 1)) rfl rfl (by decide) (lv2 := [(4, .int _), (0, .ref _), (1, .int _), (2, .int _), (3, .int _)]) rfl (fun ls hl => ?_)
        refine q_goto C dX5_share_115 (tgt := 44) (by decide) ?_
        exact ih _ _ _ _ _ _ (lv_sub hl [1, 2, 3, 4, 0] rfl) hK
      · replace hK := if_po hc hK
        refine q_iload C dX5_share_64 (lv_at hl 4 rfl) ?_
        obtain ⟨r12, h13, hfr12, hK⟩ := bd_so hK
        refine q_callSi C s_X5_ones w_ml_X5_242 (c_X5_ones l G hfr12) (by decide) hl.1 rfl rfl (Nat.le_of_ble_eq_true rfl) dX5_share_66 ?_
        refine q_istore C dX5_share_69 hl (by decide) (lv2 := [(5, .int _), (0, .ref _), (1, .int _), (2, .int _), (3, .int _), (4, .int _)]) rfl (fun ls hl => ?_)
        refine q_iload_n C dX5_share_71 rfl (lv_at hl 4 rfl) ?_
        refine q_iload C dX5_share_72 (lv_at hl 0 rfl) ?_
        obtain ⟨r14, h15, hfr14, hK⟩ := bd_so hK
        refine q_callSi C s_X5_factorial w_ml_X5_245 (c_X5_factorial l G hfr14) (by decide) hl.1 rfl rfl (Nat.le_of_ble_eq_true rfl) dX5_share_74 ?_
        refine q_aload_n C dX5_share_77 rfl (lv_at hl 1 rfl) ?_
        refine g_X5_valves C kd_110 w_fl_X5_76 dX5_share_78 ?_
        refine q_iconst C (v := 1) dX5_share_81 (by decide) ?_
        refine q_isub C dX5_share_82 ?_
        refine q_iload C dX5_share_83 (lv_at hl 0 rfl) ?_
        refine q_isub C dX5_share_85 ?_
        obtain ⟨r16, h17, hfr16, hK⟩ := bd_so hK
        refine q_callSi C s_X5_factorial w_ml_X5_245 (c_X5_factorial l G hfr16) (by decide) hl.1 rfl rfl (Nat.le_of_ble_eq_true rfl) dX5_share_86 ?_
        refine q_imul C dX5_share_89 ?_
        refine q_aload_n C dX5_share_90 rfl (lv_at hl 1 rfl) ?_
        refine g_X5_worth C kd_110 w_fl_X5_48 dX5_share_91 ?_
        refine q_iload C dX5_share_94 (lv_at hl 5 rfl) ?_
        refine q_iconst C (v := 1) dX5_share_96 (by decide) ?_
        refine q_iload_n C dX5_share_97 rfl (lv_at hl 2 rfl) ?_
        refine q_ishl C dX5_share_98 ?_
        refine q_ior C dX5_share_99 ?_
        obtain ⟨x18, hx18, hK⟩ := rd_so hK
        refine q_iald C kd_122 hx18 dX5_share_100 ?_
        refine q_aload_n C dX5_share_101 rfl (lv_at hl 1 rfl) ?_
        refine g_X5_worth C kd_110 w_fl_X5_48 dX5_share_102 ?_
        refine q_iload C dX5_share_105 (lv_at hl 5 rfl) ?_
        obtain ⟨x19, hx19, hK⟩ := rd_so hK
        refine q_iald C kd_122 hx19 dX5_share_107 ?_
        refine q_isub C dX5_share_108 ?_
        refine q_imul C dX5_share_109 ?_
        refine q_iadd C dX5_share_110 ?_
        refine q_istore_n C dX5_share_111 rfl hl (by decide) (lv2 := [(3, .int _), (5, .int _), (0, .ref _), (1, .int _), (2, .int _), (4, .int _)]) rfl (fun ls hl => ?_)
        refine q_iinc C dX5_share_112 hl (j := 5) (v := (v4 + 1)) rfl rfl (by decide) (lv2 := [(4, .int _), (3, .int _), (5, .int _), (0, .ref _), (1, .int _), (2, .int _)]) rfl (fun ls hl => ?_)
        refine q_goto C dX5_share_115 (tgt := 44) (by decide) ?_
        exact ih _ _ _ _ _ _ (lv_sub hl [3, 4, 5, 1, 0] rfl) hK
def f_X5_share_b12 : Nat → Int32 → Int32 → Int32 → PH → Option (Int32 × PH)
  | 0, _, _, _, _ => none
  | n + 1, v1, v2, v3, h => if ((1 : Int32) <<< ((h.1 110 7) &&& 31)) ≤ v3 then f_X5_share_b44 200 v1 v2 (0 : Int32) (0 : Int32) h else bd (f_X5_outBy v3 h) (fun r3 h4 => wr h4 122 v3 r3 (fun h5 => (f_X5_share_b12 n) v1 v2 (v3 + 1) h5))
set_option maxHeartbeats 4000000 in
set_option maxRecDepth 100000 in
theorem t_X5_share_b12 {p : Program} {l : Launch} {e : Env} {s : State} {m : MethodId} {args : Array Value} {below : List Frame} {meth : Method} {c : Code} {G : GG} {res : Int32 × PH} (C : cx p s m args meth c G RX5 cX5_share 6 (some .int)) (n : Nat) : ∀ (v1 : Int32) (v2 : Int32) (v3 : Int32) (h : PH) (ls : Array Slot), lv_has ls 6 [(0, .ref (G.2.2.2.2 110)), (1, .int v1), (2, .int v2), (3, .int v3)] → f_X5_share_b12 n v1 v2 v3 h = some res → WW p l e 5 s m args below meth c G h (MQ below (QI G res) args s 0 0 (Ar G)) (F0 m 12 ls []) := by
  induction n with
  | zero => intro v1 v2 v3 h ls hl hK; cases hK
  | succ n ih =>
    intro v1 v2 v3 h ls hl hK
    unfold f_X5_share_b12 at hK
    refine q_iload_n C dX5_share_12 rfl (lv_at hl 3 rfl) ?_
    refine q_iconst C (v := 1) dX5_share_13 (by decide) ?_
    refine q_aload_n C dX5_share_14 rfl (lv_at hl 0 rfl) ?_
    refine g_X5_valves C kd_110 w_fl_X5_76 dX5_share_15 ?_
    refine q_ishl C dX5_share_18 ?_
    refine q_icmp_ge C dX5_share_19 (tgt := 39) (by decide) (fun hc => ?_) (fun hc => ?_)
    · replace hK := if_po hc hK
      refine q_iconst C (v := 0) dX5_share_39 (by decide) ?_
      refine q_istore_n C dX5_share_40 rfl hl (by decide) (lv2 := [(3, .int _), (0, .ref _), (1, .int _), (2, .int _)]) rfl (fun ls hl => ?_)
      refine q_iconst C (v := 0) dX5_share_41 (by decide) ?_
      refine q_istore C dX5_share_42 hl (by decide) (lv2 := [(4, .int _), (3, .int _), (0, .ref _), (1, .int _), (2, .int _)]) rfl (fun ls hl => ?_)
      exact t_X5_share_b44 C 200 _ _ _ _ _ _ (lv_sub hl [2, 3, 4, 1, 0] rfl) hK
    · replace hK := if_ne hc hK
      refine q_aload_n C dX5_share_22 rfl (lv_at hl 0 rfl) ?_
      refine g_X5_worth C kd_110 w_fl_X5_48 dX5_share_23 ?_
      refine q_iload_n C dX5_share_26 rfl (lv_at hl 3 rfl) ?_
      refine q_aload_n C dX5_share_27 rfl (lv_at hl 0 rfl) ?_
      refine q_iload_n C dX5_share_28 rfl (lv_at hl 3 rfl) ?_
      obtain ⟨r3, h4, hfr3, hK⟩ := bd_so hK
      refine q_callVi C s_X5_outBy w_ml_X5_239 (c_X5_outBy l G hfr3) kd_110 rfl (by decide) (ce_4 kd_110) (by decide) hl.1 rfl rfl (Nat.le_of_ble_eq_true rfl) dX5_share_29 ?_
      obtain ⟨h5, hh5, hK⟩ := wr_so hK
      refine q_iast C kd_122 hh5 dX5_share_32 ?_
      refine q_iinc C dX5_share_33 hl (j := 3) (v := (v3 + 1)) rfl rfl (by decide) (lv2 := [(3, .int _), (0, .ref _), (1, .int _), (2, .int _)]) rfl (fun ls hl => ?_)
      refine q_goto C dX5_share_36 (tgt := 12) (by decide) ?_
      exact ih _ _ _ _ _ (lv_sub hl [1, 2, 3, 0] rfl) hK
def f_X5_share (a1 : Int32) (a2 : Int32) (h : PH) : Option (Int32 × PH) := bd (f_X5_isValve a1 h) (fun r1 h2 => if r1 = 0 then some ((-1 : Int32), h2) else f_X5_share_b12 200 a1 a2 (0 : Int32) h2)
set_option maxHeartbeats 4000000 in
set_option maxRecDepth 100000 in
theorem c_X5_share (l : Launch) (G : GG) {a1 : Int32} {a2 : Int32} {h : PH} {res : Int32 × PH} (hF : f_X5_share a1 a2 h = some res) : MI l G yX5_share cX5_share 6 .int 5 [.ref (G.2.2.2.2 110), .int a1, .int a2] h res := by
  unfold f_X5_share at hF
  refine MI_of (by decide +kernel) (Nat.le_of_ble_eq_true rfl) ?_
  intro p e s m args below meth c ls C hl
  have hK := hF
  clear hF
  have hl : lv_has ls 6 [(0, .ref (G.2.2.2.2 110)), (1, .int a1), (2, .int a2)] := hl
  have C : cx p s m args meth c G RX5 cX5_share 6 (some .int) := C
  refine q_aload_n C dX5_share_0 rfl (lv_at hl 0 rfl) ?_
  refine q_iload_n C dX5_share_1 rfl (lv_at hl 1 rfl) ?_
  obtain ⟨r1, h2, hfr1, hK⟩ := bd_so hK
  refine q_callVi C s_X5_isValve w_ml_X5_201 (c_X5_isValve l G hfr1) kd_110 rfl (by decide) (ce_4 kd_110) (by decide) hl.1 rfl rfl (Nat.le_of_ble_eq_true rfl) dX5_share_2 ?_
  refine q_if_ne C dX5_share_5 (tgt := 10) (by decide) (fun hc => ?_) (fun hc => ?_)
  · replace hK := if_ne hc hK
    refine q_iconst C (v := 0) dX5_share_10 (by decide) ?_
    refine q_istore_n C dX5_share_11 rfl hl (by decide) (lv2 := [(3, .int _), (0, .ref _), (1, .int _), (2, .int _)]) rfl (fun ls hl => ?_)
    exact t_X5_share_b12 C 200 _ _ _ _ _ (lv_sub hl [1, 2, 3, 0] rfl) hK
  · replace hK := if_po hc hK
    refine q_iconst C (v := -1) dX5_share_8 (by decide) ?_
    cases hK
    exact q_iret C dX5_share_9
theorem s_X5_share : sv yX5_share cX5_share 6 (some .int) 2 := ⟨w_co_X5_share, w_im_X5_share, w_se_X5_share, w_in_X5, by decide +kernel, by decide⟩
def f_X5_chance_b107 (rec29 : Int32 → Int32 → Int32 → Int32 → Int32 → PH → Option (Int32 × PH)) (v1 : Int32) (v2 : Int32) (v3 : Int32) (v4 : Int32) (v5 : Int32) (h : PH) : Option (Int32 × PH) := rd h 115 (70 : Int32) (fun x21 => if x21 = 0 then bd (f_X5_ones v5 h) (fun r22 h23 => bd (f_X5_power v2 r22 h23) (fun r24 h25 => bd (f_X5_ones v5 h25) (fun r26 h27 => bd (f_X5_power ((10 : Int32) - v2) (v1 - r26) h27) (fun r28 h29 => rec29 v1 v2 v3 (v4 + (r24 * r28)) (v5 + 1) h29)))) else rec29 v1 v2 v3 (v4 + (0 : Int32)) (v5 + 1) h)
set_option maxHeartbeats 4000000 in
set_option maxRecDepth 100000 in
theorem t_X5_chance_b107 {p : Program} {l : Launch} {e : Env} {s : State} {m : MethodId} {args : Array Value} {below : List Frame} {meth : Method} {c : Code} {G : GG} {res : Int32 × PH} (C : cx p s m args meth c G RX5 cX5_chance 7 (some .int)) {rec29 : Int32 → Int32 → Int32 → Int32 → Int32 → PH → Option (Int32 × PH)} (hrec29 : ∀ (v1 : Int32) (v2 : Int32) (v3 : Int32) (v4 : Int32) (v5 : Int32) (h : PH) (ls : Array Slot), lv_has ls 7 [(0, .ref (G.2.2.2.2 110)), (1, .int v1), (2, .int v2), (3, .int v3), (4, .int v4), (5, .int v5)] → rec29 v1 v2 v3 v4 v5 h = some res → WW p l e 3 s m args below meth c G h (MQ below (QI G res) args s 0 0 (Ar G)) (F0 m 29 ls [])) {v1 : Int32} {v2 : Int32} {v3 : Int32} {v4 : Int32} {v5 : Int32} {h : PH} {ls : Array Slot} (hl : lv_has ls 7 [(0, .ref (G.2.2.2.2 110)), (1, .int v1), (2, .int v2), (3, .int v3), (4, .int v4), (5, .int v5)]) (hK : f_X5_chance_b107 rec29 v1 v2 v3 v4 v5 h = some res) : WW p l e 3 s m args below meth c G h (MQ below (QI G res) args s 0 0 (Ar G)) (F0 m 107 ls []) := by
  unfold f_X5_chance_b107 at hK
  refine q_iload C dX5_chance_107 (lv_at hl 4 rfl) ?_
  refine q_aload_n C dX5_chance_109 rfl (lv_at hl 0 rfl) ?_
  refine g_X5_trial C kd_110 w_fl_X5_26 dX5_chance_110 ?_
  refine q_bipush C (v := 70) dX5_chance_113 (by decide) ?_
  obtain ⟨x21, hx21, hK⟩ := rd_so hK
  refine q_iald C kd_115 hx21 dX5_chance_115 ?_
  refine q_if_ne C dX5_chance_116 (tgt := 146) (by decide) (fun hc => ?_) (fun hc => ?_)
  · replace hK := if_ne hc hK
    refine q_iconst C (v := 0) dX5_chance_146 (by decide) ?_
    refine q_iadd C dX5_chance_147 ?_
    refine q_istore C dX5_chance_148 hl (by decide) (lv2 := [(4, .int _), (0, .ref _), (1, .int _), (2, .int _), (3, .int _), (5, .int _)]) rfl (fun ls hl => ?_)
    refine q_iinc C dX5_chance_150 hl (j := 5) (v := (v5 + 1)) rfl rfl (by decide) (lv2 := [(5, .int _), (4, .int _), (0, .ref _), (1, .int _), (2, .int _), (3, .int _)]) rfl (fun ls hl => ?_)
    refine q_goto C dX5_chance_153 (tgt := 29) (by decide) ?_
    exact hrec29 _ _ _ _ _ _ _ (lv_sub hl [2, 3, 4, 5, 1, 0] rfl) hK
  · replace hK := if_po hc hK
    refine q_iload_n C dX5_chance_119 rfl (lv_at hl 2 rfl) ?_
    refine q_iload C dX5_chance_120 (lv_at hl 5 rfl) ?_
    obtain ⟨r22, h23, hfr22, hK⟩ := bd_so hK
    refine q_callSi C s_X5_ones w_ml_X5_242 (c_X5_ones l G hfr22) (by decide) hl.1 rfl rfl (Nat.le_of_ble_eq_true rfl) dX5_chance_122 ?_
    obtain ⟨r24, h25, hfr24, hK⟩ := bd_so hK
    refine q_callSi C s_X5_power w_ml_X5_230 (c_X5_power l G hfr24) (by decide) hl.1 rfl rfl (Nat.le_of_ble_eq_true rfl) dX5_chance_125 ?_
    refine q_bipush C (v := 10) dX5_chance_128 (by decide) ?_
    refine q_iload_n C dX5_chance_130 rfl (lv_at hl 2 rfl) ?_
    refine q_isub C dX5_chance_131 ?_
    refine q_iload_n C dX5_chance_132 rfl (lv_at hl 1 rfl) ?_
    refine q_iload C dX5_chance_133 (lv_at hl 5 rfl) ?_
    obtain ⟨r26, h27, hfr26, hK⟩ := bd_so hK
    refine q_callSi C s_X5_ones w_ml_X5_242 (c_X5_ones l G hfr26) (by decide) hl.1 rfl rfl (Nat.le_of_ble_eq_true rfl) dX5_chance_135 ?_
    refine q_isub C dX5_chance_138 ?_
    obtain ⟨r28, h29, hfr28, hK⟩ := bd_so hK
    refine q_callSi C s_X5_power w_ml_X5_230 (c_X5_power l G hfr28) (by decide) hl.1 rfl rfl (Nat.le_of_ble_eq_true rfl) dX5_chance_139 ?_
    refine q_imul C dX5_chance_142 ?_
    refine q_goto C dX5_chance_143 (tgt := 147) (by decide) ?_
    refine q_iadd C dX5_chance_147 ?_
    refine q_istore C dX5_chance_148 hl (by decide) (lv2 := [(4, .int _), (0, .ref _), (1, .int _), (2, .int _), (3, .int _), (5, .int _)]) rfl (fun ls hl => ?_)
    refine q_iinc C dX5_chance_150 hl (j := 5) (v := (v5 + 1)) rfl rfl (by decide) (lv2 := [(5, .int _), (4, .int _), (0, .ref _), (1, .int _), (2, .int _), (3, .int _)]) rfl (fun ls hl => ?_)
    refine q_goto C dX5_chance_153 (tgt := 29) (by decide) ?_
    exact hrec29 _ _ _ _ _ _ _ (lv_sub hl [2, 3, 4, 5, 1, 0] rfl) hK
def f_X5_chance_b51 (rec29 : Int32 → Int32 → Int32 → Int32 → Int32 → PH → Option (Int32 × PH)) : Nat → Int32 → Int32 → Int32 → Int32 → Int32 → Int32 → PH → Option (Int32 × PH)
  | 0, _, _, _, _, _, _, _ => none
  | n + 1, v1, v2, v3, v4, v5, v6, h => if v1 ≤ v6 then f_X5_chance_b107 rec29 v1 v2 v3 v4 v5 h else rd h 115 (70 : Int32) (fun x11 => if x11 = 0 then bd (f_X5_has v5 v6 h) (fun r12 h13 => if r12 = 0 then rd h13 115 (69 : Int32) (fun x16 => if x16 = (1 : Int32) then bd (f_X5_stepBy 115 (1 : Int32) h13) (fun _ h20 => (f_X5_chance_b51 rec29 n) v1 v2 v3 v4 v5 (v6 + 1) h20) else bd (f_X5_stepBy 115 (0 : Int32) h13) (fun _ h18 => (f_X5_chance_b51 rec29 n) v1 v2 v3 v4 v5 (v6 + 1) h18)) else bd (f_X5_stepBy 115 (1 : Int32) h13) (fun _ h15 => (f_X5_chance_b51 rec29 n) v1 v2 v3 v4 v5 (v6 + 1) h15)) else f_X5_chance_b107 rec29 v1 v2 v3 v4 v5 h)
set_option maxHeartbeats 4000000 in
set_option maxRecDepth 100000 in
theorem t_X5_chance_b51 {p : Program} {l : Launch} {e : Env} {s : State} {m : MethodId} {args : Array Value} {below : List Frame} {meth : Method} {c : Code} {G : GG} {res : Int32 × PH} (C : cx p s m args meth c G RX5 cX5_chance 7 (some .int)) {rec29 : Int32 → Int32 → Int32 → Int32 → Int32 → PH → Option (Int32 × PH)} (hrec29 : ∀ (v1 : Int32) (v2 : Int32) (v3 : Int32) (v4 : Int32) (v5 : Int32) (h : PH) (ls : Array Slot), lv_has ls 7 [(0, .ref (G.2.2.2.2 110)), (1, .int v1), (2, .int v2), (3, .int v3), (4, .int v4), (5, .int v5)] → rec29 v1 v2 v3 v4 v5 h = some res → WW p l e 3 s m args below meth c G h (MQ below (QI G res) args s 0 0 (Ar G)) (F0 m 29 ls [])) (n : Nat) : ∀ (v1 : Int32) (v2 : Int32) (v3 : Int32) (v4 : Int32) (v5 : Int32) (v6 : Int32) (h : PH) (ls : Array Slot), lv_has ls 7 [(0, .ref (G.2.2.2.2 110)), (1, .int v1), (2, .int v2), (3, .int v3), (4, .int v4), (5, .int v5), (6, .int v6)] → f_X5_chance_b51 rec29 n v1 v2 v3 v4 v5 v6 h = some res → WW p l e 3 s m args below meth c G h (MQ below (QI G res) args s 0 0 (Ar G)) (F0 m 51 ls []) := by
  induction n with
  | zero => intro v1 v2 v3 v4 v5 v6 h ls hl hK; cases hK
  | succ n ih =>
    intro v1 v2 v3 v4 v5 v6 h ls hl hK
    unfold f_X5_chance_b51 at hK
    refine q_iload C dX5_chance_51 (lv_at hl 6 rfl) ?_
    refine q_iload_n C dX5_chance_53 rfl (lv_at hl 1 rfl) ?_
    refine q_icmp_ge C dX5_chance_54 (tgt := 107) (by decide) (fun hc => ?_) (fun hc => ?_)
    · replace hK := if_po hc hK
      exact t_X5_chance_b107 C hrec29 (lv_sub hl [0, 1, 2, 3, 4, 5] rfl) hK
    · replace hK := if_ne hc hK
      refine q_aload_n C dX5_chance_57 rfl (lv_at hl 0 rfl) ?_
      refine g_X5_trial C kd_110 w_fl_X5_26 dX5_chance_58 ?_
      refine q_bipush C (v := 70) dX5_chance_61 (by decide) ?_
      obtain ⟨x11, hx11, hK⟩ := rd_so hK
      refine q_iald C kd_115 hx11 dX5_chance_63 ?_
      refine q_if_ne C dX5_chance_64 (tgt := 107) (by decide) (fun hc => ?_) (fun hc => ?_)
      · replace hK := if_ne hc hK
        exact t_X5_chance_b107 C hrec29 (lv_sub hl [0, 1, 2, 3, 4, 5] rfl) hK
      · replace hK := if_po hc hK
        refine q_aload_n C dX5_chance_67 rfl (lv_at hl 0 rfl) ?_
        refine q_aload_n C dX5_chance_68 rfl (lv_at hl 0 rfl) ?_
        refine g_X5_trial C kd_110 w_fl_X5_26 dX5_chance_69 ?_
        refine q_iload C dX5_chance_72 (lv_at hl 5 rfl) ?_
        refine q_iload C dX5_chance_74 (lv_at hl 6 rfl) ?_
        obtain ⟨r12, h13, hfr12, hK⟩ := bd_so hK
        refine q_callSi C s_X5_has w_ml_X5_157 (c_X5_has l G hfr12) (by decide) hl.1 rfl rfl (Nat.le_of_ble_eq_true rfl) dX5_chance_76 ?_
        refine q_if_ne C dX5_chance_79 (tgt := 93) (by decide) (fun hc => ?_) (fun hc => ?_)
        · replace hK := if_ne hc hK
          refine q_iconst C (v := 1) dX5_chance_93 (by decide) ?_
          refine q_goto C dX5_chance_94 (tgt := 98) (by decide) ?_
          obtain ⟨r14, h15, hfr14, hK⟩ := bd_so hK
          refine q_callVv C s_X5_stepBy w_ml_X5_184 (c_X5_stepBy l G hfr14) kd_110 rfl (by decide) (ce_4 kd_110) (by decide) hl.1 rfl rfl (Nat.le_of_ble_eq_true rfl) dX5_chance_98 ?_
          refine q_iinc C dX5_chance_101 hl (j := 6) (v := (v6 + 1)) rfl rfl (by decide) (lv2 := [(6, .int _), (0, .ref _), (1, .int _), (2, .int _), (3, .int _), (4, .int _), (5, .int _)]) rfl (fun ls hl => ?_)
          refine q_goto C dX5_chance_104 (tgt := 51) (by decide) ?_
          exact ih _ _ _ _ _ _ _ _ (lv_sub hl [1, 2, 3, 4, 5, 6, 0] rfl) hK
        · replace hK := if_po hc hK
          refine q_aload_n C dX5_chance_82 rfl (lv_at hl 0 rfl) ?_
          refine g_X5_trial C kd_110 w_fl_X5_26 dX5_chance_83 ?_
          refine q_bipush C (v := 69) dX5_chance_86 (by decide) ?_
          obtain ⟨x16, hx16, hK⟩ := rd_so hK
          refine q_iald C kd_115 hx16 dX5_chance_88 ?_
          refine q_iconst C (v := 1) dX5_chance_89 (by decide) ?_
          refine q_icmp_ne C dX5_chance_90 (tgt := 97) (by decide) (fun hc => ?_) (fun hc => ?_)
          · replace hK := if_ne hc hK
            refine q_iconst C (v := 0) dX5_chance_97 (by decide) ?_
            obtain ⟨r17, h18, hfr17, hK⟩ := bd_so hK
            refine q_callVv C s_X5_stepBy w_ml_X5_184 (c_X5_stepBy l G hfr17) kd_110 rfl (by decide) (ce_4 kd_110) (by decide) hl.1 rfl rfl (Nat.le_of_ble_eq_true rfl) dX5_chance_98 ?_
            refine q_iinc C dX5_chance_101 hl (j := 6) (v := (v6 + 1)) rfl rfl (by decide) (lv2 := [(6, .int _), (0, .ref _), (1, .int _), (2, .int _), (3, .int _), (4, .int _), (5, .int _)]) rfl (fun ls hl => ?_)
            refine q_goto C dX5_chance_104 (tgt := 51) (by decide) ?_
            exact ih _ _ _ _ _ _ _ _ (lv_sub hl [1, 2, 3, 4, 5, 6, 0] rfl) hK
          · replace hK := if_po hc hK
            refine q_iconst C (v := 1) dX5_chance_93 (by decide) ?_
            refine q_goto C dX5_chance_94 (tgt := 98) (by decide) ?_
            obtain ⟨r19, h20, hfr19, hK⟩ := bd_so hK
            refine q_callVv C s_X5_stepBy w_ml_X5_184 (c_X5_stepBy l G hfr19) kd_110 rfl (by decide) (ce_4 kd_110) (by decide) hl.1 rfl rfl (Nat.le_of_ble_eq_true rfl) dX5_chance_98 ?_
            refine q_iinc C dX5_chance_101 hl (j := 6) (v := (v6 + 1)) rfl rfl (by decide) (lv2 := [(6, .int _), (0, .ref _), (1, .int _), (2, .int _), (3, .int _), (4, .int _), (5, .int _)]) rfl (fun ls hl => ?_)
            refine q_goto C dX5_chance_104 (tgt := 51) (by decide) ?_
            exact ih _ _ _ _ _ _ _ _ (lv_sub hl [1, 2, 3, 4, 5, 6, 0] rfl) hK
def f_X5_chance_b29 : Nat → Int32 → Int32 → Int32 → Int32 → Int32 → PH → Option (Int32 × PH)
  | 0, _, _, _, _, _, _ => none
  | n + 1, v1, v2, v3, v4, v5, h => if ((1 : Int32) <<< (v1 &&& 31)) ≤ v5 then bd (f_X5_power (10 : Int32) v1 h) (fun r5 h6 => bd (f_X5_fraction v4 r5 v3 h6) (fun r7 h8 => some (r7, h8))) else bd (f_X5_copy 114 115 h) (fun _ h10 => f_X5_chance_b51 (f_X5_chance_b29 n) 200 v1 v2 v3 v4 v5 (0 : Int32) h10)
set_option maxHeartbeats 4000000 in
set_option maxRecDepth 100000 in
theorem t_X5_chance_b29 {p : Program} {l : Launch} {e : Env} {s : State} {m : MethodId} {args : Array Value} {below : List Frame} {meth : Method} {c : Code} {G : GG} {res : Int32 × PH} (C : cx p s m args meth c G RX5 cX5_chance 7 (some .int)) (n : Nat) : ∀ (v1 : Int32) (v2 : Int32) (v3 : Int32) (v4 : Int32) (v5 : Int32) (h : PH) (ls : Array Slot), lv_has ls 7 [(0, .ref (G.2.2.2.2 110)), (1, .int v1), (2, .int v2), (3, .int v3), (4, .int v4), (5, .int v5)] → f_X5_chance_b29 n v1 v2 v3 v4 v5 h = some res → WW p l e 3 s m args below meth c G h (MQ below (QI G res) args s 0 0 (Ar G)) (F0 m 29 ls []) := by
  induction n with
  | zero => intro v1 v2 v3 v4 v5 h ls hl hK; cases hK
  | succ n ih =>
    intro v1 v2 v3 v4 v5 h ls hl hK
    unfold f_X5_chance_b29 at hK
    refine q_iload C dX5_chance_29 (lv_at hl 5 rfl) ?_
    refine q_iconst C (v := 1) dX5_chance_31 (by decide) ?_
    refine q_iload_n C dX5_chance_32 rfl (lv_at hl 1 rfl) ?_
    refine q_ishl C dX5_chance_33 ?_
    refine q_icmp_ge C dX5_chance_34 (tgt := 156) (by decide) (fun hc => ?_) (fun hc => ?_)
    · replace hK := if_po hc hK
      refine q_iload C dX5_chance_156 (lv_at hl 4 rfl) ?_
      refine q_bipush C (v := 10) dX5_chance_158 (by decide) ?_
      refine q_iload_n C dX5_chance_160 rfl (lv_at hl 1 rfl) ?_
      obtain ⟨r5, h6, hfr5, hK⟩ := bd_so hK
      refine q_callSi C s_X5_power w_ml_X5_230 (c_X5_power l G hfr5) (by decide) hl.1 rfl rfl (Nat.le_of_ble_eq_true rfl) dX5_chance_161 ?_
      refine q_iload_n C dX5_chance_164 rfl (lv_at hl 3 rfl) ?_
      obtain ⟨r7, h8, hfr7, hK⟩ := bd_so hK
      refine q_callSi C s_X5_fraction w_ml_X5_248 (c_X5_fraction l G hfr7) (by decide) hl.1 rfl rfl (Nat.le_of_ble_eq_true rfl) dX5_chance_165 ?_
      cases hK
      exact q_iret C dX5_chance_168
    · replace hK := if_ne hc hK
      refine q_aload_n C dX5_chance_37 rfl (lv_at hl 0 rfl) ?_
      refine g_X5_now C kd_110 w_fl_X5_23 dX5_chance_38 ?_
      refine q_aload_n C dX5_chance_41 rfl (lv_at hl 0 rfl) ?_
      refine g_X5_trial C kd_110 w_fl_X5_26 dX5_chance_42 ?_
      obtain ⟨r9, h10, hfr9, hK⟩ := bd_so hK
      refine q_callSv C s_X5_copy w_ml_X5_222 (c_X5_copy l G hfr9) (by decide) hl.1 rfl rfl (Nat.le_of_ble_eq_true rfl) dX5_chance_45 ?_
      refine q_iconst C (v := 0) dX5_chance_48 (by decide) ?_
      refine q_istore C dX5_chance_49 hl (by decide) (lv2 := [(6, .int _), (0, .ref _), (1, .int _), (2, .int _), (3, .int _), (4, .int _), (5, .int _)]) rfl (fun ls hl => ?_)
      exact t_X5_chance_b51 C ih 200 _ _ _ _ _ _ _ _ (lv_sub hl [1, 2, 3, 4, 5, 6, 0] rfl) hK
def f_X5_chance (a1 : Int32) (a2 : Int32) (a3 : Int32) (h : PH) : Option (Int32 × PH) := bd (f_X5_in a1 (1 : Int32) (6 : Int32) h) (fun r1 h2 => if r1 = 0 then some ((-2 : Int32), h2) else bd (f_X5_in a2 (0 : Int32) (10 : Int32) h2) (fun r3 h4 => if r3 = 0 then some ((-2 : Int32), h4) else f_X5_chance_b29 200 a1 a2 a3 (0 : Int32) (0 : Int32) h4))
set_option maxHeartbeats 4000000 in
set_option maxRecDepth 100000 in
theorem c_X5_chance (l : Launch) (G : GG) {a1 : Int32} {a2 : Int32} {a3 : Int32} {h : PH} {res : Int32 × PH} (hF : f_X5_chance a1 a2 a3 h = some res) : MI l G yX5_chance cX5_chance 7 .int 3 [.ref (G.2.2.2.2 110), .int a1, .int a2, .int a3] h res := by
  unfold f_X5_chance at hF
  refine MI_of (by decide +kernel) (Nat.le_of_ble_eq_true rfl) ?_
  intro p e s m args below meth c ls C hl
  have hK := hF
  clear hF
  have hl : lv_has ls 7 [(0, .ref (G.2.2.2.2 110)), (1, .int a1), (2, .int a2), (3, .int a3)] := hl
  have C : cx p s m args meth c G RX5 cX5_chance 7 (some .int) := C
  refine q_iload_n C dX5_chance_0 rfl (lv_at hl 1 rfl) ?_
  refine q_iconst C (v := 1) dX5_chance_1 (by decide) ?_
  refine q_bipush C (v := 6) dX5_chance_2 (by decide) ?_
  obtain ⟨r1, h2, hfr1, hK⟩ := bd_so hK
  refine q_callSi C s_X5_in w_ml_X5_72 (c_X5_in l G hfr1) (by decide) hl.1 rfl rfl (Nat.le_of_ble_eq_true rfl) dX5_chance_4 ?_
  refine q_if_eq C dX5_chance_7 (tgt := 20) (by decide) (fun hc => ?_) (fun hc => ?_)
  · replace hK := if_po hc hK
    refine q_bipush C (v := -2) dX5_chance_20 (by decide) ?_
    cases hK
    exact q_iret C dX5_chance_22
  · replace hK := if_ne hc hK
    refine q_iload_n C dX5_chance_10 rfl (lv_at hl 2 rfl) ?_
    refine q_iconst C (v := 0) dX5_chance_11 (by decide) ?_
    refine q_bipush C (v := 10) dX5_chance_12 (by decide) ?_
    obtain ⟨r3, h4, hfr3, hK⟩ := bd_so hK
    refine q_callSi C s_X5_in w_ml_X5_72 (c_X5_in l G hfr3) (by decide) hl.1 rfl rfl (Nat.le_of_ble_eq_true rfl) dX5_chance_14 ?_
    refine q_if_ne C dX5_chance_17 (tgt := 23) (by decide) (fun hc => ?_) (fun hc => ?_)
    · replace hK := if_ne hc hK
      refine q_iconst C (v := 0) dX5_chance_23 (by decide) ?_
      refine q_istore C dX5_chance_24 hl (by decide) (lv2 := [(4, .int _), (0, .ref _), (1, .int _), (2, .int _), (3, .int _)]) rfl (fun ls hl => ?_)
      refine q_iconst C (v := 0) dX5_chance_26 (by decide) ?_
      refine q_istore C dX5_chance_27 hl (by decide) (lv2 := [(5, .int _), (4, .int _), (0, .ref _), (1, .int _), (2, .int _), (3, .int _)]) rfl (fun ls hl => ?_)
      exact t_X5_chance_b29 C 200 _ _ _ _ _ _ _ (lv_sub hl [2, 3, 4, 5, 1, 0] rfl) hK
    · replace hK := if_po hc hK
      refine q_bipush C (v := -2) dX5_chance_20 (by decide) ?_
      cases hK
      exact q_iret C dX5_chance_22
theorem s_X5_chance : sv yX5_chance cX5_chance 7 (some .int) 3 := ⟨w_co_X5_chance, w_im_X5_chance, w_se_X5_chance, w_in_X5, by decide +kernel, by decide⟩
def f_X5_seed (a1 : Int64) (h : PH) : Option (Int64 × PH) := sj h 110 a1 (fun h1 => some ((h.2 110), h1))
set_option maxHeartbeats 4000000 in
set_option maxRecDepth 100000 in
theorem c_X5_seed (l : Launch) (G : GG) {a1 : Int64} {h : PH} {res : Int64 × PH} (hF : f_X5_seed a1 h = some res) : MLo l G yX5_seed cX5_seed 5 0 [.ref (G.2.2.2.2 110), .long a1] h res := by
  unfold f_X5_seed at hF
  refine MLo_of (by decide +kernel) (Nat.le_of_ble_eq_true rfl) ?_
  intro p e s m args below meth c ls C hl
  have hK := hF
  clear hF
  have hl : lv_has ls 5 [(0, .ref (G.2.2.2.2 110)), (1, .long a1)] := hl
  have C : cx p s m args meth c G RX5 cX5_seed 5 (some .long) := C
  refine q_aload_n C dX5_seed_0 rfl (lv_at hl 0 rfl) ?_
  refine g_X5_seed C kd_110 w_fl_X5_252 dX5_seed_1 ?_
  refine q_lstore_n C dX5_seed_4 rfl hl (by decide) (lv2 := [(3, .long _), (0, .ref _), (1, .long _)]) rfl (fun ls hl => ?_)
  refine q_aload_n C dX5_seed_5 rfl (lv_at hl 1 rfl) ?_
  refine q_lload_n C dX5_seed_6 rfl (lv_at hl 2 rfl) ?_
  obtain ⟨h1, hh1, hK⟩ := sj_so hK
  refine p_X5_seed C kd_110 w_fl_X5_252 hh1 dX5_seed_7 ?_
  refine q_lload_n C dX5_seed_10 rfl (lv_at hl 0 rfl) ?_
  cases hK
  exact q_lret C dX5_seed_11
theorem s_X5_seed : sv yX5_seed cX5_seed 5 (some .long) 1 := ⟨w_co_X5_seed, w_im_X5_seed, w_se_X5_seed, w_in_X5, by decide +kernel, by decide⟩
def f_X5_drawn_b153 (rec28 : Int32 → Int32 → Int32 → PH → Option (Int32 × PH)) (v1 : Int32) (v2 : Int32) (v3 : Int32) (h : PH) : Option (Int32 × PH) := rd h 115 (72 : Int32) (fun x17 => rd h 115 (73 : Int32) (fun x18 => rec28 v1 (v2 + (x17 - x18)) (v3 + 1) h))
set_option maxHeartbeats 4000000 in
set_option maxRecDepth 100000 in
theorem t_X5_drawn_b153 {p : Program} {l : Launch} {e : Env} {s : State} {m : MethodId} {args : Array Value} {below : List Frame} {meth : Method} {c : Code} {G : GG} {res : Int32 × PH} (C : cx p s m args meth c G RX5 cX5_drawn 5 (some .int)) {rec28 : Int32 → Int32 → Int32 → PH → Option (Int32 × PH)} (hrec28 : ∀ (v1 : Int32) (v2 : Int32) (v3 : Int32) (h : PH) (ls : Array Slot), lv_has ls 5 [(0, .ref (G.2.2.2.2 110)), (1, .int v1), (2, .int v2), (3, .int v3)] → rec28 v1 v2 v3 h = some res → WW p l e 4 s m args below meth c G h (MQ below (QI G res) args s 0 0 (Ar G)) (F0 m 28 ls [])) {v1 : Int32} {v2 : Int32} {v3 : Int32} {h : PH} {ls : Array Slot} (hl : lv_has ls 5 [(0, .ref (G.2.2.2.2 110)), (1, .int v1), (2, .int v2), (3, .int v3)]) (hK : f_X5_drawn_b153 rec28 v1 v2 v3 h = some res) : WW p l e 4 s m args below meth c G h (MQ below (QI G res) args s 0 0 (Ar G)) (F0 m 153 ls []) := by
  unfold f_X5_drawn_b153 at hK
  refine q_iload_n C dX5_drawn_153 rfl (lv_at hl 2 rfl) ?_
  refine q_aload_n C dX5_drawn_154 rfl (lv_at hl 0 rfl) ?_
  refine g_X5_trial C kd_110 w_fl_X5_26 dX5_drawn_155 ?_
  refine q_bipush C (v := 72) dX5_drawn_158 (by decide) ?_
  obtain ⟨x17, hx17, hK⟩ := rd_so hK
  refine q_iald C kd_115 hx17 dX5_drawn_160 ?_
  refine q_aload_n C dX5_drawn_161 rfl (lv_at hl 0 rfl) ?_
  refine g_X5_trial C kd_110 w_fl_X5_26 dX5_drawn_162 ?_
  refine q_bipush C (v := 73) dX5_drawn_165 (by decide) ?_
  obtain ⟨x18, hx18, hK⟩ := rd_so hK
  refine q_iald C kd_115 hx18 dX5_drawn_167 ?_
  refine q_isub C dX5_drawn_168 ?_
  refine q_iadd C dX5_drawn_169 ?_
  refine q_istore_n C dX5_drawn_170 rfl hl (by decide) (lv2 := [(2, .int _), (0, .ref _), (1, .int _), (3, .int _)]) rfl (fun ls hl => ?_)
  refine q_iinc C dX5_drawn_171 hl (j := 3) (v := (v3 + 1)) rfl rfl (by decide) (lv2 := [(3, .int _), (2, .int _), (0, .ref _), (1, .int _)]) rfl (fun ls hl => ?_)
  refine q_goto C dX5_drawn_174 (tgt := 28) (by decide) ?_
  exact hrec28 _ _ _ _ _ (lv_sub hl [2, 3, 1, 0] rfl) hK
def f_X5_drawn_b28 : Nat → Int32 → Int32 → Int32 → PH → Option (Int32 × PH)
  | 0, _, _, _, _ => none
  | n + 1, v1, v2, v3, h => if v1 ≤ v3 then some (v2, h) else sj h 110 (((h.2 110) * (6364136223846793005 : Int64)) + (1442695040888963407 : Int64)) (fun h5 => if (irm ((lus (h5.2 110) (33 : Int32))).toInt32 (10 : Int32)) = 0 then bd (f_X5_slipOn 115 h5) (fun _ h16 => f_X5_drawn_b153 (f_X5_drawn_b28 n) v1 v2 v3 h16) else if (irm ((lus (h5.2 110) (33 : Int32))).toInt32 (10 : Int32)) = (1 : Int32) then rd h5 115 (69 : Int32) (fun x13 => wr h5 115 (69 : Int32) ((1 : Int32) - x13) (fun h14 => f_X5_drawn_b153 (f_X5_drawn_b28 n) v1 v2 v3 h14)) else if (irm ((lus (h5.2 110) (33 : Int32))).toInt32 (10 : Int32)) ≤ (2 : Int32) then rd h5 115 (70 : Int32) (fun x6 => if x6 = (1 : Int32) then bd (f_X5_clearOn 115 h5) (fun r9 h10 => f_X5_drawn_b153 (f_X5_drawn_b28 n) v1 v2 v3 h10) else bd (f_X5_restartOn 115 h5) (fun _ h8 => f_X5_drawn_b153 (f_X5_drawn_b28 n) v1 v2 v3 h8)) else bd (f_X5_goOn 115 (1 : Int32) h5) (fun r11 h12 => f_X5_drawn_b153 (f_X5_drawn_b28 n) v1 v2 v3 h12))
set_option maxHeartbeats 4000000 in
set_option maxRecDepth 100000 in
theorem t_X5_drawn_b28 {p : Program} {l : Launch} {e : Env} {s : State} {m : MethodId} {args : Array Value} {below : List Frame} {meth : Method} {c : Code} {G : GG} {res : Int32 × PH} (C : cx p s m args meth c G RX5 cX5_drawn 5 (some .int)) (n : Nat) : ∀ (v1 : Int32) (v2 : Int32) (v3 : Int32) (h : PH) (ls : Array Slot), lv_has ls 5 [(0, .ref (G.2.2.2.2 110)), (1, .int v1), (2, .int v2), (3, .int v3)] → f_X5_drawn_b28 n v1 v2 v3 h = some res → WW p l e 4 s m args below meth c G h (MQ below (QI G res) args s 0 0 (Ar G)) (F0 m 28 ls []) := by
  induction n with
  | zero => intro v1 v2 v3 h ls hl hK; cases hK
  | succ n ih =>
    intro v1 v2 v3 h ls hl hK
    unfold f_X5_drawn_b28 at hK
    refine q_iload_n C dX5_drawn_28 rfl (lv_at hl 3 rfl) ?_
    refine q_iload_n C dX5_drawn_29 rfl (lv_at hl 1 rfl) ?_
    refine q_icmp_ge C dX5_drawn_30 (tgt := 177) (by decide) (fun hc => ?_) (fun hc => ?_)
    · replace hK := if_po hc hK
      refine q_iload_n C dX5_drawn_177 rfl (lv_at hl 2 rfl) ?_
      cases hK
      exact q_iret C dX5_drawn_178
    · replace hK := if_ne hc hK
      refine q_aload_n C dX5_drawn_33 rfl (lv_at hl 0 rfl) ?_
      refine q_aload_n C dX5_drawn_34 rfl (lv_at hl 0 rfl) ?_
      refine g_X5_seed C kd_110 w_fl_X5_252 dX5_drawn_35 ?_
      refine q_ldc2 C w_k_X5_256 dX5_drawn_38 ?_
      refine q_lmul C dX5_drawn_41 ?_
      refine q_ldc2 C w_k_X5_258 dX5_drawn_42 ?_
      refine q_ladd C dX5_drawn_45 ?_
      obtain ⟨h5, hh5, hK⟩ := sj_so hK
      refine p_X5_seed C kd_110 w_fl_X5_252 hh5 dX5_drawn_46 ?_
      refine q_aload_n C dX5_drawn_49 rfl (lv_at hl 0 rfl) ?_
      refine g_X5_seed C kd_110 w_fl_X5_252 dX5_drawn_50 ?_
      refine q_bipush C (v := 33) dX5_drawn_53 (by decide) ?_
      refine q_lushr C dX5_drawn_55 (v := lus (h5.2 110) (33 : Int32)) rfl ?_
      refine q_l2i C dX5_drawn_56 rfl ?_
      refine q_bipush C (v := 10) dX5_drawn_57 (by decide) ?_
      refine q_irem C dX5_drawn_59 (by decide) ?_
      refine q_istore C dX5_drawn_60 hl (by decide) (lv2 := [(4, .int _), (0, .ref _), (1, .int _), (2, .int _), (3, .int _)]) rfl (fun ls hl => ?_)
      refine q_iload C dX5_drawn_62 (lv_at hl 0 rfl) ?_
      refine q_if_ne C dX5_drawn_64 (tgt := 78) (by decide) (fun hc => ?_) (fun hc => ?_)
      · replace hK := if_ne hc hK
        refine q_iload C dX5_drawn_78 (lv_at hl 0 rfl) ?_
        refine q_iconst C (v := 1) dX5_drawn_80 (by decide) ?_
        refine q_icmp_ne C dX5_drawn_81 (tgt := 103) (by decide) (fun hc => ?_) (fun hc => ?_)
        · replace hK := if_ne hc hK
          refine q_iload C dX5_drawn_103 (lv_at hl 0 rfl) ?_
          refine q_iconst C (v := 2) dX5_drawn_105 (by decide) ?_
          refine q_icmp_le C dX5_drawn_106 (tgt := 122) (by decide) (fun hc => ?_) (fun hc => ?_)
          · replace hK := if_po hc hK
            refine q_aload_n C dX5_drawn_122 rfl (lv_at hl 1 rfl) ?_
            refine g_X5_trial C kd_110 w_fl_X5_26 dX5_drawn_123 ?_
            refine q_bipush C (v := 70) dX5_drawn_126 (by decide) ?_
            obtain ⟨x6, hx6, hK⟩ := rd_so hK
            refine q_iald C kd_115 hx6 dX5_drawn_128 ?_
            refine q_iconst C (v := 1) dX5_drawn_129 (by decide) ?_
            refine q_icmp_ne C dX5_drawn_130 (tgt := 145) (by decide) (fun hc => ?_) (fun hc => ?_)
            · replace hK := if_ne hc hK
              refine q_aload_n C dX5_drawn_145 rfl (lv_at hl 1 rfl) ?_
              refine q_aload_n C dX5_drawn_146 rfl (lv_at hl 1 rfl) ?_
              refine g_X5_trial C kd_110 w_fl_X5_26 dX5_drawn_147 ?_
              obtain ⟨r7, h8, hfr7, hK⟩ := bd_so hK
              refine q_callVv C s_X5_restartOn w_ml_X5_219 (c_X5_restartOn l G hfr7) kd_110 rfl (by decide) (ce_4 kd_110) (by decide) hl.1 rfl rfl (Nat.le_of_ble_eq_true rfl) dX5_drawn_150 ?_
              exact t_X5_drawn_b153 C ih (lv_sub hl [1, 2, 3, 4] rfl) hK
            · replace hK := if_po hc hK
              refine q_aload_n C dX5_drawn_133 rfl (lv_at hl 1 rfl) ?_
              refine q_aload_n C dX5_drawn_134 rfl (lv_at hl 1 rfl) ?_
              refine g_X5_trial C kd_110 w_fl_X5_26 dX5_drawn_135 ?_
              obtain ⟨r9, h10, hfr9, hK⟩ := bd_so hK
              refine q_callVi C s_X5_clearOn w_ml_X5_216 (c_X5_clearOn l G hfr9) kd_110 rfl (by decide) (ce_4 kd_110) (by decide) hl.1 rfl rfl (Nat.le_of_ble_eq_true rfl) dX5_drawn_138 ?_
              refine q_pop C dX5_drawn_141 rfl ?_
              refine q_goto C dX5_drawn_142 (tgt := 153) (by decide) ?_
              exact t_X5_drawn_b153 C ih (lv_sub hl [1, 2, 3, 4] rfl) hK
          · replace hK := if_ne hc hK
            refine q_aload_n C dX5_drawn_109 rfl (lv_at hl 1 rfl) ?_
            refine q_aload_n C dX5_drawn_110 rfl (lv_at hl 1 rfl) ?_
            refine g_X5_trial C kd_110 w_fl_X5_26 dX5_drawn_111 ?_
            refine q_iconst C (v := 1) dX5_drawn_114 (by decide) ?_
            obtain ⟨r11, h12, hfr11, hK⟩ := bd_so hK
            refine q_callVi C s_X5_goOn w_ml_X5_210 (c_X5_goOn l G hfr11) kd_110 rfl (by decide) (ce_4 kd_110) (by decide) hl.1 rfl rfl (Nat.le_of_ble_eq_true rfl) dX5_drawn_115 ?_
            refine q_pop C dX5_drawn_118 rfl ?_
            refine q_goto C dX5_drawn_119 (tgt := 153) (by decide) ?_
            exact t_X5_drawn_b153 C ih (lv_sub hl [1, 2, 3, 4] rfl) hK
        · replace hK := if_po hc hK
          refine q_aload_n C dX5_drawn_84 rfl (lv_at hl 1 rfl) ?_
          refine g_X5_trial C kd_110 w_fl_X5_26 dX5_drawn_85 ?_
          refine q_bipush C (v := 69) dX5_drawn_88 (by decide) ?_
          refine q_iconst C (v := 1) dX5_drawn_90 (by decide) ?_
          refine q_aload_n C dX5_drawn_91 rfl (lv_at hl 1 rfl) ?_
          refine g_X5_trial C kd_110 w_fl_X5_26 dX5_drawn_92 ?_
          refine q_bipush C (v := 69) dX5_drawn_95 (by decide) ?_
          obtain ⟨x13, hx13, hK⟩ := rd_so hK
          refine q_iald C kd_115 hx13 dX5_drawn_97 ?_
          refine q_isub C dX5_drawn_98 ?_
          obtain ⟨h14, hh14, hK⟩ := wr_so hK
          refine q_iast C kd_115 hh14 dX5_drawn_99 ?_
          refine q_goto C dX5_drawn_100 (tgt := 153) (by decide) ?_
          exact t_X5_drawn_b153 C ih (lv_sub hl [1, 2, 3, 4] rfl) hK
      · replace hK := if_po hc hK
        refine q_aload_n C dX5_drawn_67 rfl (lv_at hl 1 rfl) ?_
        refine q_aload_n C dX5_drawn_68 rfl (lv_at hl 1 rfl) ?_
        refine g_X5_trial C kd_110 w_fl_X5_26 dX5_drawn_69 ?_
        obtain ⟨r15, h16, hfr15, hK⟩ := bd_so hK
        refine q_callVv C s_X5_slipOn w_ml_X5_153 (c_X5_slipOn l G hfr15) kd_110 rfl (by decide) (ce_4 kd_110) (by decide) hl.1 rfl rfl (Nat.le_of_ble_eq_true rfl) dX5_drawn_72 ?_
        refine q_goto C dX5_drawn_75 (tgt := 153) (by decide) ?_
        exact t_X5_drawn_b153 C ih (lv_sub hl [1, 2, 3, 4] rfl) hK
def f_X5_drawn (a1 : Int32) (h : PH) : Option (Int32 × PH) := bd (f_X5_in a1 (1 : Int32) (20 : Int32) h) (fun r1 h2 => if r1 = 0 then some ((-2 : Int32), h2) else bd (f_X5_copy 114 115 h2) (fun _ h4 => f_X5_drawn_b28 200 a1 (0 : Int32) (0 : Int32) h4))
set_option maxHeartbeats 4000000 in
set_option maxRecDepth 100000 in
theorem c_X5_drawn (l : Launch) (G : GG) {a1 : Int32} {h : PH} {res : Int32 × PH} (hF : f_X5_drawn a1 h = some res) : MI l G yX5_drawn cX5_drawn 5 .int 4 [.ref (G.2.2.2.2 110), .int a1] h res := by
  unfold f_X5_drawn at hF
  refine MI_of (by decide +kernel) (Nat.le_of_ble_eq_true rfl) ?_
  intro p e s m args below meth c ls C hl
  have hK := hF
  clear hF
  have hl : lv_has ls 5 [(0, .ref (G.2.2.2.2 110)), (1, .int a1)] := hl
  have C : cx p s m args meth c G RX5 cX5_drawn 5 (some .int) := C
  refine q_iload_n C dX5_drawn_0 rfl (lv_at hl 1 rfl) ?_
  refine q_iconst C (v := 1) dX5_drawn_1 (by decide) ?_
  refine q_bipush C (v := 20) dX5_drawn_2 (by decide) ?_
  obtain ⟨r1, h2, hfr1, hK⟩ := bd_so hK
  refine q_callSi C s_X5_in w_ml_X5_72 (c_X5_in l G hfr1) (by decide) hl.1 rfl rfl (Nat.le_of_ble_eq_true rfl) dX5_drawn_4 ?_
  refine q_if_ne C dX5_drawn_7 (tgt := 13) (by decide) (fun hc => ?_) (fun hc => ?_)
  · replace hK := if_ne hc hK
    refine q_aload_n C dX5_drawn_13 rfl (lv_at hl 0 rfl) ?_
    refine g_X5_now C kd_110 w_fl_X5_23 dX5_drawn_14 ?_
    refine q_aload_n C dX5_drawn_17 rfl (lv_at hl 0 rfl) ?_
    refine g_X5_trial C kd_110 w_fl_X5_26 dX5_drawn_18 ?_
    obtain ⟨r3, h4, hfr3, hK⟩ := bd_so hK
    refine q_callSv C s_X5_copy w_ml_X5_222 (c_X5_copy l G hfr3) (by decide) hl.1 rfl rfl (Nat.le_of_ble_eq_true rfl) dX5_drawn_21 ?_
    refine q_iconst C (v := 0) dX5_drawn_24 (by decide) ?_
    refine q_istore_n C dX5_drawn_25 rfl hl (by decide) (lv2 := [(2, .int _), (0, .ref _), (1, .int _)]) rfl (fun ls hl => ?_)
    refine q_iconst C (v := 0) dX5_drawn_26 (by decide) ?_
    refine q_istore_n C dX5_drawn_27 rfl hl (by decide) (lv2 := [(3, .int _), (2, .int _), (0, .ref _), (1, .int _)]) rfl (fun ls hl => ?_)
    exact t_X5_drawn_b28 C 200 _ _ _ _ _ (lv_sub hl [2, 3, 1, 0] rfl) hK
  · replace hK := if_po hc hK
    refine q_bipush C (v := -2) dX5_drawn_10 (by decide) ?_
    cases hK
    exact q_iret C dX5_drawn_12
theorem s_X5_drawn : sv yX5_drawn cX5_drawn 5 (some .int) 1 := ⟨w_co_X5_drawn, w_im_X5_drawn, w_se_X5_drawn, w_in_X5, by decide +kernel, by decide⟩
def f_X5_keep_b20 : Nat → Int32 → Int32 → PH → Option (Int32 × PH)
  | 0, _, _, _ => none
  | n + 1, v1, v2, h => if (103 : Int32) ≤ v2 then rd h 114 (71 : Int32) (fun x4 => some (x4, h)) else rd h 114 v2 (fun x5 => wr h 117 (((103 : Int32) * v1) + v2) x5 (fun h6 => (f_X5_keep_b20 n) v1 (v2 + 1) h6))
set_option maxHeartbeats 4000000 in
set_option maxRecDepth 100000 in
theorem t_X5_keep_b20 {p : Program} {l : Launch} {e : Env} {s : State} {m : MethodId} {args : Array Value} {below : List Frame} {meth : Method} {c : Code} {G : GG} {res : Int32 × PH} (C : cx p s m args meth c G RX5 cX5_keep 3 (some .int)) (n : Nat) : ∀ (v1 : Int32) (v2 : Int32) (h : PH) (ls : Array Slot), lv_has ls 3 [(0, .ref (G.2.2.2.2 110)), (1, .int v1), (2, .int v2)] → f_X5_keep_b20 n v1 v2 h = some res → WW p l e 1 s m args below meth c G h (MQ below (QI G res) args s 0 0 (Ar G)) (F0 m 20 ls []) := by
  induction n with
  | zero => intro v1 v2 h ls hl hK; cases hK
  | succ n ih =>
    intro v1 v2 h ls hl hK
    unfold f_X5_keep_b20 at hK
    refine q_iload_n C dX5_keep_20 rfl (lv_at hl 2 rfl) ?_
    refine q_bipush C (v := 103) dX5_keep_21 (by decide) ?_
    refine q_icmp_ge C dX5_keep_23 (tgt := 49) (by decide) (fun hc => ?_) (fun hc => ?_)
    · replace hK := if_po hc hK
      refine q_aload_n C dX5_keep_49 rfl (lv_at hl 0 rfl) ?_
      refine g_X5_now C kd_110 w_fl_X5_23 dX5_keep_50 ?_
      refine q_bipush C (v := 71) dX5_keep_53 (by decide) ?_
      obtain ⟨x4, hx4, hK⟩ := rd_so hK
      refine q_iald C kd_114 hx4 dX5_keep_55 ?_
      cases hK
      exact q_iret C dX5_keep_56
    · replace hK := if_ne hc hK
      refine q_aload_n C dX5_keep_26 rfl (lv_at hl 0 rfl) ?_
      refine g_X5_kept C kd_110 w_fl_X5_32 dX5_keep_27 ?_
      refine q_bipush C (v := 103) dX5_keep_30 (by decide) ?_
      refine q_iload_n C dX5_keep_32 rfl (lv_at hl 1 rfl) ?_
      refine q_imul C dX5_keep_33 ?_
      refine q_iload_n C dX5_keep_34 rfl (lv_at hl 2 rfl) ?_
      refine q_iadd C dX5_keep_35 ?_
      refine q_aload_n C dX5_keep_36 rfl (lv_at hl 0 rfl) ?_
      refine g_X5_now C kd_110 w_fl_X5_23 dX5_keep_37 ?_
      refine q_iload_n C dX5_keep_40 rfl (lv_at hl 2 rfl) ?_
      obtain ⟨x5, hx5, hK⟩ := rd_so hK
      refine q_iald C kd_114 hx5 dX5_keep_41 ?_
      obtain ⟨h6, hh6, hK⟩ := wr_so hK
      refine q_iast C kd_117 hh6 dX5_keep_42 ?_
      refine q_iinc C dX5_keep_43 hl (j := 2) (v := (v2 + 1)) rfl rfl (by decide) (lv2 := [(2, .int _), (0, .ref _), (1, .int _)]) rfl (fun ls hl => ?_)
      refine q_goto C dX5_keep_46 (tgt := 20) (by decide) ?_
      exact ih _ _ _ _ (lv_sub hl [1, 2, 0] rfl) hK
def f_X5_keep (a1 : Int32) (h : PH) : Option (Int32 × PH) := bd (f_X5_in a1 (0 : Int32) (1 : Int32) h) (fun r1 h2 => if r1 = 0 then some ((-1 : Int32), h2) else wr h2 118 a1 (1 : Int32) (fun h3 => f_X5_keep_b20 200 a1 (0 : Int32) h3))
set_option maxHeartbeats 4000000 in
set_option maxRecDepth 100000 in
theorem c_X5_keep (l : Launch) (G : GG) {a1 : Int32} {h : PH} {res : Int32 × PH} (hF : f_X5_keep a1 h = some res) : MI l G yX5_keep cX5_keep 3 .int 1 [.ref (G.2.2.2.2 110), .int a1] h res := by
  unfold f_X5_keep at hF
  refine MI_of (by decide +kernel) (Nat.le_of_ble_eq_true rfl) ?_
  intro p e s m args below meth c ls C hl
  have hK := hF
  clear hF
  have hl : lv_has ls 3 [(0, .ref (G.2.2.2.2 110)), (1, .int a1)] := hl
  have C : cx p s m args meth c G RX5 cX5_keep 3 (some .int) := C
  refine q_iload_n C dX5_keep_0 rfl (lv_at hl 1 rfl) ?_
  refine q_iconst C (v := 0) dX5_keep_1 (by decide) ?_
  refine q_iconst C (v := 1) dX5_keep_2 (by decide) ?_
  obtain ⟨r1, h2, hfr1, hK⟩ := bd_so hK
  refine q_callSi C s_X5_in w_ml_X5_72 (c_X5_in l G hfr1) (by decide) hl.1 rfl rfl (Nat.le_of_ble_eq_true rfl) dX5_keep_3 ?_
  refine q_if_ne C dX5_keep_6 (tgt := 11) (by decide) (fun hc => ?_) (fun hc => ?_)
  · replace hK := if_ne hc hK
    refine q_aload_n C dX5_keep_11 rfl (lv_at hl 0 rfl) ?_
    refine g_X5_isKept C kd_110 w_fl_X5_35 dX5_keep_12 ?_
    refine q_iload_n C dX5_keep_15 rfl (lv_at hl 1 rfl) ?_
    refine q_iconst C (v := 1) dX5_keep_16 (by decide) ?_
    obtain ⟨h3, hh3, hK⟩ := wr_so hK
    refine q_zast C kd_118 (Or.inr rfl) hh3 dX5_keep_17 ?_
    refine q_iconst C (v := 0) dX5_keep_18 (by decide) ?_
    refine q_istore_n C dX5_keep_19 rfl hl (by decide) (lv2 := [(2, .int _), (0, .ref _), (1, .int _)]) rfl (fun ls hl => ?_)
    exact t_X5_keep_b20 C 200 _ _ _ _ (lv_sub hl [1, 2, 0] rfl) hK
  · replace hK := if_po hc hK
    refine q_iconst C (v := -1) dX5_keep_9 (by decide) ?_
    cases hK
    exact q_iret C dX5_keep_10
theorem s_X5_keep : sv yX5_keep cX5_keep 3 (some .int) 1 := ⟨w_co_X5_keep, w_im_X5_keep, w_se_X5_keep, w_in_X5, by decide +kernel, by decide⟩
def f_X5_again_b25 : Nat → Int32 → Int32 → PH → Option (Int32 × PH)
  | 0, _, _, _ => none
  | n + 1, v1, v2, h => if (103 : Int32) ≤ v2 then st h 110 12 (0 : Int32) (fun h4 => rd h4 114 (71 : Int32) (fun x5 => some (x5, h4))) else rd h 117 (((103 : Int32) * v1) + v2) (fun x6 => wr h 114 v2 x6 (fun h7 => (f_X5_again_b25 n) v1 (v2 + 1) h7))
set_option maxHeartbeats 4000000 in
set_option maxRecDepth 100000 in
theorem t_X5_again_b25 {p : Program} {l : Launch} {e : Env} {s : State} {m : MethodId} {args : Array Value} {below : List Frame} {meth : Method} {c : Code} {G : GG} {res : Int32 × PH} (C : cx p s m args meth c G RX5 cX5_again 3 (some .int)) (n : Nat) : ∀ (v1 : Int32) (v2 : Int32) (h : PH) (ls : Array Slot), lv_has ls 3 [(0, .ref (G.2.2.2.2 110)), (1, .int v1), (2, .int v2)] → f_X5_again_b25 n v1 v2 h = some res → WW p l e 1 s m args below meth c G h (MQ below (QI G res) args s 0 0 (Ar G)) (F0 m 25 ls []) := by
  induction n with
  | zero => intro v1 v2 h ls hl hK; cases hK
  | succ n ih =>
    intro v1 v2 h ls hl hK
    unfold f_X5_again_b25 at hK
    refine q_iload_n C dX5_again_25 rfl (lv_at hl 2 rfl) ?_
    refine q_bipush C (v := 103) dX5_again_26 (by decide) ?_
    refine q_icmp_ge C dX5_again_28 (tgt := 54) (by decide) (fun hc => ?_) (fun hc => ?_)
    · replace hK := if_po hc hK
      refine q_aload_n C dX5_again_54 rfl (lv_at hl 0 rfl) ?_
      refine q_iconst C (v := 0) dX5_again_55 (by decide) ?_
      obtain ⟨h4, hh4, hK⟩ := st_so hK
      refine p_X5_acts C kd_110 w_fl_X5_139 hh4 dX5_again_56 ?_
      refine q_aload_n C dX5_again_59 rfl (lv_at hl 0 rfl) ?_
      refine g_X5_now C kd_110 w_fl_X5_23 dX5_again_60 ?_
      refine q_bipush C (v := 71) dX5_again_63 (by decide) ?_
      obtain ⟨x5, hx5, hK⟩ := rd_so hK
      refine q_iald C kd_114 hx5 dX5_again_65 ?_
      cases hK
      exact q_iret C dX5_again_66
    · replace hK := if_ne hc hK
      refine q_aload_n C dX5_again_31 rfl (lv_at hl 0 rfl) ?_
      refine g_X5_now C kd_110 w_fl_X5_23 dX5_again_32 ?_
      refine q_iload_n C dX5_again_35 rfl (lv_at hl 2 rfl) ?_
      refine q_aload_n C dX5_again_36 rfl (lv_at hl 0 rfl) ?_
      refine g_X5_kept C kd_110 w_fl_X5_32 dX5_again_37 ?_
      refine q_bipush C (v := 103) dX5_again_40 (by decide) ?_
      refine q_iload_n C dX5_again_42 rfl (lv_at hl 1 rfl) ?_
      refine q_imul C dX5_again_43 ?_
      refine q_iload_n C dX5_again_44 rfl (lv_at hl 2 rfl) ?_
      refine q_iadd C dX5_again_45 ?_
      obtain ⟨x6, hx6, hK⟩ := rd_so hK
      refine q_iald C kd_117 hx6 dX5_again_46 ?_
      obtain ⟨h7, hh7, hK⟩ := wr_so hK
      refine q_iast C kd_114 hh7 dX5_again_47 ?_
      refine q_iinc C dX5_again_48 hl (j := 2) (v := (v2 + 1)) rfl rfl (by decide) (lv2 := [(2, .int _), (0, .ref _), (1, .int _)]) rfl (fun ls hl => ?_)
      refine q_goto C dX5_again_51 (tgt := 25) (by decide) ?_
      exact ih _ _ _ _ (lv_sub hl [1, 2, 0] rfl) hK
def f_X5_again (a1 : Int32) (h : PH) : Option (Int32 × PH) := bd (f_X5_in a1 (0 : Int32) (1 : Int32) h) (fun r1 h2 => if r1 = 0 then some ((-1 : Int32), h2) else rd h2 118 a1 (fun x3 => if x3 = 0 then some ((-3 : Int32), h2) else f_X5_again_b25 200 a1 (0 : Int32) h2))
set_option maxHeartbeats 4000000 in
set_option maxRecDepth 100000 in
theorem c_X5_again (l : Launch) (G : GG) {a1 : Int32} {h : PH} {res : Int32 × PH} (hF : f_X5_again a1 h = some res) : MI l G yX5_again cX5_again 3 .int 1 [.ref (G.2.2.2.2 110), .int a1] h res := by
  unfold f_X5_again at hF
  refine MI_of (by decide +kernel) (Nat.le_of_ble_eq_true rfl) ?_
  intro p e s m args below meth c ls C hl
  have hK := hF
  clear hF
  have hl : lv_has ls 3 [(0, .ref (G.2.2.2.2 110)), (1, .int a1)] := hl
  have C : cx p s m args meth c G RX5 cX5_again 3 (some .int) := C
  refine q_iload_n C dX5_again_0 rfl (lv_at hl 1 rfl) ?_
  refine q_iconst C (v := 0) dX5_again_1 (by decide) ?_
  refine q_iconst C (v := 1) dX5_again_2 (by decide) ?_
  obtain ⟨r1, h2, hfr1, hK⟩ := bd_so hK
  refine q_callSi C s_X5_in w_ml_X5_72 (c_X5_in l G hfr1) (by decide) hl.1 rfl rfl (Nat.le_of_ble_eq_true rfl) dX5_again_3 ?_
  refine q_if_ne C dX5_again_6 (tgt := 11) (by decide) (fun hc => ?_) (fun hc => ?_)
  · replace hK := if_ne hc hK
    refine q_aload_n C dX5_again_11 rfl (lv_at hl 0 rfl) ?_
    refine g_X5_isKept C kd_110 w_fl_X5_35 dX5_again_12 ?_
    refine q_iload_n C dX5_again_15 rfl (lv_at hl 1 rfl) ?_
    obtain ⟨x3, hx3, hK⟩ := rd_so hK
    refine q_zald C kd_118 hx3 dX5_again_16 ?_
    refine q_if_ne C dX5_again_17 (tgt := 23) (by decide) (fun hc => ?_) (fun hc => ?_)
    · replace hK := if_ne hc hK
      refine q_iconst C (v := 0) dX5_again_23 (by decide) ?_
      refine q_istore_n C dX5_again_24 rfl hl (by decide) (lv2 := [(2, .int _), (0, .ref _), (1, .int _)]) rfl (fun ls hl => ?_)
      exact t_X5_again_b25 C 200 _ _ _ _ (lv_sub hl [1, 2, 0] rfl) hK
    · replace hK := if_po hc hK
      refine q_bipush C (v := -3) dX5_again_20 (by decide) ?_
      cases hK
      exact q_iret C dX5_again_22
  · replace hK := if_po hc hK
    refine q_iconst C (v := -1) dX5_again_9 (by decide) ?_
    cases hK
    exact q_iret C dX5_again_10
theorem s_X5_again : sv yX5_again cX5_again 3 (some .int) 1 := ⟨w_co_X5_again, w_im_X5_again, w_se_X5_again, w_in_X5, by decide +kernel, by decide⟩
