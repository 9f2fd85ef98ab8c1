-- the constructor of BottleLineModel
def fs5 (c0 c1 c2 : Int32) (r : Nat → Value) : List Value := [r 0, .int 0, .int c0, r 1, .int 0, .int 0, .int 0, .int 0, r 2, r 3, r 4, r 5, .int 0, .int 0, r 6, r 7, r 8, r 9, r 10, .int 0, .long 0, .int c1, .int c2, .int 0, r 11, r 12, .int 0, .int 0, .int 0, .int 0, r 13, r 14, r 15, .int 0, r 16, .int 0, .int 0, .int 0]
theorem df5 : ∀ j, j < 38 → defaultValue (tyX5 j) = vp_V (fs5 0 0 0 (vl [])) j := by decide +kernel
set_option maxHeartbeats 4000000 in
theorem k_loopA {p : Program} {l : Launch} {e : Env} {R : Room} {s : State} {m : MethodId} {args : Array Value} {below : List Frame} {meth : Method} {c : Code} {Q : State → Prop} {K : CK} {A : Nat → Prop} {nn kk : Nat} {b a : Nat} (C : ck p s m args c K A RX5 cX5_init 2) (wf : (Nat → Int32) → va_W) {fs : List Value} (h0 : ∀ f, (wf f)[0]? = some (b, .inr (4, fs))) (hfs : fs[3]? = some (.ref a)) (h1 : ∀ f, (wf f)[2]? = some (a, arI K 5 f)) (h2 : ∀ f g, (wf f).set 2 (a, arI K 5 g) = wf g)
    (out : ∀ (f : Nat → Int32) (ls : Array Slot), (∀ j, j < 5 → f j = nI (j + 1)) → lv_has ls 2 [(0, .ref b)] → WC p l e R s m args below meth c K A (wf f) nn kk Q (F0 m 164 ls [])) :
    ∀ (t i : Nat) (f : Nat → Int32) (ls : Array Slot), i + t = 5 → (∀ j, j < i → f j = nI (j + 1)) → lv_has ls 2 [(1, .int (nI i)), (0, .ref b)] → WC p l e R s m args below meth c K A (wf f) nn kk Q (F0 m 144 ls []) := by
  intro t
  induction t with
  | zero =>
    intro i f ls h3 hf hl
    refine k_iload C dX5_init_144 rfl (lv_at hl 0 rfl) ?_
    refine k_iconst (v := 5) C dX5_init_145 (by decide) ?_
    refine k_icge (tgt := 164) C dX5_init_146 (by decide) (fun _ => ?_) (fun z => absurd (by rw [L5]; exact nI_le (by omega) (by omega)) z)
    exact out f ls (fun j hj => hf j (by omega)) (lv_sub hl [1] rfl)
  | succ t ih =>
    intro i f ls h3 hf hl
    refine k_iload C dX5_init_144 rfl (lv_at hl 0 rfl) ?_
    refine k_iconst (v := 5) C dX5_init_145 (by decide) ?_
    refine k_icge (tgt := 164) C dX5_init_146 (by decide) (fun z => absurd z (by rw [L5]; exact nI_ge (by omega) (by omega))) (fun _ => ?_)
    refine k_aload C dX5_init_149 rfl (lv_at hl 1 rfl) ?_
    refine k_get C (ci := 4) rfl in_X5 0 (h0 f) 3 (by decide) w_fl_X5_17 hfs dX5_init_150 ?_
    refine k_iload C dX5_init_153 rfl (lv_at hl 0 rfl) ?_
    refine k_iload C dX5_init_154 rfl (lv_at hl 0 rfl) ?_
    refine k_iconst (v := 1) C dX5_init_155 (by decide) ?_
    refine k_iadd C dX5_init_156 ?_
    refine k_iast C 2 (h1 f) (vp_in_nI (by omega) (by omega)) dX5_init_157 (wf (upd f (nI i).toNatClampNeg (nI i + 1))) (h2 f _) ?_
    refine k_iinc (v := nI (i + 1)) (lv2 := [(1, .int (nI (i + 1))), (0, .ref b)]) C dX5_init_158 hl (j := 0) rfl (nI_1 i) (by decide) rfl (fun ls hl => ?_)
    refine k_goto (tgt := 144) C dX5_init_161 (by decide) ?_
    refine ih (i + 1) _ ls (by omega) (fun j hj => ?_) hl
    rw [nI_clamp (by omega)]
    by_cases q : j = i
    · rw [q, upd_at, nI_1]
    · rw [upd_ne _ _ q]
      exact hf j (by omega)
theorem A18i (i : Nat) : (18 : Int32) + nI i = nI (18 + i) := by rw [L18, nI_add]
set_option maxHeartbeats 4000000 in
theorem k_loopB {p : Program} {l : Launch} {e : Env} {R : Room} {s : State} {m : MethodId} {args : Array Value} {below : List Frame} {meth : Method} {c : Code} {Q : State → Prop} {K : CK} {A : Nat → Prop} {nn kk : Nat} {b a : Nat} (C : ck p s m args c K A RX5 cX5_init 2) (wf : (Nat → Int32) → va_W) {fs : List Value} (h0 : ∀ f, (wf f)[0]? = some (b, .inr (4, fs))) (hfs : fs[9]? = some (.ref a)) (h1 : ∀ f, (wf f)[4]? = some (a, arI K 103 f)) (h2 : ∀ f g, (wf f).set 4 (a, arI K 103 g) = wf g)
    (out : ∀ (f : Nat → Int32) (ls : Array Slot), (∀ j, f j = z14 j) → WC p l e R s m args below meth c K A (wf f) nn kk Q (F0 m 201 ls [])) :
    ∀ (t i : Nat) (f : Nat → Int32) (ls : Array Slot), i + t = 9 → (∀ j, f j = if 18 ≤ j ∧ j < 18 + i then -9 else 0) → lv_has ls 2 [(1, .int (nI i)), (0, .ref b)] → WC p l e R s m args below meth c K A (wf f) nn kk Q (F0 m 178 ls []) := by
  intro t
  induction t with
  | zero =>
    intro i f ls h3 hf hl
    refine k_iload C dX5_init_178 rfl (lv_at hl 0 rfl) ?_
    refine k_bipush (v := 9) C dX5_init_179 (by decide) ?_
    refine k_icge (tgt := 201) C dX5_init_181 (by decide) (fun _ => ?_) (fun z => absurd (by rw [L9]; exact nI_le (by omega) (by omega)) z)
    refine out f ls (fun j => ?_)
    rw [hf j, show i = 9 by omega]
    rfl
  | succ t ih =>
    intro i f ls h3 hf hl
    refine k_iload C dX5_init_178 rfl (lv_at hl 0 rfl) ?_
    refine k_bipush (v := 9) C dX5_init_179 (by decide) ?_
    refine k_icge (tgt := 201) C dX5_init_181 (by decide) (fun z => absurd z (by rw [L9]; exact nI_ge (by omega) (by omega))) (fun _ => ?_)
    refine k_aload C dX5_init_184 rfl (lv_at hl 1 rfl) ?_
    refine k_get C (ci := 4) rfl in_X5 0 (h0 f) 9 (by decide) w_fl_X5_23 hfs dX5_init_185 ?_
    refine k_bipush (v := 18) C dX5_init_188 (by decide) ?_
    refine k_iload C dX5_init_190 rfl (lv_at hl 0 rfl) ?_
    refine k_iadd C dX5_init_191 ?_
    refine k_bipush (v := -9) C dX5_init_192 (by decide) ?_
    refine k_iast C 4 (h1 f) (by rw [A18i]; exact vp_in_nI (by omega) (by omega)) dX5_init_194 (wf (upd f ((18 : Int32) + nI i).toNatClampNeg (-9))) (h2 f _) ?_
    refine k_iinc (v := nI (i + 1)) (lv2 := [(1, .int (nI (i + 1))), (0, .ref b)]) C dX5_init_195 hl (j := 0) rfl (nI_1 i) (by decide) rfl (fun ls hl => ?_)
    refine k_goto (tgt := 178) C dX5_init_198 (by decide) ?_
    refine ih (i + 1) _ ls (by omega) (fun j => ?_) hl
    rw [A18i, nI_clamp (by omega)]
    by_cases q : j = 18 + i
    · rw [q, upd_at, if_pos (by omega)]
    · rw [upd_ne _ _ q, hf j]
      by_cases z : 18 ≤ j ∧ j < 18 + i
      · rw [if_pos z, if_pos (by omega)]
      · rw [if_neg z, if_neg (by omega)]
abbrev S5 : Type := (Nat → Nat) × (Nat → Int32) × (Nat → Int32)
def mw (K : CK) (c1 c2 : Int32) (t : Nat → Nat) (f g : Nat → Int32) : va_W := [(t 0, .inr (4, fs5 6 c1 c2 (vl [.ref (t 1), .ref (t 2), .ref (t 3), .ref (t 4), .ref (t 5), .ref (t 6), .ref (t 7), .ref (t 8), .ref (t 9), .ref (t 10), .ref (t 11), .ref (t 12), .ref (t 13), .ref (t 14), .ref (t 15), .ref (t 16), .ref (t 17)]))), (t 1, arI K 90 z0), (t 2, arI K 5 f), (t 3, arI K 4 z0), (t 4, arI K 103 g), (t 5, arI K 103 z0), (t 6, arI K 1442 z0), (t 7, arI K 206 z0), (t 8, arB K 2 z0), (t 9, arI K 6 z0), (t 10, arI K 6 z0), (t 11, arI K 6 z0), (t 12, arI K 16 z0), (t 13, arI K 6 z0), (t 14, arI K 4 z0), (t 15, arI K 4 z0), (t 16, arI K 2 z0), (t 17, arI K 24 z0)]
def w5 (K : CK) (u : S5) : va_W := mw K 15 (-9) u.1 u.2.1 u.2.2
def p5 (b : Nat) (u : S5) : Prop := u.1 0 = b ∧ (∀ j, j < 5 → u.2.1 j = nI (j + 1)) ∧ ∀ j, u.2.2 j = z14 j
set_option maxHeartbeats 8000000 in
theorem c_X5_init (l : Launch) (K : CK) (b : Nat) : MK l K yX5_init cX5_init 2 1 17 2029 [.ref b] [(b, .inr (4, fs5 0 0 0 (vl [])))] (w5 K) (p5 b) := by
  refine MK_of (by decide) (Nat.le_of_ble_eq_true rfl) rfl ?_
  intro p e s m args below meth c ls A C hname hret hlk hA hl
  have hl : lv_has ls 2 [(0, .ref b)] := hl
  refine k_aload C dX5_init_0 rfl (lv_at hl 0 rfl) ?_
  refine k_obj C w_mo_X5 hl.1 (by decide) (by decide) dX5_init_1 ?_
  refine k_aload C dX5_init_4 rfl (lv_at hl 0 rfl) ?_
  refine k_bipush (v := 90) C dX5_init_5 (by decide) ?_
  refine k_newi C 90 rfl (by decide) (Nat.le_of_ble_eq_true rfl) (Nat.le_of_ble_eq_true rfl) dX5_init_7 (fun q1 => ?_)
  refine k_putF C hname (ci := 4) rfl in_X5 tyX5_ok nmX5 0 (fs := fs5 0 0 0 (vl [])) rfl 0 (by decide) w_fl_X5_7 rfl rfl (by rfl) (by rfl) (Nat.le_of_ble_eq_true rfl) dX5_init_9 ([(b, .inr (4, fs5 0 0 0 (vl [.ref q1]))), (q1, arI K 90 z0)]) rfl ?_
  refine k_aload C dX5_init_12 rfl (lv_at hl 0 rfl) ?_
  refine k_bipush (v := 6) C dX5_init_13 (by decide) ?_
  refine k_put C (ci := 4) rfl in_X5 tyX5_ok nmX5 0 (fs := fs5 0 0 0 (vl [.ref q1])) rfl 2 (by decide) w_fl_X5_13 rfl (by rfl) (by rfl) (Nat.le_of_ble_eq_true rfl) dX5_init_15 ([(b, .inr (4, fs5 6 0 0 (vl [.ref q1]))), (q1, arI K 90 z0)]) rfl ?_
  refine k_aload C dX5_init_18 rfl (lv_at hl 0 rfl) ?_
  refine k_iconst (v := 5) C dX5_init_19 (by decide) ?_
  refine k_newi C 5 rfl (by decide) (Nat.le_of_ble_eq_true rfl) (Nat.le_of_ble_eq_true rfl) dX5_init_20 (fun q2 => ?_)
  refine k_putF C hname (ci := 4) rfl in_X5 tyX5_ok nmX5 0 (fs := fs5 6 0 0 (vl [.ref q1])) rfl 3 (by decide) w_fl_X5_17 rfl rfl (by rfl) (by rfl) (Nat.le_of_ble_eq_true rfl) dX5_init_22 ([(b, .inr (4, fs5 6 0 0 (vl [.ref q1, .ref q2]))), (q1, arI K 90 z0), (q2, arI K 5 z0)]) rfl ?_
  refine k_aload C dX5_init_25 rfl (lv_at hl 0 rfl) ?_
  refine k_iconst (v := 4) C dX5_init_26 (by decide) ?_
  refine k_newi C 4 rfl (by decide) (Nat.le_of_ble_eq_true rfl) (Nat.le_of_ble_eq_true rfl) dX5_init_27 (fun q3 => ?_)
  refine k_putF C hname (ci := 4) rfl in_X5 tyX5_ok nmX5 0 (fs := fs5 6 0 0 (vl [.ref q1, .ref q2])) rfl 8 (by decide) w_fl_X5_20 rfl rfl (by rfl) (by rfl) (Nat.le_of_ble_eq_true rfl) dX5_init_29 ([(b, .inr (4, fs5 6 0 0 (vl [.ref q1, .ref q2, .ref q3]))), (q1, arI K 90 z0), (q2, arI K 5 z0), (q3, arI K 4 z0)]) rfl ?_
  refine k_aload C dX5_init_32 rfl (lv_at hl 0 rfl) ?_
  refine k_bipush (v := 103) C dX5_init_33 (by decide) ?_
  refine k_newi C 103 rfl (by decide) (Nat.le_of_ble_eq_true rfl) (Nat.le_of_ble_eq_true rfl) dX5_init_35 (fun q4 => ?_)
  refine k_putF C hname (ci := 4) rfl in_X5 tyX5_ok nmX5 0 (fs := fs5 6 0 0 (vl [.ref q1, .ref q2, .ref q3])) rfl 9 (by decide) w_fl_X5_23 rfl rfl (by rfl) (by rfl) (Nat.le_of_ble_eq_true rfl) dX5_init_37 ([(b, .inr (4, fs5 6 0 0 (vl [.ref q1, .ref q2, .ref q3, .ref q4]))), (q1, arI K 90 z0), (q2, arI K 5 z0), (q3, arI K 4 z0), (q4, arI K 103 z0)]) rfl ?_
  refine k_aload C dX5_init_40 rfl (lv_at hl 0 rfl) ?_
  refine k_bipush (v := 103) C dX5_init_41 (by decide) ?_
  refine k_newi C 103 rfl (by decide) (Nat.le_of_ble_eq_true rfl) (Nat.le_of_ble_eq_true rfl) dX5_init_43 (fun q5 => ?_)
  refine k_putF C hname (ci := 4) rfl in_X5 tyX5_ok nmX5 0 (fs := fs5 6 0 0 (vl [.ref q1, .ref q2, .ref q3, .ref q4])) rfl 10 (by decide) w_fl_X5_26 rfl rfl (by rfl) (by rfl) (Nat.le_of_ble_eq_true rfl) dX5_init_45 ([(b, .inr (4, fs5 6 0 0 (vl [.ref q1, .ref q2, .ref q3, .ref q4, .ref q5]))), (q1, arI K 90 z0), (q2, arI K 5 z0), (q3, arI K 4 z0), (q4, arI K 103 z0), (q5, arI K 103 z0)]) rfl ?_
  refine k_aload C dX5_init_48 rfl (lv_at hl 0 rfl) ?_
  refine k_sipush (v := 1442) C dX5_init_49 (by decide) ?_
  refine k_newi C 1442 rfl (by decide) (Nat.le_of_ble_eq_true rfl) (Nat.le_of_ble_eq_true rfl) dX5_init_52 (fun q6 => ?_)
  refine k_putF C hname (ci := 4) rfl in_X5 tyX5_ok nmX5 0 (fs := fs5 6 0 0 (vl [.ref q1, .ref q2, .ref q3, .ref q4, .ref q5])) rfl 11 (by decide) w_fl_X5_29 rfl rfl (by rfl) (by rfl) (Nat.le_of_ble_eq_true rfl) dX5_init_54 ([(b, .inr (4, fs5 6 0 0 (vl [.ref q1, .ref q2, .ref q3, .ref q4, .ref q5, .ref q6]))), (q1, arI K 90 z0), (q2, arI K 5 z0), (q3, arI K 4 z0), (q4, arI K 103 z0), (q5, arI K 103 z0), (q6, arI K 1442 z0)]) rfl ?_
  refine k_aload C dX5_init_57 rfl (lv_at hl 0 rfl) ?_
  refine k_sipush (v := 206) C dX5_init_58 (by decide) ?_
  refine k_newi C 206 rfl (by decide) (Nat.le_of_ble_eq_true rfl) (Nat.le_of_ble_eq_true rfl) dX5_init_61 (fun q7 => ?_)
  refine k_putF C hname (ci := 4) rfl in_X5 tyX5_ok nmX5 0 (fs := fs5 6 0 0 (vl [.ref q1, .ref q2, .ref q3, .ref q4, .ref q5, .ref q6])) rfl 14 (by decide) w_fl_X5_32 rfl rfl (by rfl) (by rfl) (Nat.le_of_ble_eq_true rfl) dX5_init_63 ([(b, .inr (4, fs5 6 0 0 (vl [.ref q1, .ref q2, .ref q3, .ref q4, .ref q5, .ref q6, .ref q7]))), (q1, arI K 90 z0), (q2, arI K 5 z0), (q3, arI K 4 z0), (q4, arI K 103 z0), (q5, arI K 103 z0), (q6, arI K 1442 z0), (q7, arI K 206 z0)]) rfl ?_
  refine k_aload C dX5_init_66 rfl (lv_at hl 0 rfl) ?_
  refine k_iconst (v := 2) C dX5_init_67 (by decide) ?_
  refine k_newb C 2 rfl (by decide) (Nat.le_of_ble_eq_true rfl) (Nat.le_of_ble_eq_true rfl) dX5_init_68 (fun q8 => ?_)
  refine k_putF C hname (ci := 4) rfl in_X5 tyX5_ok nmX5 0 (fs := fs5 6 0 0 (vl [.ref q1, .ref q2, .ref q3, .ref q4, .ref q5, .ref q6, .ref q7])) rfl 15 (by decide) w_fl_X5_35 rfl rfl (by rfl) (by rfl) (Nat.le_of_ble_eq_true rfl) dX5_init_70 ([(b, .inr (4, fs5 6 0 0 (vl [.ref q1, .ref q2, .ref q3, .ref q4, .ref q5, .ref q6, .ref q7, .ref q8]))), (q1, arI K 90 z0), (q2, arI K 5 z0), (q3, arI K 4 z0), (q4, arI K 103 z0), (q5, arI K 103 z0), (q6, arI K 1442 z0), (q7, arI K 206 z0), (q8, arB K 2 z0)]) rfl ?_
  refine k_aload C dX5_init_73 rfl (lv_at hl 0 rfl) ?_
  refine k_bipush (v := 6) C dX5_init_74 (by decide) ?_
  refine k_newi C 6 rfl (by decide) (Nat.le_of_ble_eq_true rfl) (Nat.le_of_ble_eq_true rfl) dX5_init_76 (fun q9 => ?_)
  refine k_putF C hname (ci := 4) rfl in_X5 tyX5_ok nmX5 0 (fs := fs5 6 0 0 (vl [.ref q1, .ref q2, .ref q3, .ref q4, .ref q5, .ref q6, .ref q7, .ref q8])) rfl 16 (by decide) w_fl_X5_39 rfl rfl (by rfl) (by rfl) (Nat.le_of_ble_eq_true rfl) dX5_init_78 ([(b, .inr (4, fs5 6 0 0 (vl [.ref q1, .ref q2, .ref q3, .ref q4, .ref q5, .ref q6, .ref q7, .ref q8, .ref q9]))), (q1, arI K 90 z0), (q2, arI K 5 z0), (q3, arI K 4 z0), (q4, arI K 103 z0), (q5, arI K 103 z0), (q6, arI K 1442 z0), (q7, arI K 206 z0), (q8, arB K 2 z0), (q9, arI K 6 z0)]) rfl ?_
  refine k_aload C dX5_init_81 rfl (lv_at hl 0 rfl) ?_
  refine k_bipush (v := 6) C dX5_init_82 (by decide) ?_
  refine k_newi C 6 rfl (by decide) (Nat.le_of_ble_eq_true rfl) (Nat.le_of_ble_eq_true rfl) dX5_init_84 (fun q10 => ?_)
  refine k_putF C hname (ci := 4) rfl in_X5 tyX5_ok nmX5 0 (fs := fs5 6 0 0 (vl [.ref q1, .ref q2, .ref q3, .ref q4, .ref q5, .ref q6, .ref q7, .ref q8, .ref q9])) rfl 17 (by decide) w_fl_X5_42 rfl rfl (by rfl) (by rfl) (Nat.le_of_ble_eq_true rfl) dX5_init_86 ([(b, .inr (4, fs5 6 0 0 (vl [.ref q1, .ref q2, .ref q3, .ref q4, .ref q5, .ref q6, .ref q7, .ref q8, .ref q9, .ref q10]))), (q1, arI K 90 z0), (q2, arI K 5 z0), (q3, arI K 4 z0), (q4, arI K 103 z0), (q5, arI K 103 z0), (q6, arI K 1442 z0), (q7, arI K 206 z0), (q8, arB K 2 z0), (q9, arI K 6 z0), (q10, arI K 6 z0)]) rfl ?_
  refine k_aload C dX5_init_89 rfl (lv_at hl 0 rfl) ?_
  refine k_bipush (v := 6) C dX5_init_90 (by decide) ?_
  refine k_newi C 6 rfl (by decide) (Nat.le_of_ble_eq_true rfl) (Nat.le_of_ble_eq_true rfl) dX5_init_92 (fun q11 => ?_)
  refine k_putF C hname (ci := 4) rfl in_X5 tyX5_ok nmX5 0 (fs := fs5 6 0 0 (vl [.ref q1, .ref q2, .ref q3, .ref q4, .ref q5, .ref q6, .ref q7, .ref q8, .ref q9, .ref q10])) rfl 18 (by decide) w_fl_X5_45 rfl rfl (by rfl) (by rfl) (Nat.le_of_ble_eq_true rfl) dX5_init_94 ([(b, .inr (4, fs5 6 0 0 (vl [.ref q1, .ref q2, .ref q3, .ref q4, .ref q5, .ref q6, .ref q7, .ref q8, .ref q9, .ref q10, .ref q11]))), (q1, arI K 90 z0), (q2, arI K 5 z0), (q3, arI K 4 z0), (q4, arI K 103 z0), (q5, arI K 103 z0), (q6, arI K 1442 z0), (q7, arI K 206 z0), (q8, arB K 2 z0), (q9, arI K 6 z0), (q10, arI K 6 z0), (q11, arI K 6 z0)]) rfl ?_
  refine k_aload C dX5_init_97 rfl (lv_at hl 0 rfl) ?_
  refine k_bipush (v := 16) C dX5_init_98 (by decide) ?_
  refine k_newi C 16 rfl (by decide) (Nat.le_of_ble_eq_true rfl) (Nat.le_of_ble_eq_true rfl) dX5_init_100 (fun q12 => ?_)
  refine k_putF C hname (ci := 4) rfl in_X5 tyX5_ok nmX5 0 (fs := fs5 6 0 0 (vl [.ref q1, .ref q2, .ref q3, .ref q4, .ref q5, .ref q6, .ref q7, .ref q8, .ref q9, .ref q10, .ref q11])) rfl 24 (by decide) w_fl_X5_48 rfl rfl (by rfl) (by rfl) (Nat.le_of_ble_eq_true rfl) dX5_init_102 ([(b, .inr (4, fs5 6 0 0 (vl [.ref q1, .ref q2, .ref q3, .ref q4, .ref q5, .ref q6, .ref q7, .ref q8, .ref q9, .ref q10, .ref q11, .ref q12]))), (q1, arI K 90 z0), (q2, arI K 5 z0), (q3, arI K 4 z0), (q4, arI K 103 z0), (q5, arI K 103 z0), (q6, arI K 1442 z0), (q7, arI K 206 z0), (q8, arB K 2 z0), (q9, arI K 6 z0), (q10, arI K 6 z0), (q11, arI K 6 z0), (q12, arI K 16 z0)]) rfl ?_
  refine k_aload C dX5_init_105 rfl (lv_at hl 0 rfl) ?_
  refine k_bipush (v := 6) C dX5_init_106 (by decide) ?_
  refine k_newi C 6 rfl (by decide) (Nat.le_of_ble_eq_true rfl) (Nat.le_of_ble_eq_true rfl) dX5_init_108 (fun q13 => ?_)
  refine k_putF C hname (ci := 4) rfl in_X5 tyX5_ok nmX5 0 (fs := fs5 6 0 0 (vl [.ref q1, .ref q2, .ref q3, .ref q4, .ref q5, .ref q6, .ref q7, .ref q8, .ref q9, .ref q10, .ref q11, .ref q12])) rfl 25 (by decide) w_fl_X5_51 rfl rfl (by rfl) (by rfl) (Nat.le_of_ble_eq_true rfl) dX5_init_110 ([(b, .inr (4, fs5 6 0 0 (vl [.ref q1, .ref q2, .ref q3, .ref q4, .ref q5, .ref q6, .ref q7, .ref q8, .ref q9, .ref q10, .ref q11, .ref q12, .ref q13]))), (q1, arI K 90 z0), (q2, arI K 5 z0), (q3, arI K 4 z0), (q4, arI K 103 z0), (q5, arI K 103 z0), (q6, arI K 1442 z0), (q7, arI K 206 z0), (q8, arB K 2 z0), (q9, arI K 6 z0), (q10, arI K 6 z0), (q11, arI K 6 z0), (q12, arI K 16 z0), (q13, arI K 6 z0)]) rfl ?_
  refine k_aload C dX5_init_113 rfl (lv_at hl 0 rfl) ?_
  refine k_iconst (v := 4) C dX5_init_114 (by decide) ?_
  refine k_newi C 4 rfl (by decide) (Nat.le_of_ble_eq_true rfl) (Nat.le_of_ble_eq_true rfl) dX5_init_115 (fun q14 => ?_)
  refine k_putF C hname (ci := 4) rfl in_X5 tyX5_ok nmX5 0 (fs := fs5 6 0 0 (vl [.ref q1, .ref q2, .ref q3, .ref q4, .ref q5, .ref q6, .ref q7, .ref q8, .ref q9, .ref q10, .ref q11, .ref q12, .ref q13])) rfl 30 (by decide) w_fl_X5_54 rfl rfl (by rfl) (by rfl) (Nat.le_of_ble_eq_true rfl) dX5_init_117 ([(b, .inr (4, fs5 6 0 0 (vl [.ref q1, .ref q2, .ref q3, .ref q4, .ref q5, .ref q6, .ref q7, .ref q8, .ref q9, .ref q10, .ref q11, .ref q12, .ref q13, .ref q14]))), (q1, arI K 90 z0), (q2, arI K 5 z0), (q3, arI K 4 z0), (q4, arI K 103 z0), (q5, arI K 103 z0), (q6, arI K 1442 z0), (q7, arI K 206 z0), (q8, arB K 2 z0), (q9, arI K 6 z0), (q10, arI K 6 z0), (q11, arI K 6 z0), (q12, arI K 16 z0), (q13, arI K 6 z0), (q14, arI K 4 z0)]) rfl ?_
  refine k_aload C dX5_init_120 rfl (lv_at hl 0 rfl) ?_
  refine k_iconst (v := 4) C dX5_init_121 (by decide) ?_
  refine k_newi C 4 rfl (by decide) (Nat.le_of_ble_eq_true rfl) (Nat.le_of_ble_eq_true rfl) dX5_init_122 (fun q15 => ?_)
  refine k_putF C hname (ci := 4) rfl in_X5 tyX5_ok nmX5 0 (fs := fs5 6 0 0 (vl [.ref q1, .ref q2, .ref q3, .ref q4, .ref q5, .ref q6, .ref q7, .ref q8, .ref q9, .ref q10, .ref q11, .ref q12, .ref q13, .ref q14])) rfl 31 (by decide) w_fl_X5_57 rfl rfl (by rfl) (by rfl) (Nat.le_of_ble_eq_true rfl) dX5_init_124 ([(b, .inr (4, fs5 6 0 0 (vl [.ref q1, .ref q2, .ref q3, .ref q4, .ref q5, .ref q6, .ref q7, .ref q8, .ref q9, .ref q10, .ref q11, .ref q12, .ref q13, .ref q14, .ref q15]))), (q1, arI K 90 z0), (q2, arI K 5 z0), (q3, arI K 4 z0), (q4, arI K 103 z0), (q5, arI K 103 z0), (q6, arI K 1442 z0), (q7, arI K 206 z0), (q8, arB K 2 z0), (q9, arI K 6 z0), (q10, arI K 6 z0), (q11, arI K 6 z0), (q12, arI K 16 z0), (q13, arI K 6 z0), (q14, arI K 4 z0), (q15, arI K 4 z0)]) rfl ?_
  refine k_aload C dX5_init_127 rfl (lv_at hl 0 rfl) ?_
  refine k_iconst (v := 2) C dX5_init_128 (by decide) ?_
  refine k_newi C 2 rfl (by decide) (Nat.le_of_ble_eq_true rfl) (Nat.le_of_ble_eq_true rfl) dX5_init_129 (fun q16 => ?_)
  refine k_putF C hname (ci := 4) rfl in_X5 tyX5_ok nmX5 0 (fs := fs5 6 0 0 (vl [.ref q1, .ref q2, .ref q3, .ref q4, .ref q5, .ref q6, .ref q7, .ref q8, .ref q9, .ref q10, .ref q11, .ref q12, .ref q13, .ref q14, .ref q15])) rfl 32 (by decide) w_fl_X5_60 rfl rfl (by rfl) (by rfl) (Nat.le_of_ble_eq_true rfl) dX5_init_131 ([(b, .inr (4, fs5 6 0 0 (vl [.ref q1, .ref q2, .ref q3, .ref q4, .ref q5, .ref q6, .ref q7, .ref q8, .ref q9, .ref q10, .ref q11, .ref q12, .ref q13, .ref q14, .ref q15, .ref q16]))), (q1, arI K 90 z0), (q2, arI K 5 z0), (q3, arI K 4 z0), (q4, arI K 103 z0), (q5, arI K 103 z0), (q6, arI K 1442 z0), (q7, arI K 206 z0), (q8, arB K 2 z0), (q9, arI K 6 z0), (q10, arI K 6 z0), (q11, arI K 6 z0), (q12, arI K 16 z0), (q13, arI K 6 z0), (q14, arI K 4 z0), (q15, arI K 4 z0), (q16, arI K 2 z0)]) rfl ?_
  refine k_aload C dX5_init_134 rfl (lv_at hl 0 rfl) ?_
  refine k_bipush (v := 24) C dX5_init_135 (by decide) ?_
  refine k_newi C 24 rfl (by decide) (Nat.le_of_ble_eq_true rfl) (Nat.le_of_ble_eq_true rfl) dX5_init_137 (fun q17 => ?_)
  refine k_putF C hname (ci := 4) rfl in_X5 tyX5_ok nmX5 0 (fs := fs5 6 0 0 (vl [.ref q1, .ref q2, .ref q3, .ref q4, .ref q5, .ref q6, .ref q7, .ref q8, .ref q9, .ref q10, .ref q11, .ref q12, .ref q13, .ref q14, .ref q15, .ref q16])) rfl 34 (by decide) w_fl_X5_63 rfl rfl (by rfl) (by rfl) (Nat.le_of_ble_eq_true rfl) dX5_init_139 ([(b, .inr (4, fs5 6 0 0 (vl [.ref q1, .ref q2, .ref q3, .ref q4, .ref q5, .ref q6, .ref q7, .ref q8, .ref q9, .ref q10, .ref q11, .ref q12, .ref q13, .ref q14, .ref q15, .ref q16, .ref q17]))), (q1, arI K 90 z0), (q2, arI K 5 z0), (q3, arI K 4 z0), (q4, arI K 103 z0), (q5, arI K 103 z0), (q6, arI K 1442 z0), (q7, arI K 206 z0), (q8, arB K 2 z0), (q9, arI K 6 z0), (q10, arI K 6 z0), (q11, arI K 6 z0), (q12, arI K 16 z0), (q13, arI K 6 z0), (q14, arI K 4 z0), (q15, arI K 4 z0), (q16, arI K 2 z0), (q17, arI K 24 z0)]) rfl ?_
  refine k_iconst (v := 0) C dX5_init_142 (by decide) ?_
  refine k_istore (lv2 := [(1, .int 0), (0, .ref b)]) C dX5_init_143 rfl hl (by decide) rfl (fun ls hl => ?_)
  refine k_eq (ws2 := mw K 0 0 (adl [b, q1, q2, q3, q4, q5, q6, q7, q8, q9, q10, q11, q12, q13, q14, q15, q16, q17]) z0 z0) rfl ?_
  refine k_loopA C (fun f => mw K 0 0 (adl [b, q1, q2, q3, q4, q5, q6, q7, q8, q9, q10, q11, q12, q13, q14, q15, q16, q17]) f z0) (fs := fs5 6 0 0 (vl [.ref q1, .ref q2, .ref q3, .ref q4, .ref q5, .ref q6, .ref q7, .ref q8, .ref q9, .ref q10, .ref q11, .ref q12, .ref q13, .ref q14, .ref q15, .ref q16, .ref q17])) (fun _ => rfl) rfl (fun _ => rfl) (fun _ _ => rfl) (fun f ls hf hl => ?_) 5 0 z0 ls (by omega) (fun j hj => by omega) hl
  refine k_aload C dX5_init_164 rfl (lv_at hl 0 rfl) ?_
  refine k_bipush (v := 15) C dX5_init_165 (by decide) ?_
  refine k_put C (ci := 4) rfl in_X5 tyX5_ok nmX5 0 (fs := fs5 6 0 0 (vl [.ref q1, .ref q2, .ref q3, .ref q4, .ref q5, .ref q6, .ref q7, .ref q8, .ref q9, .ref q10, .ref q11, .ref q12, .ref q13, .ref q14, .ref q15, .ref q16, .ref q17])) rfl 21 (by decide) w_fl_X5_66 rfl (by rfl) (by rfl) (Nat.le_of_ble_eq_true rfl) dX5_init_167 (mw K 15 0 (adl [b, q1, q2, q3, q4, q5, q6, q7, q8, q9, q10, q11, q12, q13, q14, q15, q16, q17]) f z0) rfl ?_
  refine k_aload C dX5_init_170 rfl (lv_at hl 0 rfl) ?_
  refine k_bipush (v := -9) C dX5_init_171 (by decide) ?_
  refine k_put C (ci := 4) rfl in_X5 tyX5_ok nmX5 0 (fs := fs5 6 15 0 (vl [.ref q1, .ref q2, .ref q3, .ref q4, .ref q5, .ref q6, .ref q7, .ref q8, .ref q9, .ref q10, .ref q11, .ref q12, .ref q13, .ref q14, .ref q15, .ref q16, .ref q17])) rfl 22 (by decide) w_fl_X5_69 rfl (by rfl) (by rfl) (Nat.le_of_ble_eq_true rfl) dX5_init_173 (mw K 15 (-9) (adl [b, q1, q2, q3, q4, q5, q6, q7, q8, q9, q10, q11, q12, q13, q14, q15, q16, q17]) f z0) rfl ?_
  refine k_iconst (v := 0) C dX5_init_176 (by decide) ?_
  refine k_istore (lv2 := [(1, .int 0), (0, .ref b)]) C dX5_init_177 rfl hl (by decide) rfl (fun ls hl => ?_)
  refine k_loopB C (fun g => mw K 15 (-9) (adl [b, q1, q2, q3, q4, q5, q6, q7, q8, q9, q10, q11, q12, q13, q14, q15, q16, q17]) f g) (fs := fs5 6 15 (-9) (vl [.ref q1, .ref q2, .ref q3, .ref q4, .ref q5, .ref q6, .ref q7, .ref q8, .ref q9, .ref q10, .ref q11, .ref q12, .ref q13, .ref q14, .ref q15, .ref q16, .ref q17])) (fun _ => rfl) rfl (fun _ => rfl) (fun _ _ => rfl) (fun g ls hg => ?_) 9 0 z0 ls (by omega) (fun j => by rw [if_neg (by omega)]; rfl) hl
  exact k_vret (wp := w5 K) (post := p5 b) C hret hlk (adl [b, q1, q2, q3, q4, q5, q6, q7, q8, q9, q10, q11, q12, q13, q14, q15, q16, q17], f, g) ⟨rfl, hf, hg⟩ hA rfl dX5_init_201
