-- the constructor of BottleLine
def arQ (K : CK) (n : Nat) (f : Nat → Option Nat) : va_E := .inl (K.2.2.2, n, .inr (.inr (.inr (.inr f))))
def arB (K : CK) (n : Nat) (f : Nat → Int32) : va_E := .inl (K.2.2.1, n, .inl f)
def vl (L : List Value) : Nat → Value := fun i => L.getD i .null
def adl (L : List Nat) : Nat → Nat := fun i => L.getD i 0
def fs4 (r : Nat → Value) : List Value := [r 0, .int 0, r 1, r 2, r 3, r 4, r 5, .int 0, .int 0, r 6, r 7, r 8, r 9, r 10, .int 0, .long 0]
def rfL (L : List (Nat → Nat)) : Nat → Option Nat := fun j => (L[j]?).map (fun a => a 0)
theorem rf_push (L : List (Nat → Nat)) (a : Nat → Nat) : va_up (rfL L) L.length (some (a 0)) = rfL (L ++ [a]) := by
  funext j
  unfold rfL va_up
  by_cases h : j = L.length
  · rw [if_pos h, h]
    simp
  · rw [if_neg h]
    by_cases h2 : j < L.length
    · rw [List.getElem?_append_left h2]
    · have e1 : L[j]? = none := List.getElem?_eq_none (by omega)
      have e2 : (L ++ [a])[j]? = none := List.getElem?_eq_none (by rw [List.length_append]; show L.length + 1 ≤ j; omega)
      show (L[j]?).map (fun a : Nat → Nat => a 0) = ((L ++ [a])[j]?).map (fun a : Nat → Nat => a 0)
      rw [e1, e2]
theorem rf_nil : rfL [] = fun _ => none := by
  funext j
  unfold rfL
  simp
theorem ap_l {α : Type} {u v : List α} {i : Nat} {x : α} (h : u[i]? = some x) : (u ++ v)[i]? = some x := by
  have hl : i < u.length := (List.getElem?_eq_some_iff.mp h).1
  rw [List.getElem?_append_left hl]
  exact h
theorem ap_s {α : Type} {u v : List α} {i : Nat} {x y : α} (h : u[i]? = some x) : (u ++ v).set i y = u.set i y ++ v := by
  have hl : i < u.length := (List.getElem?_eq_some_iff.mp h).1
  rw [List.set_append, if_pos hl]
theorem at_len {α : Type} (u v : List α) (x : α) : (u ++ x :: v)[u.length]? = some x := by simp
def blk (K : CK) (pa : Nat) (L : List (Nat → Nat)) : va_W := L.flatMap (stW K pa)
theorem blk_push (K : CK) (pa : Nat) (L : List (Nat → Nat)) (a : Nat → Nat) : blk K pa (L ++ [a]) = blk K pa L ++ stW K pa a := by
  unfold blk
  rw [List.flatMap_append]
  simp

set_option maxHeartbeats 4000000 in
theorem k_loopP {p : Program} {l : Launch} {e : Env} {R : Room} {s : State} {m : MethodId} {args : Array Value} {below : List Frame} {meth : Method} {c : Code} {Q : State → Prop} {K : CK} {A : Nat → Prop} {n0 k0 b qa pa : Nat} (C : ck p s m args c K A RX4 cX4_init 2) (wf : (Nat → Option Nat) → va_W) (Y : va_W) {fs : List Value} (q0 : Nat) (h0 : ∀ g, (wf g)[0]? = some (b, .inr (3, fs))) (hf1 : fs[6]? = some (.ref qa)) (hf2 : fs[3]? = some (.ref pa)) (h1 : ∀ g, (wf g)[q0]? = some (qa, arQ K 14 g)) (h2 : ∀ g g', (wf g).set q0 (qa, arQ K 14 g') = wf g') (hf : 2 ≤ R.frames) (hlo : 66 ≤ R.locals) (hcs : n0 + 70 ≤ R.cells) (hss : k0 + 896 ≤ R.slots)
    (out : ∀ (L : List (Nat → Nat)) (ls : Array Slot), L.length = 14 → lv_has ls 2 [(0, .ref b)] → WC p l e R s m args below meth c K A (wf (rfL L) ++ (Y ++ blk K pa L)) (n0 + 70) (k0 + 896) Q (F0 m 143 ls [])) :
    ∀ (t : Nat) (L : List (Nat → Nat)) (ls : Array Slot) (n k : Nat), L.length + t = 14 → n = n0 + 5 * L.length → k = k0 + 64 * L.length → lv_has ls 2 [(1, .int (nI L.length)), (0, .ref b)] → WC p l e R s m args below meth c K A (wf (rfL L) ++ (Y ++ blk K pa L)) n k Q (F0 m 114 ls []) := by
  intro t
  induction t with
  | zero =>
    intro L ls n k h3 hn hk hl
    refine k_iload C dX4_init_114 rfl (lv_at hl 0 rfl) ?_
    refine k_bipush (v := 14) C dX4_init_115 (by decide) ?_
    refine k_icge (tgt := 143) C dX4_init_117 (by decide) (fun _ => ?_) (fun z => absurd (by rw [L14]; exact nI_le (by omega) (by omega)) z)
    have e1 : n = n0 + 70 := by omega
    have e2 : k = k0 + 896 := by omega
    rw [e1, e2]
    exact out L ls (by omega) (lv_sub hl [1] rfl)
  | succ t ih =>
    intro L ls n k h3 hn hk hl
    refine k_iload C dX4_init_114 rfl (lv_at hl 0 rfl) ?_
    refine k_bipush (v := 14) C dX4_init_115 (by decide) ?_
    refine k_icge (tgt := 143) C dX4_init_117 (by decide) (fun z => absurd z (by rw [L14]; exact nI_ge (by omega) (by omega))) (fun _ => ?_)
    refine k_aload C dX4_init_120 rfl (lv_at hl 1 rfl) ?_
    refine k_get C (ci := 3) rfl in_X4 0 (ap_l (h0 _)) 6 (by decide) w_fl_X4_39 hf1 dX4_init_121 ?_
    refine k_iload C dX4_init_124 rfl (lv_at hl 0 rfl) ?_
    refine k_mkState C w_cl_X4_27 w_ml_X4_29 (ci := 3) (j := 3) (pa := pa) rfl in_X4 (fun _ => ap_l (ap_l (h0 _))) (by decide) w_fl_X4_23 hf2 (lv_at hl 1 rfl) hl.1 hf hlo (by omega) (by omega) (Nat.le_of_ble_eq_true rfl) dX4_init_125 dX4_init_128 dX4_init_129 dX4_init_130 dX4_init_133 (fun a => ?_)
    refine k_aast C q0 _ (ap_l (ap_l (h1 _))) (at_len _ _ _) (vp_in_nI (by omega) (by omega)) dX4_init_136 (wf (rfL (L ++ [a])) ++ (Y ++ blk K pa (L ++ [a]))) ?_ ?_
    · rw [ap_s (ap_l (h1 _)), ap_s (h1 _)]
      have e1 : (nI L.length).toNatClampNeg = L.length := nI_clamp (by omega)
      rw [e1, rf_push]
      refine (congrArg (fun w => (w ++ (Y ++ blk K pa L)) ++ stW K pa a) (h2 _ _)).trans ?_
      rw [blk_push, List.append_assoc, List.append_assoc]
    · refine k_iinc (v := nI (L.length + 1)) (lv2 := [(1, .int (nI (L.length + 1))), (0, .ref b)]) C dX4_init_137 hl (j := 0) rfl (nI_1 _) (by decide) rfl (fun ls hl => ?_)
      refine k_goto (tgt := 114) C dX4_init_140 (by decide) ?_
      have e2 : (L ++ [a]).length = L.length + 1 := by simp
      refine ih (L ++ [a]) ls _ _ (by omega) (by omega) (by omega) ?_
      rw [e2]
      exact hl
set_option maxHeartbeats 4000000 in
theorem k_loopQ {p : Program} {l : Launch} {e : Env} {R : Room} {s : State} {m : MethodId} {args : Array Value} {below : List Frame} {meth : Method} {c : Code} {Q : State → Prop} {K : CK} {A : Nat → Prop} {n0 k0 b qa pa : Nat} (C : ck p s m args c K A RX4 cX4_init 2) (wf : (Nat → Option Nat) → va_W) (Y : va_W) {fs : List Value} (q0 : Nat) (h0 : ∀ g, (wf g)[0]? = some (b, .inr (3, fs))) (hf1 : fs[9]? = some (.ref qa)) (hf2 : fs[3]? = some (.ref pa)) (h1 : ∀ g, (wf g)[q0]? = some (qa, arQ K 2 g)) (h2 : ∀ g g', (wf g).set q0 (qa, arQ K 2 g') = wf g') (hf : 2 ≤ R.frames) (hlo : 66 ≤ R.locals) (hcs : n0 + 10 ≤ R.cells) (hss : k0 + 128 ≤ R.slots)
    (out : ∀ (L : List (Nat → Nat)) (ls : Array Slot), L.length = 2 → lv_has ls 2 [(0, .ref b)] → WC p l e R s m args below meth c K A (wf (rfL L) ++ (Y ++ blk K pa L)) (n0 + 10) (k0 + 128) Q (F0 m 173 ls [])) :
    ∀ (t : Nat) (L : List (Nat → Nat)) (ls : Array Slot) (n k : Nat), L.length + t = 2 → n = n0 + 5 * L.length → k = k0 + 64 * L.length → lv_has ls 2 [(1, .int (nI L.length)), (0, .ref b)] → WC p l e R s m args below meth c K A (wf (rfL L) ++ (Y ++ blk K pa L)) n k Q (F0 m 145 ls []) := by
  intro t
  induction t with
  | zero =>
    intro L ls n k h3 hn hk hl
    refine k_iload C dX4_init_145 rfl (lv_at hl 0 rfl) ?_
    refine k_iconst (v := 2) C dX4_init_146 (by decide) ?_
    refine k_icge (tgt := 173) C dX4_init_147 (by decide) (fun _ => ?_) (fun z => absurd (by rw [L2]; exact nI_le (by omega) (by omega)) z)
    have e1 : n = n0 + 10 := by omega
    have e2 : k = k0 + 128 := by omega
    rw [e1, e2]
    exact out L ls (by omega) (lv_sub hl [1] rfl)
  | succ t ih =>
    intro L ls n k h3 hn hk hl
    refine k_iload C dX4_init_145 rfl (lv_at hl 0 rfl) ?_
    refine k_iconst (v := 2) C dX4_init_146 (by decide) ?_
    refine k_icge (tgt := 173) C dX4_init_147 (by decide) (fun z => absurd z (by rw [L2]; exact nI_ge (by omega) (by omega))) (fun _ => ?_)
    refine k_aload C dX4_init_150 rfl (lv_at hl 1 rfl) ?_
    refine k_get C (ci := 3) rfl in_X4 0 (ap_l (h0 _)) 9 (by decide) w_fl_X4_43 hf1 dX4_init_151 ?_
    refine k_iload C dX4_init_154 rfl (lv_at hl 0 rfl) ?_
    refine k_mkState C w_cl_X4_27 w_ml_X4_29 (ci := 3) (j := 3) (pa := pa) rfl in_X4 (fun _ => ap_l (ap_l (h0 _))) (by decide) w_fl_X4_23 hf2 (lv_at hl 1 rfl) hl.1 hf hlo (by omega) (by omega) (Nat.le_of_ble_eq_true rfl) dX4_init_155 dX4_init_158 dX4_init_159 dX4_init_160 dX4_init_163 (fun a => ?_)
    refine k_aast C q0 _ (ap_l (ap_l (h1 _))) (at_len _ _ _) (vp_in_nI (by omega) (by omega)) dX4_init_166 (wf (rfL (L ++ [a])) ++ (Y ++ blk K pa (L ++ [a]))) ?_ ?_
    · rw [ap_s (ap_l (h1 _)), ap_s (h1 _)]
      have e1 : (nI L.length).toNatClampNeg = L.length := nI_clamp (by omega)
      rw [e1, rf_push]
      refine (congrArg (fun w => (w ++ (Y ++ blk K pa L)) ++ stW K pa a) (h2 _ _)).trans ?_
      rw [blk_push, List.append_assoc, List.append_assoc]
    · refine k_iinc (v := nI (L.length + 1)) (lv2 := [(1, .int (nI (L.length + 1))), (0, .ref b)]) C dX4_init_167 hl (j := 0) rfl (nI_1 _) (by decide) rfl (fun ls hl => ?_)
      refine k_goto (tgt := 145) C dX4_init_170 (by decide) ?_
      have e2 : (L ++ [a]).length = L.length + 1 := by simp
      refine ih (L ++ [a]) ls _ _ (by omega) (by omega) (by omega) ?_
      rw [e2]
      exact hl
abbrev S4 : Type := (Nat → Nat) × ((Nat → Nat) × (Nat → Int32) × (Nat → Nat)) × ((Nat → Nat) × (Nat → Int32)) × (Nat → Nat) × (Nat → Nat) × List (Nat → Nat) × List (Nat → Nat)
def bw (K : CK) (t : Nat → Nat) (u : (Nat → Nat) × (Nat → Int32) × (Nat → Nat)) (v : (Nat → Nat) × (Nat → Int32)) (a4 a5 : Nat → Nat) (g1 g2 : Nat → Option Nat) : va_W := [(t 0, .inr (3, fs4 (vl [.ref (t 1), .ref (t 2), .ref (v.1 0), .ref (a4 0), .ref (a5 0), .ref (t 3), .ref (t 4), .ref (t 5), .ref (t 6), .ref (t 7), .ref (t 8)]))), (t 1, arI K 90 z0)] ++ rdW K (t 2) u ++ plW K v.1 v.2 ++ stW K (v.1 0) a4 ++ stW K (v.1 0) a5 ++ [(t 3, arQ K 14 g1), (t 4, arQ K 2 g2), (t 5, arB K 2 z0), (t 6, arI K 6 z0), (t 7, arI K 6 z0), (t 8, arI K 6 z0)]
def w4 (K : CK) (u : S4) : va_W := bw K u.1 u.2.1 u.2.2.1 u.2.2.2.1 u.2.2.2.2.1 (rfL u.2.2.2.2.2.1) (rfL u.2.2.2.2.2.2) ++ (blk K (u.2.2.1.1 0) u.2.2.2.2.2.1 ++ blk K (u.2.2.1.1 0) u.2.2.2.2.2.2)
def p4 (b : Nat) (u : S4) : Prop := u.1 0 = b ∧ (∀ j, j < 5 → u.2.1.2.1 j = nI (j + 1)) ∧ (∀ j, j < 5 → u.2.2.1.2 j = nI (j + 1)) ∧ u.2.2.2.2.2.1.length = 14 ∧ u.2.2.2.2.2.2.length = 2
theorem df4 : ∀ j, j < 16 → defaultValue (tyX4 j) = vp_V (fs4 (vl [])) j := by decide +kernel
set_option maxHeartbeats 8000000 in
theorem c_X4_init (l : Launch) (K : CK) (b : Nat) : MK l K yX4_init cX4_init 2 3 109 1380 [.ref b] [(b, .inr (3, fs4 (vl [])))] (w4 K) (p4 b) := by
  refine MK_of (by decide) (Nat.le_of_ble_eq_true rfl) rfl ?_
  intro p e s m args below meth c ls A C hname hret hlk hA hl
  have hl : lv_has ls 2 [(0, .ref b)] := hl
  refine k_aload C dX4_init_0 rfl (lv_at hl 0 rfl) ?_
  refine k_obj C w_mo_X4 hl.1 (by decide) (by decide) dX4_init_1 ?_
  refine k_aload C dX4_init_4 rfl (lv_at hl 0 rfl) ?_
  refine k_bipush (v := 90) C dX4_init_5 (by decide) ?_
  refine k_newi C 90 L90 (by decide) (Nat.le_of_ble_eq_true rfl) (Nat.le_of_ble_eq_true rfl) dX4_init_7 (fun q1 => ?_)
  refine k_putF C hname (ci := 3) rfl in_X4 tyX4_ok nmX4 0 (fs := fs4 (vl [])) rfl 0 (by decide) w_fl_X4_9 rfl rfl (by rfl) (by rfl) (Nat.le_of_ble_eq_true rfl) dX4_init_9 ([(b, .inr (3, fs4 (vl [.ref q1])))] ++ [(q1, arI K 90 z0)]) rfl ?_
  refine k_aload C dX4_init_12 rfl (lv_at hl 0 rfl) ?_
  refine k_new C (ci := 1) rfl in_X2 tyX2 tyX2_ok w_cl_X4_13 w_ii_X2 w_in_X2 (fs2 .null .null) df2 (Nat.le_of_ble_eq_true rfl) (Nat.le_of_ble_eq_true rfl) dX4_init_13 (fun q2 => ?_)
  refine k_dup C dX4_init_16 rfl ?_
  refine k_initN C (c_X2_init l K q2) si_X2 w_ml_X4_15 (by decide) (by decide) ⟨Nat.le_of_ble_eq_true rfl, Nat.le_of_ble_eq_true rfl⟩ hl.1 rfl rfl (Nat.le_of_ble_eq_true rfl) dX4_init_17 (fun u hu => ?_)
  refine k_putF C hname (ci := 3) rfl in_X4 tyX4_ok nmX4 0 (fs := fs4 (vl [.ref q1])) rfl 2 (by decide) w_fl_X4_16 rfl rfl (by rfl) (by rfl) (Nat.le_of_ble_eq_true rfl) dX4_init_20 ([(b, .inr (3, fs4 (vl [.ref q1, .ref q2])))] ++ [(q1, arI K 90 z0)] ++ rdW K q2 u) rfl ?_
  refine k_aload C dX4_init_23 rfl (lv_at hl 0 rfl) ?_
  refine k_mkPlan C w_cl_X4_20 w_ml_X4_22 hl.1 (by decide) (by decide) (Nat.le_of_ble_eq_true rfl) (Nat.le_of_ble_eq_true rfl) (Nat.le_of_ble_eq_true rfl) dX4_init_24 dX4_init_27 dX4_init_28 (fun a3 f3 hf3 => ?_)
  refine k_putF C hname (ci := 3) rfl in_X4 tyX4_ok nmX4 0 (fs := fs4 (vl [.ref q1, .ref q2])) rfl 3 (by decide) w_fl_X4_23 rfl rfl (by rfl) (by rfl) (Nat.le_of_ble_eq_true rfl) dX4_init_31 ([(b, .inr (3, fs4 (vl [.ref q1, .ref q2, .ref (a3 0)])))] ++ [(q1, arI K 90 z0)] ++ rdW K q2 u ++ plW K a3 f3) rfl ?_
  refine k_aload C dX4_init_34 rfl (lv_at hl 0 rfl) ?_
  refine k_mkState C w_cl_X4_27 w_ml_X4_29 (ci := 3) (j := 3) (fs := fs4 (vl [.ref q1, .ref q2, .ref (a3 0)])) (pa := a3 0) rfl in_X4 (fun _ => rfl) (by decide) w_fl_X4_23 rfl (lv_at hl 0 rfl) hl.1 (by decide) (by decide) (Nat.le_of_ble_eq_true rfl) (Nat.le_of_ble_eq_true rfl) (Nat.le_of_ble_eq_true rfl) dX4_init_35 dX4_init_38 dX4_init_39 dX4_init_40 dX4_init_43 (fun a4 => ?_)
  refine k_putF C hname (ci := 3) rfl in_X4 tyX4_ok nmX4 0 (fs := fs4 (vl [.ref q1, .ref q2, .ref (a3 0)])) rfl 4 (by decide) w_fl_X4_32 rfl rfl (by rfl) (by rfl) (Nat.le_of_ble_eq_true rfl) dX4_init_46 ([(b, .inr (3, fs4 (vl [.ref q1, .ref q2, .ref (a3 0), .ref (a4 0)])))] ++ [(q1, arI K 90 z0)] ++ rdW K q2 u ++ plW K a3 f3 ++ stW K (a3 0) a4) rfl ?_
  refine k_aload C dX4_init_49 rfl (lv_at hl 0 rfl) ?_
  refine k_mkState C w_cl_X4_27 w_ml_X4_29 (ci := 3) (j := 3) (fs := fs4 (vl [.ref q1, .ref q2, .ref (a3 0), .ref (a4 0)])) (pa := a3 0) rfl in_X4 (fun _ => rfl) (by decide) w_fl_X4_23 rfl (lv_at hl 0 rfl) hl.1 (by decide) (by decide) (Nat.le_of_ble_eq_true rfl) (Nat.le_of_ble_eq_true rfl) (Nat.le_of_ble_eq_true rfl) dX4_init_50 dX4_init_53 dX4_init_54 dX4_init_55 dX4_init_58 (fun a5 => ?_)
  refine k_putF C hname (ci := 3) rfl in_X4 tyX4_ok nmX4 0 (fs := fs4 (vl [.ref q1, .ref q2, .ref (a3 0), .ref (a4 0)])) rfl 5 (by decide) w_fl_X4_36 rfl rfl (by rfl) (by rfl) (Nat.le_of_ble_eq_true rfl) dX4_init_61 ([(b, .inr (3, fs4 (vl [.ref q1, .ref q2, .ref (a3 0), .ref (a4 0), .ref (a5 0)])))] ++ [(q1, arI K 90 z0)] ++ rdW K q2 u ++ plW K a3 f3 ++ stW K (a3 0) a4 ++ stW K (a3 0) a5) rfl ?_
  refine k_aload C dX4_init_64 rfl (lv_at hl 0 rfl) ?_
  refine k_bipush (v := 14) C dX4_init_65 (by decide) ?_
  refine k_newq C 14 L14 (by decide) w_cl_X4_27 (Nat.le_of_ble_eq_true rfl) (Nat.le_of_ble_eq_true rfl) dX4_init_67 (fun q3 => ?_)
  refine k_putF C hname (ci := 3) rfl in_X4 tyX4_ok nmX4 0 (fs := fs4 (vl [.ref q1, .ref q2, .ref (a3 0), .ref (a4 0), .ref (a5 0)])) rfl 6 (by decide) w_fl_X4_39 rfl rfl (by rfl) (by rfl) (Nat.le_of_ble_eq_true rfl) dX4_init_70 ([(b, .inr (3, fs4 (vl [.ref q1, .ref q2, .ref (a3 0), .ref (a4 0), .ref (a5 0), .ref q3])))] ++ [(q1, arI K 90 z0)] ++ rdW K q2 u ++ plW K a3 f3 ++ stW K (a3 0) a4 ++ stW K (a3 0) a5 ++ [(q3, arQ K 14 (fun _ => none))]) rfl ?_
  refine k_aload C dX4_init_73 rfl (lv_at hl 0 rfl) ?_
  refine k_iconst (v := 2) C dX4_init_74 (by decide) ?_
  refine k_newq C 2 L2 (by decide) w_cl_X4_27 (Nat.le_of_ble_eq_true rfl) (Nat.le_of_ble_eq_true rfl) dX4_init_75 (fun q4 => ?_)
  refine k_putF C hname (ci := 3) rfl in_X4 tyX4_ok nmX4 0 (fs := fs4 (vl [.ref q1, .ref q2, .ref (a3 0), .ref (a4 0), .ref (a5 0), .ref q3])) rfl 9 (by decide) w_fl_X4_43 rfl rfl (by rfl) (by rfl) (Nat.le_of_ble_eq_true rfl) dX4_init_78 ([(b, .inr (3, fs4 (vl [.ref q1, .ref q2, .ref (a3 0), .ref (a4 0), .ref (a5 0), .ref q3, .ref q4])))] ++ [(q1, arI K 90 z0)] ++ rdW K q2 u ++ plW K a3 f3 ++ stW K (a3 0) a4 ++ stW K (a3 0) a5 ++ [(q3, arQ K 14 (fun _ => none))] ++ [(q4, arQ K 2 (fun _ => none))]) rfl ?_
  refine k_aload C dX4_init_81 rfl (lv_at hl 0 rfl) ?_
  refine k_iconst (v := 2) C dX4_init_82 (by decide) ?_
  refine k_newb C 2 L2 (by decide) (Nat.le_of_ble_eq_true rfl) (Nat.le_of_ble_eq_true rfl) dX4_init_83 (fun q5 => ?_)
  refine k_putF C hname (ci := 3) rfl in_X4 tyX4_ok nmX4 0 (fs := fs4 (vl [.ref q1, .ref q2, .ref (a3 0), .ref (a4 0), .ref (a5 0), .ref q3, .ref q4])) rfl 10 (by decide) w_fl_X4_46 rfl rfl (by rfl) (by rfl) (Nat.le_of_ble_eq_true rfl) dX4_init_85 ([(b, .inr (3, fs4 (vl [.ref q1, .ref q2, .ref (a3 0), .ref (a4 0), .ref (a5 0), .ref q3, .ref q4, .ref q5])))] ++ [(q1, arI K 90 z0)] ++ rdW K q2 u ++ plW K a3 f3 ++ stW K (a3 0) a4 ++ stW K (a3 0) a5 ++ [(q3, arQ K 14 (fun _ => none))] ++ [(q4, arQ K 2 (fun _ => none))] ++ [(q5, arB K 2 z0)]) rfl ?_
  refine k_aload C dX4_init_88 rfl (lv_at hl 0 rfl) ?_
  refine k_bipush (v := 6) C dX4_init_89 (by decide) ?_
  refine k_newi C 6 L6 (by decide) (Nat.le_of_ble_eq_true rfl) (Nat.le_of_ble_eq_true rfl) dX4_init_91 (fun q6 => ?_)
  refine k_putF C hname (ci := 3) rfl in_X4 tyX4_ok nmX4 0 (fs := fs4 (vl [.ref q1, .ref q2, .ref (a3 0), .ref (a4 0), .ref (a5 0), .ref q3, .ref q4, .ref q5])) rfl 11 (by decide) w_fl_X4_50 rfl rfl (by rfl) (by rfl) (Nat.le_of_ble_eq_true rfl) dX4_init_93 ([(b, .inr (3, fs4 (vl [.ref q1, .ref q2, .ref (a3 0), .ref (a4 0), .ref (a5 0), .ref q3, .ref q4, .ref q5, .ref q6])))] ++ [(q1, arI K 90 z0)] ++ rdW K q2 u ++ plW K a3 f3 ++ stW K (a3 0) a4 ++ stW K (a3 0) a5 ++ [(q3, arQ K 14 (fun _ => none))] ++ [(q4, arQ K 2 (fun _ => none))] ++ [(q5, arB K 2 z0)] ++ [(q6, arI K 6 z0)]) rfl ?_
  refine k_aload C dX4_init_96 rfl (lv_at hl 0 rfl) ?_
  refine k_bipush (v := 6) C dX4_init_97 (by decide) ?_
  refine k_newi C 6 L6 (by decide) (Nat.le_of_ble_eq_true rfl) (Nat.le_of_ble_eq_true rfl) dX4_init_99 (fun q7 => ?_)
  refine k_putF C hname (ci := 3) rfl in_X4 tyX4_ok nmX4 0 (fs := fs4 (vl [.ref q1, .ref q2, .ref (a3 0), .ref (a4 0), .ref (a5 0), .ref q3, .ref q4, .ref q5, .ref q6])) rfl 12 (by decide) w_fl_X4_53 rfl rfl (by rfl) (by rfl) (Nat.le_of_ble_eq_true rfl) dX4_init_101 ([(b, .inr (3, fs4 (vl [.ref q1, .ref q2, .ref (a3 0), .ref (a4 0), .ref (a5 0), .ref q3, .ref q4, .ref q5, .ref q6, .ref q7])))] ++ [(q1, arI K 90 z0)] ++ rdW K q2 u ++ plW K a3 f3 ++ stW K (a3 0) a4 ++ stW K (a3 0) a5 ++ [(q3, arQ K 14 (fun _ => none))] ++ [(q4, arQ K 2 (fun _ => none))] ++ [(q5, arB K 2 z0)] ++ [(q6, arI K 6 z0)] ++ [(q7, arI K 6 z0)]) rfl ?_
  refine k_aload C dX4_init_104 rfl (lv_at hl 0 rfl) ?_
  refine k_bipush (v := 6) C dX4_init_105 (by decide) ?_
  refine k_newi C 6 L6 (by decide) (Nat.le_of_ble_eq_true rfl) (Nat.le_of_ble_eq_true rfl) dX4_init_107 (fun q8 => ?_)
  refine k_putF C hname (ci := 3) rfl in_X4 tyX4_ok nmX4 0 (fs := fs4 (vl [.ref q1, .ref q2, .ref (a3 0), .ref (a4 0), .ref (a5 0), .ref q3, .ref q4, .ref q5, .ref q6, .ref q7])) rfl 13 (by decide) w_fl_X4_56 rfl rfl (by rfl) (by rfl) (Nat.le_of_ble_eq_true rfl) dX4_init_109 ([(b, .inr (3, fs4 (vl [.ref q1, .ref q2, .ref (a3 0), .ref (a4 0), .ref (a5 0), .ref q3, .ref q4, .ref q5, .ref q6, .ref q7, .ref q8])))] ++ [(q1, arI K 90 z0)] ++ rdW K q2 u ++ plW K a3 f3 ++ stW K (a3 0) a4 ++ stW K (a3 0) a5 ++ [(q3, arQ K 14 (fun _ => none))] ++ [(q4, arQ K 2 (fun _ => none))] ++ [(q5, arB K 2 z0)] ++ [(q6, arI K 6 z0)] ++ [(q7, arI K 6 z0)] ++ [(q8, arI K 6 z0)]) rfl ?_
  refine k_iconst (v := 0) C dX4_init_112 (by decide) ?_
  refine k_istore (lv2 := [(1, .int 0), (0, .ref b)]) C dX4_init_113 rfl hl (by decide) rfl (fun ls hl => ?_)
  refine k_eq (ws2 := bw K (adl [b, q1, q2, q3, q4, q5, q6, q7, q8]) u (a3, f3) a4 a5 (rfL []) (rfL []) ++ ([] ++ blk K (a3 0) [])) (by rw [rf_nil]; rfl) ?_
  refine k_loopP (n0 := 29) (k0 := 356) (pa := a3 0) C (fun g => bw K (adl [b, q1, q2, q3, q4, q5, q6, q7, q8]) u (a3, f3) a4 a5 g (rfL [])) [] 24 (fun _ => rfl) rfl rfl (fun _ => rfl) (fun _ _ => rfl) (by decide) (by decide) (by decide) (by decide) (fun L1 ls hL1 hl => ?_) 14 [] ls _ _ rfl rfl rfl hl
  refine k_iconst (v := 0) C dX4_init_143 (by decide) ?_
  refine k_istore (lv2 := [(1, .int 0), (0, .ref b)]) C dX4_init_144 rfl hl (by decide) rfl (fun ls hl => ?_)
  refine k_eq (ws2 := bw K (adl [b, q1, q2, q3, q4, q5, q6, q7, q8]) u (a3, f3) a4 a5 (rfL L1) (rfL []) ++ (blk K (a3 0) L1 ++ blk K (a3 0) [])) (by rw [List.nil_append]; show _ ++ _ = _ ++ (_ ++ []); rw [List.append_nil]) ?_
  refine k_loopQ (n0 := 99) (k0 := 1252) (pa := a3 0) C (fun g => bw K (adl [b, q1, q2, q3, q4, q5, q6, q7, q8]) u (a3, f3) a4 a5 (rfL L1) g) (blk K (a3 0) L1) 25 (fun _ => rfl) rfl rfl (fun _ => rfl) (fun _ _ => rfl) (by decide) (by decide) (by decide) (by decide) (fun L2 ls hL2 hl => ?_) 2 [] ls _ _ rfl rfl rfl hl
  exact k_vret (wp := w4 K) (post := p4 b) C hret hlk (adl [b, q1, q2, q3, q4, q5, q6, q7, q8], u, (a3, f3), a4, a5, L1, L2) ⟨rfl, hu, hf3, hL1, hL2⟩ hA rfl dX4_init_173
