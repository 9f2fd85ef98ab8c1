-- the constructors of State, Plan and Reader
def arI (K : CK) (n : Nat) (f : Nat → Int32) : va_E := .inl (K.2.1, n, .inl f)
def z0 : Nat → Int32 := fun _ => 0
def fr3 : List Value := [.null, .null, .null, .null, .int 0, .null, .int 0, .int 0, .int 0, .int 0, .int 0, .int 0, .int 0, .int 0, .int 0, .int 0, .int 0, .int 0]
def fs3 (r0 r1 r2 r3 r4 : Value) : List Value := [r0, r1, r2, r3, .int 0, r4, .int 0, .int 0, .int 0, .int 0, .int 0, .int 0, .int 0, .int 0, .int 0, .int 0, .int 0, .int 0]
def stW (K : CK) (pa : Nat) (a : Nat → Nat) : va_W := [(a 0, .inr (2, fs3 (.ref pa) (.ref (a 1)) (.ref (a 2)) (.ref (a 3)) (.ref (a 4)))), (a 1, arI K 9 z0), (a 2, arI K 9 z0), (a 3, arI K 4 z0), (a 4, arI K 24 z0)]
def fs1 (c0 : Int32) (r1 r2 : Value) : List Value := [.int c0, r1, .int 0, .int 0, .int 0, .int 0, r2]
def plW (K : CK) (a : Nat → Nat) (f : Nat → Int32) : va_W := [(a 0, .inr (0, fs1 6 (.ref (a 1)) (.ref (a 2)))), (a 1, arI K 5 f), (a 2, arI K 4 z0)]
def fs2 (r0 r1 : Value) : List Value := [r0, r1, .int 0, .int 0, .int 0, .int 0]
def rdW (K : CK) (b : Nat) (u : (Nat → Nat) × (Nat → Int32) × (Nat → Nat)) : va_W := [(b, .inr (1, fs2 (.ref (u.1 0)) (.ref (u.2.2 0))))] ++ plW K u.1 u.2.1 ++ stW K (u.1 0) u.2.2
def ad5 (a b c d e : Nat) : Nat → Nat := fun i => match i with
  | 0 => a
  | 1 => b
  | 2 => c
  | 3 => d
  | _ => e
set_option maxHeartbeats 4000000 in
theorem c_X3_init (l : Launch) (K : CK) (b pa : Nat) : MK l K yX3_init cX3_init 2 1 4 46 [.ref b, .ref pa] [(b, .inr (2, fr3))] (stW K pa) (fun a => a 0 = b) := by
  refine MK_of (by decide) (Nat.le_of_ble_eq_true rfl) rfl ?_
  intro p e s m args below meth c ls A C hname hret hlk hA hl
  have hl : lv_has ls 2 [(0, .ref b), (1, .ref pa)] := hl
  refine k_aload C dX3_init_0 rfl (lv_at hl 0 rfl) ?_
  refine k_obj C w_mo_X3 hl.1 (by decide) (by decide) dX3_init_1 ?_
  refine k_aload C dX3_init_4 rfl (lv_at hl 0 rfl) ?_
  refine k_bipush (v := 9) C dX3_init_5 (by decide) ?_
  refine k_newi C 9 L9 (by decide) (by decide) (by decide) dX3_init_7 (fun q1 => ?_)
  refine k_putF C hname (ci := 2) rfl in_X3 tyX3_ok nmX3 0 (fs := fr3) rfl 1 (by decide) w_fl_X3_9 rfl rfl (by rfl) (by rfl) (Nat.le_of_ble_eq_true rfl) dX3_init_9 [(b, .inr (2, fs3 .null (.ref q1) .null .null .null)), (q1, arI K 9 z0)] rfl ?_
  refine k_aload C dX3_init_12 rfl (lv_at hl 0 rfl) ?_
  refine k_bipush (v := 9) C dX3_init_13 (by decide) ?_
  refine k_newi C 9 L9 (by decide) (by decide) (by decide) dX3_init_15 (fun q2 => ?_)
  refine k_putF C hname (ci := 2) rfl in_X3 tyX3_ok nmX3 0 (fs := fs3 .null (.ref q1) .null .null .null) rfl 2 (by decide) w_fl_X3_15 rfl rfl (by rfl) (by rfl) (Nat.le_of_ble_eq_true rfl) dX3_init_17 [(b, .inr (2, fs3 .null (.ref q1) (.ref q2) .null .null)), (q1, arI K 9 z0), (q2, arI K 9 z0)] rfl ?_
  refine k_aload C dX3_init_20 rfl (lv_at hl 0 rfl) ?_
  refine k_iconst (v := 4) C dX3_init_21 (by decide) ?_
  refine k_newi C 4 L4 (by decide) (by decide) (by decide) dX3_init_22 (fun q3 => ?_)
  refine k_putF C hname (ci := 2) rfl in_X3 tyX3_ok nmX3 0 (fs := fs3 .null (.ref q1) (.ref q2) .null .null) rfl 3 (by decide) w_fl_X3_18 rfl rfl (by rfl) (by rfl) (Nat.le_of_ble_eq_true rfl) dX3_init_24 [(b, .inr (2, fs3 .null (.ref q1) (.ref q2) (.ref q3) .null)), (q1, arI K 9 z0), (q2, arI K 9 z0), (q3, arI K 4 z0)] rfl ?_
  refine k_aload C dX3_init_27 rfl (lv_at hl 0 rfl) ?_
  refine k_bipush (v := 24) C dX3_init_28 (by decide) ?_
  refine k_newi C 24 L24 (by decide) (by decide) (by decide) dX3_init_30 (fun q4 => ?_)
  refine k_putF C hname (ci := 2) rfl in_X3 tyX3_ok nmX3 0 (fs := fs3 .null (.ref q1) (.ref q2) (.ref q3) .null) rfl 5 (by decide) w_fl_X3_21 rfl rfl (by rfl) (by rfl) (Nat.le_of_ble_eq_true rfl) dX3_init_32 [(b, .inr (2, fs3 .null (.ref q1) (.ref q2) (.ref q3) (.ref q4))), (q1, arI K 9 z0), (q2, arI K 9 z0), (q3, arI K 4 z0), (q4, arI K 24 z0)] rfl ?_
  refine k_aload C dX3_init_35 rfl (lv_at hl 0 rfl) ?_
  refine k_aload C dX3_init_36 rfl (lv_at hl 1 rfl) ?_
  refine k_putF C hname (ci := 2) rfl in_X3 tyX3_ok nmX3 0 (fs := fs3 .null (.ref q1) (.ref q2) (.ref q3) (.ref q4)) rfl 0 (by decide) w_fl_X3_24 rfl rfl (by rfl) (by rfl) (Nat.le_of_ble_eq_true rfl) dX3_init_37 (stW K pa (ad5 b q1 q2 q3 q4)) rfl ?_
  exact k_vret (wp := stW K pa) (post := fun a => a 0 = b) C hret hlk (ad5 b q1 q2 q3 q4) rfl hA rfl dX3_init_40
set_option maxHeartbeats 4000000 in
/-- a loop that stores i + 1 at i -/
theorem k_loop5 {p : Program} {l : Launch} {e : Env} {R : Room} {s : State} {m : MethodId} {args : Array Value} {below : List Frame} {meth : Method} {c : Code} {Q : State → Prop} {K : CK} {A : Nat → Prop} {nn kk : Nat} {b a : Nat} (C : ck p s m args c K A RX1 cX1_init 2) (wf : (Nat → Int32) → va_W) {fs : List Value} (h0 : ∀ f, (wf f)[0]? = some (b, .inr (0, fs))) (hfs : fs[1]? = some (.ref a)) (h1 : ∀ f, (wf f)[1]? = some (a, arI K 5 f)) (h2 : ∀ f g, (wf f).set 1 (a, arI K 5 g) = wf g)
    (out : ∀ (f : Nat → Int32) (ls : Array Slot), (∀ j, j < 5 → f j = nI (j + 1)) → WC p l e R s m args below meth c K A (wf f) nn kk Q (F0 m 46 ls [])) :
    ∀ (t i : Nat) (f : Nat → Int32) (ls : Array Slot), i + t = 5 → (∀ j, j < i → f j = nI (j + 1)) → lv_has ls 2 [(1, .int (nI i)), (0, .ref b)] → WC p l e R s m args below meth c K A (wf f) nn kk Q (F0 m 26 ls []) := by
  intro t
  induction t with
  | zero =>
    intro i f ls h3 hf hl
    refine k_iload C dX1_init_26 rfl (lv_at hl 0 rfl) ?_
    refine k_iconst (v := 5) C dX1_init_27 (by decide) ?_
    refine k_icge (tgt := 46) C dX1_init_28 (by decide) (fun _ => ?_) (fun z => absurd (by rw [L5]; exact nI_le (by omega) (by omega)) z)
    exact out f ls (fun j hj => hf j (by omega))
  | succ t ih =>
    intro i f ls h3 hf hl
    refine k_iload C dX1_init_26 rfl (lv_at hl 0 rfl) ?_
    refine k_iconst (v := 5) C dX1_init_27 (by decide) ?_
    refine k_icge (tgt := 46) C dX1_init_28 (by decide) (fun z => absurd z (by rw [L5]; exact nI_ge (by omega) (by omega))) (fun _ => ?_)
    refine k_aload C dX1_init_31 rfl (lv_at hl 1 rfl) ?_
    refine k_get C (ci := 0) rfl in_X1 0 (h0 f) 1 (by decide) w_fl_X1_9 hfs dX1_init_32 ?_
    refine k_iload C dX1_init_35 rfl (lv_at hl 0 rfl) ?_
    refine k_iload C dX1_init_36 rfl (lv_at hl 0 rfl) ?_
    refine k_iconst (v := 1) C dX1_init_37 (by decide) ?_
    refine k_iadd C dX1_init_38 ?_
    refine k_iast C 1 (h1 f) (vp_in_nI (by omega) (by omega)) dX1_init_39 (wf (upd f (nI i).toNatClampNeg (nI i + 1))) (h2 f _) ?_
    refine k_iinc (v := nI (i + 1)) (lv2 := [(1, .int (nI (i + 1))), (0, .ref b)]) C dX1_init_40 hl (j := 0) rfl (nI_1 i) (by decide) rfl (fun ls hl => ?_)
    refine k_goto (tgt := 26) C dX1_init_43 (by decide) ?_
    refine ih (i + 1) _ ls (by omega) (fun j hj => ?_) hl
    rw [nI_clamp (by omega)]
    by_cases q : j = i
    · rw [q, upd_at, nI_1]
    · rw [upd_ne _ _ q]
      exact hf j (by omega)
set_option maxHeartbeats 4000000 in
theorem c_X1_init (l : Launch) (K : CK) (b : Nat) : MK l K yX1_init cX1_init 2 1 2 9 [.ref b] [(b, .inr (0, fs1 0 .null .null))] (fun u : (Nat → Nat) × (Nat → Int32) => plW K u.1 u.2) (fun u => u.1 0 = b ∧ ∀ j, j < 5 → u.2 j = nI (j + 1)) := by
  refine MK_of (by decide) (Nat.le_of_ble_eq_true rfl) rfl ?_
  intro p e s m args below meth c ls A C hname hret hlk hA hl
  have hl : lv_has ls 2 [(0, .ref b)] := hl
  refine k_aload C dX1_init_0 rfl (lv_at hl 0 rfl) ?_
  refine k_obj C w_mo_X1 hl.1 (by decide) (by decide) dX1_init_1 ?_
  refine k_aload C dX1_init_4 rfl (lv_at hl 0 rfl) ?_
  refine k_iconst (v := 5) C dX1_init_5 (by decide) ?_
  refine k_newi C 5 L5 (by decide) (by decide) (by decide) dX1_init_6 (fun q1 => ?_)
  refine k_putF C hname (ci := 0) rfl in_X1 tyX1_ok nmX1 0 (fs := fs1 0 .null .null) rfl 1 (by decide) w_fl_X1_9 rfl rfl (by rfl) (by rfl) (Nat.le_of_ble_eq_true rfl) dX1_init_8 [(b, .inr (0, fs1 0 (.ref q1) .null)), (q1, arI K 5 z0)] rfl ?_
  refine k_aload C dX1_init_11 rfl (lv_at hl 0 rfl) ?_
  refine k_iconst (v := 4) C dX1_init_12 (by decide) ?_
  refine k_newi C 4 L4 (by decide) (by decide) (by decide) dX1_init_13 (fun q2 => ?_)
  refine k_putF C hname (ci := 0) rfl in_X1 tyX1_ok nmX1 0 (fs := fs1 0 (.ref q1) .null) rfl 6 (by decide) w_fl_X1_15 rfl rfl (by rfl) (by rfl) (Nat.le_of_ble_eq_true rfl) dX1_init_15 [(b, .inr (0, fs1 0 (.ref q1) (.ref q2))), (q1, arI K 5 z0), (q2, arI K 4 z0)] rfl ?_
  refine k_aload C dX1_init_18 rfl (lv_at hl 0 rfl) ?_
  refine k_bipush (v := 6) C dX1_init_19 (by decide) ?_
  refine k_put C (ci := 0) rfl in_X1 tyX1_ok nmX1 0 (fs := fs1 0 (.ref q1) (.ref q2)) rfl 0 (by decide) w_fl_X1_18 rfl (by rfl) (by rfl) (Nat.le_of_ble_eq_true rfl) dX1_init_21 (plW K (ad5 b q1 q2 0 0) z0) rfl ?_
  refine k_iconst (v := 0) C dX1_init_24 (by decide) ?_
  refine k_istore (lv2 := [(1, .int 0), (0, .ref b)]) C dX1_init_25 rfl hl (by decide) rfl (fun ls hl => ?_)
  refine k_loop5 C (plW K (ad5 b q1 q2 0 0)) (fs := fs1 6 (.ref q1) (.ref q2)) (fun _ => rfl) rfl (fun _ => rfl) (fun _ _ => rfl) (fun f ls hf => ?_) 5 0 z0 ls (by omega) (fun j hj => by omega) hl
  exact k_vret (wp := fun u : (Nat → Nat) × (Nat → Int32) => plW K u.1 u.2) (post := fun u => u.1 0 = b ∧ ∀ j, j < 5 → u.2 j = nI (j + 1)) C hret hlk (ad5 b q1 q2 0 0, f) ⟨rfl, hf⟩ hA rfl dX1_init_46
