-- making a State, a Plan; the Reader's constructor
theorem df3 : ∀ j, j < 18 → defaultValue (tyX3 j) = vp_V fr3 j := by decide +kernel
theorem df1 : ∀ j, j < 7 → defaultValue (tyX1 j) = vp_V (fs1 0 .null .null) j := by decide +kernel
theorem df2 : ∀ j, j < 6 → defaultValue (tyX2 j) = vp_V (fs2 .null .null) j := by decide +kernel
theorem cat_ref (q : Nat) (rest : List Value) (h : (rest.map fun v => v.category).sum ≤ 7) : ((Value.ref q :: rest).map fun v => v.category).sum ≤ 8 := by
  rw [List.map_cons, List.sum_cons]
  show 1 + _ ≤ 8
  omega
section
variable {p : Program} {l : Launch} {e : Env} {R : Room} {s : State} {m : MethodId} {args : Array Value} {below : List Frame} {meth : Method} {c : Code} {Q : State → Prop} {K : CK} {A : Nat → Prop} {own : String} {cc : ByteArray} {nL : Nat} {ws : va_W} {n k : Nat} {pc : Nat} {ls : Array Slot} {rest : List Value}
theorem k_mkState (C : ck p s m args c K A own cc nL) {i1 i3 i4 ci N b pa j : Nat} {T : u_T} {Cn : String} {fs : List Value} (hcl : Cond.classLink own i1 RX3 ∈ ut) (hml : Cond.methodLink own i4 yX3_init ∈ ut) (hc : vwCl[ci]? = some (Cn, T, N)) (hin : ∀ w ∈ u_ws Cn T N, w ∈ ut) (he : ∀ q : Nat, (ws ++ [(q, .inr (2, fr3))])[0]? = some (b, .inr (ci, fs))) (hj : j < N) (hw : Cond.fieldLink own i3 (T j).1 (T j).2.1 (T j).2.2.1 ∈ ut) (hv : fs[j]? = some (.ref pa)) (hloc : ls[0]? = some (.val (.ref b))) (hl : ls.size = nL) (hf : 2 ≤ R.frames) (hlo : 66 ≤ R.locals) (hcs : n + 5 ≤ R.cells) (hss : k + 64 ≤ R.slots) (hr : (rest.map fun v => v.category).sum ≤ 7)
    (d0 : decode cc pc = .ok (.new i1, 3)) (d1 : decode cc (pc + 3) = .ok (.dup, 1)) (d2 : decode cc (pc + 4) = .ok (.aload_n 0, 1)) (d3 : decode cc (pc + 5) = .ok (.getfield i3, 3)) (d4 : decode cc (pc + 8) = .ok (.invokespecial i4, 3))
    (kk : ∀ a : Nat → Nat, WC p l e R s m args below meth c K A (ws ++ stW K pa a) (n + 5) (k + 64) Q (F0 m (pc + 11) ls (.ref (a 0) :: rest))) : WC p l e R s m args below meth c K A ws n k Q (F0 m pc ls rest) := by
  refine k_new C (ci := 2) rfl in_X3 tyX3 tyX3_ok hcl w_ii_X3 w_in_X3 fr3 df3 (by omega) (by omega) d0 (fun q => ?_)
  refine k_dup C d1 rfl ?_
  refine k_aload C d2 rfl hloc ?_
  refine k_get C hc hin 0 (he q) j hj hw hv d3 ?_
  refine k_init C (c_X3_init l K q pa) si_X3 hml hf hlo ⟨by omega, by omega⟩ hl rfl rfl (cat_ref q rest hr) d4 (fun a ha => ?_)
  have ha : a 0 = q := ha
  rw [← ha]
  exact kk a
theorem k_mkPlan (C : ck p s m args c K A own cc nL) {i1 i4 : Nat} (hcl : Cond.classLink own i1 RX1 ∈ ut) (hml : Cond.methodLink own i4 yX1_init ∈ ut) (hl : ls.size = nL) (hf : 2 ≤ R.frames) (hlo : 66 ≤ R.locals) (hcs : n + 3 ≤ R.cells) (hss : k + 16 ≤ R.slots) (hr : (rest.map fun v => v.category).sum ≤ 7)
    (d0 : decode cc pc = .ok (.new i1, 3)) (d1 : decode cc (pc + 3) = .ok (.dup, 1)) (d4 : decode cc (pc + 4) = .ok (.invokespecial i4, 3))
    (kk : ∀ (a : Nat → Nat) (f : Nat → Int32), (∀ j, j < 5 → f j = nI (j + 1)) → WC p l e R s m args below meth c K A (ws ++ plW K a f) (n + 3) (k + 16) Q (F0 m (pc + 7) ls (.ref (a 0) :: rest))) : WC p l e R s m args below meth c K A ws n k Q (F0 m pc ls rest) := by
  refine k_new C (ci := 0) rfl in_X1 tyX1 tyX1_ok hcl w_ii_X1 w_in_X1 (fs1 0 .null .null) df1 (by omega) (by omega) d0 (fun q => ?_)
  refine k_dup C d1 rfl ?_
  refine k_init C (c_X1_init l K q) si_X1 hml hf hlo ⟨by omega, by omega⟩ hl rfl rfl (cat_ref q rest hr) d4 (fun u hu => ?_)
  have ha : u.1 0 = q := hu.1
  rw [← ha]
  exact kk u.1 u.2 hu.2
end
set_option maxHeartbeats 4000000 in
theorem c_X2_init (l : Launch) (K : CK) (b : Nat) : MK l K yX2_init cX2_init 1 2 8 80 [.ref b] [(b, .inr (1, fs2 .null .null))] (rdW K b) (fun u => ∀ j, j < 5 → u.2.1 j = nI (j + 1)) := by
  refine MK_of (by decide) (Nat.le_of_ble_eq_true rfl) rfl ?_
  intro p e s m args below meth c ls A C hname hret hlk hA hl
  have hl : lv_has ls 1 [(0, .ref b)] := hl
  refine k_aload C dX2_init_0 rfl (lv_at hl 0 rfl) ?_
  refine k_obj C w_mo_X2 hl.1 (by decide) (by decide) dX2_init_1 ?_
  refine k_aload C dX2_init_4 rfl (lv_at hl 0 rfl) ?_
  refine k_mkPlan C w_cl_X2_9 w_ml_X2_11 hl.1 (by decide) (by decide) (by decide) (by decide) (Nat.le_of_ble_eq_true rfl) dX2_init_5 dX2_init_8 dX2_init_9 (fun a f hf => ?_)
  refine k_putF C hname (ci := 1) rfl in_X2 tyX2_ok nmX2 0 (fs := fs2 .null .null) rfl 0 (by decide) w_fl_X2_12 rfl rfl (by rfl) (by rfl) (Nat.le_of_ble_eq_true rfl) dX2_init_12 ([(b, .inr (1, fs2 (.ref (a 0)) .null))] ++ plW K a f) rfl ?_
  refine k_aload C dX2_init_15 rfl (lv_at hl 0 rfl) ?_
  refine k_mkState C w_cl_X2_18 w_ml_X2_20 (ci := 1) (j := 0) (fs := fs2 (.ref (a 0)) .null) (pa := a 0) rfl in_X2 (fun _ => rfl) (by decide) w_fl_X2_12 rfl (lv_at hl 0 rfl) hl.1 (by decide) (by decide) (by decide) (by decide) (Nat.le_of_ble_eq_true rfl) dX2_init_16 dX2_init_19 dX2_init_20 dX2_init_21 dX2_init_24 (fun a2 => ?_)
  refine k_putF C hname (ci := 1) rfl in_X2 tyX2_ok nmX2 0 (fs := fs2 (.ref (a 0)) .null) rfl 1 (by decide) w_fl_X2_23 rfl rfl (by rfl) (by rfl) (Nat.le_of_ble_eq_true rfl) dX2_init_27 (rdW K b (a, f, a2)) rfl ?_
  exact k_vret (wp := rdW K b) (post := fun u => ∀ j, j < 5 → u.2.1 j = nI (j + 1)) C hret hlk (a, f, a2) hf hA rfl dX2_init_30
