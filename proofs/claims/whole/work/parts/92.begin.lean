-- the law from its entry
theorem k_astore {p : Program} {l : Launch} {e : Env} {R : Room} {s : State} {m : MethodId} {args : Array Value} {below : List Frame} {meth : Method} {c : Code} {Q : State → Prop} {K : CK} {A : Nat → Prop} {own : String} {cc : ByteArray} {nL : Nat} {ws : va_W} {n k : Nat} {pc : Nat} {ls : Array Slot} {rest : List Value} (C : ck p s m args c K A own cc nL) {q : Fin 4} {i x : Nat} {lv lv2 : List (Nat × Value)} (d : decode cc pc = .ok (.astore_n q, 1)) (hi : (q : Nat) = i) (hl : lv_has ls nL lv) (hn : i < nL) (he : (i, Value.ref x) :: lv.filter (fun q => !(q.1 == i) && !(q.1 + 1 == i && q.2.category == 2)) = lv2) (kk : ∀ ls2 : Array Slot, lv_has ls2 nL lv2 → WC p l e R s m args below meth c K A ws n k Q (F0 m (pc + 1) ls2 rest)) : WC p l e R s m args below meth c K A ws n k Q (F0 m pc ls (.ref x :: rest)) := fun H locs x y z => lv_astore_n C.1 C.2.1 d hi hl hn he (fun ls2 h2 => kk ls2 h2 H locs x y z)
set_option maxHeartbeats 8000000 in
theorem whole_start {p : Program} {e : Env} {s : State} {m : MethodId} {below : List Frame} {meth : Method} {c : Code} (l : Launch) (hflags : l.flags = flags0) {b L : Nat} {xs : Nat → Int32} (hL : L ≤ 2048) (C0 : lw_At p s m meth c b L xs) : W p l e room_1 s m #[Value.ref b] below meth c s.heap [] 0 0 (lw_Z below #[Value.ref b] s) (entryFrame m ([Value.ref b] : List Value).toArray 4) := by
  obtain ⟨hx, hb, hr, hml, hown, hts, hX, hbl, hlocks, hgv⟩ := id C0
  have htu : ∀ w ∈ ut, w.before #[Value.ref b] s = true := fun w h => hts w (ut_in h)
  obtain ⟨c0, i0, k0⟩ := u_known (C := RX1) (T := TX1) (N := 7) (n := 7) htu in_X1 (htu _ w_ii_X1)
  obtain ⟨c1, i1, k1⟩ := u_known (C := RX2) (T := TX2) (N := 6) (n := 6) htu in_X2 (htu _ w_ii_X2)
  obtain ⟨c2, i2, k2⟩ := u_known (C := RX3) (T := TX3) (N := 18) (n := 18) htu in_X3 (htu _ w_ii_X3)
  obtain ⟨c3, i3, k3⟩ := u_known (C := RX4) (T := TX4) (N := 16) (n := 16) htu in_X4 (htu _ w_ii_X4)
  obtain ⟨c4, i4, k4⟩ := u_known (C := RX5) (T := TX5) (N := 38) (n := 38) htu in_X5 (htu _ w_ii_X5)
  obtain ⟨D, hD⟩ : ∃ D : va_G, ∀ (k : Nat) (q : vw_C), vwCl[k]? = some q → u_Kn s q.1 q.2.1 q.2.2 (D.1 k) (D.2 k) := by
    refine ⟨(fun k => if k = 0 then c0 else if k = 1 then c1 else if k = 2 then c2 else if k = 3 then c3 else c4, fun k => if k = 0 then i0 else if k = 1 then i1 else if k = 2 then i2 else if k = 3 then i3 else i4), ?_⟩
    intro k q hq
    match k, hq with
    | 0, hq => cases hq; exact k0
    | 1, hq => cases hq; exact k1
    | 2, hq => cases hq; exact k2
    | 3, hq => cases hq; exact k3
    | 4, hq => cases hq; exact k4
    | k + 5, hq => simp [vwCl] at hq
  obtain ⟨cI, kI, pI, f1, f2, f3⟩ := Cond.arrayClass_spec (htu _ w_ac_int)
  obtain ⟨cB, kB, pB, g1, g2, g3⟩ := Cond.arrayClass_spec (htu _ w_ac_boolean)
  obtain ⟨pS, cS, kS, j1, j2, j3, j4, j5⟩ := Cond.arrayOver_spec (hts _ w_ao_t)
  have hao : va_AO "BottleLine$State" s := va_AO.of (hts _ w_ao_t)
  have hnw : nws s := by
    unfold nws nl
    exact List.forall_mem_cons.mpr ⟨va_Nw.of rfl (hts _ w_ml_X4_15_t), List.forall_mem_cons.mpr ⟨va_Nw.of rfl (hts _ w_ml_X2_56_t), List.forall_mem_cons.mpr ⟨va_Nw.of rfl (hts _ w_ml_X3_75_t), List.forall_mem_cons.mpr ⟨va_Nw.of rfl (hts _ w_ml_X1_40_t), List.forall_mem_cons.mpr ⟨va_Nw.of rfl (hts _ w_ml_X3_162_t), fun _ h => absurd h List.not_mem_nil⟩⟩⟩⟩⟩
  obtain ⟨K, hK0⟩ : ∃ K : CK, K = (D, cI, cB, cS) := ⟨_, rfl⟩
  have hK : va_K K.1 vwCl (t3 K) s := by
    rw [hK0]
    refine ⟨hD, fun k q hq => ?_⟩
    match k, hq with
    | 0, hq => cases hq; exact ⟨fun n z => ⟨fun k h => (by cases h), kI, f2, pI, f3⟩, f1⟩
    | 1, hq => cases hq; exact ⟨fun n z => ⟨fun k h => (by cases h), kB, g2, pB, g3⟩, g1⟩
    | 2, hq => cases hq; exact ⟨fun n z => ⟨fun k h => (by cases h), kS, j3, pS, j4⟩, kS, pS, j3, j4, j1, j5⟩
    | k + 3, hq => simp [t3] at hq
  clear hK0
  have C : ck p s m #[Value.ref b] c K (fun q : Nat => s.heap.size ≤ q) RL cL_law 4 := ⟨hx, hb, hml, hown, htu, hK, hnw, hao, fun q h => h⟩
  have hl := lv_entry ([.ref b]) (n := 4) (Nat.le_of_ble_eq_true rfl)
  rw [lg_entry_eq]
  generalize (lg_sl ([.ref b]) ++ List.replicate (4 - (lg_sl ([.ref b])).length) Slot.unset).toArray = ls at hl ⊢
  have hl : lv_has ls 4 [(0, .ref b)] := hl
  have key : WC p l e room_1 s m #[Value.ref b] below meth c K (fun q : Nat => s.heap.size ≤ q) [] 0 0 (lw_Z below #[Value.ref b] s) (F0 m 0 ls []) := by
    refine k_new C (ci := 3) rfl in_X4 tyX4 tyX4_ok w_cl_L_7 w_ii_X4 w_in_X4 (fs4 (vl [])) df4 (Nat.le_of_ble_eq_true rfl) (Nat.le_of_ble_eq_true rfl) dL_law_0 (fun q1 => ?_)
    refine k_dup C dL_law_3 rfl ?_
    refine k_init C (c_X4_init l K q1) si_X4 w_ml_L_9 (by decide) (by decide) ⟨Nat.le_of_ble_eq_true rfl, Nat.le_of_ble_eq_true rfl⟩ hl.1 rfl rfl (Nat.le_of_ble_eq_true rfl) dL_law_4 (fun u hu => ?_)
    refine k_astore (lv2 := [(1, .ref q1), (0, .ref b)]) C dL_law_7 rfl hl (by decide) rfl (fun ls hl => ?_)
    refine k_new C (ci := 4) rfl in_X5 tyX5 tyX5_ok w_cl_L_10 w_ii_X5 w_in_X5 (fs5 0 0 0 (vl [])) df5 (Nat.le_of_ble_eq_true rfl) (Nat.le_of_ble_eq_true rfl) dL_law_8 (fun q2 => ?_)
    refine k_dup C dL_law_11 rfl ?_
    refine k_init C (c_X5_init l K q2) si_X5 w_ml_L_12 (by decide) (by decide) ⟨Nat.le_of_ble_eq_true rfl, Nat.le_of_ble_eq_true rfl⟩ hl.1 rfl rfl (Nat.le_of_ble_eq_true rfl) dL_law_12 (fun v hv => ?_)
    refine k_astore (lv2 := [(2, .ref q2), (1, .ref q1), (0, .ref b)]) C dL_law_15 rfl hl (by decide) rfl (fun ls hl => ?_)
    refine k_iconst (v := 0) C dL_law_16 (by decide) ?_
    refine k_istore (lv2 := [(3, .int 0), (2, .ref q2), (1, .ref q1), (0, .ref b)]) C dL_law_17 rfl hl (by decide) rfl (fun ls hl => ?_)
    refine k_eq (ws2 := w4 K u ++ w5 K v) rfl ?_
    intro H locs hP hD hS
    obtain ⟨hP2, hj, hAr⟩ := world_all hu.2.2.2.1 hu.2.2.2.2 hP hD
    refine W.widen (k := 600000) (n := 7302250) (Nat.le_of_ble_eq_true rfl) (Nat.le_of_ble_eq_true rfl) ?_
    have e1 : (G00 K u v).2.2.2.2 0 = q1 := hu.1
    have e2 : (G00 K u v).2.2.2.2 110 = q2 := hv.1
    have CL : lc p s m meth c b L xs (G00 K u v) := ⟨⟨hx, hb, hml, hown, htu, hK, hj, hnw, hr, hlocks⟩, hX, hbl, hAr⟩
    have hl2 : lv_has ls 4 [(3, .int (nI 0)), (0, .ref b), (1, .ref ((G00 K u v).2.2.2.2 0)), (2, .ref ((G00 K u v).2.2.2.2 110))] := by
      rw [e1, e2]
      exact lv_sub hl [0, 3, 2, 1] rfl
    exact law_loop CL hL (L + 1) 0 (h00 u v) ls (by omega) (by omega) (INV_0 hu hv) hl2 H locs hP2 hS
  exact key s.heap [] (fun k q h => by simp at h) ⟨fun i j p q h => by simp at h, fun k q h => by simp at h⟩ va_S.rf
