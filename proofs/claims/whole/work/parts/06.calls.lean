section
variable {p : Program} {l : Launch} {e : Env} {s : State} {m : MethodId} {args : Array Value} {below : List Frame} {meth : Method} {c : Code} {Q : State → Prop} {G : GG} {h h' : PH} {cc : ByteArray} {nL hg : Nat} {own : String} {rt : Option FieldType} {pc : Nat} {ls : Array Slot} {rest : List Value}
def sv (y : MethodName) (cy : ByteArray) (ny : Nat) (ry : Option FieldType) (n : Nat) : Prop := Cond.code y cy ny ry ∈ ut ∧ Cond.instanceMethod y ∈ ut ∧ Cond.selects y.cls y y ∈ ut ∧ Cond.initialized y.cls ∈ ut ∧ (y.cls ≠ "java/lang/invoke/MethodHandle" ∧ y.cls ≠ "java/lang/invoke/VarHandle" ∧ (parseMethodDescriptor y.desc).map (fun d => d.parameters.length) = some n) ∧ ny ≤ 14
def ss (y : MethodName) (cy : ByteArray) (ny : Nat) (ry : Option FieldType) (n : Nat) : Prop := Cond.code y cy ny ry ∈ ut ∧ Cond.static y ∈ ut ∧ Cond.initialized y.cls ∈ ut ∧ (y.cls ≠ "java/lang/invoke/MethodHandle" ∧ y.cls ≠ "java/lang/invoke/VarHandle" ∧ (parseMethodDescriptor y.desc).map (fun d => d.parameters.length) = some n) ∧ ny ≤ 14
theorem good_ut {y : MethodName} {cy : ByteArray} {ny : Nat} {ry : Option FieldType} (hc : Cond.code y cy ny ry ∈ ut) : GoodIn ut (Cond.code y cy ny ry :: ut) := fun w h => by
  rcases List.mem_cons.mp h with rfl | h
  · exact ⟨hc, good_of_word (ut_good hc)⟩
  · exact ⟨h, good_of_word (ut_good h)⟩
theorem rmh_ok {hg hy ny : Nat} (h1 : hy + 1 ≤ hg) (h2 : ny ≤ 14) : (rmh hy).frames + 1 ≤ (rmh hg).frames ∧ 8 + (ny + 11) + (rmh hy).locals ≤ (rmh hg).locals := by
  refine ⟨h1, ?_⟩
  show 8 + (ny + 11) + 33 * hy ≤ 33 * hg
  omega
theorem nws_to {s U : State} (hW : s.WarmedH U.vm) (h : nws s) : nws U := fun q hq => va_Nw.warmM hW (h q hq)
theorem Pq_blind (G : GG) (As : List Value) (h : PH) : FrameBlind (Pq G As h) := fun a U g mk q => by
  obtain ⟨q0, ⟨q1, q2, q3⟩, q4⟩ := q
  exact ⟨q0, ⟨q1, va_K.moved (u := U) (U := U.calling g mk a) (Vm.Alike.refl U.vm) q2, q3⟩, fun x hx => va_Nw.same rfl (u := U) rfl (q4 x hx)⟩
theorem Pq_pre (C : cx p s m args meth c G own cc nL rt) {As : List Value} {H : Heap} (hP : va_P G.1 vwCl (wd G h) H) : ∀ U : State, U.heap = H → s.WarmedH U.vm → Pq G As h As.toArray U := fun U hU hW => ⟨rfl, ⟨by rw [hU]; exact hP, va_K.moved hW.alike C.2.2.2.2.2.1, C.2.2.2.2.2.2.1⟩, nws_to hW C.2.2.2.2.2.2.2.1⟩
theorem q_runV (C : cx p s m args meth c G own cc nL rt) {k ci idx hy ny n : Nat} {T : u_T} {N : Nat} {y : MethodName} {cy : ByteArray} {ry : Option FieldType} {As : List Value} {st0 : List Value} {Qc : Array Value → State → Outcome → State → Prop} {H : Heap} {locs : List Loc} (S : sv y cy ny ry n) (hw : Cond.methodLink own idx y ∈ ut) (hM : Met l y (Cond.code y cy ny ry :: ut) (rmh hy) (Pq G (.ref (G.2.2.2.2 k) :: As) h) Qc 0 0 (Ar G)) (hk : kd k = ci) (hci : vwCl[ci]? = some (y.cls, T, N)) (hkc : ci < 5) {fs : List Value} (he : ce G h k = .inr (ci, fs)) (hhy : hy + 1 ≤ hg) (hl : ls.size = nL) (hn : As.length = n) (hst : st0 = As.reverse ++ .ref (G.2.2.2.2 k) :: rest) (hr : (rest.map fun v => v.category).sum ≤ 8) (d : decode cc pc = .ok (.invokevirtual idx, 3)) (hP : va_P G.1 vwCl (wd G h) H) : va_Run p l e (rmh hg) s m args below meth c H locs 0 0 0 0 (F0 m pc ls st0) rest (Qc (.ref (G.2.2.2.2 k) :: As).toArray) (Ar G) := by
  obtain ⟨s1, s2, s3, s4, s5, s6⟩ := S
  exact va_runV (Ts := ut) (cc := cc) (C := y.cls) (b := G.2.2.2.2 k) (As := As) (rest := rest) ⟨C.1, C.2.1, C.2.2.1, C.2.2.2.1, C.2.2.2.2.1⟩ hM ⟨callB_of n C.2.2.2.2.1 (good_ut s1) rfl rfl rfl (C.2.2.2.2.1 _ s4) (C.2.2.2.2.1 _ hw) s5 (rmh_ok hhy s6), C.2.2.2.2.1 _ s2, C.2.2.2.2.1 _ s3⟩
    ⟨Pq_blind _ _ _, va_recv (ci := ci) (q0 := k) C.2.2.2.2.2.1 hP hci ((wd_at (kd_lt ci (by omega) hk)).trans (by rw [he])), Pq_pre C hP⟩ rfl hn hl hst (lv_room hr) d ⟨Nat.zero_le _, Nat.zero_le _⟩
theorem q_runS (C : cx p s m args meth c G own cc nL rt) {idx hy ny n : Nat} {y : MethodName} {cy : ByteArray} {ry : Option FieldType} {As : List Value} {st0 : List Value} {Qc : Array Value → State → Outcome → State → Prop} {H : Heap} {locs : List Loc} (S : ss y cy ny ry n) (hw : Cond.methodLink own idx y ∈ ut) (hM : Met l y (Cond.code y cy ny ry :: ut) (rmh hy) (Pq G As h) Qc 0 0 (Ar G)) (hhy : hy + 1 ≤ hg) (hl : ls.size = nL) (hn : As.length = n) (hst : st0 = As.reverse ++ rest) (hr : (rest.map fun v => v.category).sum ≤ 8) (d : decode cc pc = .ok (.invokestatic idx, 3)) (hP : va_P G.1 vwCl (wd G h) H) : va_Run p l e (rmh hg) s m args below meth c H locs 0 0 0 0 (F0 m pc ls st0) rest (Qc As.toArray) (Ar G) := by
  obtain ⟨s1, s2, s4, s5, s6⟩ := S
  exact va_runS (Ts := ut) (cc := cc) (As := As) (rest := rest) ⟨C.1, C.2.1, C.2.2.1, C.2.2.2.1, C.2.2.2.2.1⟩ hM ⟨callB_of n C.2.2.2.2.1 (good_ut s1) rfl rfl rfl (C.2.2.2.2.1 _ s4) (C.2.2.2.2.1 _ hw) s5 (rmh_ok hhy s6), C.2.2.2.2.1 _ s2⟩
    ⟨Pq_blind _ _ _, Pq_pre C hP⟩ rfl hn hl hst (lv_room hr) d ⟨Nat.zero_le _, Nat.zero_le _⟩
theorem q_runN (C : cx p s m args meth c G own cc nL rt) {idx hy ny n : Nat} {y : MethodName} {host : String} {cy : ByteArray} {ry : Option FieldType} {As : List Value} {st0 : List Value} {Qc : Array Value → State → Outcome → State → Prop} {H : Heap} {locs : List Loc} (S : ss y cy ny ry n) (hw : (own, idx, y, host) ∈ nl) (hM : Met l y (Cond.code y cy ny ry :: ut) (rmh hy) (Pq G As h) Qc 0 0 (Ar G)) (hhy : hy + 1 ≤ hg) (hl : ls.size = nL) (hn : As.length = n) (hst : st0 = As.reverse ++ rest) (hr : (rest.map fun v => v.category).sum ≤ 8) (d : decode cc pc = .ok (.invokestatic idx, 3)) (hP : va_P G.1 vwCl (wd G h) H) : va_Run p l e (rmh hg) s m args below meth c H locs 0 0 0 0 (F0 m pc ls st0) rest (Qc As.toArray) (Ar G) := by
  obtain ⟨s1, s2, s4, s5, s6⟩ := S
  exact va_runSN (Ts := ut) (cc := cc) (As := As) (rest := rest) ⟨C.1, C.2.1, C.2.2.1, C.2.2.2.1, C.2.2.2.2.1⟩ hM ⟨va_cnB n C.2.2.2.2.1 (good_ut s1) rfl rfl rfl (C.2.2.2.2.2.2.2.1 _ hw) (C.2.2.2.2.1 _ s4) s5 (rmh_ok hhy s6), C.2.2.2.2.1 _ s2, trivial⟩
    ⟨Pq_blind _ _ _, Pq_pre C hP⟩ rfl hn hl hst (lv_room hr) d ⟨Nat.zero_le _, Nat.zero_le _⟩
theorem q_callVi (C : cx p s m args meth c G own cc nL rt) {k ci N : Nat} {T : u_T} {idx hy ny n : Nat} {y : MethodName} {cy : ByteArray} {rty : FieldType} {As st0 : List Value} {r : Int32} (S : sv y cy ny (some rty) n) (hw : Cond.methodLink own idx y ∈ ut) (hM : MI l G y cy ny rty hy (.ref (G.2.2.2.2 k) :: As) h (r, h')) (hk : kd k = ci) (hci : vwCl[ci]? = some (y.cls, T, N)) (hkc : ci < 5) {fs : List Value} (he : ce G h k = .inr (ci, fs)) (hhy : hy + 1 ≤ hg) (hl : ls.size = nL) (hn : As.length = n) (hst : st0 = As.reverse ++ .ref (G.2.2.2.2 k) :: rest) (hr : (rest.map fun v => v.category).sum ≤ 8) (d : decode cc pc = .ok (.invokevirtual idx, 3)) (kk : WW p l e hg s m args below meth c G h' Q (F0 m (pc + 3) ls (.int r :: rest))) : WW p l e hg s m args below meth c G h Q (F0 m pc ls st0) := by
  intro H locs hP hS
  refine va_calli (A0 := Ar G) (A1 := Ar G) (H0 := s.heap) (free := Ar G) (q_runV C S hw hM hk hci hkc he hhy hl hn hst hr d hP) hS (fun _ _ z => z) (fun _ z => z) ?_
  · intro r0 u t H1 locs1 ht hvm hw hB hz hk1 hS1
    obtain ⟨rfl, rfl⟩ := hw
    exact kk H1 locs1 (by rw [← ht]; exact hB.1) hS1
theorem q_callSi (C : cx p s m args meth c G own cc nL rt) {idx hy ny n : Nat} {y : MethodName} {cy : ByteArray} {rty : FieldType} {As st0 : List Value} {r : Int32} (S : ss y cy ny (some rty) n) (hw : Cond.methodLink own idx y ∈ ut) (hM : MI l G y cy ny rty hy As h (r, h')) (hhy : hy + 1 ≤ hg) (hl : ls.size = nL) (hn : As.length = n) (hst : st0 = As.reverse ++ rest) (hr : (rest.map fun v => v.category).sum ≤ 8) (d : decode cc pc = .ok (.invokestatic idx, 3)) (kk : WW p l e hg s m args below meth c G h' Q (F0 m (pc + 3) ls (.int r :: rest))) : WW p l e hg s m args below meth c G h Q (F0 m pc ls st0) := by
  intro H locs hP hS
  refine va_calli (A0 := Ar G) (A1 := Ar G) (H0 := s.heap) (free := Ar G) (q_runS C S hw hM hhy hl hn hst hr d hP) hS (fun _ _ z => z) (fun _ z => z) ?_
  · intro r0 u t H1 locs1 ht hvm hw hB hz hk1 hS1
    obtain ⟨rfl, rfl⟩ := hw
    exact kk H1 locs1 (by rw [← ht]; exact hB.1) hS1
theorem q_callNi (C : cx p s m args meth c G own cc nL rt) {host : String} {idx hy ny n : Nat} {y : MethodName} {cy : ByteArray} {rty : FieldType} {As st0 : List Value} {r : Int32} (S : ss y cy ny (some rty) n) (hw : (own, idx, y, host) ∈ nl) (hM : MI l G y cy ny rty hy As h (r, h')) (hhy : hy + 1 ≤ hg) (hl : ls.size = nL) (hn : As.length = n) (hst : st0 = As.reverse ++ rest) (hr : (rest.map fun v => v.category).sum ≤ 8) (d : decode cc pc = .ok (.invokestatic idx, 3)) (kk : WW p l e hg s m args below meth c G h' Q (F0 m (pc + 3) ls (.int r :: rest))) : WW p l e hg s m args below meth c G h Q (F0 m pc ls st0) := by
  intro H locs hP hS
  refine va_calli (A0 := Ar G) (A1 := Ar G) (H0 := s.heap) (free := Ar G) (q_runN C S hw hM hhy hl hn hst hr d hP) hS (fun _ _ z => z) (fun _ z => z) ?_
  · intro r0 u t H1 locs1 ht hvm hw hB hz hk1 hS1
    obtain ⟨rfl, rfl⟩ := hw
    exact kk H1 locs1 (by rw [← ht]; exact hB.1) hS1
theorem q_callVl (C : cx p s m args meth c G own cc nL rt) {k ci N : Nat} {T : u_T} {idx hy ny n : Nat} {y : MethodName} {cy : ByteArray} {As st0 : List Value} {r : Int64} (S : sv y cy ny (some .long) n) (hw : Cond.methodLink own idx y ∈ ut) (hM : MLo l G y cy ny hy (.ref (G.2.2.2.2 k) :: As) h (r, h')) (hk : kd k = ci) (hci : vwCl[ci]? = some (y.cls, T, N)) (hkc : ci < 5) {fs : List Value} (he : ce G h k = .inr (ci, fs)) (hhy : hy + 1 ≤ hg) (hl : ls.size = nL) (hn : As.length = n) (hst : st0 = As.reverse ++ .ref (G.2.2.2.2 k) :: rest) (hr : (rest.map fun v => v.category).sum ≤ 8) (d : decode cc pc = .ok (.invokevirtual idx, 3)) (kk : WW p l e hg s m args below meth c G h' Q (F0 m (pc + 3) ls (.long r :: rest))) : WW p l e hg s m args below meth c G h Q (F0 m pc ls st0) := by
  intro H locs hP hS
  refine va_calll (A0 := Ar G) (A1 := Ar G) (H0 := s.heap) (free := Ar G) (q_runV C S hw hM hk hci hkc he hhy hl hn hst hr d hP) hS (fun _ _ z => z) (fun _ z => z) ?_
  · intro r0 u t H1 locs1 ht hvm hw hB hz hk1 hS1
    obtain ⟨rfl, rfl⟩ := hw
    exact kk H1 locs1 (by rw [← ht]; exact hB.1) hS1
theorem q_callSl (C : cx p s m args meth c G own cc nL rt) {idx hy ny n : Nat} {y : MethodName} {cy : ByteArray} {As st0 : List Value} {r : Int64} (S : ss y cy ny (some .long) n) (hw : Cond.methodLink own idx y ∈ ut) (hM : MLo l G y cy ny hy As h (r, h')) (hhy : hy + 1 ≤ hg) (hl : ls.size = nL) (hn : As.length = n) (hst : st0 = As.reverse ++ rest) (hr : (rest.map fun v => v.category).sum ≤ 8) (d : decode cc pc = .ok (.invokestatic idx, 3)) (kk : WW p l e hg s m args below meth c G h' Q (F0 m (pc + 3) ls (.long r :: rest))) : WW p l e hg s m args below meth c G h Q (F0 m pc ls st0) := by
  intro H locs hP hS
  refine va_calll (A0 := Ar G) (A1 := Ar G) (H0 := s.heap) (free := Ar G) (q_runS C S hw hM hhy hl hn hst hr d hP) hS (fun _ _ z => z) (fun _ z => z) ?_
  · intro r0 u t H1 locs1 ht hvm hw hB hz hk1 hS1
    obtain ⟨rfl, rfl⟩ := hw
    exact kk H1 locs1 (by rw [← ht]; exact hB.1) hS1
theorem q_callNl (C : cx p s m args meth c G own cc nL rt) {host : String} {idx hy ny n : Nat} {y : MethodName} {cy : ByteArray} {As st0 : List Value} {r : Int64} (S : ss y cy ny (some .long) n) (hw : (own, idx, y, host) ∈ nl) (hM : MLo l G y cy ny hy As h (r, h')) (hhy : hy + 1 ≤ hg) (hl : ls.size = nL) (hn : As.length = n) (hst : st0 = As.reverse ++ rest) (hr : (rest.map fun v => v.category).sum ≤ 8) (d : decode cc pc = .ok (.invokestatic idx, 3)) (kk : WW p l e hg s m args below meth c G h' Q (F0 m (pc + 3) ls (.long r :: rest))) : WW p l e hg s m args below meth c G h Q (F0 m pc ls st0) := by
  intro H locs hP hS
  refine va_calll (A0 := Ar G) (A1 := Ar G) (H0 := s.heap) (free := Ar G) (q_runN C S hw hM hhy hl hn hst hr d hP) hS (fun _ _ z => z) (fun _ z => z) ?_
  · intro r0 u t H1 locs1 ht hvm hw hB hz hk1 hS1
    obtain ⟨rfl, rfl⟩ := hw
    exact kk H1 locs1 (by rw [← ht]; exact hB.1) hS1
theorem q_callVv (C : cx p s m args meth c G own cc nL rt) {k ci N : Nat} {T : u_T} {idx hy ny n : Nat} {y : MethodName} {cy : ByteArray} {As st0 : List Value} {r : Unit} (S : sv y cy ny none n) (hw : Cond.methodLink own idx y ∈ ut) (hM : MV l G y cy ny hy (.ref (G.2.2.2.2 k) :: As) h (r, h')) (hk : kd k = ci) (hci : vwCl[ci]? = some (y.cls, T, N)) (hkc : ci < 5) {fs : List Value} (he : ce G h k = .inr (ci, fs)) (hhy : hy + 1 ≤ hg) (hl : ls.size = nL) (hn : As.length = n) (hst : st0 = As.reverse ++ .ref (G.2.2.2.2 k) :: rest) (hr : (rest.map fun v => v.category).sum ≤ 8) (d : decode cc pc = .ok (.invokevirtual idx, 3)) (kk : WW p l e hg s m args below meth c G h' Q (F0 m (pc + 3) ls (rest))) : WW p l e hg s m args below meth c G h Q (F0 m pc ls st0) := by
  intro H locs hP hS
  refine va_callv (A0 := Ar G) (A1 := Ar G) (H0 := s.heap) (free := Ar G) (q_runV C S hw hM hk hci hkc he hhy hl hn hst hr d hP) hS (fun _ _ z => z) (fun _ z => z) ?_
  · intro u t H1 locs1 ht hvm hw hB hz hk1 hS1
    cases hw
    exact kk H1 locs1 (by rw [← ht]; exact hB.1) hS1
theorem q_callSv (C : cx p s m args meth c G own cc nL rt) {idx hy ny n : Nat} {y : MethodName} {cy : ByteArray} {As st0 : List Value} {r : Unit} (S : ss y cy ny none n) (hw : Cond.methodLink own idx y ∈ ut) (hM : MV l G y cy ny hy As h (r, h')) (hhy : hy + 1 ≤ hg) (hl : ls.size = nL) (hn : As.length = n) (hst : st0 = As.reverse ++ rest) (hr : (rest.map fun v => v.category).sum ≤ 8) (d : decode cc pc = .ok (.invokestatic idx, 3)) (kk : WW p l e hg s m args below meth c G h' Q (F0 m (pc + 3) ls (rest))) : WW p l e hg s m args below meth c G h Q (F0 m pc ls st0) := by
  intro H locs hP hS
  refine va_callv (A0 := Ar G) (A1 := Ar G) (H0 := s.heap) (free := Ar G) (q_runS C S hw hM hhy hl hn hst hr d hP) hS (fun _ _ z => z) (fun _ z => z) ?_
  · intro u t H1 locs1 ht hvm hw hB hz hk1 hS1
    cases hw
    exact kk H1 locs1 (by rw [← ht]; exact hB.1) hS1
theorem q_callNv (C : cx p s m args meth c G own cc nL rt) {host : String} {idx hy ny n : Nat} {y : MethodName} {cy : ByteArray} {As st0 : List Value} {r : Unit} (S : ss y cy ny none n) (hw : (own, idx, y, host) ∈ nl) (hM : MV l G y cy ny hy As h (r, h')) (hhy : hy + 1 ≤ hg) (hl : ls.size = nL) (hn : As.length = n) (hst : st0 = As.reverse ++ rest) (hr : (rest.map fun v => v.category).sum ≤ 8) (d : decode cc pc = .ok (.invokestatic idx, 3)) (kk : WW p l e hg s m args below meth c G h' Q (F0 m (pc + 3) ls (rest))) : WW p l e hg s m args below meth c G h Q (F0 m pc ls st0) := by
  intro H locs hP hS
  refine va_callv (A0 := Ar G) (A1 := Ar G) (H0 := s.heap) (free := Ar G) (q_runN C S hw hM hhy hl hn hst hr d hP) hS (fun _ _ z => z) (fun _ z => z) ?_
  · intro u t H1 locs1 ht hvm hw hB hz hk1 hS1
    cases hw
    exact kk H1 locs1 (by rw [← ht]; exact hB.1) hS1
theorem q_iret (C : cx p s m args meth c G own cc nL (some .int)) {v : Int32} (d : decode cc pc = .ok (.ireturn, 1)) : WW p l e hg s m args below meth c G h (MQ below (QI G (v, h)) args s 0 0 (Ar G)) (F0 m pc ls [.int v]) := fun H locs hP hS =>
  W.iret (v := v) C.1 C.2.1 C.2.2.2.2.2.2.2.2.1 (fun t ht hW => ⟨⟨v, h, rfl, ⟨rfl, rfl⟩, by rw [ht]; exact hP, va_K.moved hW.alike C.2.2.2.2.2.1, C.2.2.2.2.2.2.1⟩, hS.F ht⟩) hS.2.2 d C.2.2.2.2.2.2.2.2.2
theorem q_zret (C : cx p s m args meth c G own cc nL (some .boolean)) {v : Int32} (hv : v = 0 ∨ v = 1) (d : decode cc pc = .ok (.ireturn, 1)) : WW p l e hg s m args below meth c G h (MQ below (QI G (v, h)) args s 0 0 (Ar G)) (F0 m pc ls [.int v]) := fun H locs hP hS =>
  W.zret (v := v) C.1 C.2.1 C.2.2.2.2.2.2.2.2.1 (by rcases hv with rfl | rfl <;> rfl) (fun t ht hW => ⟨⟨v, h, rfl, ⟨rfl, rfl⟩, by rw [ht]; exact hP, va_K.moved hW.alike C.2.2.2.2.2.1, C.2.2.2.2.2.2.1⟩, hS.F ht⟩) hS.2.2 d C.2.2.2.2.2.2.2.2.2
theorem q_lret (C : cx p s m args meth c G own cc nL (some .long)) {v : Int64} (d : decode cc pc = .ok (.lreturn, 1)) : WW p l e hg s m args below meth c G h (MQ below (QL G (v, h)) args s 0 0 (Ar G)) (F0 m pc ls [.long v]) := fun H locs hP hS =>
  W.lret (v := v) C.1 C.2.1 C.2.2.2.2.2.2.2.2.1 (fun t ht hW => ⟨⟨v, h, rfl, ⟨rfl, rfl⟩, by rw [ht]; exact hP, va_K.moved hW.alike C.2.2.2.2.2.1, C.2.2.2.2.2.2.1⟩, hS.F ht⟩) hS.2.2 d C.2.2.2.2.2.2.2.2.2
theorem q_vret (C : cx p s m args meth c G own cc nL none) (d : decode cc pc = .ok (.return_, 1)) : WW p l e hg s m args below meth c G h (MQ below (QV G ((), h)) args s 0 0 (Ar G)) (F0 m pc ls []) := fun H locs hP hS =>
  W.vret C.1 C.2.1 C.2.2.2.2.2.2.2.2.1 (fun t ht hW => ⟨⟨h, rfl, rfl, by rw [ht]; exact hP, va_K.moved hW.alike C.2.2.2.2.2.1, C.2.2.2.2.2.2.1⟩, hS.F ht⟩) hS.2.2 d C.2.2.2.2.2.2.2.2.2
theorem ofWF {y : MethodName} {ws ws' : List Cond} {rm : Room} {Pc : Array Value → State → Prop} {Qc : Array Value → State → Outcome → State → Prop} {mc ms : Nat} {free : Addr → Prop} {maxL : Nat} {ret : Option FieldType}
    (hy : plainFor y = true) (hw : ws = Cond.code y cc maxL ret :: ws')
    (body : ∀ p e s m args below meth c s₁, BodyLoose p l y (headSpec ws rm) cc maxL ret e s m args below meth c s₁ → c.maxLocals = maxL → Pc args s →
      W p l e (headSpec ws rm).room s m args below meth c s.heap [] 0 0 (MQ below Qc args s mc ms free) (entryFrame m args maxL)) : Met l y ws rm Pc Qc mc ms free := by
  refine MetFree.of_bodySF (code := cc) (maxLocals := maxL) (ret := ret) hy ?_ ?_
  · intro args s m h hn
    obtain ⟨meth, c, h1, h2, h3, h4, h5, h6, -, -⟩ := Cond.code_spec hn (atoms_spec (ws := ws) h _ (by rw [hw]; exact List.mem_cons_self))
    exact ⟨meth, c, h1, h2, h3, h4, h5, h6⟩
  · intro p e s m args below meth c s₁ B hml hP _
    have hh0 : s₁.heap = s.heap := by rw [B.state]; rfl
    obtain ⟨t, a1, o, b1, b2, b3⟩ := body p e s m args below meth c s₁ B hml hP s₁ hh0 (Stand.of_body B)
    exact ⟨t, o, a1, b1, b2, ⟨b3.1, b3.2⟩⟩
theorem MI_of {y : MethodName} {rty : FieldType} {As : List Value} {res : Int32 × PH} (hy : plainFor y = true) (hlen : (lg_sl As).length ≤ nL) (body : ∀ (p : Program) (e : Env) (s : State) (m : MethodId) (args : Array Value) (below : List Frame) (meth : Method) (c : Code) (ls : Array Slot), cx p s m args meth c G y.cls cc nL (some rty) → lv_has ls nL (lv_args 0 As) → WW p l e hg s m args below meth c G h (MQ below (QI G res) args s 0 0 (Ar G)) (F0 m 0 ls [])) : MI l G y cc nL rty hg As h res := by
  refine ofWF (cc := cc) (maxL := nL) (ret := (some rty)) hy rfl ?_
  intro p e s m args below meth c s₁ B hml hv
  obtain ⟨rfl, ⟨hP, hK, hj⟩, hw⟩ := hv
  have hts := atoms_spec (ws := Cond.code y cc nL (some rty) :: ut) B.pre
  rw [lg_entry_eq]
  exact body p e s m As.toArray below meth c _ ⟨B.exec, B.bytes, hml, findClass_of_methodNamed B.named, fun w h => hts w (List.mem_cons_of_mem _ h), hK, hj, hw, B.returns, B.notSynchronized⟩ (lv_entry As hlen) s.heap [] hP va_S.rf
theorem MLo_of {y : MethodName} {As : List Value} {res : Int64 × PH} (hy : plainFor y = true) (hlen : (lg_sl As).length ≤ nL) (body : ∀ (p : Program) (e : Env) (s : State) (m : MethodId) (args : Array Value) (below : List Frame) (meth : Method) (c : Code) (ls : Array Slot), cx p s m args meth c G y.cls cc nL (some .long) → lv_has ls nL (lv_args 0 As) → WW p l e hg s m args below meth c G h (MQ below (QL G res) args s 0 0 (Ar G)) (F0 m 0 ls [])) : MLo l G y cc nL hg As h res := by
  refine ofWF (cc := cc) (maxL := nL) (ret := (some .long)) hy rfl ?_
  intro p e s m args below meth c s₁ B hml hv
  obtain ⟨rfl, ⟨hP, hK, hj⟩, hw⟩ := hv
  have hts := atoms_spec (ws := Cond.code y cc nL (some .long) :: ut) B.pre
  rw [lg_entry_eq]
  exact body p e s m As.toArray below meth c _ ⟨B.exec, B.bytes, hml, findClass_of_methodNamed B.named, fun w h => hts w (List.mem_cons_of_mem _ h), hK, hj, hw, B.returns, B.notSynchronized⟩ (lv_entry As hlen) s.heap [] hP va_S.rf
theorem MV_of {y : MethodName} {As : List Value} {res : Unit × PH} (hy : plainFor y = true) (hlen : (lg_sl As).length ≤ nL) (body : ∀ (p : Program) (e : Env) (s : State) (m : MethodId) (args : Array Value) (below : List Frame) (meth : Method) (c : Code) (ls : Array Slot), cx p s m args meth c G y.cls cc nL none → lv_has ls nL (lv_args 0 As) → WW p l e hg s m args below meth c G h (MQ below (QV G res) args s 0 0 (Ar G)) (F0 m 0 ls [])) : MV l G y cc nL hg As h res := by
  refine ofWF (cc := cc) (maxL := nL) (ret := none) hy rfl ?_
  intro p e s m args below meth c s₁ B hml hv
  obtain ⟨rfl, ⟨hP, hK, hj⟩, hw⟩ := hv
  have hts := atoms_spec (ws := Cond.code y cc nL none :: ut) B.pre
  rw [lg_entry_eq]
  exact body p e s m As.toArray below meth c _ ⟨B.exec, B.bytes, hml, findClass_of_methodNamed B.named, fun w h => hts w (List.mem_cons_of_mem _ h), hK, hj, hw, B.returns, B.notSynchronized⟩ (lv_entry As hlen) s.heap [] hP va_S.rf
end
