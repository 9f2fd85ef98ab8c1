/-! THE CLAIM OUT OF ONE WALK OF THE LAW'S BODY. Your part is whole_start (and what it stands on); all else here is the same for every law, but numbers. -/
def R_law : String := "BottleLineLaw"
def lw_P (b : Addr) (xs : List Int32) (args : Array Value) (s : State) : Prop := args = #[.ref b] ∧ s.IntsAt b xs ∧ xs.length ≤ 2048 ∧ (Jvm.Cond.and given_1 narrow_1).before args s = true
def lw_Q (_ : Array Value) (s : State) (o : Outcome) (t : State) : Prop := o = .returned (some (.int 1)) ∧ Framed s o t [] 600000 7302250
def lw_Z (below : List Frame) (a : Array Value) (s : State) : State → Prop := fun t => ∃ o, t.status = .running ∧ Ended t below o ∧ lw_Q a s o t
/-- the law's own end, with 1 on the stack, nothing written that was there before, its room as the claim has it -/
theorem lw_ret {p : Program} {l : Launch} {e : Env} {s : State} {m : MethodId} {below : List Frame} {meth : Method} {c : Code} {b : Nat} (hx : p.tables.exec = Jvm.exec) (hb : c.code = code) (hr : meth.sig.returnType = ret) (hlocks : meth.locks = false) {pc : Nat} {H : Heap} {ls : Array Slot} (hdg : decode code pc = .ok (.ireturn, 1)) : W p l e room_1 s m #[Value.ref b] below meth c H [] 600000 7302250 (lw_Z below #[Value.ref b] s) (F0 m pc ls [.int 1]) := by
  intro T hT X
  obtain ⟨fs, hret, hrun, hended, hW, hframe⟩ := X.leave (v := some (.int 1)) (hlocks := hlocks) (fun h => by rw [hr] at h; cases h)
  have hmeth' : T.vm.method? m = some meth := X.method'
  refine ⟨T.setFrames fs, ?_, .returned (some (.int 1)), hrun, hended, rfl, ⟨_, rfl⟩, hW, hframe⟩
  jvm_step X.here [X.here.top, hx, hb, hdg, hmeth', hr, ret, narrow_b1]
  (try refine ⟨rfl, ?_⟩); (try refine ⟨rfl, ?_⟩)
  first | (intro acts; rw [hret _ acts rfl rfl rfl]) | rw [hret _ _ rfl rfl rfl]
  exact Steps.refl _
/-- what holds at the law's entry: the machine, the code, the tables' words (any of lw_tbl by 'hts w (by decide +kernel)'), the script of L ints xs at the cell b, what the Statement gives of the start (any of its parts by flat_of_before) -/
def lw_At (p : Program) (s : State) (m : MethodId) (meth : Method) (c : Code) (b L : Nat) (xs : Nat → Int32) : Prop :=
  p.tables.exec = Jvm.exec ∧ c.code = code ∧ meth.sig.returnType = ret ∧ c.maxLocals = 4 ∧ s.vm.findClass R_law = some m.cls ∧ (∀ w ∈ lw_tbl, w.before #[Value.ref b] s = true) ∧ va_X b L xs s s.heap ∧ b < s.heap.size ∧ meth.locks = false ∧ (Jvm.Cond.and given_1 narrow_1).before #[Value.ref b] s = true
-- the law's own rows
def WL (p : Program) (l : Launch) (e : Env) (s : State) (m : MethodId) (b : Nat) (below : List Frame) (meth : Method) (c : Code) (G : GG) (h : PH) (Q : State → Prop) (g : JFrame) : Prop :=
  ∀ (H : Heap) (locs : List Loc), va_P G.1 vwCl (wd G h) H → va_S (fun q : Nat => s.heap.size ≤ q) s.heap H locs → W p l e room_1 s m #[Value.ref b] below meth c H locs 600000 7302250 Q g
def lc (p : Program) (s : State) (m : MethodId) (meth : Method) (c : Code) (b L : Nat) (xs : Nat → Int32) (G : GG) : Prop :=
  cx p s m #[Value.ref b] meth c G RL cL_law 4 ret ∧ va_X b L xs s s.heap ∧ b < s.heap.size ∧ ∀ q, Ar G q → s.heap.size ≤ q
def bo (x : Int32) : Int32 := if x = 0 then 0 else 1
section
variable {p : Program} {l : Launch} {e : Env} {s : State} {m : MethodId} {below : List Frame} {meth : Method} {c : Code} {Q : State → Prop} {G : GG} {h h' : PH} {b L : Nat} {xs : Nat → Int32} {pc : Nat} {ls : Array Slot} {rest : List Value}
theorem l_l {g g2 : JFrame} (f : ∀ (H : Heap) (locs : List Loc), W p l e room_1 s m #[Value.ref b] below meth c H locs 600000 7302250 Q g2 → W p l e room_1 s m #[Value.ref b] below meth c H locs 600000 7302250 Q g) (kk : WL p l e s m b below meth c G h Q g2) : WL p l e s m b below meth c G h Q g := fun H locs x y => f H locs (kk H locs x y)
theorem l_aload (C : lc p s m meth c b L xs G) {q : Fin 4} {i x : Nat} (d : decode cL_law pc = .ok (.aload_n q, 1)) (hi : (q : Nat) = i) (hv : ls[i]? = some (.val (.ref x))) (kk : WL p l e s m b below meth c G h Q (F0 m (pc + 1) ls (.ref x :: rest))) : WL p l e s m b below meth c G h Q (F0 m pc ls rest) := fun H locs x y => lv_aload_n C.1.1 C.1.2.1 d hi hv (kk H locs x y)
theorem l_iload (C : lc p s m meth c b L xs G) {q : Fin 4} {i : Nat} {x : Int32} (d : decode cL_law pc = .ok (.iload_n q, 1)) (hi : (q : Nat) = i) (hv : ls[i]? = some (.val (.int x))) (kk : WL p l e s m b below meth c G h Q (F0 m (pc + 1) ls (.int x :: rest))) : WL p l e s m b below meth c G h Q (F0 m pc ls rest) := fun H locs x y => lv_iload_n C.1.1 C.1.2.1 d hi hv (kk H locs x y)
theorem l_iconst (C : lc p s m meth c b L xs G) {i : Int} {v : Int32} (d : decode cL_law pc = .ok (.iconst i, 1)) (hv : Int32.ofInt i = v) (kk : WL p l e s m b below meth c G h Q (F0 m (pc + 1) ls (.int v :: rest))) : WL p l e s m b below meth c G h Q (F0 m pc ls rest) := fun H locs x y => lv_iconst C.1.1 C.1.2.1 d hv (kk H locs x y)
theorem l_bipush (C : lc p s m meth c b L xs G) {i : Int} {v : Int32} (d : decode cL_law pc = .ok (.bipush i, 2)) (hv : (Int8.ofInt i).toInt32 = v) (kk : WL p l e s m b below meth c G h Q (F0 m (pc + 2) ls (.int v :: rest))) : WL p l e s m b below meth c G h Q (F0 m pc ls rest) := fun H locs x y => lv_bipush C.1.1 C.1.2.1 d hv (kk H locs x y)
theorem l_iadd (C : lc p s m meth c b L xs G) {x y : Int32} (d : decode cL_law pc = .ok (.iadd, 1)) (kk : WL p l e s m b below meth c G h Q (F0 m (pc + 1) ls (.int (x + y) :: rest))) : WL p l e s m b below meth c G h Q (F0 m pc ls (.int y :: .int x :: rest)) := fun H locs x y => lv_iadd C.1.1 C.1.2.1 d (kk H locs x y)
theorem l_isub (C : lc p s m meth c b L xs G) {x y : Int32} (d : decode cL_law pc = .ok (.isub, 1)) (kk : WL p l e s m b below meth c G h Q (F0 m (pc + 1) ls (.int (x - y) :: rest))) : WL p l e s m b below meth c G h Q (F0 m pc ls (.int y :: .int x :: rest)) := fun H locs x y => lv_isub C.1.1 C.1.2.1 d (kk H locs x y)
theorem l_iand (C : lc p s m meth c b L xs G) {x y : Int32} (d : decode cL_law pc = .ok (.iand, 1)) (kk : WL p l e s m b below meth c G h Q (F0 m (pc + 1) ls (.int (x &&& y) :: rest))) : WL p l e s m b below meth c G h Q (F0 m pc ls (.int y :: .int x :: rest)) := fun H locs x y => lv_iand C.1.1 C.1.2.1 d (kk H locs x y)
theorem l_goto (C : lc p s m meth c b L xs G) {off : Int} {tgt : Nat} (d : decode cL_law pc = .ok (.goto off, 3)) (ht : (pc : Int) + off = (tgt : Int)) (kk : WL p l e s m b below meth c G h Q (F0 m tgt ls rest)) : WL p l e s m b below meth c G h Q (F0 m pc ls rest) := fun H locs x y => lv_goto C.1.1 C.1.2.1 d ht (kk H locs x y)
theorem l_icgt (C : lc p s m meth c b L xs G) {x y : Int32} {off : Int} {tgt : Nat} (d : decode cL_law pc = .ok (.if_icmp .gt off, 3)) (ht : (pc : Int) + off = (tgt : Int)) (kt : y < x → WL p l e s m b below meth c G h Q (F0 m tgt ls rest)) (kf : ¬ (y < x) → WL p l e s m b below meth c G h Q (F0 m (pc + 3) ls rest)) : WL p l e s m b below meth c G h Q (F0 m pc ls (.int y :: .int x :: rest)) := fun H locs u w => lv_icmp_gt C.1.1 C.1.2.1 d ht (fun z => kt z H locs u w) (fun z => kf z H locs u w)
theorem l_iceq (C : lc p s m meth c b L xs G) {x : Int32} {off : Int} {tgt : Nat} (d : decode cL_law pc = .ok (.if_icmp .eq off, 3)) (ht : (pc : Int) + off = (tgt : Int)) (kt : WL p l e s m b below meth c G h Q (F0 m tgt ls rest)) : WL p l e s m b below meth c G h Q (F0 m pc ls (.int x :: .int x :: rest)) := fun H locs u w => lv_icmp_eq C.1.1 C.1.2.1 d ht (fun _ => kt H locs u w) (fun z => absurd rfl z)
theorem l_ifeq (C : lc p s m meth c b L xs G) {x : Int32} {off : Int} {tgt : Nat} (d : decode cL_law pc = .ok (.ifCond .eq off, 3)) (ht : (pc : Int) + off = (tgt : Int)) (kt : x = 0 → WL p l e s m b below meth c G h Q (F0 m tgt ls rest)) (kf : ¬ x = 0 → WL p l e s m b below meth c G h Q (F0 m (pc + 3) ls rest)) : WL p l e s m b below meth c G h Q (F0 m pc ls (.int x :: rest)) := fun H locs u w => lv_if_eq C.1.1 C.1.2.1 d ht (fun z => kt z H locs u w) (fun z => kf z H locs u w)
theorem l_iinc (C : lc p s m meth c b L xs G) {i j : Nat} {t : Int} {x v : Int32} {lv lv2 : List (Nat × Value)} (d : decode cL_law pc = .ok (.iinc i t, 3)) (hl : lv_has ls 4 lv) (hk : lv[j]? = some (i, .int x)) (hv : x + Int32.ofInt t = v) (hn : i < 4) (he : (i, Value.int v) :: lv.filter (fun q => !(q.1 == i) && !(q.1 + 1 == i && q.2.category == 2)) = lv2) (kk : ∀ ls2 : Array Slot, lv_has ls2 4 lv2 → WL p l e s m b below meth c G h Q (F0 m (pc + 3) ls2 rest)) : WL p l e s m b below meth c G h Q (F0 m pc ls rest) := fun H locs x y => lv_iinc C.1.1 C.1.2.1 d hl hk hv hn he (fun ls2 h2 => kk ls2 h2 H locs x y)
theorem l_ts (C : lc p s m meth c b L xs G) {dflt lo hi : Int} {offs : Array Int} {len : Nat} {x : Int32} {off : Int} {tgt : Nat} (v : Int32) (hx : x = v) (d : decode cL_law pc = .ok (.tableswitch dflt lo hi offs, len)) (h12 : (!(decide (v.toInt < lo)) && !(decide (hi < v.toInt)) && decide (offs[(v.toInt - lo).toNat]? = some off)) = true) (ht : (pc : Int) + off = (tgt : Int)) (k : WL p l e s m b below meth c G h Q (F0 m tgt ls rest)) : WL p l e s m b below meth c G h Q (F0 m pc ls (.int x :: rest)) := by
  subst hx
  simp only [Bool.and_eq_true, Bool.not_eq_true', decide_eq_false_iff_not, decide_eq_true_eq] at h12
  exact fun H locs x y => lv_tableIn C.1.1 C.1.2.1 d h12.1.1 h12.1.2 h12.2 ht (k H locs x y)
theorem l_sld (C : lc p s m meth c b L xs G) {i : Nat} (hi : i < L) (hL : L ≤ 2048) (d : decode cL_law pc = .ok (.iaload, 1)) (kk : WL p l e s m b below meth c G h Q (F0 m (pc + 1) ls (.int (xs i) :: rest))) : WL p l e s m b below meth c G h Q (F0 m pc ls (.int (nI i) :: .ref b :: rest)) := by
  intro H locs x y
  refine va_sld C.1.1 C.1.2.1 C.2.1 C.2.2.1 (Nat.not_le.mpr C.2.2.1) y (vp_in_nI hi (by omega)) d ?_
  rw [nI_clamp (by omega)]
  exact kk H locs x y
theorem l_slen (C : lc p s m meth c b L xs G) (d : decode cL_law pc = .ok (.arraylength, 1)) (kk : WL p l e s m b below meth c G h Q (F0 m (pc + 1) ls (.int (nI L) :: rest))) : WL p l e s m b below meth c G h Q (F0 m pc ls (.ref b :: rest)) := fun H locs x y => va_slen C.1.1 C.1.2.1 C.2.1 C.2.2.1 (Nat.not_le.mpr C.2.2.1) y d (kk H locs x y)
theorem l_arg (C : lc p s m meth c b L xs G) {i j : Nat} {t : Int} (hij : i + j < L) (hL : L ≤ 2048) (h0 : ls[0]? = some (.val (.ref b))) (h3 : ls[3]? = some (.val (.int (nI i)))) (ht : Int32.ofInt t = nI j) (d0 : decode cL_law pc = .ok (.aload_n 0, 1)) (d1 : decode cL_law (pc + 1) = .ok (.iload_n 3, 1)) (d2 : decode cL_law (pc + 2) = .ok (.iconst t, 1)) (d3 : decode cL_law (pc + 3) = .ok (.iadd, 1)) (d4 : decode cL_law (pc + 4) = .ok (.iaload, 1)) (kk : WL p l e s m b below meth c G h Q (F0 m (pc + 5) ls (.int (xs (i + j)) :: rest))) : WL p l e s m b below meth c G h Q (F0 m pc ls rest) := by
  refine l_aload C d0 rfl h0 ?_
  refine l_iload C d1 rfl h3 ?_
  refine l_iconst C d2 ht ?_
  refine l_iadd C d3 ?_
  rw [nI_add]
  exact l_sld C hij hL d4 kk
theorem l_bool (C : lc p s m meth c b L xs G) {x : Int32} (d0 : decode cL_law pc = .ok (.ifCond .eq 7, 3)) (d1 : decode cL_law (pc + 3) = .ok (.iconst 1, 1)) (d2 : decode cL_law (pc + 4) = .ok (.goto 4, 3)) (d3 : decode cL_law (pc + 7) = .ok (.iconst 0, 1)) (kk : WL p l e s m b below meth c G h Q (F0 m (pc + 8) ls (.int (bo x) :: rest))) : WL p l e s m b below meth c G h Q (F0 m pc ls (.int x :: rest)) := by
  refine l_ifeq (tgt := pc + 7) C d0 (by omega) (fun z => ?_) (fun z => ?_)
  · have e0 : bo x = 0 := if_pos z
    rw [e0] at kk
    exact l_iconst (v := 0) C d3 (by decide) kk
  · have e1 : bo x = 1 := if_neg z
    rw [e1] at kk
    refine l_iconst (v := 1) C d1 (by decide) ?_
    exact l_goto (tgt := pc + 8) C d2 (by omega) kk
theorem l_call (C : lc p s m meth c b L xs G) {k ci N : Nat} {T : u_T} {idx hy ny n : Nat} {y : MethodName} {cy : ByteArray} {rty : FieldType} {As st0 : List Value} {r : Int32} (S : sv y cy ny (some rty) n) (hw : Cond.methodLink RL idx y ∈ ut) (hM : MI l G y cy ny rty hy (.ref (G.2.2.2.2 k) :: As) h (r, h')) (hk : kd k = ci) (hci : vwCl[ci]? = some (y.cls, T, N)) (hkc : ci < 5) {fs : List Value} (he : ce G h k = .inr (ci, fs)) (hhy : hy ≤ 7) (hl : ls.size = 4) (hn : As.length = n) (hst : st0 = As.reverse ++ .ref (G.2.2.2.2 k) :: rest) (hr : (rest.map fun v => v.category).sum ≤ 8) (d : decode cL_law pc = .ok (.invokevirtual idx, 3)) (kk : WL p l e s m b below meth c G h' Q (F0 m (pc + 3) ls (.int r :: rest))) : WL p l e s m b below meth c G h Q (F0 m pc ls st0) := by
  intro H locs hP hS
  obtain ⟨s1, s2, s3, s4, s5, s6⟩ := S
  refine va_calli (A0 := fun q : Nat => s.heap.size ≤ q) (A1 := Ar G) (H0 := s.heap) (free := Ar G) (va_runV (Ts := ut) (cc := cL_law) (C := y.cls) (b := G.2.2.2.2 k) (As := As) (rest := rest) ⟨C.1.1, C.1.2.1, C.1.2.2.1, C.1.2.2.2.1, C.1.2.2.2.2.1⟩ hM ⟨callB_of n C.1.2.2.2.2.1 (good_ut s1) rfl rfl rfl (C.1.2.2.2.2.1 _ s4) (C.1.2.2.2.2.1 _ hw) s5 ⟨by show hy + 1 ≤ 9; omega, by show 8 + (ny + 11) + 33 * hy ≤ 302; omega⟩, C.1.2.2.2.2.1 _ s2, C.1.2.2.2.2.1 _ s3⟩
    ⟨Pq_blind _ _ _, va_recv (ci := ci) (q0 := k) C.1.2.2.2.2.2.1 hP hci ((wd_at (kd_lt ci (by omega) hk)).trans (by rw [he])), Pq_pre C.1 hP⟩ rfl hn hl hst (lv_room hr) d ⟨Nat.le_refl _, Nat.le_refl _⟩) hS (fun q _ z => C.2.2.2 q z) (fun q z => C.2.2.2 q z) ?_
  intro r0 u t H1 locs1 ht hvm hw hB hz hk1 hS1
  obtain ⟨rfl, rfl⟩ := hw
  exact kk H1 locs1 (by rw [← ht]; exact hB.1) hS1
theorem l_callL (C : lc p s m meth c b L xs G) {k ci N : Nat} {T : u_T} {idx hy ny n : Nat} {y : MethodName} {cy : ByteArray} {As st0 : List Value} {r : Int64} (S : sv y cy ny (some .long) n) (hw : Cond.methodLink RL idx y ∈ ut) (hM : MLo l G y cy ny hy (.ref (G.2.2.2.2 k) :: As) h (r, h')) (hk : kd k = ci) (hci : vwCl[ci]? = some (y.cls, T, N)) (hkc : ci < 5) {fs : List Value} (he : ce G h k = .inr (ci, fs)) (hhy : hy ≤ 7) (hl : ls.size = 4) (hn : As.length = n) (hst : st0 = As.reverse ++ .ref (G.2.2.2.2 k) :: rest) (hr : (rest.map fun v => v.category).sum ≤ 8) (d : decode cL_law pc = .ok (.invokevirtual idx, 3)) (kk : WL p l e s m b below meth c G h' Q (F0 m (pc + 3) ls (.long r :: rest))) : WL p l e s m b below meth c G h Q (F0 m pc ls st0) := by
  intro H locs hP hS
  obtain ⟨s1, s2, s3, s4, s5, s6⟩ := S
  refine va_calll (A0 := fun q : Nat => s.heap.size ≤ q) (A1 := Ar G) (H0 := s.heap) (free := Ar G) (va_runV (Ts := ut) (cc := cL_law) (C := y.cls) (b := G.2.2.2.2 k) (As := As) (rest := rest) ⟨C.1.1, C.1.2.1, C.1.2.2.1, C.1.2.2.2.1, C.1.2.2.2.2.1⟩ hM ⟨callB_of n C.1.2.2.2.2.1 (good_ut s1) rfl rfl rfl (C.1.2.2.2.2.1 _ s4) (C.1.2.2.2.2.1 _ hw) s5 ⟨by show hy + 1 ≤ 9; omega, by show 8 + (ny + 11) + 33 * hy ≤ 302; omega⟩, C.1.2.2.2.2.1 _ s2, C.1.2.2.2.2.1 _ s3⟩
    ⟨Pq_blind _ _ _, va_recv (ci := ci) (q0 := k) C.1.2.2.2.2.2.1 hP hci ((wd_at (kd_lt ci (by omega) hk)).trans (by rw [he])), Pq_pre C.1 hP⟩ rfl hn hl hst (lv_room hr) d ⟨Nat.le_refl _, Nat.le_refl _⟩) hS (fun q _ z => C.2.2.2 q z) (fun q z => C.2.2.2 q z) ?_
  intro r0 u t H1 locs1 ht hvm hw hB hz hk1 hS1
  obtain ⟨rfl, rfl⟩ := hw
  exact kk H1 locs1 (by rw [← ht]; exact hB.1) hS1
theorem l_retn {b : Nat} (C : lc p s m meth c b L xs G) (d : decode cL_law pc = .ok (.ireturn, 1)) : WL p l e s m b below meth c G h (lw_Z below #[Value.ref b] s) (F0 m pc ls [.int 1]) := fun H locs x y => va_forget (fun q hq => y.2.2 q hq) (lw_ret C.1.1 C.1.2.1 C.1.2.2.2.2.2.2.2.2.1 C.1.2.2.2.2.2.2.2.2.2 d)
end
theorem and31 (x : Int32) : ∃ n : Nat, n < 32 ∧ x &&& 31 = nI n := by
  refine ⟨x.toBitVec.toNat % 32, Nat.mod_lt _ (by decide), ?_⟩
  apply Int32.toBitVec_inj.mp
  apply BitVec.eq_of_toNat_eq
  have e1 : (x &&& 31).toBitVec = x.toBitVec &&& 31#32 := rfl
  have e2 : (nI (x.toBitVec.toNat % 32)).toBitVec = BitVec.ofNat 32 (x.toBitVec.toNat % 32) := rfl
  rw [e1, e2, BitVec.toNat_and, BitVec.toNat_ofNat, BitVec.toNat_ofNat]
  have e3 : 31 % 2 ^ 32 = 2 ^ 5 - 1 := rfl
  rw [e3, Nat.and_two_pow_sub_one_eq_mod]
  show x.toBitVec.toNat % 32 = x.toBitVec.toNat % 32 % 4294967296
  omega
theorem law_gt {L i : Nat} (hL : L ≤ 2048) (hi : i ≤ 4096) : nI L - 4 < nI i ↔ L < i + 4 := by
  by_cases h : 4 ≤ L
  · rw [L4, nI_subI h]
    constructor
    · intro z
      exact Nat.lt_of_not_le fun q => nI_nlt (by omega) (by omega) z
    · intro z
      exact nI_lt (by omega) (by omega)
  · refine ⟨fun _ => by omega, fun _ => ?_⟩
    have e : (nI L - 4).toInt < 0 := by
      have k : L = 0 ∨ L = 1 ∨ L = 2 ∨ L = 3 := by omega
      rcases k with rfl | rfl | rfl | rfl <;> decide
    rw [Int32.lt_iff_toInt_lt, nI_toInt (by omega)]
    omega
