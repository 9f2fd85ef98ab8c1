-- constructors: worlds that grow
abbrev CK : Type := va_G × ClassId × ClassId × ClassId
def t3 (K : CK) : List (ClassId × FieldType) := [(K.2.1, .int), (K.2.2.1, .boolean), (K.2.2.2, .object "BottleLine$State")]
def ck (p : Program) (s : State) (m : MethodId) (args : Array Value) (c : Code) (K : CK) (A : Nat → Prop) (own : String) (cc : ByteArray) (nL : Nat) : Prop :=
  p.tables.exec = Jvm.exec ∧ c.code = cc ∧ c.maxLocals = nL ∧ s.vm.findClass own = some m.cls ∧ (∀ w ∈ ut, w.before args s = true) ∧ va_K K.1 vwCl (t3 K) s ∧ nws s ∧ va_AO "BottleLine$State" s ∧ ∀ q : Nat, s.heap.size ≤ q → A q
def WC (p : Program) (l : Launch) (e : Env) (R : Room) (s : State) (m : MethodId) (args : Array Value) (below : List Frame) (meth : Method) (c : Code) (K : CK) (A : Nat → Prop) (ws : va_W) (n k : Nat) (Q : State → Prop) (g : JFrame) : Prop :=
  ∀ (H : Heap) (locs : List Loc), va_P K.1 vwCl ws H → va_D A ws → va_S A s.heap H locs → W p l e R s m args below meth c H locs n k Q g
theorem join1 {A : Nat → Prop} {D : va_G} {cl : List vw_C} {ws w1 : va_W} {b : Nat} {x : va_E} {H H1 : Heap} (hP : va_P D cl (ws ++ [(b, x)]) H) (hD : va_D A (ws ++ [(b, x)])) (hk : ∀ q : Nat, q < H.size → ¬ va_A [(b, x)] H.size q → H1[q]? = H[q]?) (hF : ∀ q, va_A [(b, x)] H.size q → A q) (hP1 : va_P D cl w1 H1) (hD1 : va_D (va_A [(b, x)] H.size) w1) : va_P D cl (ws ++ w1) H1 ∧ va_D A (ws ++ w1) := by
  have inl : ∀ (k : Nat) (q : Nat × va_E), ws[k]? = some q → (ws ++ [(b, x)])[k]? = some q ∧ k < ws.length := fun k q hq => by
    have hl : k < ws.length := (List.getElem?_eq_some_iff.mp hq).1
    exact ⟨by rw [List.getElem?_append_left hl]; exact hq, hl⟩
  have lst : (ws ++ [(b, x)])[ws.length]? = some (b, x) := by simp
  have apart : ∀ (k : Nat) (q : Nat × va_E), ws[k]? = some q → q.1 < H.size ∧ ¬ va_A [(b, x)] H.size q.1 := by
    intro k q hq
    obtain ⟨h1, h2⟩ := inl k q hq
    have hl := (hP k q h1).lt
    refine ⟨hl, fun h => ?_⟩
    rcases h with ⟨k2, e, h⟩ | h
    · have hz : k2 < 1 := (List.getElem?_eq_some_iff.mp h).1
      have hz0 : k2 = 0 := by omega
      subst hz0
      have he : (b, x) = (q.1, e) := Option.some.inj h
      have hb : b = q.1 := congrArg Prod.fst he
      have := hD.1 k ws.length q (b, x) h1 lst hb.symm
      omega
    · omega
  refine ⟨va_P.app (fun k q hq => ?_) hP1, va_D.app ⟨fun i j p q hp hq hpq => hD.1 i j p q (inl i p hp).1 (inl j q hq).1 hpq, fun k q hq => hD.2 k q (inl k q hq).1⟩ (hD1.weaken (fun k q _ h => hF q.1 h)) (fun i j y z hy hz hyz => ?_)⟩
  · obtain ⟨g1, g2⟩ := apart k q hq
    exact (hP k q (inl k q hq).1).kept (hk q.1 g1 g2)
  · exact (apart i y hy).2 (by rw [hyz]; exact hD1.2 j z hz)
def rmc (f mc ms : Nat) : Room := { frames := f, cells := mc, slots := ms, locals := 33 * f }
def Pk (K : CK) (As : List Value) (ws : va_W) (sz : Nat) : Array Value → State → Prop := va_Pc As (fun U => U.heap.size = sz ∧ va_P K.1 vwCl ws U.heap ∧ va_K K.1 vwCl (t3 K) U ∧ va_D (fun _ => True) ws ∧ nws U ∧ va_AO "BottleLine$State" U)
def Qk {S : Type} (K : CK) (ws : va_W) (sz : Nat) (wp : S → va_W) (post : S → Prop) : Array Value → State → Outcome → State → Prop := va_Qv post (fun u t => va_P K.1 vwCl (wp u) t.heap ∧ va_D (va_A ws sz) (wp u)) (va_A ws sz)
/-- a constructor's contract: from the one cell of the new object to the cells behind it -/
def MK {S : Type} (l : Launch) (K : CK) (y : MethodName) (cc : ByteArray) (nL f mc ms : Nat) (As : List Value) (ws : va_W) (wp : S → va_W) (post : S → Prop) : Prop :=
  ∀ sz : Nat, Met l y (Cond.code y cc nL none :: ut) (rmc f mc ms) (Pk K As ws sz) (Qk K ws sz wp post) mc ms (va_A ws sz)
theorem Pk_blind (K : CK) (As : List Value) (ws : va_W) (sz : Nat) : FrameBlind (Pk K As ws sz) := fun a U g mk q => by
  obtain ⟨q0, q1, q2, q3, q4, q5, q6⟩ := q
  exact ⟨q0, q1, q2, va_K.moved (u := U) (U := U.calling g mk a) (Vm.Alike.refl U.vm) q3, q4, fun x hx => va_Nw.same rfl (u := U) rfl (q5 x hx), va_AO.moved (u := U) (U := U.calling g mk a) (Vm.Alike.refl U.vm) q6⟩
section
variable {p : Program} {l : Launch} {e : Env} {R : Room} {s : State} {m : MethodId} {args : Array Value} {below : List Frame} {meth : Method} {c : Code} {Q : State → Prop} {K : CK} {A : Nat → Prop} {own : String} {cc : ByteArray} {nL : Nat} {ws : va_W} {n k : Nat} {pc : Nat} {ls : Array Slot} {rest : List Value}
theorem k_l {g g2 : JFrame} (f : ∀ (H : Heap) (locs : List Loc), W p l e R s m args below meth c H locs n k Q g2 → W p l e R s m args below meth c H locs n k Q g) (kk : WC p l e R s m args below meth c K A ws n k Q g2) : WC p l e R s m args below meth c K A ws n k Q g := fun H locs x y z => f H locs (kk H locs x y z)
theorem k_eq {ws2 : va_W} {g : JFrame} (h : ws = ws2) (kk : WC p l e R s m args below meth c K A ws2 n k Q g) : WC p l e R s m args below meth c K A ws n k Q g := h ▸ kk
theorem k_aload (C : ck p s m args c K A own cc nL) {q : Fin 4} {i x : Nat} (d : decode cc pc = .ok (.aload_n q, 1)) (hi : (q : Nat) = i) (hv : ls[i]? = some (.val (.ref x))) (kk : WC p l e R s m args below meth c K A ws n k Q (F0 m (pc + 1) ls (.ref x :: rest))) : WC p l e R s m args below meth c K A ws n k Q (F0 m pc ls rest) := fun H locs x y z => lv_aload_n C.1 C.2.1 d hi hv (kk H locs x y z)
theorem k_iload (C : ck p s m args c K A own cc nL) {q : Fin 4} {i : Nat} {x : Int32} (d : decode cc pc = .ok (.iload_n q, 1)) (hi : (q : Nat) = i) (hv : ls[i]? = some (.val (.int x))) (kk : WC p l e R s m args below meth c K A ws n k Q (F0 m (pc + 1) ls (.int x :: rest))) : WC p l e R s m args below meth c K A ws n k Q (F0 m pc ls rest) := fun H locs x y z => lv_iload_n C.1 C.2.1 d hi hv (kk H locs x y z)
theorem k_iconst (C : ck p s m args c K A own cc nL) {i : Int} {v : Int32} (d : decode cc pc = .ok (.iconst i, 1)) (hv : Int32.ofInt i = v) (kk : WC p l e R s m args below meth c K A ws n k Q (F0 m (pc + 1) ls (.int v :: rest))) : WC p l e R s m args below meth c K A ws n k Q (F0 m pc ls rest) := fun H locs x y z => lv_iconst C.1 C.2.1 d hv (kk H locs x y z)
theorem k_bipush (C : ck p s m args c K A own cc nL) {i : Int} {v : Int32} (d : decode cc pc = .ok (.bipush i, 2)) (hv : (Int8.ofInt i).toInt32 = v) (kk : WC p l e R s m args below meth c K A ws n k Q (F0 m (pc + 2) ls (.int v :: rest))) : WC p l e R s m args below meth c K A ws n k Q (F0 m pc ls rest) := fun H locs x y z => lv_bipush C.1 C.2.1 d hv (kk H locs x y z)
theorem k_sipush (C : ck p s m args c K A own cc nL) {i : Int} {v : Int32} (d : decode cc pc = .ok (.sipush i, 3)) (hv : (Int16.ofInt i).toInt32 = v) (kk : WC p l e R s m args below meth c K A ws n k Q (F0 m (pc + 3) ls (.int v :: rest))) : WC p l e R s m args below meth c K A ws n k Q (F0 m pc ls rest) := fun H locs x y z => lv_sipush C.1 C.2.1 d hv (kk H locs x y z)
theorem k_iadd (C : ck p s m args c K A own cc nL) {x y : Int32} (d : decode cc pc = .ok (.iadd, 1)) (kk : WC p l e R s m args below meth c K A ws n k Q (F0 m (pc + 1) ls (.int (x + y) :: rest))) : WC p l e R s m args below meth c K A ws n k Q (F0 m pc ls (.int y :: .int x :: rest)) := fun H locs x y z => lv_iadd C.1 C.2.1 d (kk H locs x y z)
theorem k_dup (C : ck p s m args c K A own cc nL) {v : Value} (d : decode cc pc = .ok (.dup, 1)) (hv : v.category = 1) (kk : WC p l e R s m args below meth c K A ws n k Q (F0 m (pc + 1) ls (v :: v :: rest))) : WC p l e R s m args below meth c K A ws n k Q (F0 m pc ls (v :: rest)) := fun H locs x y z => lv_dup C.1 C.2.1 d hv (kk H locs x y z)
theorem k_goto (C : ck p s m args c K A own cc nL) {off : Int} {tgt : Nat} (d : decode cc pc = .ok (.goto off, 3)) (ht : (pc : Int) + off = (tgt : Int)) (kk : WC p l e R s m args below meth c K A ws n k Q (F0 m tgt ls rest)) : WC p l e R s m args below meth c K A ws n k Q (F0 m pc ls rest) := fun H locs x y z => lv_goto C.1 C.2.1 d ht (kk H locs x y z)
theorem k_icge (C : ck p s m args c K A own cc nL) {x y : Int32} {off : Int} {tgt : Nat} (d : decode cc pc = .ok (.if_icmp .ge off, 3)) (ht : (pc : Int) + off = (tgt : Int)) (kt : y ≤ x → WC p l e R s m args below meth c K A ws n k Q (F0 m tgt ls rest)) (kf : ¬ (y ≤ x) → WC p l e R s m args below meth c K A ws n k Q (F0 m (pc + 3) ls rest)) : WC p l e R s m args below meth c K A ws n k Q (F0 m pc ls (.int y :: .int x :: rest)) := fun H locs a b d2 => lv_icmp_ge C.1 C.2.1 d ht (fun z => kt z H locs a b d2) (fun z => kf z H locs a b d2)
theorem k_istore (C : ck p s m args c K A own cc nL) {q : Fin 4} {i : Nat} {x : Int32} {lv lv2 : List (Nat × Value)} (d : decode cc pc = .ok (.istore_n q, 1)) (hi : (q : Nat) = i) (hl : lv_has ls nL lv) (hn : i < nL) (he : (i, Value.int x) :: lv.filter (fun q => !(q.1 == i) && !(q.1 + 1 == i && q.2.category == 2)) = lv2) (kk : ∀ ls2 : Array Slot, lv_has ls2 nL lv2 → WC p l e R s m args below meth c K A ws n k Q (F0 m (pc + 1) ls2 rest)) : WC p l e R s m args below meth c K A ws n k Q (F0 m pc ls (.int x :: rest)) := fun H locs x y z => lv_istore_n C.1 C.2.1 d hi hl hn he (fun ls2 h2 => kk ls2 h2 H locs x y z)
theorem k_iinc (C : ck p s m args c K A own cc nL) {i j : Nat} {t : Int} {x v : Int32} {lv lv2 : List (Nat × Value)} (d : decode cc pc = .ok (.iinc i t, 3)) (hl : lv_has ls nL lv) (hk : lv[j]? = some (i, .int x)) (hv : x + Int32.ofInt t = v) (hn : i < nL) (he : (i, Value.int v) :: lv.filter (fun q => !(q.1 == i) && !(q.1 + 1 == i && q.2.category == 2)) = lv2) (kk : ∀ ls2 : Array Slot, lv_has ls2 nL lv2 → WC p l e R s m args below meth c K A ws n k Q (F0 m (pc + 3) ls2 rest)) : WC p l e R s m args below meth c K A ws n k Q (F0 m pc ls rest) := fun H locs x y z => lv_iinc C.1 C.2.1 d hl hk hv hn he (fun ls2 h2 => kk ls2 h2 H locs x y z)
theorem k_new (C : ck p s m args c K A own cc nL) {ci N idx : Nat} {T : u_T} {Cn : String} (hc : vwCl[ci]? = some (Cn, T, N)) (hin : ∀ w ∈ u_ws Cn T N, w ∈ ut) (tf : Nat → FieldType) (hty : ∀ k, k < N → parseFieldDescriptor (T k).2.2.1 = some (tf k)) (hl : Cond.classLink own idx Cn ∈ ut) (hi : Cond.instantiable Cn N ∈ ut) (hini : Cond.initialized Cn ∈ ut) (fs : List Value) (hfs : ∀ j, j < N → defaultValue (tf j) = vp_V fs j) (hcs : n + 1 ≤ R.cells) (hss : k + N ≤ R.slots) (d : decode cc pc = .ok (.new idx, 3)) (kk : ∀ q : Nat, WC p l e R s m args below meth c K A (ws ++ [(q, .inr (ci, fs))]) (n + 1) (k + N) Q (F0 m (pc + 3) ls (.ref q :: rest))) : WC p l e R s m args below meth c K A ws n k Q (F0 m pc ls rest) := fun H locs x y z => va_new C.1 C.2.1 C.2.2.2.2.1 hin tf hty C.2.2.2.1 (C.2.2.2.2.1 _ hl) (C.2.2.2.2.1 _ hi) (C.2.2.2.2.1 _ hini) C.2.2.2.2.2.1 x y z C.2.2.2.2.2.2.2.2 hc hfs hcs hss d (fun q H1 x1 y1 z1 => kk q H1 locs x1 y1 z1)
theorem k_newi (C : ck p s m args c K A own cc nL) {v : Int32} (N : Nat) (hv : v = nI N) (hN : N ≤ 2000) (hcs : n + 1 ≤ R.cells) (hss : k + N ≤ R.slots) (d : decode cc pc = .ok (.newarray .int, 2)) (kk : ∀ q : Nat, WC p l e R s m args below meth c K A (ws ++ [(q, .inl (K.2.1, N, .inl (fun _ => 0)))]) (n + 1) (k + N) Q (F0 m (pc + 2) ls (.ref q :: rest))) : WC p l e R s m args below meth c K A ws n k Q (F0 m pc ls (.int v :: rest)) := by
  intro H locs x y z
  refine va_newa (atype := .int) (ty := .int) (a0 := (N, .inl (fun _ => 0))) C.1 C.2.1 (C.2.2.2.2.1 _ w_ac_int) rfl C.2.2.2.2.2.1 x y z C.2.2.2.2.2.2.2.2 (fun _ => rfl) (by rw [hv]; exact nI_pos (by omega)) (by rw [hv]; exact nI_clamp (by omega)) (by show N * 4 ≤ _; omega) hcs hss d (fun q cA H1 k1 x1 y1 z1 => ?_)
  have e1 : s.vm.findClass ("[" ++ FieldType.int.toString) = some cA := (k1.2 3 _ rfl).2
  have e2 : s.vm.findClass ("[" ++ FieldType.int.toString) = some K.2.1 := (C.2.2.2.2.2.1.2 0 _ rfl).2
  have e3 : cA = K.2.1 := Option.some.inj (e1.symm.trans e2)
  subst e3
  exact kk q H1 locs x1 y1 z1
theorem k_newb (C : ck p s m args c K A own cc nL) {v : Int32} (N : Nat) (hv : v = nI N) (hN : N ≤ 2000) (hcs : n + 1 ≤ R.cells) (hss : k + N ≤ R.slots) (d : decode cc pc = .ok (.newarray .boolean, 2)) (kk : ∀ q : Nat, WC p l e R s m args below meth c K A (ws ++ [(q, .inl (K.2.2.1, N, .inl (fun _ => 0)))]) (n + 1) (k + N) Q (F0 m (pc + 2) ls (.ref q :: rest))) : WC p l e R s m args below meth c K A ws n k Q (F0 m pc ls (.int v :: rest)) := by
  intro H locs x y z
  refine va_newa (atype := .boolean) (ty := .boolean) (a0 := (N, .inl (fun _ => 0))) C.1 C.2.1 (C.2.2.2.2.1 _ w_ac_boolean) rfl C.2.2.2.2.2.1 x y z C.2.2.2.2.2.2.2.2 (fun _ => rfl) (by rw [hv]; exact nI_pos (by omega)) (by rw [hv]; exact nI_clamp (by omega)) (by show N * 1 ≤ _; omega) hcs hss d (fun q cA H1 k1 x1 y1 z1 => ?_)
  have e1 : s.vm.findClass ("[" ++ FieldType.boolean.toString) = some cA := (k1.2 3 _ rfl).2
  have e2 : s.vm.findClass ("[" ++ FieldType.boolean.toString) = some K.2.2.1 := (C.2.2.2.2.2.1.2 1 _ rfl).2
  have e3 : cA = K.2.2.1 := Option.some.inj (e1.symm.trans e2)
  subst e3
  exact kk q H1 locs x1 y1 z1
theorem k_newq (C : ck p s m args c K A own cc nL) {idx : Nat} {v : Int32} (N : Nat) (hv : v = nI N) (hN : N ≤ 2000) (hw : Cond.classLink own idx "BottleLine$State" ∈ ut) (hcs : n + 1 ≤ R.cells) (hss : k + N ≤ R.slots) (d : decode cc pc = .ok (.anewarray idx, 3)) (kk : ∀ q : Nat, WC p l e R s m args below meth c K A (ws ++ [(q, .inl (K.2.2.2, N, .inr (.inr (.inr (.inr (fun _ => none))))))]) (n + 1) (k + N) Q (F0 m (pc + 3) ls (.ref q :: rest))) : WC p l e R s m args below meth c K A ws n k Q (F0 m pc ls (.int v :: rest)) := by
  intro H locs x y z
  refine va_newq C.1 C.2.1 C.2.2.2.1 (C.2.2.2.2.1 _ hw) C.2.2.2.2.2.2.2.1 C.2.2.2.2.2.1 x y z C.2.2.2.2.2.2.2.2 (by rw [hv]; exact nI_pos (by omega)) (by rw [hv]; exact nI_clamp (by omega)) (by omega) hcs hss d (fun q cA H1 k1 x1 y1 z1 => ?_)
  obtain ⟨-, -, -, -, -, e1⟩ := (k1.2 3 _ rfl).2
  obtain ⟨-, -, -, -, -, e2⟩ := (C.2.2.2.2.2.1.2 2 _ rfl).2
  have e3 : cA = K.2.2.2 := Option.some.inj (e1.symm.trans e2)
  subst e3
  exact kk q H1 locs x1 y1 z1
theorem k_get (C : ck p s m args c K A own cc nL) {ci N idx : Nat} {T : u_T} {Cn : String} (hc : vwCl[ci]? = some (Cn, T, N)) (hin : ∀ w ∈ u_ws Cn T N, w ∈ ut) {a : Nat} (q0 : Nat) {fs : List Value} (he : ws[q0]? = some (a, .inr (ci, fs))) (i : Nat) (hi : i < N) (hw : Cond.fieldLink own idx (T i).1 (T i).2.1 (T i).2.2.1 ∈ ut) {v : Value} (hv : fs[i]? = some v) (d : decode cc pc = .ok (.getfield idx, 3)) (kk : WC p l e R s m args below meth c K A ws n k Q (F0 m (pc + 3) ls (v :: rest))) : WC p l e R s m args below meth c K A ws n k Q (F0 m pc ls (.ref a :: rest)) := fun H locs x y z => va_get C.1 C.2.1 C.2.2.2.2.1 hin C.2.2.2.1 C.2.2.2.2.2.1 x q0 he hc i hi (C.2.2.2.2.1 _ hw) (fun _ z => z) hv d (kk H locs x y z)
theorem k_putF (C : ck p s m args c K A own cc nL) (hname : meth.name = "<init>") {ci N idx : Nat} {T : u_T} {Cn : String} (hc : vwCl[ci]? = some (Cn, T, N)) (hin : ∀ w ∈ u_ws Cn T N, w ∈ ut) {tf : Nat → FieldType} (hty : ∀ k, k < N → parseFieldDescriptor (T k).2.2.1 = some (tf k)) (hnm : ∀ a, a < N → ∀ b, b < N → a ≠ b → (T a).2.1 ≠ (T b).2.1) {a : Nat} (q0 : Nat) {fs : List Value} (he : ws[q0]? = some (a, .inr (ci, fs))) (i : Nat) (hi : i < N) (hw : Cond.fieldLink own idx (T i).1 (T i).2.1 (T i).2.2.1 ∈ ut) (hfin : (T i).2.2.2 = true) (hdecl : (T i).1 = own) {v : Value} (hn : narrow (tf i) v = v) (hfit : fits (tf i) v = true) (hlen : i < fs.length) (d : decode cc pc = .ok (.putfield idx, 3)) (ws2 : va_W) (hws : ws.set q0 (a, .inr (ci, fs.set i v)) = ws2) (kk : WC p l e R s m args below meth c K A ws2 n k Q (F0 m (pc + 3) ls rest)) : WC p l e R s m args below meth c K A ws n k Q (F0 m pc ls (v :: .ref a :: rest)) := by
  subst hws
  exact fun H locs x y z => va_putF C.1 C.2.1 C.2.2.2.2.1 hin tf hty hnm C.2.2.2.1 C.2.2.2.2.2.1 x y z q0 he hc i hi (C.2.2.2.2.1 _ hw) (fun _ z => z) hfin hname hdecl (hty i hi) hn hfit hlen d (fun H1 locs1 x1 y1 z1 => kk H1 locs1 x1 y1 z1)
theorem k_put (C : ck p s m args c K A own cc nL) {ci N idx : Nat} {T : u_T} {Cn : String} (hc : vwCl[ci]? = some (Cn, T, N)) (hin : ∀ w ∈ u_ws Cn T N, w ∈ ut) {tf : Nat → FieldType} (hty : ∀ k, k < N → parseFieldDescriptor (T k).2.2.1 = some (tf k)) (hnm : ∀ a, a < N → ∀ b, b < N → a ≠ b → (T a).2.1 ≠ (T b).2.1) {a : Nat} (q0 : Nat) {fs : List Value} (he : ws[q0]? = some (a, .inr (ci, fs))) (i : Nat) (hi : i < N) (hw : Cond.fieldLink own idx (T i).1 (T i).2.1 (T i).2.2.1 ∈ ut) (hfin : (T i).2.2.2 = false) {v : Value} (hn : narrow (tf i) v = v) (hfit : fits (tf i) v = true) (hlen : i < fs.length) (d : decode cc pc = .ok (.putfield idx, 3)) (ws2 : va_W) (hws : ws.set q0 (a, .inr (ci, fs.set i v)) = ws2) (kk : WC p l e R s m args below meth c K A ws2 n k Q (F0 m (pc + 3) ls rest)) : WC p l e R s m args below meth c K A ws n k Q (F0 m pc ls (v :: .ref a :: rest)) := by
  subst hws
  exact fun H locs x y z => va_put C.1 C.2.1 C.2.2.2.2.1 hin tf hty hnm C.2.2.2.1 C.2.2.2.2.2.1 x y z q0 he hc i hi (C.2.2.2.2.1 _ hw) (fun _ z => z) hfin (hty i hi) hn hfit hlen d (fun H1 locs1 x1 y1 z1 => kk H1 locs1 x1 y1 z1)
theorem k_iast (C : ck p s m args c K A own cc nL) {a N : Nat} {f : Nat → Int32} (q0 : Nat) (he : ws[q0]? = some (a, .inl (K.2.1, N, .inl f))) {i x : Int32} (hin : vp_in i N) (d : decode cc pc = .ok (.iastore, 1)) (ws2 : va_W) (hws : ws.set q0 (a, .inl (K.2.1, N, .inl (upd f i.toNatClampNeg x))) = ws2) (kk : WC p l e R s m args below meth c K A ws2 n k Q (F0 m (pc + 1) ls rest)) : WC p l e R s m args below meth c K A ws n k Q (F0 m pc ls (.int x :: .int i :: .ref a :: rest)) := by
  subst hws
  exact fun H locs x y z => va_iast C.1 C.2.1 C.2.2.2.2.2.1 x y z q0 0 he rfl hin d (fun H1 locs1 x1 y1 z1 => kk H1 locs1 x1 y1 z1)
theorem k_aast (C : ck p s m args c K A own cc nL) {a N v : Nat} {vs : List Value} {f : Nat → Option Nat} (q0 qk : Nat) (he : ws[q0]? = some (a, .inl (K.2.2.2, N, .inr (.inr (.inr (.inr f)))))) (hv : ws[qk]? = some (v, .inr (2, vs))) {i : Int32} (hin : vp_in i N) (d : decode cc pc = .ok (.aastore, 1)) (ws2 : va_W) (hws : ws.set q0 (a, .inl (K.2.2.2, N, .inr (.inr (.inr (.inr (va_up f i.toNatClampNeg (some v))))))) = ws2) (kk : WC p l e R s m args below meth c K A ws2 n k Q (F0 m (pc + 1) ls rest)) : WC p l e R s m args below meth c K A ws n k Q (F0 m pc ls (.ref v :: .int i :: .ref a :: rest)) := by
  subst hws
  exact fun H locs x y z => va_astq (r := (RX3, TX3, 18)) C.1 C.2.1 C.2.2.2.2.2.1 x y z q0 2 qk 2 he rfl hv rfl hin d (fun H1 locs1 x1 y1 z1 => kk H1 locs1 x1 y1 z1)
theorem k_obj (C : ck p s m args c K A own cc nL) {idx a : Nat} (hw : Cond.methodLink own idx objectInit ∈ ut) (hl : ls.size = nL) (hf : 1 ≤ R.frames) (hlo : 12 ≤ R.locals) (d : decode cc pc = .ok (.invokespecial idx, 3)) (kk : WC p l e R s m args below meth c K A ws n k Q (F0 m (pc + 3) ls [])) : WC p l e R s m args below meth c K A ws n k Q (F0 m pc ls [.ref a]) := fun H locs x y z => W.objInit C.1 C.2.1 C.2.2.2.1 (C.2.2.2.2.1 _ hw) (C.2.2.2.2.1 _ w_im_obj) (C.2.2.2.2.1 _ w_co_obj) rfl (hl.trans C.2.2.1.symm) rfl d hf hlo (W.eq (g2 := F0 m (pc + 3) ls []) rfl (kk H locs x y z))
def si0 (y : MethodName) (cy : ByteArray) (ny nn : Nat) : Prop := Cond.code y cy ny none ∈ ut ∧ Cond.instanceMethod y ∈ ut ∧ Cond.initialized y.cls ∈ ut ∧ y.name = "<init>" ∧ (y.cls ≠ "java/lang/invoke/MethodHandle" ∧ y.cls ≠ "java/lang/invoke/VarHandle" ∧ (parseMethodDescriptor y.desc).map (fun d => d.parameters.length) = some nn) ∧ ny ≤ 14
theorem k_after {S : Type} {mc ms b : Nat} {x : va_E} {wp : S → va_W} {post : S → Prop} {st0 As : List Value} (C : ck p s m args c K A own cc nL) {H : Heap} {locs : List Loc} (hP : va_P K.1 vwCl (ws ++ [(b, x)]) H) (hD : va_D A (ws ++ [(b, x)])) (hS : va_S A s.heap H locs)
    (hr : va_Run p l e R s m args below meth c H locs n k mc ms (F0 m pc ls st0) rest (Qk K [(b, x)] H.size wp post (Value.ref b :: As).toArray) (va_A [(b, x)] H.size))
    (kk : ∀ u : S, post u → WC p l e R s m args below meth c K A (ws ++ wp u) (n + mc) (k + ms) Q (F0 m (pc + 3) ls rest)) : W p l e R s m args below meth c H locs n k Q (F0 m pc ls st0) := by
  have lst : (ws ++ [(b, x)])[ws.length]? = some (b, x) := by simp
  have hF : ∀ q, va_A [(b, x)] H.size q → A q := by
    intro q h
    rcases h with ⟨k2, e, h⟩ | h
    · have hz : k2 < 1 := (List.getElem?_eq_some_iff.mp h).1
      have hz0 : k2 = 0 := by omega
      subst hz0
      have he : (b, x) = (q, e) := Option.some.inj h
      have hb : b = q := congrArg Prod.fst he
      rw [← hb]
      exact hD.2 ws.length (b, x) lst
    · exact C.2.2.2.2.2.2.2.2 q (Nat.le_trans hS.1 h)
  refine va_callv hr hS (fun q _ h => hF q h) hF (fun u t H1 locs1 ht hvm hw hB hz hk hS1 => ?_)
  obtain ⟨hP1, hD1⟩ := hB
  rw [ht] at hP1
  obtain ⟨hP2, hD2⟩ := join1 hP hD hk hF hP1 hD1
  exact kk u hw H1 locs1 hP2 hD2 hS1
theorem k_pre {b : Nat} {x : va_E} {As : List Value} (C : ck p s m args c K A own cc nL) {H : Heap} (hP : va_P K.1 vwCl (ws ++ [(b, x)]) H) : ∀ U : State, U.heap = H → s.WarmedH U.vm → Pk K As [(b, x)] H.size As.toArray U := by
  intro U hU hW
  have one : ∀ (j : Nat) (q : Nat × va_E), ([(b, x)] : va_W)[j]? = some q → j = 0 ∧ q = (b, x) := by
    intro j q h
    have hz : j < 1 := (List.getElem?_eq_some_iff.mp h).1
    have hz0 : j = 0 := by omega
    subst hz0
    exact ⟨rfl, (Option.some.inj h).symm⟩
  refine ⟨rfl, by rw [hU], ?_, va_K.moved hW.alike C.2.2.2.2.2.1, ⟨fun i j p q hp hq _ => (one i p hp).1.trans (one j q hq).1.symm, fun _ _ _ => trivial⟩, nws_to hW C.2.2.2.2.2.2.1, va_AO.moved hW.alike C.2.2.2.2.2.2.2.1⟩
  rw [hU]
  intro j q h
  rw [(one j q h).2]
  exact hP ws.length (b, x) (by simp)
theorem k_init (C : ck p s m args c K A own cc nL) {S : Type} {y : MethodName} {cy : ByteArray} {ny f mc ms nn idx b : Nat} {x : va_E} {As st0 : List Value} {wp : S → va_W} {post : S → Prop} (hM : MK l K y cy ny f mc ms (.ref b :: As) [(b, x)] wp post) (S1 : si0 y cy ny nn) (hw : Cond.methodLink own idx y ∈ ut) (hf : f + 1 ≤ R.frames) (hlo : 33 * (f + 1) ≤ R.locals) (hcs : n + mc ≤ R.cells ∧ k + ms ≤ R.slots) (hl : ls.size = nL) (hn : As.length = nn) (hst : st0 = As.reverse ++ .ref b :: rest) (hr : (rest.map fun v => v.category).sum ≤ 8) (d : decode cc pc = .ok (.invokespecial idx, 3)) (kk : ∀ u : S, post u → WC p l e R s m args below meth c K A (ws ++ wp u) (n + mc) (k + ms) Q (F0 m (pc + 3) ls rest)) : WC p l e R s m args below meth c K A (ws ++ [(b, x)]) n k Q (F0 m pc ls st0) := by
  intro H locs hP hD hS
  obtain ⟨s1, s2, s3, s4, s5, s6⟩ := S1
  refine k_after C hP hD hS (va_runI (Ts := ut) (cc := cc) (As := As) (rest := rest) ⟨C.1, C.2.1, C.2.2.1, C.2.2.2.1, C.2.2.2.2.1⟩ (hM H.size) (cwI nn C.2.2.2.2.1 (good_ut s1) rfl rfl rfl (C.2.2.2.2.1 _ s3) (C.2.2.2.2.1 _ hw) (C.2.2.2.2.1 _ s2) s4 s5 ⟨hf, by show 8 + (ny + 11) + 33 * f ≤ R.locals; omega⟩) ⟨Pk_blind _ _ _ _, k_pre C hP⟩ rfl hn hl hst (lv_room hr) d hcs) kk
theorem k_initN (C : ck p s m args c K A own cc nL) {S : Type} {y : MethodName} {host : String} {cy : ByteArray} {ny f mc ms nn idx b : Nat} {x : va_E} {As st0 : List Value} {wp : S → va_W} {post : S → Prop} (hM : MK l K y cy ny f mc ms (.ref b :: As) [(b, x)] wp post) (S1 : si0 y cy ny nn) (hw : (own, idx, y, host) ∈ nl) (hf : f + 1 ≤ R.frames) (hlo : 33 * (f + 1) ≤ R.locals) (hcs : n + mc ≤ R.cells ∧ k + ms ≤ R.slots) (hl : ls.size = nL) (hn : As.length = nn) (hst : st0 = As.reverse ++ .ref b :: rest) (hr : (rest.map fun v => v.category).sum ≤ 8) (d : decode cc pc = .ok (.invokespecial idx, 3)) (kk : ∀ u : S, post u → WC p l e R s m args below meth c K A (ws ++ wp u) (n + mc) (k + ms) Q (F0 m (pc + 3) ls rest)) : WC p l e R s m args below meth c K A (ws ++ [(b, x)]) n k Q (F0 m pc ls st0) := by
  intro H locs hP hD hS
  obtain ⟨s1, s2, s3, s4, s5, s6⟩ := S1
  refine k_after C hP hD hS (va_runIN (Ts := ut) (cc := cc) (As := As) (rest := rest) ⟨C.1, C.2.1, C.2.2.1, C.2.2.2.1, C.2.2.2.2.1⟩ (hM H.size) ⟨va_cnB nn C.2.2.2.2.1 (good_ut s1) rfl rfl rfl (C.2.2.2.2.2.2.1 _ hw) (C.2.2.2.2.1 _ s3) s5 ⟨hf, by show 8 + (ny + 11) + 33 * f ≤ R.locals; omega⟩, s4, C.2.2.2.2.1 _ s2⟩ ⟨Pk_blind _ _ _ _, k_pre C hP⟩ rfl hn hl hst (lv_room hr) d hcs) kk
theorem k_vret {S : Type} (C : ck p s m args c K A own cc nL) (hr : meth.sig.returnType = none) (hlk : meth.locks = false) {wp : S → va_W} {post : S → Prop} (u : S) (hpost : post u) {w0 : va_W} (hA : A = va_A w0 s.heap.size) (hws : ws = wp u) (d : decode cc pc = .ok (.return_, 1)) : WC p l e R s m args below meth c K A ws n k (MQ below (Qk K w0 s.heap.size wp post) args s n k A) (F0 m pc ls []) := by
  subst hA
  subst hws
  exact fun H locs x y z => W.vret C.1 C.2.1 hr (fun t ht hW => ⟨⟨u, rfl, hpost, by rw [ht]; exact x, y⟩, z.F ht⟩) z.2.2 d hlk
theorem MK_of {S : Type} {y : MethodName} {f mc ms b : Nat} {x : va_E} {As : List Value} {wp : S → va_W} {post : S → Prop} (hy : plainFor y = true) (hlen : (lg_sl (.ref b :: As)).length ≤ nL) (hini : y.name = "<init>") (body : ∀ (p : Program) (e : Env) (s : State) (m : MethodId) (args : Array Value) (below : List Frame) (meth : Method) (c : Code) (ls : Array Slot) (A : Nat → Prop), ck p s m args c K A y.cls cc nL → meth.name = "<init>" → meth.sig.returnType = none → meth.locks = false → A = va_A [(b, x)] s.heap.size → lv_has ls nL (lv_args 0 (.ref b :: As)) → WC p l e (rmc f mc ms) s m args below meth c K A [(b, x)] 0 0 (MQ below (Qk K [(b, x)] s.heap.size wp post) args s mc ms A) (F0 m 0 ls [])) : MK l K y cc nL f mc ms (.ref b :: As) [(b, x)] wp post := by
  intro sz
  refine ofWF (cc := cc) (maxL := nL) (ret := none) hy rfl ?_
  intro p e s m args below meth c s₁ B hml hv
  obtain ⟨rfl, hsz, hP, hK, hD, hw, ha⟩ := hv
  subst hsz
  have hts := atoms_spec (ws := Cond.code y cc nL none :: ut) B.pre
  rw [lg_entry_eq]
  exact body p e s m _ below meth c _ _ ⟨B.exec, B.bytes, hml, findClass_of_methodNamed B.named, fun w h => hts w (List.mem_cons_of_mem _ h), hK, hw, ha, fun q h => Or.inr h⟩ ((name_of_methodNamed B.named B.method).1.trans hini) B.returns B.notSynchronized rfl (lv_entry _ hlen) s.heap [] hP hD.self va_S.rf
end
theorem si_X1 : si0 yX1_init cX1_init 2 0 := ⟨w_co_X1_init, w_im_X1_init, w_in_X1, rfl, by decide +kernel, by decide⟩
theorem si_X2 : si0 yX2_init cX2_init 1 0 := ⟨w_co_X2_init, w_im_X2_init, w_in_X2, rfl, by decide +kernel, by decide⟩
theorem si_X3 : si0 yX3_init cX3_init 2 1 := ⟨w_co_X3_init, w_im_X3_init, w_in_X3, rfl, by decide +kernel, by decide⟩
theorem si_X4 : si0 yX4_init cX4_init 2 0 := ⟨w_co_X4_init, w_im_X4_init, w_in_X4, rfl, by decide +kernel, by decide⟩
theorem si_X5 : si0 yX5_init cX5_init 2 0 := ⟨w_co_X5_init, w_im_X5_init, w_in_X5, rfl, by decide +kernel, by decide⟩
