-- the pure heap: by place and slot, ints (and booleans as ints); longs by place
abbrev PH : Type := (Nat → Nat → Int32) × (Nat → Int64)
-- classes, their slots; the array classes of int, boolean, State; the address of each place
abbrev GG : Type := va_G × ClassId × ClassId × ClassId × (Nat → Nat)
def kds : List Nat := [3, 5, 7, 7, 6, 5, 5, 5, 1, 0, 5, 5, 0, 5, 5, 2, 5, 5, 5, 5, 2, 5, 5, 5, 5, 2, 5, 5, 5, 5, 2, 5, 5, 5, 5, 2, 5, 5, 5, 5, 2, 5, 5, 5, 5, 2, 5, 5, 5, 5, 2, 5, 5, 5, 5, 2, 5, 5, 5, 5, 2, 5, 5, 5, 5, 2, 5, 5, 5, 5, 2, 5, 5, 5, 5, 2, 5, 5, 5, 5, 2, 5, 5, 5, 5, 2, 5, 5, 5, 5, 2, 5, 5, 5, 5, 2, 5, 5, 5, 5, 2, 5, 5, 5, 5, 2, 5, 5, 5, 5, 4, 5, 5, 5, 5, 5, 5, 5, 6, 5, 5, 5, 5, 5, 5, 5, 5, 5]
def als : List Nat := [0, 90, 14, 2, 2, 6, 6, 6, 0, 0, 5, 4, 0, 5, 4, 0, 9, 9, 4, 24, 0, 9, 9, 4, 24, 0, 9, 9, 4, 24, 0, 9, 9, 4, 24, 0, 9, 9, 4, 24, 0, 9, 9, 4, 24, 0, 9, 9, 4, 24, 0, 9, 9, 4, 24, 0, 9, 9, 4, 24, 0, 9, 9, 4, 24, 0, 9, 9, 4, 24, 0, 9, 9, 4, 24, 0, 9, 9, 4, 24, 0, 9, 9, 4, 24, 0, 9, 9, 4, 24, 0, 9, 9, 4, 24, 0, 9, 9, 4, 24, 0, 9, 9, 4, 24, 0, 9, 9, 4, 24, 0, 90, 5, 4, 103, 103, 1442, 206, 2, 6, 6, 6, 16, 6, 4, 4, 2, 24]
def kd (k : Nat) : Nat := kds.getD k 99
def al (k : Nat) : Nat := als.getD k 0
def pl_of (k : Nat) : Nat := if k = 15 then 9 else 12
def sta (k j : Nat) : Nat := if k = 2 then 30 + 5 * j else 100 + 5 * j
def si (h : PH) (k i : Nat) (v : Int32) : PH := (fun a b => if a = k ∧ b = i then v else h.1 a b, h.2)
def sa (h : PH) (k : Nat) (f : Nat → Int32) : PH := (fun a => if a = k then f else h.1 a, h.2)
def sl (h : PH) (k : Nat) (v : Int64) : PH := (h.1, fun a => if a = k then v else h.2 a)
abbrev tys (G : GG) : List (ClassId × FieldType) := [(G.2.1, .int), (G.2.2.1, .boolean), (G.2.2.2.1, .object "BottleLine$State")]
def ce (G : GG) (h : PH) (k : Nat) : va_E := match kd k with
  | 0 => .inr (0, [.int (h.1 k 0), .ref (G.2.2.2.2 (k + 1)), .int (h.1 k 2), .int (h.1 k 3), .int (h.1 k 4), .int (h.1 k 5), .ref (G.2.2.2.2 (k + 2))])
  | 1 => .inr (1, [.ref (G.2.2.2.2 9), .ref (G.2.2.2.2 15), .int (h.1 k 2), .int (h.1 k 3), .int (h.1 k 4), .int (h.1 k 5)])
  | 2 => .inr (2, [.ref (G.2.2.2.2 (pl_of k)), .ref (G.2.2.2.2 (k + 1)), .ref (G.2.2.2.2 (k + 2)), .ref (G.2.2.2.2 (k + 3)), .int (h.1 k 4), .ref (G.2.2.2.2 (k + 4)), .int (h.1 k 6), .int (h.1 k 7), .int (h.1 k 8), .int (h.1 k 9), .int (h.1 k 10), .int (h.1 k 11), .int (h.1 k 12), .int (h.1 k 13), .int (h.1 k 14), .int (h.1 k 15), .int (h.1 k 16), .int (h.1 k 17)])
  | 3 => .inr (3, [.ref (G.2.2.2.2 1), .int (h.1 k 1), .ref (G.2.2.2.2 8), .ref (G.2.2.2.2 12), .ref (G.2.2.2.2 20), .ref (G.2.2.2.2 25), .ref (G.2.2.2.2 2), .int (h.1 k 7), .int (h.1 k 8), .ref (G.2.2.2.2 3), .ref (G.2.2.2.2 4), .ref (G.2.2.2.2 5), .ref (G.2.2.2.2 6), .ref (G.2.2.2.2 7), .int (h.1 k 14), .long (h.2 k)])
  | 4 => .inr (4, [.ref (G.2.2.2.2 111), .int (h.1 k 1), .int (h.1 k 2), .ref (G.2.2.2.2 112), .int (h.1 k 4), .int (h.1 k 5), .int (h.1 k 6), .int (h.1 k 7), .ref (G.2.2.2.2 113), .ref (G.2.2.2.2 114), .ref (G.2.2.2.2 115), .ref (G.2.2.2.2 116), .int (h.1 k 12), .int (h.1 k 13), .ref (G.2.2.2.2 117), .ref (G.2.2.2.2 118), .ref (G.2.2.2.2 119), .ref (G.2.2.2.2 120), .ref (G.2.2.2.2 121), .int (h.1 k 19), .long (h.2 k), .int (h.1 k 21), .int (h.1 k 22), .int (h.1 k 23), .ref (G.2.2.2.2 122), .ref (G.2.2.2.2 123), .int (h.1 k 26), .int (h.1 k 27), .int (h.1 k 28), .int (h.1 k 29), .ref (G.2.2.2.2 124), .ref (G.2.2.2.2 125), .ref (G.2.2.2.2 126), .int (h.1 k 33), .ref (G.2.2.2.2 127), .int (h.1 k 35), .int (h.1 k 36), .int (h.1 k 37)])
  | 5 => .inl (G.2.1, al k, .inl (h.1 k))
  | 6 => .inl (G.2.2.1, al k, .inl (h.1 k))
  | _ => .inl (G.2.2.2.1, al k, .inr (.inr (.inr (.inr (fun j => some (G.2.2.2.2 (sta k j)))))))
theorem ce_0 {G : GG} {h : PH} {k : Nat} (hk : kd k = 0) : ce G h k = .inr (0, [.int (h.1 k 0), .ref (G.2.2.2.2 (k + 1)), .int (h.1 k 2), .int (h.1 k 3), .int (h.1 k 4), .int (h.1 k 5), .ref (G.2.2.2.2 (k + 2))]) := by simp only [ce, hk]
theorem ce_1 {G : GG} {h : PH} {k : Nat} (hk : kd k = 1) : ce G h k = .inr (1, [.ref (G.2.2.2.2 9), .ref (G.2.2.2.2 15), .int (h.1 k 2), .int (h.1 k 3), .int (h.1 k 4), .int (h.1 k 5)]) := by simp only [ce, hk]
theorem ce_2 {G : GG} {h : PH} {k : Nat} (hk : kd k = 2) : ce G h k = .inr (2, [.ref (G.2.2.2.2 (pl_of k)), .ref (G.2.2.2.2 (k + 1)), .ref (G.2.2.2.2 (k + 2)), .ref (G.2.2.2.2 (k + 3)), .int (h.1 k 4), .ref (G.2.2.2.2 (k + 4)), .int (h.1 k 6), .int (h.1 k 7), .int (h.1 k 8), .int (h.1 k 9), .int (h.1 k 10), .int (h.1 k 11), .int (h.1 k 12), .int (h.1 k 13), .int (h.1 k 14), .int (h.1 k 15), .int (h.1 k 16), .int (h.1 k 17)]) := by simp only [ce, hk]
theorem ce_3 {G : GG} {h : PH} {k : Nat} (hk : kd k = 3) : ce G h k = .inr (3, [.ref (G.2.2.2.2 1), .int (h.1 k 1), .ref (G.2.2.2.2 8), .ref (G.2.2.2.2 12), .ref (G.2.2.2.2 20), .ref (G.2.2.2.2 25), .ref (G.2.2.2.2 2), .int (h.1 k 7), .int (h.1 k 8), .ref (G.2.2.2.2 3), .ref (G.2.2.2.2 4), .ref (G.2.2.2.2 5), .ref (G.2.2.2.2 6), .ref (G.2.2.2.2 7), .int (h.1 k 14), .long (h.2 k)]) := by simp only [ce, hk]
theorem ce_4 {G : GG} {h : PH} {k : Nat} (hk : kd k = 4) : ce G h k = .inr (4, [.ref (G.2.2.2.2 111), .int (h.1 k 1), .int (h.1 k 2), .ref (G.2.2.2.2 112), .int (h.1 k 4), .int (h.1 k 5), .int (h.1 k 6), .int (h.1 k 7), .ref (G.2.2.2.2 113), .ref (G.2.2.2.2 114), .ref (G.2.2.2.2 115), .ref (G.2.2.2.2 116), .int (h.1 k 12), .int (h.1 k 13), .ref (G.2.2.2.2 117), .ref (G.2.2.2.2 118), .ref (G.2.2.2.2 119), .ref (G.2.2.2.2 120), .ref (G.2.2.2.2 121), .int (h.1 k 19), .long (h.2 k), .int (h.1 k 21), .int (h.1 k 22), .int (h.1 k 23), .ref (G.2.2.2.2 122), .ref (G.2.2.2.2 123), .int (h.1 k 26), .int (h.1 k 27), .int (h.1 k 28), .int (h.1 k 29), .ref (G.2.2.2.2 124), .ref (G.2.2.2.2 125), .ref (G.2.2.2.2 126), .int (h.1 k 33), .ref (G.2.2.2.2 127), .int (h.1 k 35), .int (h.1 k 36), .int (h.1 k 37)]) := by simp only [ce, hk]
theorem ce_5 {G : GG} {h : PH} {k : Nat} (hk : kd k = 5) : ce G h k = .inl (G.2.1, al k, .inl (h.1 k)) := by simp only [ce, hk]
theorem ce_6 {G : GG} {h : PH} {k : Nat} (hk : kd k = 6) : ce G h k = .inl (G.2.2.1, al k, .inl (h.1 k)) := by simp only [ce, hk]
theorem ce_7 {G : GG} {h : PH} {k : Nat} (hk : kd k = 7) : ce G h k = .inl (G.2.2.2.1, al k, .inr (.inr (.inr (.inr (fun j => some (G.2.2.2.2 (sta k j))))))) := by simp only [ce, hk]
theorem ce_congr {G : GG} {h h' : PH} {k : Nat} (h1 : h'.1 k = h.1 k) (h2 : h'.2 k = h.2 k) : ce G h' k = ce G h k := by simp only [ce, h1, h2]
theorem kd_lt {k : Nat} (i : Nat) (hi : i < 99) (hk : kd k = i) : k < 128 := by
  refine Nat.lt_of_not_le fun hge => ?_
  have h0 : kds.length ≤ 128 := by decide +kernel
  have h1 : kds.length ≤ k := Nat.le_trans h0 hge
  unfold kd at hk
  rw [List.getD_eq_getElem?_getD, List.getElem?_eq_none h1] at hk
  have h2 : 99 = i := hk
  omega
def wd (G : GG) (h : PH) : va_W := (List.range 128).map (fun k => (G.2.2.2.2 k, ce G h k))
theorem wd_at {G : GG} {h : PH} {k : Nat} (hk : k < 128) : (wd G h)[k]? = some (G.2.2.2.2 k, ce G h k) := by
  simp only [wd, List.getElem?_map, List.getElem?_range hk, Option.map_some]
theorem wd_set {G : GG} {h h' : PH} {k : Nat} {e : va_E} (he : ce G h' k = e) (hne : ∀ j, j ≠ k → ce G h' j = ce G h j) : (wd G h).set k (G.2.2.2.2 k, e) = wd G h' := by
  apply List.ext_getElem?
  intro i
  by_cases hi : i < 128
  · rw [wd_at hi]
    by_cases hk : i = k
    · subst hk
      rw [List.getElem?_set_self (by simpa [wd] using hi), he]
    · rw [List.getElem?_set_ne (fun q => hk q.symm), wd_at hi, hne i hk]
  · rw [List.getElem?_eq_none (by simp [wd]; omega), List.getElem?_eq_none (by simp [wd]; omega)]
def injG (G : GG) : Prop := ∀ i j : Nat, i < 128 → j < 128 → G.2.2.2.2 i = G.2.2.2.2 j → i = j
def Ar (G : GG) : Nat → Prop := fun q => ∃ k : Nat, k < 128 ∧ q = G.2.2.2.2 k
theorem wd_D {G : GG} (hj : injG G) (h : PH) : va_D (Ar G) (wd G h) := by
  have key : ∀ (i : Nat) (q : Nat × va_E), (wd G h)[i]? = some q → i < 128 ∧ q.1 = G.2.2.2.2 i := by
    intro i q hq
    have hi : i < 128 := by
      have := (List.getElem?_eq_some_iff.mp hq).1
      simpa [wd] using this
    rw [wd_at hi] at hq
    exact ⟨hi, by rw [← Option.some.inj hq]⟩
  refine ⟨fun i j x y hx hy hxy => ?_, fun i q hq => ⟨i, key i q hq⟩⟩
  obtain ⟨h1, h2⟩ := key i x hx
  obtain ⟨h3, h4⟩ := key j y hy
  exact hj i j h1 h3 (by rw [← h2, ← h4, hxy])
def nws (U : State) : Prop := ∀ q ∈ nl, va_Nw (.methodLinkNest q.1 q.2.1 q.2.2.1 q.2.2.2) U
def Rp (G : GG) (h : PH) (U : State) : Prop := va_P G.1 vwCl (wd G h) U.heap ∧ va_K G.1 vwCl (tys G) U ∧ injG G
def rmh (n : Nat) : Room := { frames := n, cells := 0, slots := 0, locals := 33 * n }
def QI (G : GG) (res : Int32 × PH) : Array Value → State → Outcome → State → Prop := va_Qi (fun r (u : PH) => r = res.1 ∧ u = res.2) (fun u t => Rp G u t) (Ar G)
def QL (G : GG) (res : Int64 × PH) : Array Value → State → Outcome → State → Prop := va_Ql (fun r (u : PH) => r = res.1 ∧ u = res.2) (fun u t => Rp G u t) (Ar G)
def QV (G : GG) (res : Unit × PH) : Array Value → State → Outcome → State → Prop := va_Qv (fun (u : PH) => u = res.2) (fun u t => Rp G u t) (Ar G)
def Pq (G : GG) (As : List Value) (h : PH) : Array Value → State → Prop := va_Pc As (fun U => Rp G h U ∧ nws U)
def MI (l : Launch) (G : GG) (y : MethodName) (cc : ByteArray) (nL : Nat) (rt : FieldType) (hg : Nat) (As : List Value) (h : PH) (res : Int32 × PH) : Prop := Met l y (Cond.code y cc nL (some rt) :: ut) (rmh hg) (Pq G As h) (QI G res) 0 0 (Ar G)
def MLo (l : Launch) (G : GG) (y : MethodName) (cc : ByteArray) (nL : Nat) (hg : Nat) (As : List Value) (h : PH) (res : Int64 × PH) : Prop := Met l y (Cond.code y cc nL (some .long) :: ut) (rmh hg) (Pq G As h) (QL G res) 0 0 (Ar G)
def MV (l : Launch) (G : GG) (y : MethodName) (cc : ByteArray) (nL : Nat) (hg : Nat) (As : List Value) (h : PH) (res : Unit × PH) : Prop := Met l y (Cond.code y cc nL none :: ut) (rmh hg) (Pq G As h) (QV G res) 0 0 (Ar G)
-- the words of the pure functions
def rd {β : Type} (h : PH) (k : Nat) (i : Int32) (f : Int32 → Option β) : Option β := if i < 0 ∨ al k ≤ i.toNatClampNeg then none else f (h.1 k i.toNatClampNeg)
def rq {β : Type} (k : Nat) (i : Int32) (f : Nat → Option β) : Option β := if i < 0 ∨ al k ≤ i.toNatClampNeg then none else f (sta k i.toNatClampNeg)
def wr {β : Type} (h : PH) (k : Nat) (i v : Int32) (f : PH → Option β) : Option β := if i < 0 ∨ al k ≤ i.toNatClampNeg then none else f (si h k i.toNatClampNeg v)
def st {β : Type} (h : PH) (k i : Nat) (v : Int32) (f : PH → Option β) : Option β := f (si h k i v)
def sj {β : Type} (h : PH) (k : Nat) (v : Int64) (f : PH → Option β) : Option β := f (sl h k v)
def nz {β : Type} (y : Int32) (f : Option β) : Option β := if y = 0 then none else f
def bz {β : Type} (v : Int32) (f : Option β) : Option β := if v = 0 ∨ v = 1 then f else none
def gd {β : Type} (k i : Nat) (f : Option β) : Option β := if kd k = i then f else none
def bd {α β : Type} (o : Option (α × PH)) (f : α → PH → Option β) : Option β := match o with
  | none => none
  | some q => f q.1 q.2
def cp {β : Type} (h : PH) (k0 : Nat) (sp : Int32) (k1 : Nat) (dp n : Int32) (f : PH → Option β) : Option β := if sp < 0 ∨ dp < 0 ∨ n < 0 ∨ al k0 < sp.toNatClampNeg + n.toNatClampNeg ∨ al k1 < dp.toNatClampNeg + n.toNatClampNeg then none else f (sa h k1 (va_cpy (h.1 k0) (h.1 k1) sp.toNatClampNeg dp.toNatClampNeg n.toNatClampNeg))
theorem if_po {α : Type} {P : Prop} [Decidable P] {a b : Option α} {r : Option α} (hc : P) (hK : (if P then a else b) = r) : a = r := by rw [if_pos hc] at hK; exact hK
theorem if_ne {α : Type} {P : Prop} [Decidable P] {a b : Option α} {r : Option α} (hc : ¬ P) (hK : (if P then a else b) = r) : b = r := by rw [if_neg hc] at hK; exact hK
theorem rd_so {β : Type} {h : PH} {k : Nat} {i : Int32} {f : Int32 → Option β} {r : β} (hK : rd h k i f = some r) : ∃ x : Int32, (vp_in i (al k) ∧ x = h.1 k i.toNatClampNeg) ∧ f x = some r := by
  unfold rd at hK
  by_cases hc : i < 0 ∨ al k ≤ i.toNatClampNeg
  · rw [if_pos hc] at hK; cases hK
  · rw [if_neg hc] at hK; exact ⟨_, ⟨hc, rfl⟩, hK⟩
theorem rq_so {β : Type} {k : Nat} {i : Int32} {f : Nat → Option β} {r : β} (hK : rq k i f = some r) : ∃ x : Nat, (vp_in i (al k) ∧ x = sta k i.toNatClampNeg) ∧ f x = some r := by
  unfold rq at hK
  by_cases hc : i < 0 ∨ al k ≤ i.toNatClampNeg
  · rw [if_pos hc] at hK; cases hK
  · rw [if_neg hc] at hK; exact ⟨_, ⟨hc, rfl⟩, hK⟩
theorem wr_so {β : Type} {h : PH} {k : Nat} {i v : Int32} {f : PH → Option β} {r : β} (hK : wr h k i v f = some r) : ∃ x : PH, (vp_in i (al k) ∧ x = si h k i.toNatClampNeg v) ∧ f x = some r := by
  unfold wr at hK
  by_cases hc : i < 0 ∨ al k ≤ i.toNatClampNeg
  · rw [if_pos hc] at hK; cases hK
  · rw [if_neg hc] at hK; exact ⟨_, ⟨hc, rfl⟩, hK⟩
theorem st_so {β : Type} {h : PH} {k i : Nat} {v : Int32} {f : PH → Option β} {r : β} (hK : st h k i v f = some r) : ∃ x : PH, x = si h k i v ∧ f x = some r := ⟨_, rfl, hK⟩
theorem sj_so {β : Type} {h : PH} {k : Nat} {v : Int64} {f : PH → Option β} {r : β} (hK : sj h k v f = some r) : ∃ x : PH, x = sl h k v ∧ f x = some r := ⟨_, rfl, hK⟩
theorem nz_so {β : Type} {y : Int32} {f : Option β} {r : β} (hK : nz y f = some r) : ¬ y = 0 ∧ f = some r := by
  unfold nz at hK
  by_cases hc : y = 0
  · rw [if_pos hc] at hK; cases hK
  · rw [if_neg hc] at hK; exact ⟨hc, hK⟩
theorem bz_so {β : Type} {v : Int32} {f : Option β} {r : β} (hK : bz v f = some r) : (v = 0 ∨ v = 1) ∧ f = some r := by
  unfold bz at hK
  by_cases hc : v = 0 ∨ v = 1
  · rw [if_pos hc] at hK; exact ⟨hc, hK⟩
  · rw [if_neg hc] at hK; cases hK
theorem gd_so {β : Type} {k i : Nat} {f : Option β} {r : β} (hK : gd k i f = some r) : kd k = i ∧ f = some r := by
  unfold gd at hK
  by_cases hc : kd k = i
  · rw [if_pos hc] at hK; exact ⟨hc, hK⟩
  · rw [if_neg hc] at hK; cases hK
theorem bd_so {α β : Type} {o : Option (α × PH)} {f : α → PH → Option β} {r : β} (hK : bd o f = some r) : ∃ (x : α) (u : PH), o = some (x, u) ∧ f x u = some r := by
  cases o with
  | none => cases hK
  | some q => exact ⟨q.1, q.2, rfl, hK⟩
theorem cp_so {β : Type} {h : PH} {k0 : Nat} {sp : Int32} {k1 : Nat} {dp n : Int32} {f : PH → Option β} {r : β} (hK : cp h k0 sp k1 dp n f = some r) : ∃ x : PH, ((¬ sp < 0 ∧ ¬ dp < 0 ∧ ¬ n < 0 ∧ sp.toNatClampNeg + n.toNatClampNeg ≤ al k0 ∧ dp.toNatClampNeg + n.toNatClampNeg ≤ al k1) ∧ x = sa h k1 (va_cpy (h.1 k0) (h.1 k1) sp.toNatClampNeg dp.toNatClampNeg n.toNatClampNeg)) ∧ f x = some r := by
  unfold cp at hK
  by_cases hc : sp < 0 ∨ dp < 0 ∨ n < 0 ∨ al k0 < sp.toNatClampNeg + n.toNatClampNeg ∨ al k1 < dp.toNatClampNeg + n.toNatClampNeg
  · rw [if_pos hc] at hK; cases hK
  · rw [if_neg hc] at hK
    exact ⟨_, ⟨⟨fun q => hc (Or.inl q), fun q => hc (Or.inr (Or.inl q)), fun q => hc (Or.inr (Or.inr (Or.inl q))), Nat.le_of_not_lt fun q => hc (Or.inr (Or.inr (Or.inr (Or.inl q)))), Nat.le_of_not_lt fun q => hc (Or.inr (Or.inr (Or.inr (Or.inr q))))⟩, rfl⟩, hK⟩
