-- the class's step, as functions of a State's five rows (0 fields, 1 bottles, 2 marks, 3 settings, 4 entries)
theorem nI_sub1 {a : Nat} (h : 1 ≤ a) : nI a - 1 = nI (a - 1) := nI_subI (b := 1) h
abbrev SS : Type := Nat → Nat → Int32
def put (h : PH) (o : Nat) (S : SS) : PH := (fun k => if o ≤ k ∧ k < o + 5 then S (k - o) else h.1 k, h.2)
def vw (h : PH) (o : Nat) : SS := fun a => if a < 5 then h.1 (o + a) else fun _ => 0
def u2 (S : SS) (a i : Nat) (v : Int32) : SS := fun a' i' => if a' = a ∧ i' = i then v else S a' i'
def u1 (S : SS) (a : Nat) (f : Nat → Int32) : SS := fun a' => if a' = a then f else S a'
theorem put_vw (h : PH) (o : Nat) : put h o (vw h o) = h := by
  unfold put vw
  apply Prod.ext
  · funext k
    show (if o ≤ k ∧ k < o + 5 then (if k - o < 5 then h.1 (o + (k - o)) else fun _ => 0) else h.1 k) = h.1 k
    by_cases q : o ≤ k ∧ k < o + 5
    · rw [if_pos q, if_pos (by omega), Nat.add_sub_cancel' q.1]
    · rw [if_neg q]
  · rfl
theorem put_put (h : PH) (o : Nat) (S T : SS) : put (put h o S) o T = put h o T := by
  unfold put
  apply Prod.ext
  · funext k
    show (if o ≤ k ∧ k < o + 5 then T (k - o) else if o ≤ k ∧ k < o + 5 then S (k - o) else h.1 k) = (if o ≤ k ∧ k < o + 5 then T (k - o) else h.1 k)
    by_cases q : o ≤ k ∧ k < o + 5
    · rw [if_pos q, if_pos q]
    · rw [if_neg q, if_neg q, if_neg q]
  · rfl
theorem put_at (h : PH) (o : Nat) (S : SS) {a : Nat} (ha : a < 5) : (put h o S).1 (o + a) = S a := by
  show (if o ≤ o + a ∧ o + a < o + 5 then S (o + a - o) else h.1 (o + a)) = S a
  rw [if_pos ⟨by omega, by omega⟩]
  congr 1
  omega
theorem put_0 (h : PH) (o : Nat) (S : SS) : (put h o S).1 o = S 0 := put_at h o S (a := 0) (by decide)
theorem put_1 (h : PH) (o : Nat) (S : SS) : (put h o S).1 (o + 1) = S 1 := put_at h o S (by decide)
theorem put_2 (h : PH) (o : Nat) (S : SS) : (put h o S).1 (o + 2) = S 2 := put_at h o S (by decide)
theorem put_3 (h : PH) (o : Nat) (S : SS) : (put h o S).1 (o + 3) = S 3 := put_at h o S (by decide)
theorem put_4 (h : PH) (o : Nat) (S : SS) : (put h o S).1 (o + 4) = S 4 := put_at h o S (by decide)
theorem put_out (h : PH) (o : Nat) (S : SS) {k : Nat} (hk : k < o ∨ o + 5 ≤ k) : (put h o S).1 k = h.1 k := by
  show (if o ≤ k ∧ k < o + 5 then S (k - o) else h.1 k) = h.1 k
  rw [if_neg]
  omega
theorem si_put (h : PH) (o : Nat) (S : SS) {a : Nat} (ha : a < 5) (i : Nat) (v : Int32) : si (put h o S) (o + a) i v = put h o (u2 S a i v) := by
  apply Prod.ext
  · funext k b
    show (if k = o + a ∧ b = i then v else (if o ≤ k ∧ k < o + 5 then S (k - o) else h.1 k) b) = (if o ≤ k ∧ k < o + 5 then u2 S a i v (k - o) else h.1 k) b
    by_cases hk : o ≤ k ∧ k < o + 5
    · rw [if_pos hk, if_pos hk]
      unfold u2
      by_cases h1 : k = o + a
      · have h2 : k - o = a := by omega
        simp only [h1, true_and, Nat.add_sub_cancel_left]
      · have h2 : ¬ k - o = a := by omega
        simp only [h1, h2, false_and, if_false]
    · rw [if_neg hk, if_neg hk, if_neg]
      omega
  · rfl
theorem si_put0 (h : PH) (o : Nat) (S : SS) (i : Nat) (v : Int32) : si (put h o S) o i v = put h o (u2 S 0 i v) := si_put h o S (a := 0) (by decide) i v
theorem si_put1 (h : PH) (o : Nat) (S : SS) (i : Nat) (v : Int32) : si (put h o S) (o + 1) i v = put h o (u2 S 1 i v) := si_put h o S (by decide) i v
theorem si_put2 (h : PH) (o : Nat) (S : SS) (i : Nat) (v : Int32) : si (put h o S) (o + 2) i v = put h o (u2 S 2 i v) := si_put h o S (by decide) i v
theorem si_put3 (h : PH) (o : Nat) (S : SS) (i : Nat) (v : Int32) : si (put h o S) (o + 3) i v = put h o (u2 S 3 i v) := si_put h o S (by decide) i v
theorem si_put4 (h : PH) (o : Nat) (S : SS) (i : Nat) (v : Int32) : si (put h o S) (o + 4) i v = put h o (u2 S 4 i v) := si_put h o S (by decide) i v
theorem sa_put (h : PH) (o : Nat) (S : SS) {a : Nat} (ha : a < 5) (f : Nat → Int32) : sa (put h o S) (o + a) f = put h o (u1 S a f) := by
  apply Prod.ext
  · funext k
    show (if k = o + a then f else (if o ≤ k ∧ k < o + 5 then S (k - o) else h.1 k)) = (if o ≤ k ∧ k < o + 5 then u1 S a f (k - o) else h.1 k)
    by_cases hk : o ≤ k ∧ k < o + 5
    · rw [if_pos hk, if_pos hk]
      unfold u1
      by_cases h1 : k = o + a
      · have h2 : k - o = a := by omega
        rw [if_pos h1, if_pos h2]
      · have h2 : ¬ k - o = a := by omega
        rw [if_neg h1, if_neg h2]
    · rw [if_neg hk, if_neg hk, if_neg]
      omega
  · rfl
theorem sa_put1 (h : PH) (o : Nat) (S : SS) (f : Nat → Int32) : sa (put h o S) (o + 1) f = put h o (u1 S 1 f) := sa_put h o S (by decide) f
theorem sa_put2 (h : PH) (o : Nat) (S : SS) (f : Nat → Int32) : sa (put h o S) (o + 2) f = put h o (u1 S 2 f) := sa_put h o S (by decide) f
theorem sa_put4 (h : PH) (o : Nat) (S : SS) (f : Nat → Int32) : sa (put h o S) (o + 4) f = put h o (u1 S 4 f) := sa_put h o S (by decide) f
def so (o : Nat) : Prop := o = 20 ∨ o = 25
theorem so_kd {o : Nat} (h : so o) : kd o = 2 := by rcases h with rfl | rfl <;> rfl
theorem so_pl {o : Nat} (h : so o) : pl_of o = 12 := by rcases h with rfl | rfl <;> rfl
theorem so_al {o : Nat} (h : so o) : al (o + 1) = 9 ∧ al (o + 2) = 9 ∧ al (o + 3) = 4 ∧ al (o + 4) = 24 := by rcases h with rfl | rfl <;> decide
theorem so_ge {o : Nat} (h : so o) : 20 ≤ o ∧ o ≤ 25 := by rcases h with rfl | rfl <;> omega
-- the plan by its numbers: 0 cells, 1..5 stations, 6 target, 7 tolerance, 8 each, 9 valves
def PX (h : PH) (q : Nat) (pn : Nat → Nat) (dr : Nat → Int32) : Prop := h.1 q 0 = nI (pn 0) ∧ (∀ i, i < 5 → h.1 (q + 1) i = nI (pn (1 + i))) ∧ h.1 q 2 = nI (pn 6) ∧ h.1 q 3 = nI (pn 7) ∧ h.1 q 4 = nI (pn 8) ∧ h.1 q 5 = nI (pn 9) ∧ ∀ v, v < pn 9 → h.1 (q + 2) v = dr v
def PN (pn : Nat → Nat) : Prop := (6 ≤ pn 0 ∧ pn 0 ≤ 9) ∧ (1 ≤ pn 1 ∧ pn 1 < pn 2 ∧ pn 2 < pn 3 ∧ pn 3 < pn 4 ∧ pn 4 < pn 5 ∧ pn 5 < pn 0) ∧ pn 6 ≤ 99 ∧ pn 7 ≤ 9 ∧ pn 8 ≤ 9 ∧ pn 9 ≤ 4
def XC (h : PH) (o : Nat) (pn : Nat → Nat) (dr : Nat → Int32) : Prop := so o ∧ PX h 12 pn dr ∧ PN pn
section
variable {h : PH} {o : Nat} {pn : Nat → Nat} {dr : Nat → Int32}
theorem XC.o12 (X : XC h o pn dr) (S : SS) : (put h o S).1 12 = h.1 12 := put_out h o S (Or.inl (by have := so_ge X.1; omega))
theorem XC.o13 (X : XC h o pn dr) (S : SS) : (put h o S).1 13 = h.1 13 := put_out h o S (Or.inl (by have := so_ge X.1; omega))
theorem XC.o14 (X : XC h o pn dr) (S : SS) : (put h o S).1 14 = h.1 14 := put_out h o S (Or.inl (by have := so_ge X.1; omega))
theorem XC.cells (X : XC h o pn dr) (S : SS) : (put h o S).1 12 0 = nI (pn 0) := by rw [X.o12]; exact X.2.1.1
theorem XC.target (X : XC h o pn dr) (S : SS) : (put h o S).1 12 2 = nI (pn 6) := by rw [X.o12]; exact X.2.1.2.2.1
theorem XC.tol (X : XC h o pn dr) (S : SS) : (put h o S).1 12 3 = nI (pn 7) := by rw [X.o12]; exact X.2.1.2.2.2.1
theorem XC.each (X : XC h o pn dr) (S : SS) : (put h o S).1 12 4 = nI (pn 8) := by rw [X.o12]; exact X.2.1.2.2.2.2.1
theorem XC.valves (X : XC h o pn dr) (S : SS) : (put h o S).1 12 5 = nI (pn 9) := by rw [X.o12]; exact X.2.1.2.2.2.2.2.1
theorem XC.drift (X : XC h o pn dr) (S : SS) {v : Nat} (hv : v < pn 9) : (put h o S).1 (12 + 2) v = dr v := by
  show (put h o S).1 14 v = dr v
  rw [X.o14]; exact X.2.1.2.2.2.2.2.2 v hv
theorem XC.station {β : Type} (X : XC h o pn dr) (S : SS) {i : Int32} (j : Nat) (hi : i = nI j) (hj : j < 5) {f : Int32 → Option β} : rd (put h o S) (12 + 1) i f = f (nI (pn (1 + j))) := by
  rw [rd_at j hi (by show j < al 13; exact hj) (by decide)]
  show f ((put h o S).1 13 j) = _
  rw [X.o13, X.2.1.2.1 j hj]
theorem XC.r1 {β : Type} (X : XC h o pn dr) (S : SS) {i : Int32} (j : Nat) (hi : i = nI j) (hj : j < 9) {f : Int32 → Option β} : rd (put h o S) (o + 1) i f = f (S 1 j) := by
  rw [rd_at j hi (by rw [(so_al X.1).1]; exact hj) (by rw [(so_al X.1).1]; decide), put_1]
theorem XC.r2 {β : Type} (X : XC h o pn dr) (S : SS) {i : Int32} (j : Nat) (hi : i = nI j) (hj : j < 9) {f : Int32 → Option β} : rd (put h o S) (o + 2) i f = f (S 2 j) := by
  rw [rd_at j hi (by rw [(so_al X.1).2.1]; exact hj) (by rw [(so_al X.1).2.1]; decide), put_2]
theorem XC.r3 {β : Type} (X : XC h o pn dr) (S : SS) {i : Int32} (j : Nat) (hi : i = nI j) (hj : j < 4) {f : Int32 → Option β} : rd (put h o S) (o + 3) i f = f (S 3 j) := by
  rw [rd_at j hi (by rw [(so_al X.1).2.2.1]; exact hj) (by rw [(so_al X.1).2.2.1]; decide), put_3]
theorem XC.r4 {β : Type} (X : XC h o pn dr) (S : SS) {i : Int32} (j : Nat) (hi : i = nI j) (hj : j < 24) {f : Int32 → Option β} : rd (put h o S) (o + 4) i f = f (S 4 j) := by
  rw [rd_at j hi (by rw [(so_al X.1).2.2.2]; exact hj) (by rw [(so_al X.1).2.2.2]; decide), put_4]
theorem XC.w1 {β : Type} (X : XC h o pn dr) (S : SS) {i v : Int32} (j : Nat) (hi : i = nI j) (hj : j < 9) {f : PH → Option β} : wr (put h o S) (o + 1) i v f = f (put h o (u2 S 1 j v)) := by
  rw [wr_at j hi (by rw [(so_al X.1).1]; exact hj) (by rw [(so_al X.1).1]; decide), si_put1]
theorem XC.w2 {β : Type} (X : XC h o pn dr) (S : SS) {i v : Int32} (j : Nat) (hi : i = nI j) (hj : j < 9) {f : PH → Option β} : wr (put h o S) (o + 2) i v f = f (put h o (u2 S 2 j v)) := by
  rw [wr_at j hi (by rw [(so_al X.1).2.1]; exact hj) (by rw [(so_al X.1).2.1]; decide), si_put2]
theorem XC.w3 {β : Type} (X : XC h o pn dr) (S : SS) {i v : Int32} (j : Nat) (hi : i = nI j) (hj : j < 4) {f : PH → Option β} : wr (put h o S) (o + 3) i v f = f (put h o (u2 S 3 j v)) := by
  rw [wr_at j hi (by rw [(so_al X.1).2.2.1]; exact hj) (by rw [(so_al X.1).2.2.1]; decide), si_put3]
theorem XC.w4 {β : Type} (X : XC h o pn dr) (S : SS) {i v : Int32} (j : Nat) (hi : i = nI j) (hj : j < 24) {f : PH → Option β} : wr (put h o S) (o + 4) i v f = f (put h o (u2 S 4 j v)) := by
  rw [wr_at j hi (by rw [(so_al X.1).2.2.2]; exact hj) (by rw [(so_al X.1).2.2.2]; decide), si_put4]
theorem XC.s0 {β : Type} (S : SS) {i : Nat} {v : Int32} {f : PH → Option β} : st (put h o S) o i v f = f (put h o (u2 S 0 i v)) := by rw [st_at, si_put0]
-- good
def gI (pn : Nat → Nat) (b : Int32) : Int32 := if (b &&& 1024) = 0 then 0 else if (b &&& 2048) = 0 then 0 else if nI (pn 7) < iab ((b &&& 127) - nI (pn 6)) then 0 else 1
theorem x_isGood (X : XC h o pn dr) (S : SS) (b : Int32) : f_X1_isGood 12 b (put h o S) = some (gI pn b, put h o S) := by
  unfold f_X1_isGood gI
  simp only [gd_at kd_12, has0_eq, bd_at, fillOf_eq, X.tol, X.target]
  unfold hasf
  by_cases h1 : (b &&& 1024) = 0
  · simp [h1]
  · by_cases h2 : (b &&& 2048) = 0
    · simp [h1, h2]
    · by_cases h3 : nI (pn 7) < iab ((b &&& 127) - nI (pn 6))
      · simp [h1, h2, h3]
      · simp [h1, h2, h3]
def cLv (pn : Nat → Nat) (S : SS) : SS := if S 1 (pn 0 - 1) = 0 then S else if gI pn (S 1 (pn 0 - 1)) = 0 then u2 S 0 13 (S 0 13 + 1) else u2 S 0 12 (S 0 12 + 1)
theorem x_leave (X : XC h o pn dr) (S : SS) : f_X3_leave o (put h o S) = some ((), put h o (cLv pn S)) := by
  have hc := X.2.2.1
  unfold f_X3_leave cLv
  rw [gd_at (so_kd X.1), so_pl X.1, X.cells, X.r1 S (pn 0 - 1) (nI_sub1 (by omega)) (by omega)]
  by_cases h1 : S 1 (pn 0 - 1) = 0
  · rw [if_pos h1, if_pos h1]
  · rw [if_neg h1, if_neg h1, x_isGood X, bd_at]
    by_cases h2 : gI pn (S 1 (pn 0 - 1)) = 0
    · rw [if_pos h2, if_pos h2, XC.s0, put_0]
    · rw [if_neg h2, if_neg h2, XC.s0, put_0]
def shf (c : Nat) (f : Nat → Int32) : Nat → Int32 := fun i => if i = 0 then 0 else if i < c then f (i - 1) else f i
theorem u2_u1 (S : SS) (a i : Nat) (v : Int32) (f : Nat → Int32) : u2 (u1 S a f) a i v = u1 S a (upd f i v) := by
  funext x y
  unfold u2 u1 upd
  by_cases h1 : x = a
  · simp only [h1, true_and, if_true]
  · simp only [h1, false_and, if_false]
theorem cpy_shf (c : Nat) (f : Nat → Int32) : upd (va_cpy f f 0 1 (c - 1)) 0 0 = shf c f := by
  funext i
  unfold upd va_cpy shf
  by_cases h1 : i = 0
  · rw [if_pos h1, if_pos h1]
  · rw [if_neg h1, if_neg h1]
    by_cases h2 : i < c
    · rw [if_pos h2, if_pos ⟨by omega, by omega⟩]
      congr 1
      omega
    · rw [if_neg h2, if_neg (by omega)]
def cMm (pn : Nat → Nat) (S : SS) : SS := u1 S 2 (shf (pn 0) (S 2))
theorem x_moveMarks (X : XC h o pn dr) (S : SS) : f_X3_moveMarks o (put h o S) = some ((), put h o (cMm pn S)) := by
  have hc := X.2.2.1
  unfold f_X3_moveMarks cMm
  rw [gd_at (so_kd X.1), so_pl X.1, X.cells, cp_at 0 1 (pn 0 - 1) L0 L1 (nI_sub1 (by omega)) (by rw [(so_al X.1).2.1]; omega) (by rw [(so_al X.1).2.1]; omega) (by rw [(so_al X.1).2.1]; decide) (by rw [(so_al X.1).2.1]; decide), sa_put2, X.w2 _ 0 L0 (by decide), u2_u1, put_2, cpy_shf]
def ofE (x : Int32) : Int32 := if x = 1 then 8192 else if x = 2 then 12288 else 0
theorem ofEntry_eq (x : Int32) (h : PH) : f_X0_ofEntry x h = some (ofE x, h) := by
  unfold f_X0_ofEntry ofE
  split
  · rfl
  · split <;> rfl
def cM0 (pn : Nat → Nat) (S : SS) : SS := u1 (u1 S 1 (shf (pn 0) (S 1))) 2 (shf (pn 0) (S 2))
def cMv (pn : Nat → Nat) (m : Nat) (S : SS) : SS := if m = 0 then cM0 pn S else u1 (u2 (u2 (cM0 pn S) 1 0 (ofE (S 4 0))) 0 6 (nI (m - 1))) 4 (fun i => if i < m - 1 then S 4 (i + 1) else S 4 i)
theorem cpy_q (n : Nat) (f : Nat → Int32) : va_cpy f f 1 0 n = fun i => if i < n then f (i + 1) else f i := by
  funext i
  unfold va_cpy
  by_cases h1 : i < n
  · rw [if_pos h1, if_pos ⟨by omega, by omega⟩]
    congr 1
    omega
  · rw [if_neg h1, if_neg (by omega)]
theorem x_moveOn (X : XC h o pn dr) (S : SS) {m : Nat} (hm : S 0 6 = nI m) (hm2 : m ≤ 24) : f_X3_moveOn o (put h o S) = some ((), put h o (cMv pn m S)) := by
  have hc := X.2.2.1
  unfold f_X3_moveOn
  rw [gd_at (so_kd X.1), so_pl X.1, X.cells, cp_at 0 1 (pn 0 - 1) L0 L1 (nI_sub1 (by omega)) (by rw [(so_al X.1).1]; omega) (by rw [(so_al X.1).1]; omega) (by rw [(so_al X.1).1]; decide) (by rw [(so_al X.1).1]; decide), sa_put1, X.w1 _ 0 L0 (by decide), u2_u1, put_1, cpy_shf, x_moveMarks X, bd_at, put_0]
  have e1 : cMm pn (u1 S 1 (shf (pn 0) (S 1))) = cM0 pn S := rfl
  rw [e1]
  have e2 : cM0 pn S 0 6 = nI m := hm
  rw [e2]
  unfold cMv
  by_cases h1 : m = 0
  · subst h1
    rw [if_pos (by decide), if_pos rfl]
  · rw [if_neg (nI_nle (by omega) (by omega)), if_neg h1, X.r4 _ 0 L0 (by decide), ofEntry_eq, bd_at, X.w1 _ 0 L0 (by decide), XC.s0, put_0]
    have e3 : u2 (cM0 pn S) 1 0 (ofE (cM0 pn S 4 0)) 0 6 - 1 = nI (m - 1) := by
      show cM0 pn S 0 6 - 1 = _
      rw [e2]
      exact nI_sub1 (by omega)
    rw [e3, put_0]
    have e4 : u2 (u2 (cM0 pn S) 1 0 (ofE (cM0 pn S 4 0))) 0 6 (nI (m - 1)) 0 6 = nI (m - 1) := rfl
    rw [e4, cp_at 1 0 (m - 1) L1 L0 rfl (by rw [(so_al X.1).2.2.2]; omega) (by rw [(so_al X.1).2.2.2]; omega) (by rw [(so_al X.1).2.2.2]; decide) (by rw [(so_al X.1).2.2.2]; decide), sa_put4, put_4, cpy_q]
    rfl
def lkb (b : Int32) : Int32 := if (b &&& 4096) = 0 then b else if (b &&& 127) ≤ 0 then b else b - 1
theorem u1_id (S : SS) (a : Nat) : u1 S a (S a) = S := by
  funext x
  unfold u1
  by_cases h1 : x = a
  · rw [if_pos h1, h1]
  · rw [if_neg h1]
theorem u1_u1 (S : SS) (a : Nat) (f g : Nat → Int32) : u1 (u1 S a f) a g = u1 S a g := by
  funext x
  unfold u1
  split <;> rfl
theorem u2_as (S : SS) (a i : Nat) (v : Int32) : u2 S a i v = u1 S a (upd (S a) i v) := by
  conv => lhs; rw [← u1_id S a]
  rw [u2_u1]
def cLk (pn : Nat → Nat) (S : SS) : SS := u1 S 1 (fun i => if i < pn 0 then lkb (S 1 i) else S 1 i)
theorem x_leak_b2 (X : XC h o pn dr) (S : SS) : ∀ (n i : Nat), i ≤ pn 0 → pn 0 < i + n → f_X3_leak_b2 o n (nI i) (put h o (u1 S 1 (fun j => if j < i then lkb (S 1 j) else S 1 j))) = some ((), put h o (cLk pn S)) := by
  have hc := X.2.2.1
  intro n
  induction n with
  | zero => intro i h1 h2; omega
  | succ n ih =>
    intro i h1 h2
    unfold f_X3_leak_b2
    rw [so_pl X.1, X.cells]
    by_cases h3 : pn 0 ≤ i
    · have : i = pn 0 := by omega
      subst this
      rw [if_pos (nI_le (Nat.le_refl _) (by omega))]
      rfl
    · rw [if_neg (nI_ge (by omega) (by omega)), X.r1 _ i rfl (by omega), has0_eq, bd_at]
      have e1 : u1 S 1 (fun j => if j < i then lkb (S 1 j) else S 1 j) 1 i = S 1 i := by
        show (if i < i then _ else S 1 i) = S 1 i
        rw [if_neg (by omega)]
      rw [e1]
      have key : ∀ b : Int32, b = lkb (S 1 i) → u1 S 1 (upd (fun j => if j < i then lkb (S 1 j) else S 1 j) i b) = u1 S 1 (fun j => if j < i + 1 then lkb (S 1 j) else S 1 j) := by
        intro b hb
        congr 1
        funext j
        unfold upd
        by_cases h4 : j = i
        · rw [if_pos h4, if_pos (by omega), hb, h4]
        · rw [if_neg h4]
          show (if j < i then lkb (S 1 j) else S 1 j) = _
          by_cases h5 : j < i
          · rw [if_pos h5, if_pos (by omega)]
          · rw [if_neg h5, if_neg (by omega)]
      have same : lkb (S 1 i) = S 1 i → u1 S 1 (fun j => if j < i then lkb (S 1 j) else S 1 j) = u1 S 1 (fun j => if j < i + 1 then lkb (S 1 j) else S 1 j) := by
        intro hs
        rw [← key _ rfl, hs]
        congr 1
        funext j
        unfold upd
        by_cases h4 : j = i
        · rw [if_pos h4, h4, if_neg (by omega)]
        · rw [if_neg h4]
      unfold hasf
      by_cases h4 : (S 1 i &&& 4096) = 0
      · rw [if_pos h4, if_pos rfl, same (by unfold lkb; rw [if_pos h4]), nI_1]
        exact ih (i + 1) (by omega) (by omega)
      · rw [if_neg h4, if_neg (by decide), fillOf_eq, bd_at]
        by_cases h5 : (S 1 i &&& 127) ≤ 0
        · rw [if_pos h5, same (by unfold lkb; rw [if_neg h4, if_pos h5]), nI_1]
          exact ih (i + 1) (by omega) (by omega)
        · rw [if_neg h5]
          have e2 : ∀ q : PH, f_X0_leaked (S 1 i) q = some (S 1 i - 1, q) := fun q => rfl
          rw [e2, bd_at, X.w1 _ i rfl (by omega), u2_u1, key _ (by unfold lkb; rw [if_neg h4, if_neg h5]), nI_1]
          exact ih (i + 1) (by omega) (by omega)
theorem x_leak (X : XC h o pn dr) (S : SS) : f_X3_leak o (put h o S) = some ((), put h o (cLk pn S)) := by
  have hc := X.2.2.1
  unfold f_X3_leak
  rw [gd_at (so_kd X.1)]
  have h1 := x_leak_b2 X S 200 0 (by omega) (by omega)
  have e1 : u1 S 1 (fun j => if j < 0 then lkb (S 1 j) else S 1 j) = S := by
    have : (fun j => if j < 0 then lkb (S 1 j) else S 1 j) = S 1 := by funext j; rw [if_neg (by omega)]
    rw [this, u1_id]
  rw [e1] at h1
  exact h1
end
