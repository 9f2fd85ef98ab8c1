-- the reference's step, as functions of a row of 103 numbers, and of what is watched
theorem A0 (c : Nat) : (0 : Int32) + nI c = nI c := by rw [L0, nI_add, Nat.zero_add]
theorem A9 (c : Nat) : (9 : Int32) + nI c = nI (9 + c) := nI_add 9 c
theorem A18 (c : Nat) : (18 : Int32) + nI c = nI (18 + c) := nI_add 18 c
theorem A27 (c : Nat) : (27 : Int32) + nI c = nI (27 + c) := nI_add 27 c
theorem A36 (c : Nat) : (36 : Int32) + nI c = nI (36 + c) := nI_add 36 c
theorem A45 (c : Nat) : (45 : Int32) + nI c = nI (45 + c) := nI_add 45 c
theorem A54 (c : Nat) : (54 : Int32) + nI c = nI (54 + c) := nI_add 54 c
theorem A63 (c : Nat) : (63 : Int32) + nI c = nI (63 + c) := nI_add 63 c
theorem A79 (c : Nat) : (79 : Int32) + nI c = nI (79 + c) := nI_add 79 c
theorem nI_m1 {a : Nat} (h : 1 ≤ a) : nI a + -1 = nI (a - 1) := by
  rw [← nI_sub1 h]
  exact (Int32.sub_eq_add_neg _ _).symm
theorem nI_9 (a : Nat) : nI a + 9 = nI (a + 9) := nI_add a 9
abbrev RW : Type := Nat → Int32
def mst (h : PH) (k : Nat) (r : RW) (w g : Int32) : PH := (fun a b => if a = k then r b else if a = 110 ∧ b = 22 then w else if a = 110 ∧ b = 23 then g else h.1 a b, h.2)
def ko (k : Nat) : Prop := k = 114 ∨ k = 115
def PMd (h : PH) (pn : Nat → Nat) (dr : Nat → Int32) : Prop := h.1 110 2 = nI (pn 0) ∧ (∀ i, i < 5 → h.1 112 i = nI (pn (1 + i))) ∧ h.1 110 4 = nI (pn 6) ∧ h.1 110 5 = nI (pn 7) ∧ h.1 110 6 = nI (pn 8) ∧ h.1 110 7 = nI (pn 9) ∧ ∀ v, v < pn 9 → h.1 113 v = dr v
def MC (h : PH) (k : Nat) (pn : Nat → Nat) (dr : Nat → Int32) (cm : Int32) : Prop := ko k ∧ PMd h pn dr ∧ PN pn ∧ h.1 110 21 = cm
theorem ko_kd {k : Nat} (h : ko k) : kd k = 5 := by rcases h with rfl | rfl <;> rfl
theorem ko_al {k : Nat} (h : ko k) : al k = 103 := by rcases h with rfl | rfl <;> decide
theorem mst_self {h : PH} {k : Nat} : mst h k (h.1 k) (h.1 110 22) (h.1 110 23) = h := by
  apply Prod.ext
  · funext a b
    show (if a = k then h.1 k b else if a = 110 ∧ b = 22 then h.1 110 22 else if a = 110 ∧ b = 23 then h.1 110 23 else h.1 a b) = h.1 a b
    by_cases h1 : a = k
    · rw [if_pos h1, h1]
    · rw [if_neg h1]
      by_cases h2 : a = 110 ∧ b = 22
      · rw [if_pos h2, h2.1, h2.2]
      · rw [if_neg h2]
        by_cases h3 : a = 110 ∧ b = 23
        · rw [if_pos h3, h3.1, h3.2]
        · rw [if_neg h3]
  · rfl
theorem mst_k (h : PH) (k : Nat) (r : RW) (w g : Int32) : (mst h k r w g).1 k = r := by
  funext b
  show (if k = k then r b else _) = r b
  rw [if_pos rfl]
theorem mst_mst (h : PH) (k : Nat) (r r2 : RW) (w g w2 g2 : Int32) : mst (mst h k r w g) k r2 w2 g2 = mst h k r2 w2 g2 := by
  apply Prod.ext
  · funext a b
    show (if a = k then r2 b else if a = 110 ∧ b = 22 then w2 else if a = 110 ∧ b = 23 then g2 else (if a = k then r b else if a = 110 ∧ b = 22 then w else if a = 110 ∧ b = 23 then g else h.1 a b)) = (if a = k then r2 b else if a = 110 ∧ b = 22 then w2 else if a = 110 ∧ b = 23 then g2 else h.1 a b)
    repeat' split
    all_goals rfl
  · rfl
section
variable {h : PH} {k : Nat} {pn : Nat → Nat} {dr : Nat → Int32} {cm : Int32}
theorem MC.ne (X : MC h k pn dr cm) : k ≠ 110 ∧ k ≠ 112 ∧ k ≠ 113 := by rcases X.1 with rfl | rfl <;> omega
theorem MC.f (X : MC h k pn dr cm) (r : RW) (w g : Int32) {b : Nat} (hb : b ≠ 22 ∧ b ≠ 23) : (mst h k r w g).1 110 b = h.1 110 b := by
  show (if 110 = k then r b else if 110 = 110 ∧ b = 22 then w else if 110 = 110 ∧ b = 23 then g else h.1 110 b) = h.1 110 b
  rw [if_neg (fun q => X.ne.1 q.symm), if_neg (fun q => hb.1 q.2), if_neg (fun q => hb.2 q.2)]
theorem MC.fw (X : MC h k pn dr cm) (r : RW) (w g : Int32) : (mst h k r w g).1 110 22 = w := by
  show (if 110 = k then r 22 else if 110 = 110 ∧ 22 = 22 then w else _) = w
  rw [if_neg (fun q => X.ne.1 q.symm), if_pos ⟨rfl, rfl⟩]
theorem MC.o (r : RW) (w g : Int32) {a : Nat} (ha : a ≠ k) (h1 : a ≠ 110) : (mst h k r w g).1 a = h.1 a := by
  funext b
  show (if a = k then r b else if a = 110 ∧ b = 22 then w else if a = 110 ∧ b = 23 then g else h.1 a b) = h.1 a b
  rw [if_neg ha, if_neg (fun q => h1 q.1), if_neg (fun q => h1 q.1)]
theorem MC.cells (X : MC h k pn dr cm) (r : RW) (w g : Int32) : (mst h k r w g).1 110 2 = nI (pn 0) := by rw [X.f r w g (by decide)]; exact X.2.1.1
theorem MC.target (X : MC h k pn dr cm) (r : RW) (w g : Int32) : (mst h k r w g).1 110 4 = nI (pn 6) := by rw [X.f r w g (by decide)]; exact X.2.1.2.2.1
theorem MC.tol (X : MC h k pn dr cm) (r : RW) (w g : Int32) : (mst h k r w g).1 110 5 = nI (pn 7) := by rw [X.f r w g (by decide)]; exact X.2.1.2.2.2.1
theorem MC.each (X : MC h k pn dr cm) (r : RW) (w g : Int32) : (mst h k r w g).1 110 6 = nI (pn 8) := by rw [X.f r w g (by decide)]; exact X.2.1.2.2.2.2.1
theorem MC.valves (X : MC h k pn dr cm) (r : RW) (w g : Int32) : (mst h k r w g).1 110 7 = nI (pn 9) := by rw [X.f r w g (by decide)]; exact X.2.1.2.2.2.2.2.1
theorem MC.come (X : MC h k pn dr cm) (r : RW) (w g : Int32) : (mst h k r w g).1 110 21 = cm := by rw [X.f r w g (by decide)]; exact X.2.2.2
theorem MC.pl {β : Type} (X : MC h k pn dr cm) (r : RW) (w g : Int32) {i : Int32} (j : Nat) (hi : i = nI j) (hj : j < 5) {f : Int32 → Option β} : rd (mst h k r w g) 112 i f = f (nI (pn (1 + j))) := by
  rw [rd_at j hi (by show j < 5; exact hj) (by decide), MC.o r w g (fun q => X.ne.2.1 q.symm) (by decide), X.2.1.2.1 j hj]
theorem MC.dri {β : Type} (X : MC h k pn dr cm) (r : RW) (w g : Int32) {i : Int32} (j : Nat) (hi : i = nI j) (hj : j < pn 9) {f : Int32 → Option β} : rd (mst h k r w g) 113 i f = f (dr j) := by
  have hV := X.2.2.1.2.2.2.2.2
  rw [rd_at j hi (by show j < 4; omega) (by decide), MC.o r w g (fun q => X.ne.2.2 q.symm) (by decide), X.2.1.2.2.2.2.2.2 j hj]
theorem MC.r {β : Type} (X : MC h k pn dr cm) (r : RW) (w g : Int32) {i : Int32} (j : Nat) (hi : i = nI j) (hj : j < 103) {f : Int32 → Option β} : rd (mst h k r w g) k i f = f (r j) := by
  rw [rd_at j hi (by rw [ko_al X.1]; exact hj) (by rw [ko_al X.1]; decide), mst_k]
theorem si_mst (h : PH) (k : Nat) (r : RW) (w g : Int32) (j : Nat) (v : Int32) : si (mst h k r w g) k j v = mst h k (upd r j v) w g := by
  apply Prod.ext
  · funext a b
    show (if a = k ∧ b = j then v else if a = k then r b else if a = 110 ∧ b = 22 then w else if a = 110 ∧ b = 23 then g else h.1 a b) = (if a = k then upd r j v b else if a = 110 ∧ b = 22 then w else if a = 110 ∧ b = 23 then g else h.1 a b)
    unfold upd
    by_cases h1 : a = k
    · by_cases h2 : b = j
      · rw [if_pos ⟨h1, h2⟩, if_pos h1, if_pos h2]
      · rw [if_neg (fun q => h2 q.2), if_pos h1, if_pos h1, if_neg h2]
    · rw [if_neg (fun q => h1 q.1), if_neg h1, if_neg h1]
  · rfl
theorem MC.w {β : Type} (X : MC h k pn dr cm) (r : RW) (w g : Int32) {i v : Int32} (j : Nat) (hi : i = nI j) (hj : j < 103) {f : PH → Option β} : wr (mst h k r w g) k i v f = f (mst h k (upd r j v) w g) := by
  rw [wr_at j hi (by rw [ko_al X.1]; exact hj) (by rw [ko_al X.1]; decide), si_mst]
theorem MC.sw {β : Type} (X : MC h k pn dr cm) (r : RW) (w g : Int32) {v : Int32} {f : PH → Option β} : st (mst h k r w g) 110 22 v f = f (mst h k r v g) := by
  rw [st_at]
  congr 1
  apply Prod.ext
  · funext a b
    show (if a = 110 ∧ b = 22 then v else if a = k then r b else if a = 110 ∧ b = 22 then w else if a = 110 ∧ b = 23 then g else h.1 a b) = (if a = k then r b else if a = 110 ∧ b = 22 then v else if a = 110 ∧ b = 23 then g else h.1 a b)
    have := X.ne.1
    by_cases h1 : a = k
    · rw [if_neg (fun q => by omega), if_pos h1, if_pos h1]
    · rw [if_neg h1, if_neg h1]
      by_cases h2 : a = 110 ∧ b = 22
      · rw [if_pos h2, if_pos h2]
      · rw [if_neg h2, if_neg h2, if_neg h2]
  · rfl
theorem MC.sg {β : Type} (X : MC h k pn dr cm) (r : RW) (w g : Int32) {v : Int32} {f : PH → Option β} : st (mst h k r w g) 110 23 v f = f (mst h k r w v) := by
  rw [st_at]
  congr 1
  apply Prod.ext
  · funext a b
    show (if a = 110 ∧ b = 23 then v else if a = k then r b else if a = 110 ∧ b = 22 then w else if a = 110 ∧ b = 23 then g else h.1 a b) = (if a = k then r b else if a = 110 ∧ b = 22 then w else if a = 110 ∧ b = 23 then v else h.1 a b)
    have := X.ne.1
    by_cases h1 : a = k
    · rw [if_neg (fun q => by omega), if_pos h1, if_pos h1]
    · rw [if_neg h1, if_neg h1]
      by_cases h2 : a = 110 ∧ b = 22
      · rw [if_neg (fun q => by omega), if_pos h2, if_pos h2]
      · rw [if_neg h2, if_neg h2]
        by_cases h3 : a = 110 ∧ b = 23
        · rw [if_pos h3, if_pos h3]
        · rw [if_neg h3, if_neg h3, if_neg h3]
  · rfl
theorem neg_iab (x : Int32) : (0 : Int32) - x = -x := Int32.zero_sub x
def gM (pn : Nat → Nat) (r : RW) (c : Nat) : Int32 := if r c = 1 then (if nI (pn 7) < iab (r (9 + c) - nI (pn 6)) then 0 else if r (27 + c) = 1 then (if r (36 + c) = 1 then 1 else 0) else 0) else 0
theorem m_isGood (X : MC h k pn dr cm) (r : RW) (w g : Int32) {c : Nat} (hc : c < 9) : f_X5_isGood k (nI c) (mst h k r w g) = some (gM pn r c, mst h k r w g) := by
  unfold f_X5_isGood gM
  rw [gd_at (ko_kd X.1), X.r r w g (9 + c) (A9 c) (by omega), X.r r w g c (A0 c) (by omega), X.target]
  by_cases h1 : r c = 1
  · rw [if_pos h1, if_pos h1]
    have e : ∀ a : Int32, f_X5_isGood_b31 k (nI c) a (mst h k r w g) = some (if nI (pn 7) < a then 0 else if r (27 + c) = 1 then (if r (36 + c) = 1 then 1 else 0) else 0, mst h k r w g) := by
      intro a
      unfold f_X5_isGood_b31
      rw [X.tol]
      by_cases h2 : nI (pn 7) < a
      · rw [if_pos h2, if_pos h2]
      · rw [if_neg h2, if_neg h2, X.r r w g (27 + c) (A27 c) (by omega)]
        by_cases h3 : r (27 + c) = 1
        · rw [if_pos h3, if_pos h3, X.r r w g (36 + c) (A36 c) (by omega)]
          split <;> rfl
        · rw [if_neg h3, if_neg h3]
    unfold iab
    by_cases h4 : 0 ≤ r (9 + c) - nI (pn 6)
    · rw [if_pos h4, if_pos h4, e]
    · rw [if_neg h4, if_neg h4, e, neg_iab]
  · rw [if_neg h1, if_neg h1]
def mE (r : RW) (c : Nat) : RW := fun i => if i < 54 ∧ i % 9 = c then (if i = 18 + c then -9 else 0) else r i
theorem m_empty_b2 (X : MC h k pn dr cm) (r : RW) (w g : Int32) {c : Nat} (hc : c < 9) : ∀ (n j : Nat), j ≤ 6 → 6 < j + n → f_X5_empty_b2 k n (nI c) (nI (9 * j)) (mst h k (fun i => if i < 9 * j ∧ i % 9 = c then (if i = 18 + c then -9 else 0) else r i) w g) = some ((), mst h k (mE r c) w g) := by
  intro n
  induction n with
  | zero => intro j h1 h2; omega
  | succ n ih =>
    intro j h1 h2
    unfold f_X5_empty_b2
    by_cases h3 : j = 6
    · subst h3
      rw [if_pos (by decide)]
      rfl
    · rw [if_neg (by rw [L54]; exact nI_ge (by omega) (by omega))]
      have key : ∀ v : Int32, v = (if 9 * j + c = 18 + c then -9 else 0) → upd (fun i => if i < 9 * j ∧ i % 9 = c then (if i = 18 + c then -9 else 0) else r i) (9 * j + c) v = (fun i => if i < 9 * (j + 1) ∧ i % 9 = c then (if i = 18 + c then -9 else 0) else r i) := by
        intro v hv
        funext i
        unfold upd
        by_cases h4 : i = 9 * j + c
        · rw [if_pos h4, if_pos (show i < 9 * (j + 1) ∧ i % 9 = c by omega), hv, h4]
        · rw [if_neg h4]
          show (if i < 9 * j ∧ i % 9 = c then (if i = 18 + c then -9 else 0) else r i) = _
          by_cases h5 : i < 9 * j ∧ i % 9 = c
          · rw [if_pos h5, if_pos (show i < 9 * (j + 1) ∧ i % 9 = c by omega)]
          · rw [if_neg h5, if_neg (show ¬ (i < 9 * (j + 1) ∧ i % 9 = c) by omega)]
      by_cases h4 : j = 2
      · have e : nI (9 * j) = (18 : Int32) := by subst h4; rfl
        rw [if_pos e, nI_add, X.w _ w g (9 * j + c) rfl (by omega), key _ (by rw [if_pos (by omega)]), nI_9]
        exact ih (j + 1) (by omega) (by omega)
      · have e : ¬ nI (9 * j) = (18 : Int32) := by rw [L18, nI_eq (by omega) (by omega)]; omega
        rw [if_neg e, nI_add, X.w _ w g (9 * j + c) rfl (by omega), key _ (by rw [if_neg (by omega)]), nI_9]
        exact ih (j + 1) (by omega) (by omega)
theorem m_empty (X : MC h k pn dr cm) (r : RW) (w g : Int32) {c : Nat} (hc : c < 9) : f_X5_empty k (nI c) (mst h k r w g) = some ((), mst h k (mE r c) w g) := by
  unfold f_X5_empty
  rw [gd_at (ko_kd X.1)]
  have h1 := m_empty_b2 X r w g hc 200 0 (by omega) (by omega)
  have e : (fun i => if i < 9 * 0 ∧ i % 9 = c then (if i = 18 + c then (-9 : Int32) else 0) else r i) = r := by
    funext i
    rw [if_neg (by omega)]
  rw [e] at h1
  exact h1
-- leave: the row, what is watched, how it went
def mLv (pn : Nat → Nat) (r : RW) : RW := if r (pn 0 - 1) = 0 then r else mE (if gM pn r (pn 0 - 1) = 0 then upd r 73 (r 73 + 1) else upd r 72 (r 72 + 1)) (pn 0 - 1)
def wLv (pn : Nat → Nat) (r : RW) (w : Int32) : Int32 := if r (pn 0 - 1) = 0 then w else if w = nI (pn 0 - 1) then -9 else w
def gLv (pn : Nat → Nat) (r : RW) (w g : Int32) : Int32 := if r (pn 0 - 1) = 0 then g else if w = nI (pn 0 - 1) then (if gM pn r (pn 0 - 1) = 0 then 2 else 1) else g
theorem m_leave (X : MC h k pn dr cm) (r : RW) (w g : Int32) : f_X5_leave k (mst h k r w g) = some ((), mst h k (mLv pn r) (wLv pn r w) (gLv pn r w g)) := by
  have hcl := X.2.2.1.1
  have e : ∀ (v : Int32) (q : Nat) (hq : q < 103), f_X5_leave_b35 k (nI (pn 0 - 1)) v (nI q) (mst h k r w g) = some ((), mst h k (mE (upd r q (r q + 1)) (pn 0 - 1)) (if w = nI (pn 0 - 1) then -9 else w) (if w = nI (pn 0 - 1) then (if v = 0 then 2 else 1) else g)) := by
    intro v q hq
    unfold f_X5_leave_b35
    rw [X.r r w g q rfl hq, X.w r w g q rfl hq, X.fw]
    have e2 : ∀ a : Int32, f_X5_leave_b58 k (nI (pn 0 - 1)) a (mst h k (upd r q (r q + 1)) w g) = some ((), mst h k (mE (upd r q (r q + 1)) (pn 0 - 1)) (-9) a) := by
      intro a
      unfold f_X5_leave_b58
      rw [X.sg, X.sw, m_empty X _ _ _ (by omega), bd_at]
    by_cases h1 : w = nI (pn 0 - 1)
    · rw [if_pos h1, if_pos h1, if_pos h1]
      by_cases h2 : v = 0
      · rw [if_pos h2, if_pos h2, e2]
      · rw [if_neg h2, if_neg h2, e2]
    · rw [if_neg h1, if_neg h1, if_neg h1, m_empty X _ _ _ (by omega), bd_at]
  unfold f_X5_leave mLv wLv gLv
  rw [gd_at (ko_kd X.1), X.cells, nI_sub1 (by omega), X.r r w g (pn 0 - 1) (A0 _) (by omega)]
  by_cases h1 : r (pn 0 - 1) = 0
  · rw [if_pos h1, if_pos h1, if_pos h1, if_pos h1]
  · rw [if_neg h1, if_neg h1, if_neg h1, if_neg h1, m_isGood X r w g (by omega), bd_at]
    by_cases h2 : gM pn r (pn 0 - 1) = 0
    · rw [if_pos h2, if_pos h2, L73, e _ 73 (by decide), if_pos h2]
    · rw [if_neg h2, if_neg h2, L72, e _ 72 (by decide), if_neg h2]
-- slip
def mSl (pn : Nat → Nat) (r : RW) : RW := fun i => if 54 ≤ i ∧ i < 54 + pn 0 then (if i = 54 then 0 else r (i - 1)) else r i
theorem m_slip_b7 (X : MC h k pn dr cm) (r : RW) (w g : Int32) : ∀ (n i : Nat), i < pn 0 → i < n → f_X5_slipOn_b7 k n (nI i) (mst h k (fun x => if 54 + i < x ∧ x < 54 + pn 0 then r (x - 1) else r x) w g) = some ((), mst h k (mSl pn r) w g) := by
  have hcl := X.2.2.1.1
  intro n
  induction n with
  | zero => intro i h1 h2; omega
  | succ n ih =>
    intro i h1 h2
    unfold f_X5_slipOn_b7
    by_cases h3 : i = 0
    · subst h3
      rw [if_pos (by decide), X.w _ w g 54 L54 (by decide)]
      congr 3
      funext x
      unfold upd mSl
      by_cases h4 : x = 54
      · rw [if_pos h4, if_pos (by omega), if_pos h4]
      · rw [if_neg h4]
        show (if 54 + 0 < x ∧ x < 54 + pn 0 then r (x - 1) else r x) = _
        by_cases h5 : 54 + 0 < x ∧ x < 54 + pn 0
        · rw [if_pos h5, if_pos (by omega), if_neg h4]
        · rw [if_neg h5, if_neg (by omega)]
    · rw [if_neg (nI_nle (by omega) (by omega)), A54, nI_sub1 (by omega), X.r _ w g (54 + i - 1) rfl (by omega), X.w _ w g (54 + i) rfl (by omega), nI_m1 (by omega)]
      have e : upd (fun x => if 54 + i < x ∧ x < 54 + pn 0 then r (x - 1) else r x) (54 + i) ((fun x => if 54 + i < x ∧ x < 54 + pn 0 then r (x - 1) else r x) (54 + i - 1)) = (fun x => if 54 + (i - 1) < x ∧ x < 54 + pn 0 then r (x - 1) else r x) := by
        funext x
        unfold upd
        by_cases h4 : x = 54 + i
        · rw [if_pos h4, if_pos (by omega)]
          show (if 54 + i < 54 + i - 1 ∧ 54 + i - 1 < 54 + pn 0 then _ else r (54 + i - 1)) = _
          rw [if_neg (by omega), h4]
        · rw [if_neg h4]
          show (if 54 + i < x ∧ x < 54 + pn 0 then r (x - 1) else r x) = _
          by_cases h5 : 54 + i < x ∧ x < 54 + pn 0
          · rw [if_pos h5, if_pos (by omega)]
          · rw [if_neg h5, if_neg (by omega)]
      rw [e]
      exact ih (i - 1) (by omega) (by omega)
theorem m_slip (X : MC h k pn dr cm) (r : RW) (w g : Int32) : f_X5_slipOn k (mst h k r w g) = some ((), mst h k (mSl pn r) w g) := by
  have hcl := X.2.2.1.1
  unfold f_X5_slipOn
  rw [gd_at (ko_kd X.1), X.cells, nI_sub1 (by omega)]
  have h1 := m_slip_b7 X r w g 200 (pn 0 - 1) (by omega) (by omega)
  have e : (fun x => if 54 + (pn 0 - 1) < x ∧ x < 54 + pn 0 then r (x - 1) else r x) = r := by
    funext x
    rw [if_neg (by omega)]
  rw [e] at h1
  exact h1
end
