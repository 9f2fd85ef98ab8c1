section
variable {h : PH} {k : Nat} {pn : Nat → Nat} {dr : Nat → Int32} {cm : Int32}
-- the bottles move on
def mSh (pn : Nat → Nat) (r : RW) : RW := fun x => if x < 54 ∧ 0 < x % 9 ∧ x % 9 < pn 0 then r (x - 1) else r x
theorem m_mv_b13 (X : MC h k pn dr cm) (rec7 : Int32 → PH → Option (Unit × PH)) (r : RW) (w g : Int32) {i : Nat} (hi : 1 ≤ i) (hi9 : i < 9) : ∀ (n j : Nat), j ≤ 6 → 6 < j + n → f_X5_moveOn_b13 k rec7 n (nI i) (nI (9 * j)) (mst h k (fun x => if x < 9 * j ∧ x % 9 = i then r (x - 1) else r x) w g) = rec7 (nI (i - 1)) (mst h k (fun x => if x < 54 ∧ x % 9 = i then r (x - 1) else r x) w g) := by
  intro n
  induction n with
  | zero => intro j h1 h2; omega
  | succ n ih =>
    intro j h1 h2
    unfold f_X5_moveOn_b13
    by_cases h3 : j = 6
    · subst h3
      rw [if_pos (by decide), nI_m1 hi]
    · rw [if_neg (by rw [L54]; exact nI_ge (by omega) (by omega)), nI_add, nI_sub1 (by omega), X.r _ w g (9 * j + i - 1) rfl (by omega), X.w _ w g (9 * j + i) rfl (by omega), nI_9]
      have e : upd (fun x => if x < 9 * j ∧ x % 9 = i then r (x - 1) else r x) (9 * j + i) ((fun x => if x < 9 * j ∧ x % 9 = i then r (x - 1) else r x) (9 * j + i - 1)) = (fun x => if x < 9 * (j + 1) ∧ x % 9 = i then r (x - 1) else r x) := by
        funext x
        unfold upd
        by_cases h4 : x = 9 * j + i
        · rw [if_pos h4, if_pos (show x < 9 * (j + 1) ∧ x % 9 = i by omega)]
          show (if 9 * j + i - 1 < 9 * j ∧ (9 * j + i - 1) % 9 = i then _ else r (9 * j + i - 1)) = _
          rw [if_neg (by omega), h4]
        · rw [if_neg h4]
          show (if x < 9 * j ∧ x % 9 = i then r (x - 1) else r x) = _
          by_cases h5 : x < 9 * j ∧ x % 9 = i
          · rw [if_pos h5, if_pos (by omega)]
          · rw [if_neg h5, if_neg (by omega)]
      rw [e]
      exact ih (j + 1) (by omega) (by omega)
-- the queue
def mQu (m : Nat) (r : RW) : RW := if m = 0 then r else fun x => if x = 0 then (if r 79 ≤ 0 then 0 else 1) else if x = 45 then (if r 79 = 2 then 1 else 0) else if x = 78 then nI (m - 1) else if 79 ≤ x ∧ x < 79 + (m - 1) then r (x + 1) else r x
theorem m_q_b126 (X : MC h k pn dr cm) (r : RW) (w g : Int32) {m : Nat} (hm : r 78 = nI m) (hm2 : m ≤ 23) : ∀ (n i : Nat), i ≤ m → m < i + n → f_X5_moveOn_b126 k n (nI i) (mst h k (fun x => if 79 ≤ x ∧ x < 79 + i then r (x + 1) else r x) w g) = some ((), mst h k (fun x => if 79 ≤ x ∧ x < 79 + m then r (x + 1) else r x) w g) := by
  intro n
  induction n with
  | zero => intro i h1 h2; omega
  | succ n ih =>
    intro i h1 h2
    unfold f_X5_moveOn_b126
    rw [X.r _ w g 78 L78 (by decide)]
    have e0 : (if 79 ≤ 78 ∧ 78 < 79 + i then r (78 + 1) else r 78) = nI m := by
      rw [if_neg (by omega), hm]
    rw [e0]
    by_cases h3 : m ≤ i
    · have : i = m := by omega
      subst this
      rw [if_pos (nI_le (Nat.le_refl _) (by omega))]
    · rw [if_neg (nI_ge (by omega) (by omega)), A79, nI_1, X.r _ w g (79 + i + 1) rfl (by omega), X.w _ w g (79 + i) rfl (by omega), nI_1]
      have e : upd (fun x => if 79 ≤ x ∧ x < 79 + i then r (x + 1) else r x) (79 + i) ((fun x => if 79 ≤ x ∧ x < 79 + i then r (x + 1) else r x) (79 + i + 1)) = (fun x => if 79 ≤ x ∧ x < 79 + (i + 1) then r (x + 1) else r x) := by
        funext x
        unfold upd
        by_cases h4 : x = 79 + i
        · rw [if_pos h4, if_pos (show 79 ≤ x ∧ x < 79 + (i + 1) by omega)]
          show (if 79 ≤ 79 + i + 1 ∧ 79 + i + 1 < 79 + i then _ else r (79 + i + 1)) = _
          rw [if_neg (by omega), h4]
        · rw [if_neg h4]
          show (if 79 ≤ x ∧ x < 79 + i then r (x + 1) else r x) = _
          by_cases h5 : 79 ≤ x ∧ x < 79 + i
          · rw [if_pos h5, if_pos (by omega)]
          · rw [if_neg h5, if_neg (by omega)]
      rw [e]
      exact ih (i + 1) (by omega) (by omega)
theorem m_q_b73 (X : MC h k pn dr cm) (r : RW) (w g : Int32) {m : Nat} (hm : r 78 = nI m) (hm2 : m ≤ 24) (a b : Int32) : f_X5_moveOn_b73 k a b (mst h k r w g) = some ((), mst h k (mQu m r) (b + a) g) := by
  unfold f_X5_moveOn_b73
  rw [X.sw, X.r _ _ g 78 L78 (by decide), hm]
  by_cases h1 : m = 0
  · subst h1
    rw [if_pos (by decide)]
    rfl
  · rw [if_neg (nI_nle (by omega) (by omega)), X.r _ _ g 79 L79 (by decide)]
    have e3 : ∀ (r' : RW) (z : Int32), r' 78 = nI m → f_X5_moveOn_b115 k z 45 (mst h k r' (b + a) g) = some ((), mst h k (fun x => if 79 ≤ x ∧ x < 79 + (m - 1) then upd (upd r' 45 z) 78 (nI (m - 1)) (x + 1) else upd (upd r' 45 z) 78 (nI (m - 1)) x) (b + a) g) := by
      intro r' z hr'
      unfold f_X5_moveOn_b115
      rw [X.w _ _ g 45 L45 (by decide), X.r _ _ g 78 L78 (by decide)]
      have e4 : upd r' 45 z 78 = nI m := hr'
      rw [e4, nI_sub1 (by omega), X.w _ _ g 78 L78 (by decide)]
      have e5 := m_q_b126 X (upd (upd r' 45 z) 78 (nI (m - 1))) (b + a) g (m := m - 1) rfl (by omega) 200 0 (by omega) (by omega)
      have e6 : (fun x => if 79 ≤ x ∧ x < 79 + 0 then upd (upd r' 45 z) 78 (nI (m - 1)) (x + 1) else upd (upd r' 45 z) 78 (nI (m - 1)) x) = upd (upd r' 45 z) 78 (nI (m - 1)) := by
        funext x
        rw [if_neg (by omega)]
      rw [e6] at e5
      exact e5
    have e2 : ∀ z : Int32, f_X5_moveOn_b98 k z 0 (mst h k r (b + a) g) = some ((), mst h k (fun x => if x = 0 then z else if x = 45 then (if r 79 = 2 then 1 else 0) else if x = 78 then nI (m - 1) else if 79 ≤ x ∧ x < 79 + (m - 1) then r (x + 1) else r x) (b + a) g) := by
      intro z
      unfold f_X5_moveOn_b98
      rw [X.w _ _ g 0 L0 (by decide), X.r _ _ g 79 L79 (by decide)]
      have e4 : upd r 0 z 79 = r 79 := rfl
      rw [e4]
      have e5 : ∀ y : Int32, f_X5_moveOn_b115 k y 45 (mst h k (upd r 0 z) (b + a) g) = some ((), mst h k (fun x => if x = 0 then z else if x = 45 then y else if x = 78 then nI (m - 1) else if 79 ≤ x ∧ x < 79 + (m - 1) then r (x + 1) else r x) (b + a) g) := by
        intro y
        rw [e3 (upd r 0 z) y hm]
        congr 3
        funext x
        unfold upd
        by_cases q1 : 79 ≤ x ∧ x < 79 + (m - 1)
        · rw [if_pos q1, if_neg (show ¬ x + 1 = 78 by omega), if_neg (show ¬ x + 1 = 45 by omega), if_neg (show ¬ x + 1 = 0 by omega), if_neg (show ¬ x = 0 by omega), if_neg (show ¬ x = 45 by omega), if_neg (show ¬ x = 78 by omega), if_pos q1]
        · rw [if_neg q1]
          by_cases q2 : x = 0
          · subst q2; rfl
          · rw [if_neg q2]
            by_cases q3 : x = 45
            · subst q3; rfl
            · rw [if_neg q3, if_neg q3, if_neg q2, if_neg q1]
      by_cases h5 : r 79 = 2
      · rw [if_pos h5, e5, if_pos h5]
      · rw [if_neg h5, e5, if_neg h5]
    unfold mQu
    rw [if_neg h1]
    by_cases h6 : r 79 ≤ 0
    · rw [if_pos h6, e2, if_pos h6]
    · rw [if_neg h6, e2, if_neg h6]
def mM0 (pn : Nat → Nat) (r : RW) : RW := mE (mSl pn (mSh pn r)) 0
def wMv (w : Int32) : Int32 := if w = -9 then w + 0 else w + 1
theorem m_mv_b7 (X : MC h k pn dr cm) (r : RW) (w g : Int32) {m : Nat} (hm : r 78 = nI m) (hm2 : m ≤ 24) : ∀ (n i : Nat), i < pn 0 → i < n → f_X5_moveOn_b7 k n (nI i) (mst h k (fun x => if x < 54 ∧ i < x % 9 ∧ x % 9 < pn 0 then r (x - 1) else r x) w g) = some ((), mst h k (mQu m (mM0 pn r)) (wMv w) g) := by
  have hcl := X.2.2.1.1
  intro n
  induction n with
  | zero => intro i h1 h2; omega
  | succ n ih =>
    intro i h1 h2
    unfold f_X5_moveOn_b7
    by_cases h3 : i = 0
    · subst h3
      have e : (fun x => if x < 54 ∧ 0 < x % 9 ∧ x % 9 < pn 0 then r (x - 1) else r x) = mSh pn r := rfl
      have e2 : mM0 pn r 78 = nI m := by
        simp only [mM0, mE, mSl, mSh]
        rw [if_neg (by omega), if_neg (by omega), if_neg (by omega), hm]
      rw [if_pos (by decide), e, m_slip X, bd_at, L0, m_empty X _ w g (c := 0) (by decide), bd_at, X.fw]
      unfold wMv
      by_cases h4 : w = -9
      · rw [if_pos h4, if_pos h4]
        exact m_q_b73 X (mM0 pn r) w g e2 hm2 0 w
      · rw [if_neg h4, if_neg h4]
        exact m_q_b73 X (mM0 pn r) w g e2 hm2 1 w
    · have e1 := m_mv_b13 X (f_X5_moveOn_b7 k n) (fun x => if x < 54 ∧ i < x % 9 ∧ x % 9 < pn 0 then r (x - 1) else r x) w g (i := i) (by omega) (by omega) 200 0 (by omega) (by omega)
      have e2 : (fun x => if x < 9 * 0 ∧ x % 9 = i then (fun x => if x < 54 ∧ i < x % 9 ∧ x % 9 < pn 0 then r (x - 1) else r x) (x - 1) else (fun x => if x < 54 ∧ i < x % 9 ∧ x % 9 < pn 0 then r (x - 1) else r x) x) = (fun x => if x < 54 ∧ i < x % 9 ∧ x % 9 < pn 0 then r (x - 1) else r x) := by
        funext x
        rw [if_neg (by omega)]
      rw [e2] at e1
      rw [if_neg (nI_nle (by omega) (by omega))]
      refine e1.trans ?_
      have e3 : (fun x => if x < 54 ∧ x % 9 = i then (fun x => if x < 54 ∧ i < x % 9 ∧ x % 9 < pn 0 then r (x - 1) else r x) (x - 1) else (fun x => if x < 54 ∧ i < x % 9 ∧ x % 9 < pn 0 then r (x - 1) else r x) x) = (fun x => if x < 54 ∧ i - 1 < x % 9 ∧ x % 9 < pn 0 then r (x - 1) else r x) := by
        funext x
        show (if x < 54 ∧ x % 9 = i then (if x - 1 < 54 ∧ i < (x - 1) % 9 ∧ (x - 1) % 9 < pn 0 then r (x - 1 - 1) else r (x - 1)) else (if x < 54 ∧ i < x % 9 ∧ x % 9 < pn 0 then r (x - 1) else r x)) = _
        by_cases q1 : x < 54 ∧ x % 9 = i
        · rw [if_pos q1, if_neg (by omega), if_pos (by omega)]
        · rw [if_neg q1]
          by_cases q2 : x < 54 ∧ i < x % 9 ∧ x % 9 < pn 0
          · rw [if_pos q2, if_pos (by omega)]
          · rw [if_neg q2, if_neg (by omega)]
      rw [e3]
      exact ih (i - 1) (by omega) (by omega)
theorem m_moveOn (X : MC h k pn dr cm) (r : RW) (w g : Int32) {m : Nat} (hm : r 78 = nI m) (hm2 : m ≤ 24) : f_X5_moveOn k (mst h k r w g) = some ((), mst h k (mQu m (mM0 pn r)) (wMv w) g) := by
  have hcl := X.2.2.1.1
  unfold f_X5_moveOn
  rw [gd_at (ko_kd X.1), X.cells, nI_sub1 (by omega)]
  have h1 := m_mv_b7 X r w g hm hm2 200 (pn 0 - 1) (by omega) (by omega)
  have e : (fun x => if x < 54 ∧ pn 0 - 1 < x % 9 ∧ x % 9 < pn 0 then r (x - 1) else r x) = r := by
    funext x
    rw [if_neg (by omega)]
  rw [e] at h1
  exact h1
end
