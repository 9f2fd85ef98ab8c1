section
variable {pn : Nat → Nat} {B : Nat} {S : SS} {r : RW} {dr : Nat → Int32} {cm : Int32} {h : PH} {o k : Nat}
theorem RR_cg {S' : SS} {r' : RW} (hN : PN pn) (hR : RR 9 pn B S r) (h0 : ∀ i, 6 ≤ i → i ≤ 17 → S' 0 i = S 0 i) (h1 : ∀ i, i < 9 → S' 1 i = S 1 i) (h2 : ∀ i, i < 9 → S' 2 i = S 2 i) (h3 : ∀ i, i < 4 → S' 3 i = S 3 i) (h4 : ∀ i, i < 24 → S' 4 i = S 4 i) (hr : ∀ i, i < 103 → r' i = r i) : RR 9 pn B S' r' := by
  obtain ⟨hC, hM, hT, hK, m, hm, m1, m2, m3⟩ := hR
  have hV := hN.2.2.2.2.2
  refine ⟨fun c q1 q2 => ?_, fun c q1 => ?_, fun v q1 => ?_, RK_congr hK (fun i a b => h0 i (by omega) b) (fun i a b => hr i (by omega)), m, hm, by rw [h0 6 (by omega) (by omega)]; exact m1, by rw [hr 78 (by omega)]; exact m2, fun i hi => ?_⟩
  · rw [h1 c q1]
    refine crel_mv ⟨?_, ?_, ?_, ?_, ?_, ?_⟩ (hC c q1 q2) <;> exact hr _ (by omega)
  · rw [h2 c q1, hr _ (by omega)]; exact hM c q1
  · rw [h3 v (by omega), hr _ (by omega)]; exact hT v q1
  · rw [h4 i (by omega), hr _ (by omega)]; exact m3 i hi
theorem R_slip (hN : PN pn) (hR : RR 9 pn B S r) : RR 9 pn B (cMm pn S) (mSl pn r) := by
  obtain ⟨hC, hM, hT, hK, m, hm, m1, m2, m3⟩ := hR
  have hcl := hN.1
  have hV := hN.2.2.2.2.2
  have big : ∀ i, i < 54 ∨ 63 ≤ i → mSl pn r i = r i := by
    intro i hi
    show (if 54 ≤ i ∧ i < 54 + pn 0 then _ else r i) = r i
    rw [if_neg (by omega)]
  refine ⟨fun c q1 q2 => ?_, fun c q1 => ?_, fun v q1 => ?_, RK_congr hK (fun i _ _ => rfl) (fun i _ _ => big i (by omega)), m, hm, m1, by rw [big 78 (by omega)]; exact m2, fun i hi => ?_⟩
  · refine crel_mv ⟨?_, ?_, ?_, ?_, ?_, ?_⟩ (hC c q1 q2) <;> exact big _ (by omega)
  · show shf (pn 0) (S 2) c = (if 54 ≤ 54 + c ∧ 54 + c < 54 + pn 0 then (if 54 + c = 54 then 0 else r (54 + c - 1)) else r (54 + c)) ∧ mk3 (if 54 ≤ 54 + c ∧ 54 + c < 54 + pn 0 then (if 54 + c = 54 then 0 else r (54 + c - 1)) else r (54 + c))
    unfold shf
    by_cases c0 : c = 0
    · rw [if_pos c0, if_pos (show 54 ≤ 54 + c ∧ 54 + c < 54 + pn 0 by omega), if_pos (show 54 + c = 54 by omega)]
      exact ⟨rfl, Or.inl rfl⟩
    · rw [if_neg c0]
      by_cases c1 : c < pn 0
      · rw [if_pos c1, if_pos (show 54 ≤ 54 + c ∧ 54 + c < 54 + pn 0 by omega), if_neg (show ¬ 54 + c = 54 by omega)]
        have := hM (c - 1) (by omega)
        have e : 54 + (c - 1) = 54 + c - 1 := by omega
        rw [e] at this
        exact this
      · rw [if_neg c1, if_neg (show ¬ (54 ≤ 54 + c ∧ 54 + c < 54 + pn 0) by omega)]
        exact hM c q1
  · rw [big _ (by omega)]; exact hT v q1
  · rw [big _ (by omega)]; exact m3 i hi
-- the set of the bottles
def bs : Nat → Nat → RW → Int32 → Int32
  | 0, _, _, a => a
  | n + 1, i, r, a => bs n (i + 1) r (a ||| (r i <<< (nI i &&& 31)))
theorem x_bs (X : XC h o pn dr) (hR : RR 9 pn B S r) : ∀ (n i : Nat) (a : Int32), i ≤ pn 0 → pn 0 < i + n → f_X3_bottleSet_b4 o n a (nI i) (put h o S) = some (bs (pn 0 - i) i r a, put h o S) := by
  have hcl := X.2.2.1
  have hV := X.2.2.2.2.2.2.2
  intro n
  induction n with
  | zero => intro i a h1 h2; omega
  | succ n ih =>
    intro i a h1 h2
    unfold f_X3_bottleSet_b4
    rw [so_pl X.1, X.cells]
    by_cases h3 : i = pn 0
    · rw [if_pos (nI_le (by omega) (by omega)), h3, Nat.sub_self]
      rfl
    · rw [if_neg (nI_ge (by omega) (by omega)), X.r1 _ i rfl (by omega), nI_1]
      have e : pn 0 - i = (pn 0 - (i + 1)) + 1 := by omega
      rw [e]
      unfold bs
      have hz := crel_0 hV (hR.1 i (by omega) (by omega))
      by_cases h4 : S 1 i = 0
      · rw [if_pos h4, ih (i + 1) _ (by omega) (by omega), hz.1.mp h4]
        have : a ||| ((0 : Int32) <<< (nI i &&& 31)) = a := by rw [Int32.zero_shiftLeft, Int32.or_zero]
        rw [this]
      · rw [if_neg h4, ih (i + 1) _ (by omega) (by omega), hz.2.mp h4]
theorem x_bottleSet (X : XC h o pn dr) (hR : RR 9 pn B S r) : f_X3_bottleSet o (put h o S) = some (bs (pn 0) 0 r 0, put h o S) := by
  have hcl := X.2.2.1
  unfold f_X3_bottleSet
  rw [gd_at (so_kd X.1)]
  exact x_bs X hR 200 0 0 (by omega) (by omega)
theorem m_bs (X : MC h k pn dr cm) (w g : Int32) : ∀ (n i : Nat) (a : Int32), i ≤ pn 0 → pn 0 < i + n → f_X5_bottles_b4 k n a (nI i) (mst h k r w g) = some (bs (pn 0 - i) i r a, mst h k r w g) := by
  have hcl := X.2.2.1.1
  intro n
  induction n with
  | zero => intro i a h1 h2; omega
  | succ n ih =>
    intro i a h1 h2
    unfold f_X5_bottles_b4
    rw [X.cells]
    by_cases h3 : i = pn 0
    · rw [if_pos (nI_le (by omega) (by omega)), h3, Nat.sub_self]
      rfl
    · rw [if_neg (nI_ge (by omega) (by omega)), X.r _ _ _ i (A0 i) (by omega), nI_1, ih (i + 1) _ (by omega) (by omega)]
      have e : pn 0 - i = (pn 0 - (i + 1)) + 1 := by omega
      rw [e]
      rfl
theorem m_bottles (X : MC h k pn dr cm) (w g : Int32) : f_X5_bottles k (mst h k r w g) = some (bs (pn 0) 0 r 0, mst h k r w g) := by
  have hcl := X.2.2.1.1
  unfold f_X5_bottles
  rw [gd_at (ko_kd X.1)]
  exact m_bs X w g 200 0 0 (by omega) (by omega)
-- how many marks
def mks : Nat → Nat → RW → Int32 → Int32
  | 0, _, _, a => a
  | n + 1, i, r, a => mks n (i + 1) r (a + (if r (54 + i) = 0 then 0 else 1))
theorem x_mks (X : XC h o pn dr) (hR : RR 9 pn B S r) : ∀ (n i : Nat) (a : Int32), i ≤ pn 0 → pn 0 < i + n → f_X3_countMarks_b4 o n a (nI i) (put h o S) = some (mks (pn 0 - i) i r a, put h o S) := by
  have hcl := X.2.2.1
  intro n
  induction n with
  | zero => intro i a h1 h2; omega
  | succ n ih =>
    intro i a h1 h2
    unfold f_X3_countMarks_b4
    rw [so_pl X.1, X.cells]
    by_cases h3 : i = pn 0
    · rw [if_pos (nI_le (by omega) (by omega)), h3, Nat.sub_self]
      rfl
    · rw [if_neg (nI_ge (by omega) (by omega)), X.r2 _ i rfl (by omega), nI_1]
      have e : pn 0 - i = (pn 0 - (i + 1)) + 1 := by omega
      rw [e]
      unfold mks
      have a0 : ∀ q : PH, f_X4_asNumber 0 q = some (0, q) := fun q => rfl
      have a1 : ∀ q : PH, f_X4_asNumber 1 q = some (1, q) := fun q => rfl
      rw [(hR.2.1 i (by omega)).1, a0, a1, bd_at, bd_at]
      by_cases h4 : r (54 + i) = 0
      · rw [if_pos h4, if_pos h4, ih (i + 1) _ (by omega) (by omega)]
      · rw [if_neg h4, if_neg h4, ih (i + 1) _ (by omega) (by omega)]
theorem x_countMarks (X : XC h o pn dr) (hR : RR 9 pn B S r) : f_X3_countMarks o (put h o S) = some (mks (pn 0) 0 r 0, put h o S) := by
  have hcl := X.2.2.1
  unfold f_X3_countMarks
  rw [gd_at (so_kd X.1)]
  exact x_mks X hR 200 0 0 (by omega) (by omega)
theorem m_mks (X : MC h k pn dr cm) (hR : RR 9 pn B S r) (w g : Int32) : ∀ (n i : Nat) (a : Int32), i ≤ pn 0 → pn 0 < i + n → f_X5_marks_b4 k n a (nI i) (mst h k r w g) = some (mks (pn 0 - i) i r a, mst h k r w g) := by
  have hcl := X.2.2.1.1
  intro n
  induction n with
  | zero => intro i a h1 h2; omega
  | succ n ih =>
    intro i a h1 h2
    unfold f_X5_marks_b4
    rw [X.cells]
    by_cases h3 : i = pn 0
    · rw [if_pos (nI_le (by omega) (by omega)), h3, Nat.sub_self]
      rfl
    · rw [if_neg (nI_ge (by omega) (by omega)), X.r _ _ _ (54 + i) (A54 i) (by omega), nI_1]
      have e : pn 0 - i = (pn 0 - (i + 1)) + 1 := by omega
      rw [e]
      unfold mks
      rcases (hR.2.1 i (by omega)).2 with q | q | q
      · rw [q, if_pos (by decide), if_pos rfl, ih (i + 1) _ (by omega) (by omega)]
      · rw [q, if_neg (by decide), if_neg (by decide), ih (i + 1) _ (by omega) (by omega)]
      · rw [q, if_neg (by decide), if_neg (by decide), ih (i + 1) _ (by omega) (by omega)]
theorem m_marks (X : MC h k pn dr cm) (hR : RR 9 pn B S r) (w g : Int32) : f_X5_marks k (mst h k r w g) = some (mks (pn 0) 0 r 0, mst h k r w g) := by
  have hcl := X.2.2.1.1
  unfold f_X5_marks
  rw [gd_at (ko_kd X.1)]
  exact m_mks X hR w g 200 0 0 (by omega) (by omega)
theorem asN_eq {x : Int32} (hx : x = 0 ∨ x = 1) (q : PH) : f_X4_asNumber x q = some (x, q) := by
  rcases hx with rfl | rfl <;> rfl

def tlv (pn : Nat → Nat) (r : RW) (n : Nat) : Int32 := if n = 17 then bs (pn 0) 0 r 0 else if n = 7 then r 78 else if n = 8 then r 71 else if n = 9 then r 70 else if n = 10 then r 69 else if n < 7 then r (62 + n) else r (61 + n)
theorem x_number (X : XC h o pn dr) (hR : RR 9 pn B S r) {n : Nat} (h1 : 5 ≤ n) (h2 : n ≤ 17) : f_X3_number o (nI n) (put h o S) = some (tlv pn r n, put h o S) := by
  obtain ⟨hk, -, -, hj, ha, -⟩ := hR.2.2.2.1
  obtain ⟨m, -, m1, m2, -⟩ := hR.2.2.2.2
  have key : n = 5 ∨ n = 6 ∨ n = 7 ∨ n = 8 ∨ n = 9 ∨ n = 10 ∨ n = 11 ∨ n = 12 ∨ n = 13 ∨ n = 14 ∨ n = 15 ∨ n = 16 ∨ n = 17 := by omega
  rcases key with rfl | rfl | rfl | rfl | rfl | rfl | rfl | rfl | rfl | rfl | rfl | rfl | rfl
  · unfold f_X3_number
    rw [gd_at (so_kd X.1), if_pos (by decide)]
    rw [put_0, hk.1]
    rfl
  · unfold f_X3_number
    rw [gd_at (so_kd X.1), if_neg (by decide), if_pos (by decide)]
    rw [put_0, hk.2.1]
    rfl
  · unfold f_X3_number
    rw [gd_at (so_kd X.1), if_neg (by decide), if_neg (by decide), if_pos (by decide)]
    rw [put_0, m1, ← m2]
    rfl
  · unfold f_X3_number
    rw [gd_at (so_kd X.1), if_neg (by decide), if_neg (by decide), if_neg (by decide), if_pos (by decide)]
    rw [put_0, hk.2.2.2.2.1]
    rfl
  · unfold f_X3_number
    rw [gd_at (so_kd X.1), if_neg (by decide), if_neg (by decide), if_neg (by decide), if_neg (by decide), if_pos (by decide)]
    rw [put_0, hk.2.2.2.1, asN_eq ha, bd_at]
    rfl
  · unfold f_X3_number
    rw [gd_at (so_kd X.1), if_neg (by decide), if_neg (by decide), if_neg (by decide), if_neg (by decide), if_neg (by decide), if_pos (by decide)]
    rw [put_0, hk.2.2.1, asN_eq hj, bd_at]
    rfl
  · unfold f_X3_number
    rw [gd_at (so_kd X.1), if_neg (by decide), if_neg (by decide), if_neg (by decide), if_neg (by decide), if_neg (by decide), if_neg (by decide), if_pos (by decide)]
    rw [put_0, hk.2.2.2.2.2.1]
    rfl
  · unfold f_X3_number
    rw [gd_at (so_kd X.1), if_neg (by decide), if_neg (by decide), if_neg (by decide), if_neg (by decide), if_neg (by decide), if_neg (by decide), if_neg (by decide), if_pos (by decide)]
    rw [put_0, hk.2.2.2.2.2.2.1]
    rfl
  · unfold f_X3_number
    rw [gd_at (so_kd X.1), if_neg (by decide), if_neg (by decide), if_neg (by decide), if_neg (by decide), if_neg (by decide), if_neg (by decide), if_neg (by decide), if_neg (by decide), if_pos (by decide)]
    rw [put_0, hk.2.2.2.2.2.2.2.1]
    rfl
  · unfold f_X3_number
    rw [gd_at (so_kd X.1), if_neg (by decide), if_neg (by decide), if_neg (by decide), if_neg (by decide), if_neg (by decide), if_neg (by decide), if_neg (by decide), if_neg (by decide), if_neg (by decide), if_pos (by decide)]
    rw [put_0, hk.2.2.2.2.2.2.2.2.1]
    rfl
  · unfold f_X3_number
    rw [gd_at (so_kd X.1), if_neg (by decide), if_neg (by decide), if_neg (by decide), if_neg (by decide), if_neg (by decide), if_neg (by decide), if_neg (by decide), if_neg (by decide), if_neg (by decide), if_neg (by decide), if_pos (by decide)]
    rw [put_0, hk.2.2.2.2.2.2.2.2.2.1]
    rfl
  · unfold f_X3_number
    rw [gd_at (so_kd X.1), if_neg (by decide), if_neg (by decide), if_neg (by decide), if_neg (by decide), if_neg (by decide), if_neg (by decide), if_neg (by decide), if_neg (by decide), if_neg (by decide), if_neg (by decide), if_neg (by decide), if_pos (by decide)]
    rw [put_0, hk.2.2.2.2.2.2.2.2.2.2]
    rfl
  · unfold f_X3_number
    rw [gd_at (so_kd X.1), if_neg (by decide), if_neg (by decide), if_neg (by decide), if_neg (by decide), if_neg (by decide), if_neg (by decide), if_neg (by decide), if_neg (by decide), if_neg (by decide), if_neg (by decide), if_neg (by decide), if_neg (by decide), if_pos (by decide)]
    rw [x_bottleSet X hR, bd_at]
    rfl
theorem m_tell (X : MC h k pn dr cm) (w g : Int32) {n : Nat} (h1 : 5 ≤ n) (h2 : n ≤ 17) : f_X5_tell k (nI n) (mst h k r w g) = some (tlv pn r n, mst h k r w g) := by
  have key : n = 5 ∨ n = 6 ∨ n = 7 ∨ n = 8 ∨ n = 9 ∨ n = 10 ∨ n = 11 ∨ n = 12 ∨ n = 13 ∨ n = 14 ∨ n = 15 ∨ n = 16 ∨ n = 17 := by omega
  rcases key with rfl | rfl | rfl | rfl | rfl | rfl | rfl | rfl | rfl | rfl | rfl | rfl | rfl
  · unfold f_X5_tell
    rw [gd_at (ko_kd X.1), if_pos (by decide)]
    rw [X.r _ _ _ 67 L67 (by decide)]
    rfl
  · unfold f_X5_tell
    rw [gd_at (ko_kd X.1), if_neg (by decide), if_pos (by decide)]
    rw [X.r _ _ _ 68 L68 (by decide)]
    rfl
  · unfold f_X5_tell
    rw [gd_at (ko_kd X.1), if_neg (by decide), if_neg (by decide), if_pos (by decide)]
    rw [X.r _ _ _ 78 L78 (by decide)]
    rfl
  · unfold f_X5_tell
    rw [gd_at (ko_kd X.1), if_neg (by decide), if_neg (by decide), if_neg (by decide), if_pos (by decide)]
    rw [X.r _ _ _ 71 L71 (by decide)]
    rfl
  · unfold f_X5_tell
    rw [gd_at (ko_kd X.1), if_neg (by decide), if_neg (by decide), if_neg (by decide), if_neg (by decide), if_pos (by decide)]
    rw [X.r _ _ _ 70 L70 (by decide)]
    rfl
  · unfold f_X5_tell
    rw [gd_at (ko_kd X.1), if_neg (by decide), if_neg (by decide), if_neg (by decide), if_neg (by decide), if_neg (by decide), if_pos (by decide)]
    rw [X.r _ _ _ 69 L69 (by decide)]
    rfl
  · unfold f_X5_tell
    rw [gd_at (ko_kd X.1), if_neg (by decide), if_neg (by decide), if_neg (by decide), if_neg (by decide), if_neg (by decide), if_neg (by decide), if_pos (by decide)]
    rw [X.r _ _ _ 72 (by decide) (by decide)]
    rfl
  · unfold f_X5_tell
    rw [gd_at (ko_kd X.1), if_neg (by decide), if_neg (by decide), if_neg (by decide), if_neg (by decide), if_neg (by decide), if_neg (by decide), if_neg (by decide), if_pos (by decide)]
    rw [X.r _ _ _ 73 (by decide) (by decide)]
    rfl
  · unfold f_X5_tell
    rw [gd_at (ko_kd X.1), if_neg (by decide), if_neg (by decide), if_neg (by decide), if_neg (by decide), if_neg (by decide), if_neg (by decide), if_neg (by decide), if_neg (by decide), if_pos (by decide)]
    rw [X.r _ _ _ 74 (by decide) (by decide)]
    rfl
  · unfold f_X5_tell
    rw [gd_at (ko_kd X.1), if_neg (by decide), if_neg (by decide), if_neg (by decide), if_neg (by decide), if_neg (by decide), if_neg (by decide), if_neg (by decide), if_neg (by decide), if_neg (by decide), if_pos (by decide)]
    rw [X.r _ _ _ 75 (by decide) (by decide)]
    rfl
  · unfold f_X5_tell
    rw [gd_at (ko_kd X.1), if_neg (by decide), if_neg (by decide), if_neg (by decide), if_neg (by decide), if_neg (by decide), if_neg (by decide), if_neg (by decide), if_neg (by decide), if_neg (by decide), if_neg (by decide), if_pos (by decide)]
    rw [X.r _ _ _ 76 (by decide) (by decide)]
    rfl
  · unfold f_X5_tell
    rw [gd_at (ko_kd X.1), if_neg (by decide), if_neg (by decide), if_neg (by decide), if_neg (by decide), if_neg (by decide), if_neg (by decide), if_neg (by decide), if_neg (by decide), if_neg (by decide), if_neg (by decide), if_neg (by decide), if_pos (by decide)]
    rw [X.r _ _ _ 77 (by decide) (by decide)]
    rfl
  · unfold f_X5_tell
    rw [gd_at (ko_kd X.1), if_neg (by decide), if_neg (by decide), if_neg (by decide), if_neg (by decide), if_neg (by decide), if_neg (by decide), if_neg (by decide), if_neg (by decide), if_neg (by decide), if_neg (by decide), if_neg (by decide), if_neg (by decide), if_pos (by decide)]
    rw [m_bottles X, bd_at]
    rfl
end
