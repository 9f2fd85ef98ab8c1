def jm (r : RW) : Int32 := if r 69 = 1 then 1 else 0
def cAdv (pn : Nat → Nat) (dr : Nat → Int32) : Nat → SS → SS
  | 0, S => S
  | n + 1, S => if S 0 10 = 0 then cAdv pn dr n (cStp pn (cPre pn dr S)) else S
def cCnt (pn : Nat → Nat) (dr : Nat → Int32) : Nat → SS → Nat
  | 0, _ => 0
  | n + 1, S => if S 0 10 = 0 then cCnt pn dr n (cStp pn (cPre pn dr S)) + 1 else 0
def mAdv (pn : Nat → Nat) (dr : Nat → Int32) (cm : Int32) : Nat → RW → RW
  | 0, r => r
  | n + 1, r => if r 70 = 0 then mAdv pn dr cm n (mStp pn (jm r) (mPre pn dr cm r)) else r
def mCnt (pn : Nat → Nat) (dr : Nat → Int32) (cm : Int32) : Nat → RW → Nat
  | 0, _ => 0
  | n + 1, r => if r 70 = 0 then mCnt pn dr cm n (mStp pn (jm r) (mPre pn dr cm r)) + 1 else 0
section
variable {pn : Nat → Nat} {dr : Nat → Int32} {cm : Int32}
theorem jm_iff {B : Nat} {S : SS} {r : RW} (h : RR 9 pn B S r) : jm r = 0 ↔ r 69 = 0 := by
  unfold jm
  rcases h.2.2.2.1.2.2.2.1 with q | q
  · rw [q]; decide
  · rw [q]; decide
theorem R_adv (hN : PN pn) : ∀ (n : Nat) (B : Nat) (S : SS) (r : RW), OC pn cm S → RR 9 pn B S r → B + n < 2 ^ 29 → RR 9 pn (B + n) (cAdv pn dr n S) (mAdv pn dr cm n r) ∧ cCnt pn dr n S = mCnt pn dr cm n r ∧ cAdv pn dr n S 0 4 = S 0 4 := by
  intro n
  induction n with
  | zero => intro B S r _ h _; exact ⟨h, rfl, rfl⟩
  | succ n ih =>
    intro B S r hO h hB
    have e := h.2.2.2.1.1.2.2.2.1
    unfold cAdv mAdv cCnt mCnt
    rw [e]
    by_cases h1 : r 70 = 0
    · rw [if_pos h1, if_pos h1, if_pos h1, if_pos h1]
      have e4 : cStp pn (cPre pn dr S) 0 4 = S 0 4 := by rw [cStp_4, cPre_4]
      obtain ⟨q1, q2, q3⟩ := ih (B + 1) _ _ (OC_of hO e4) (R_step (dr := dr) hN hO h (by omega) (jm_iff h)) (by omega)
      refine ⟨?_, by rw [q2], by rw [q3, e4]⟩
      have : B + (n + 1) = B + 1 + n := by omega
      rw [this]
      exact q1
    · rw [if_neg h1, if_neg h1, if_neg h1, if_neg h1]
      exact ⟨RR_mono (by omega) h, rfl, rfl⟩
theorem cCnt_le (n : Nat) : ∀ S : SS, cCnt pn dr n S ≤ n := by
  induction n with
  | zero => intro S; exact Nat.le_refl _
  | succ n ih =>
    intro S
    unfold cCnt
    split
    · have := ih (cStp pn (cPre pn dr S)); omega
    · omega
variable {h : PH} {o k : Nat}
theorem x_adv_b2 (X : XC h o pn dr) (N : Nat) (hN : N ≤ 99) : ∀ (f i : Nat) (B : Nat) (S : SS) (r : RW), OC pn cm S → RR 9 pn B S r → B + (N - i) < 2 ^ 29 → i ≤ N → N < i + f → f_X3_advance_b2 o f (nI N) (nI i) (put h o S) = some (nI (i + cCnt pn dr (N - i) S), put h o (cAdv pn dr (N - i) S)) := by
  intro f
  induction f with
  | zero => intro i B S r _ _ _ h1 h2; omega
  | succ f ih =>
    intro i B S r hO hR hB h1 h2
    unfold f_X3_advance_b2
    by_cases h3 : i = N
    · subst h3
      rw [if_pos (nI_le (Nat.le_refl _) (by omega)), Nat.sub_self]
      rfl
    · rw [if_neg (nI_ge (by omega) (by omega)), put_0]
      have e : N - i = (N - (i + 1)) + 1 := by omega
      rw [e]
      unfold cCnt cAdv
      by_cases h4 : S 0 10 = 0
      · rw [if_pos h4, if_pos h4, if_pos h4, x_step X hO hR (by omega), nI_1]
        have e4 : cStp pn (cPre pn dr S) 0 4 = S 0 4 := by rw [cStp_4, cPre_4]
        rw [ih (i + 1) (B + 1) _ _ (OC_of hO e4) (R_step (dr := dr) X.2.2 hO hR (by omega) (jm_iff hR)) (by omega) (by omega) (by omega)]
        rw [Nat.add_assoc i 1, Nat.add_comm 1]
      · rw [if_neg h4, if_neg h4, if_neg h4]
        rfl
theorem x_adv (X : XC h o pn dr) {N : Nat} (hN : N ≤ 99) {B : Nat} {S : SS} {r : RW} (hO : OC pn cm S) (hR : RR 9 pn B S r) (hB : B < 2 ^ 28) : f_X3_advance o (nI N) (put h o S) = some (nI (cCnt pn dr N S), put h o (cAdv pn dr N S)) := by
  unfold f_X3_advance
  rw [gd_at (so_kd X.1)]
  have := x_adv_b2 X N hN 200 0 B S r hO hR (by omega) (by omega) (by omega)
  rw [Nat.zero_add, Nat.sub_zero] at this
  exact this
theorem w_m9 {c : Nat} (hc : c < 2 ^ 31) : ¬ (-9 : Int32) = nI c := by
  intro q
  have := nI_pos hc
  rw [← q] at this
  exact this (by decide)
theorem wS_m9 (hN : PN pn) (j : Int32) (r : RW) : wS pn dr cm j r (-9) = -9 := by
  have hcl := hN.1
  have hst := hN.2.1
  have e1 : wLv pn r (-9) = -9 := by
    unfold wLv
    split
    · rfl
    · rw [if_neg (w_m9 (by omega))]
  have e2 : wMv (-9) = -9 := by decide
  unfold wS
  rw [e1, e2]
  unfold wPs
  split
  · rfl
  · split
    · rfl
    · split
      · rw [if_neg (w_m9 (by omega))]
      · rfl
theorem gS_m9 (hN : PN pn) (j : Int32) (r : RW) (g : Int32) : gS pn dr cm j r (-9) g = g := by
  have hcl := hN.1
  have hst := hN.2.1
  have e1 : wLv pn r (-9) = -9 := by
    unfold wLv
    split
    · rfl
    · rw [if_neg (w_m9 (by omega))]
  have e2 : wMv (-9) = -9 := by decide
  have e3 : gLv pn r (-9) g = g := by
    unfold gLv
    split
    · rfl
    · rw [if_neg (w_m9 (by omega))]
  unfold gS
  rw [e1, e2, e3]
  unfold gPs
  split
  · rfl
  · split
    · rfl
    · split
      · rw [if_neg (w_m9 (by omega))]
      · rfl
theorem m_adv_b2 (X : MC h k pn dr cm) (g : Int32) (N : Nat) (hN : N ≤ 99) : ∀ (f i : Nat) (B : Nat) (S : SS) (r : RW), OC pn cm S → RR 9 pn B S r → B + (N - i) < 2 ^ 29 → i ≤ N → N < i + f → f_X5_goOn_b2 k f (nI N) (nI i) (mst h k r (-9) g) = some (nI (i + mCnt pn dr cm (N - i) r), mst h k (mAdv pn dr cm (N - i) r) (-9) g) := by
  intro f
  induction f with
  | zero => intro i B S r _ _ _ h1 h2; omega
  | succ f ih =>
    intro i B S r hO hR hB h1 h2
    unfold f_X5_goOn_b2
    by_cases h3 : i = N
    · subst h3
      rw [if_pos (nI_le (Nat.le_refl _) (by omega)), Nat.sub_self]
      rfl
    · rw [if_neg (nI_ge (by omega) (by omega)), X.r _ _ _ 70 L70 (by decide)]
      have e : N - i = (N - (i + 1)) + 1 := by omega
      rw [e]
      unfold mCnt mAdv
      by_cases h4 : r 70 = 0
      · rw [if_pos h4, if_pos h4, if_pos h4, X.r _ _ _ 69 L69 (by decide)]
        have e4 : cStp pn (cPre pn dr S) 0 4 = S 0 4 := by rw [cStp_4, cPre_4]
        have step : (if r 69 = 1 then bd (f_X5_stepBy k 1 (mst h k r (-9) g)) (fun _ h6 => f_X5_goOn_b2 k f (nI N) (nI i + 1) h6) else bd (f_X5_stepBy k 0 (mst h k r (-9) g)) (fun _ h4 => f_X5_goOn_b2 k f (nI N) (nI i + 1) h4)) = f_X5_goOn_b2 k f (nI N) (nI (i + 1)) (mst h k (mStp pn (jm r) (mPre pn dr cm r)) (-9) g) := by
          have key : ∀ j : Int32, bd (f_X5_stepBy k j (mst h k r (-9) g)) (fun _ h6 => f_X5_goOn_b2 k f (nI N) (nI i + 1) h6) = f_X5_goOn_b2 k f (nI N) (nI (i + 1)) (mst h k (mStp pn j (mPre pn dr cm r)) (-9) g) := by
            intro j
            rw [m_step X hO hR (by omega), bd_at, wS_m9 X.2.2.1, gS_m9 X.2.2.1, nI_1]
          unfold jm
          by_cases h5 : r 69 = 1
          · rw [if_pos h5, if_pos h5, key]
          · rw [if_neg h5, if_neg h5, key]
        rw [step, ih (i + 1) (B + 1) _ _ (OC_of hO e4) (R_step (dr := dr) X.2.2.1 hO hR (by omega) (jm_iff hR)) (by omega) (by omega) (by omega)]
        rw [Nat.add_assoc i 1, Nat.add_comm 1]
      · rw [if_neg h4, if_neg h4, if_neg h4]
        rfl
theorem m_adv (X : MC h k pn dr cm) (g : Int32) {N : Nat} (hN : N ≤ 99) {B : Nat} {S : SS} {r : RW} (hO : OC pn cm S) (hR : RR 9 pn B S r) (hB : B < 2 ^ 28) : f_X5_goOn k (nI N) (mst h k r (-9) g) = some (nI (mCnt pn dr cm N r), mst h k (mAdv pn dr cm N r) (-9) g) := by
  unfold f_X5_goOn
  rw [gd_at (ko_kd X.1)]
  have := m_adv_b2 X g N hN 200 0 B S r hO hR (by omega) (by omega) (by omega)
  rw [Nat.zero_add, Nat.sub_zero] at this
  exact this
end
