def nt (x : Int32) : Nat := x.toNatClampNeg
def vcd (x : Int32) : Nat := if x = -9 then 0 else x.toNatClampNeg + 1
theorem nt_nI {n : Nat} (h : n < 2 ^ 31) : nt (nI n) = n := nI_clamp h
theorem vcd_vlv {v : Nat} (h : v ≤ 4) : vcd (vlv v) = v := by
  unfold vcd vlv
  by_cases h1 : v = 0
  · rw [if_pos h1, if_pos rfl, h1]
  · have e : ¬ nI (v - 1) = -9 := by
      intro q
      have := nI_pos (n := v - 1) (by omega)
      rw [q] at this
      exact this (by decide)
    rw [if_neg h1, if_neg e, nI_clamp (by omega)]
    omega
-- up to the pusher
def cFi (pn : Nat → Nat) (dr : Nat → Int32) (S : SS) : SS := cFl pn dr (nt (S 0 9)) (cLk pn (cMv pn (nt (S 0 6)) (cLv pn S)))
def cPre (pn : Nat → Nat) (dr : Nat → Int32) (S : SS) : SS := cCk pn (cE2 pn (cE1 pn (cWg pn (vcd (vlf (cFi pn dr S 1 (pn 1)))) (cFi pn dr S))))
def cStp (pn : Nat → Nat) (S : SS) : SS := u2 (cPs pn S) 0 9 (cPs pn S 0 9 + 1)
def mFi (pn : Nat → Nat) (dr : Nat → Int32) (cm : Int32) (r : RW) : RW := mFl pn dr cm (nt (r 71)) (mLk pn (mQu (nt (r 78)) (mM0 pn (mLv pn r))))
def mPre (pn : Nat → Nat) (dr : Nat → Int32) (cm : Int32) (r : RW) : RW := mCk pn (mDr (pn 3) 36 68 (mDr (pn 2) 27 67 (mWg pn cm (vcd (mFi pn dr cm r (18 + pn 1))) (mFi pn dr cm r))))
def mStp (pn : Nat → Nat) (j : Int32) (r : RW) : RW := upd (mPs pn j r) 71 (mPs pn j r 71 + 1)
def wS (pn : Nat → Nat) (dr : Nat → Int32) (cm : Int32) (j : Int32) (r : RW) (w : Int32) : Int32 := wPs pn j (mPre pn dr cm r) (wMv (wLv pn r w))
def gS (pn : Nat → Nat) (dr : Nat → Int32) (cm : Int32) (j : Int32) (r : RW) (w g : Int32) : Int32 := gPs pn j (mPre pn dr cm r) (wMv (wLv pn r w)) (gLv pn r w g)
section
variable {pn : Nat → Nat} {dr : Nat → Int32} {cm : Int32} {B : Nat} {S : SS} {r : RW}
theorem cLv_4 (S : SS) : cLv pn S 0 4 = S 0 4 ∧ cLv pn S 0 6 = S 0 6 ∧ cLv pn S 0 9 = S 0 9 ∧ cLv pn S 4 = S 4 := by
  unfold cLv
  split
  · exact ⟨rfl, rfl, rfl, rfl⟩
  · split
    · exact ⟨rfl, rfl, rfl, rfl⟩
    · exact ⟨rfl, rfl, rfl, rfl⟩
theorem cMv_4 (m : Nat) (S : SS) : cMv pn m S 0 4 = S 0 4 ∧ cMv pn m S 0 9 = S 0 9 := by
  unfold cMv
  split
  · exact ⟨rfl, rfl⟩
  · exact ⟨rfl, rfl⟩
theorem cFl_4 (s : Nat) (S : SS) : cFl pn dr s S 0 4 = S 0 4 := by
  unfold cFl
  split
  · rfl
  · split <;> rfl
theorem cWg_4 (v : Nat) (S : SS) : cWg pn v S 0 4 = S 0 4 := by
  unfold cWg
  split
  · rfl
  · split <;> rfl
theorem cE_4 (S : SS) : cE2 pn (cE1 pn S) 0 4 = S 0 4 := by
  have e1 : cE1 pn S 0 4 = S 0 4 := by
    unfold cE1
    split
    · rfl
    · split <;> rfl
  rw [← e1]
  generalize cE1 pn S = S
  unfold cE2
  split
  · rfl
  · split <;> rfl
theorem cCk_4 (S : SS) : cCk pn S 0 4 = S 0 4 := by
  unfold cCk
  split
  · rfl
  · split
    · rfl
    · split
      · split
        · rfl
        · split <;> rfl
      · rfl
theorem cPs_4 (S : SS) : cPs pn S 0 4 = S 0 4 := by
  unfold cPs
  split
  · rfl
  · split
    · rfl
    · split
      · split <;> rfl
      · rfl
theorem cFi_4 (S : SS) : cFi pn dr S 0 4 = S 0 4 := by
  unfold cFi
  rw [cFl_4]
  show cMv pn (nt (S 0 6)) (cLv pn S) 0 4 = S 0 4
  rw [(cMv_4 _ _).1, (cLv_4 S).1]
theorem cPre_4 (S : SS) : cPre pn dr S 0 4 = S 0 4 := by
  unfold cPre
  rw [cCk_4, cE_4, cWg_4, cFi_4]
theorem cStp_4 (S : SS) : cStp pn S 0 4 = S 0 4 := by
  show cPs pn S 0 4 = S 0 4
  exact cPs_4 S
theorem mLv_hi {i : Nat} (h : 54 ≤ i) (h1 : i ≠ 72) (h2 : i ≠ 73) : mLv pn r i = r i := by
  unfold mLv
  split
  · rfl
  · rw [mE_ge _ _ h]
    split
    · exact upd_ne _ _ h2
    · exact upd_ne _ _ h1
theorem mMv_71 (hN : PN pn) (m : Nat) : mQu m (mM0 pn (mLv pn r)) 71 = r 71 := by
  have hcl := hN.1
  by_cases h1 : m = 0
  · unfold mQu
    rw [if_pos h1, mM0_big hcl.2 (by omega), mLv_hi (by omega) (by omega) (by omega)]
  · rw [mQu_ne h1 (by omega), mM0_big hcl.2 (by omega), mLv_hi (by omega) (by omega) (by omega)]
/-- what holds up to the filler -/
theorem R_fi (hN : PN pn) (hO : OC pn cm S) (h : RR 9 pn B S r) (hB : B < 2 ^ 30) : RR 9 pn B (cFi pn dr S) (mFi pn dr cm r) := by
  obtain ⟨m, hm, m1, m2, -⟩ := h.2.2.2.2
  obtain ⟨a, ha, ha2⟩ := h.2.2.2.1.2.2.2.2.2.1
  have e1 : nt (S 0 6) = m := by rw [m1, nt_nI (by omega)]
  have e2 : nt (r 78) = m := by rw [m2, nt_nI (by omega)]
  have e3 : nt (S 0 9) = a := by rw [h.2.2.2.1.1.2.2.2.2.1, ha2, nt_nI (by omega)]
  have e4 : nt (r 71) = a := by rw [ha2, nt_nI (by omega)]
  unfold cFi mFi
  rw [e1, e2, e3, e4]
  have h1 := R_leave hN h
  have h2 := R_move hN (m := m) (by rw [mLv_hi (by omega) (by omega) (by omega)]; exact m2) hm h1
  have h3 := R_leak hN h2
  refine R_fill hN (OC_of hO ?_) h3
  show cMv pn m (cLv pn S) 0 4 = S 0 4
  rw [(cMv_4 _ _).1, (cLv_4 S).1]
theorem R_pre (hN : PN pn) (hO : OC pn cm S) (h : RR 9 pn B S r) (hB : B < 2 ^ 30) : RR 9 pn B (cPre pn dr S) (mPre pn dr cm r) := by
  have hst := hN.2.1
  have hV := hN.2.2.2.2.2
  have hcl := hN.1
  have h1 := R_fi (dr := dr) hN hO h hB
  obtain ⟨v, hv, v1, v2, v3⟩ := R_see hN h1 (c := pn 1) (by omega)
  unfold cPre mPre
  rw [v1, v2, vcd_vlv (by omega)]
  exact R_check hN (R_dress hN (R_weigh hN (OC_of hO (cFi_4 S)) hv v3 h1))
theorem mFl_hi (s : Nat) {i : Nat} (h : 19 ≤ i) : mFl pn dr cm s r i = r i := by
  unfold mFl
  split
  · split
    · rfl
    · rw [upd_ne _ _ (by omega), upd_ne _ _ (by omega)]
  · rfl
theorem mWg_hi (v : Nat) {i : Nat} (hv : v ≤ 4) (h : 67 ≤ i) : mWg pn cm v r i = r i := by
  unfold mWg
  split
  · split
    · rfl
    · split
      · rfl
      · rw [upd_ne _ _ (by omega)]
  · rfl
theorem mDr_hi {c w s i : Nat} (h : w + c < 60) (h1 : 60 ≤ i) (h2 : i ≠ s) : mDr c w s r i = r i := by
  unfold mDr
  split
  · split
    · rfl
    · rw [upd_ne _ _ h2, upd_ne _ _ (by omega)]
  · rfl
theorem mCk_hi (hN : PN pn) {i : Nat} (h1 : 63 ≤ i) (h2 : i ≠ 77) : mCk pn r i = r i := by
  have hst := hN.2.1
  have hcl := hN.1
  unfold mCk
  split
  · rfl
  · split
    · rw [upd_ne _ _ (by omega)]
    · split
      · rw [upd_ne _ _ (by omega), upd_ne _ _ h2]
      · rfl
/-- the scalars that stay up to the pusher -/
theorem mPre_hi (hN : PN pn) (hv : vcd (mFi pn dr cm r (18 + pn 1)) ≤ 4) {i : Nat} (h1 : 69 ≤ i) (h2 : i ≤ 76) (h3 : i ≠ 72) (h4 : i ≠ 73) : mPre pn dr cm r i = r i := by
  have hst := hN.2.1
  have hcl := hN.1
  unfold mPre
  rw [mCk_hi hN (by omega) (by omega), mDr_hi (by omega) (by omega) (by omega), mDr_hi (by omega) (by omega) (by omega), mWg_hi _ hv (by omega)]
  unfold mFi
  rw [mFl_hi _ (by omega)]
  show (if 9 ≤ i ∧ i < 9 + pn 0 then _ else mQu _ _ i) = r i
  rw [if_neg (by omega)]
  by_cases q : nt (r 78) = 0
  · unfold mQu
    rw [if_pos q, mM0_big hcl.2 (by omega), mLv_hi (by omega) h3 h4]
  · rw [mQu_ne q (by omega), mM0_big hcl.2 (by omega), mLv_hi (by omega) h3 h4]
theorem vcd_ok (hN : PN pn) (hO : OC pn cm S) (h : RR 9 pn B S r) (hB : B < 2 ^ 30) : ∃ v : Nat, v ≤ pn 9 ∧ vlf (cFi pn dr S 1 (pn 1)) = vlv v ∧ mFi pn dr cm r (18 + pn 1) = vlv v ∧ vcd (vlf (cFi pn dr S 1 (pn 1))) = v ∧ vcd (mFi pn dr cm r (18 + pn 1)) = v := by
  have hst := hN.2.1
  have hV := hN.2.2.2.2.2
  have hcl := hN.1
  obtain ⟨v, hv, v1, v2, v3⟩ := R_see hN (R_fi (dr := dr) hN hO h hB) (c := pn 1) (by omega)
  exact ⟨v, hv, v1, v2, by rw [v1, vcd_vlv (by omega)], by rw [v2, vcd_vlv (by omega)]⟩
theorem mPs_hi (hN : PN pn) {j : Int32} {i : Nat} (h1 : 63 ≤ i) (h2 : i ≠ 70) (h3 : i ≠ 74) (h4 : i ≠ 75) : mPs pn j r i = r i := by
  have hst := hN.2.1
  have hcl := hN.1
  unfold mPs
  split
  · rfl
  · split
    · exact upd_ne _ _ h2
    · split
      · rw [upd_ne _ _ (by omega), mE_ge _ _ (by omega)]
        split
        · exact upd_ne _ _ h3
        · exact upd_ne _ _ h4
      · exact upd_ne _ _ h2
theorem R_step (hN : PN pn) (hO : OC pn cm S) (h : RR 9 pn B S r) (hB : B < 2 ^ 29) {j : Int32} (hj : j = 0 ↔ r 69 = 0) : RR 9 pn (B + 1) (cStp pn (cPre pn dr S)) (mStp pn j (mPre pn dr cm r)) := by
  have hV := hN.2.2.2.2.2
  obtain ⟨v, hv, -, -, -, v4⟩ := vcd_ok (dr := dr) hN hO h (by omega)
  have h1 := R_pre (dr := dr) hN hO h (by omega)
  have e69 : mPre pn dr cm r 69 = r 69 := mPre_hi hN (by omega) (by omega) (by omega) (by omega) (by omega)
  have e71 : mPre pn dr cm r 71 = r 71 := mPre_hi hN (by omega) (by omega) (by omega) (by omega) (by omega)
  have h2 := R_push hN (by omega) (j := j) (by rw [e69]; exact hj) h1
  obtain ⟨a, ha, ha2⟩ := h.2.2.2.1.2.2.2.2.2.1
  refine R_step1 hN h2 (a := a) ?_ (by omega)
  rw [mPs_hi hN (by omega) (by omega) (by omega) (by omega), e71, ha2]
theorem cnt_le {a : Nat} (h : S 0 6 = nI a) : nt (S 0 6) = nt (nI a) := by rw [h]
variable {h : PH} {o k : Nat}
/-- the class's step, as advance does it -/
theorem x_step (X : XC h o pn dr) (hO : OC pn cm S) (hR : RR 9 pn B S r) (hB : B < 2 ^ 29) {β : Type} (f : PH → Option β) : bd (f_X3_leave o (put h o S)) (fun _ h2 => bd (f_X3_moveOn o h2) (fun _ h4 => bd (f_X3_leak o h4) (fun _ h6 => bd (f_X3_fill o h6) (fun _ h8 => bd (f_X3_weigh o h8) (fun _ h10 => bd (f_X3_equip o h10) (fun _ h12 => bd (f_X3_check o h12) (fun _ h14 => bd (f_X3_push o h14) (fun _ h16 => st h16 o 9 ((h16.1 o 9) + (1 : Int32)) f)))))))) = f (put h o (cStp pn (cPre pn dr S))) := by
  obtain ⟨m, hm, m1, m2, -⟩ := hR.2.2.2.2
  obtain ⟨a, ha, ha2⟩ := hR.2.2.2.1.2.2.2.2.2.1
  obtain ⟨v, hv, v1, v2, v3, v4⟩ := vcd_ok (dr := dr) X.2.2 hO hR (by omega)
  have e1 : nt (S 0 6) = m := by rw [m1, nt_nI (by omega)]
  have k9 : S 0 9 = nI a := by rw [hR.2.2.2.1.1.2.2.2.2.1, ha2]
  have e3 : nt (S 0 9) = a := by rw [k9, nt_nI (by omega)]
  have ef : cFi pn dr S = cFl pn dr a (cLk pn (cMv pn m (cLv pn S))) := by unfold cFi; rw [e1, e3]
  have ep : cPre pn dr S = cCk pn (cE2 pn (cE1 pn (cWg pn v (cFi pn dr S)))) := by unfold cPre; rw [v3]
  rw [ef] at v1 ep
  rw [x_leave X, bd_at, x_moveOn X _ (m := m) (by rw [(cLv_4 S).2.1]; exact m1) hm, bd_at, x_leak X, bd_at, x_fill X _ (s := a) (by
      show cMv pn m (cLv pn S) 0 9 = nI a
      rw [(cMv_4 _ _).2, (cLv_4 S).2.2.1]; exact k9) (by omega), bd_at, x_weigh X _ v1 hv, bd_at, x_equip X, bd_at, x_check X, bd_at, x_push X, bd_at, XC.s0, put_0, ← ep]
  rfl
theorem m_step (X : MC h k pn dr cm) (hO : OC pn cm S) (hR : RR 9 pn B S r) (hB : B < 2 ^ 29) (w g j : Int32) : f_X5_stepBy k j (mst h k r w g) = some ((), mst h k (mStp pn j (mPre pn dr cm r)) (wS pn dr cm j r w) (gS pn dr cm j r w g)) := by
  have hN := X.2.2.1
  have hcl := hN.1
  have hst := hN.2.1
  obtain ⟨m, hm, m1, m2, -⟩ := hR.2.2.2.2
  obtain ⟨a, ha, ha2⟩ := hR.2.2.2.1.2.2.2.2.2.1
  obtain ⟨v, hv, v1, v2, v3, v4⟩ := vcd_ok (dr := dr) hN hO hR (by omega)
  have e2 : nt (r 78) = m := by rw [m2, nt_nI (by omega)]
  have e4 : nt (r 71) = a := by rw [ha2, nt_nI (by omega)]
  have ef : mFi pn dr cm r = mFl pn dr cm a (mLk pn (mQu m (mM0 pn (mLv pn r)))) := by unfold mFi; rw [e2, e4]
  have ep : mPre pn dr cm r = mCk pn (mDr (pn 3) 36 68 (mDr (pn 2) 27 67 (mWg pn cm v (mFi pn dr cm r)))) := by unfold mPre; rw [v4]
  rw [ef] at v2 ep
  unfold f_X5_stepBy
  rw [gd_at (ko_kd X.1), m_leave X, bd_at, m_moveOn X _ _ _ (m := m) (by rw [mLv_hi (by omega) (by omega) (by omega)]; exact m2) hm, bd_at, m_fill X _ _ _ (s := a) (by rw [mMv_71 hN]; exact ha2) (by omega) v2 hv, bd_at, X.pl _ _ _ 1 L1 (by decide)]
  show bd (f_X5_dress k (nI (pn 2)) 27 67 _) _ = _
  rw [m_dress X _ _ _ L27 L67 (by omega) (by omega) (by omega) (by omega), bd_at, X.pl _ _ _ 2 L2 (by decide)]
  show bd (f_X5_dress k (nI (pn 3)) 36 68 _) _ = _
  rw [m_dress X _ _ _ L36 L68 (by omega) (by omega) (by omega) (by omega), bd_at, m_check X, bd_at, m_push X, bd_at, X.r _ _ _ 71 L71 (by decide), X.w _ _ _ 71 L71 (by decide), ← ep]
  rfl
end
