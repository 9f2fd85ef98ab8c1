-- how a bottle would leave
def gsF (pn : Nat → Nat) (dr : Nat → Int32) (wt : Nat) : Nat → Nat → Nat → SS → Int32
  | 0, _, _, _ => -9
  | n + 1, k, p, M => if M 0 10 = 0 then (if p = pn 0 - 1 then (if wt = 0 then nI (k + 1) else if gI pn (M 1 (pn 0 - 1)) = 0 then 2 else 1) else if p + 1 = pn 5 ∧ ¬ cAdv pn dr 1 M 0 14 ≤ M 0 14 then (if wt = 0 then nI (k + 1) else 3) else if p + 1 = pn 5 ∧ ¬ cAdv pn dr 1 M 0 15 ≤ M 0 15 then (if wt = 0 then nI (k + 1) else 4) else gsF pn dr wt n (k + 1) (p + 1) (cAdv pn dr 1 M)) else -9
section
variable {h : PH} {pn : Nat → Nat} {dr : Nat → Int32} {B : Nat}
theorem x_goes (z0 : I0 h pn dr) (hB : B < 2 ^ 27) {wt c : Nat} (hwt : wt ≤ 1) : ∀ (n k : Nat) (T M : SS) (r : RW) (f : Nat), c + k < pn 0 → pn 0 < c + k + n → f < 300 → 10 ≤ k + f → RO pn (B + k) T r → RO pn (B + k) M r → ∃ S' : SS, f_X4_goes_b53 (f + 1) (nI c) (nI wt) (nI k) (put h 25 T) = some (gsF pn dr wt n k (c + k) M, put h 25 S') := by
  have xc := xc_trial z0
  have hcl := z0.1.1
  have hst := z0.1.2.1
  intro n
  induction n with
  | zero => intro k T M r f h1 h2; omega
  | succ n ih =>
    intro k T M r f h1 h2 hf hf2 q1 q2
    unfold f_X4_goes_b53 gsF
    have e10 : T 0 10 = M 0 10 := q1.1.2.2.2.1.1.2.2.2.1.trans q2.1.2.2.2.1.1.2.2.2.1.symm
    rw [if_neg (by rw [L60]; exact nI_ge (by omega) (by omega)), put_0, e10]
    by_cases h3 : M 0 10 = 0
    · rw [if_pos h3, if_pos h3, nI_add]
      unfold f_X4_wayInNextStep
      rw [xc.cells, nI_sub1 (by omega)]
      by_cases h4 : c + k = pn 0 - 1
      · have eg : gI pn (T 1 (pn 0 - 1)) = gI pn (M 1 (pn 0 - 1)) := (good_eq z0.1.2.2.2.2.2 (q1.1.1 (pn 0 - 1) (by omega) (by omega))).trans (good_eq z0.1.2.2.2.2.2 (q2.1.1 (pn 0 - 1) (by omega) (by omega))).symm
        rw [if_neg (nI_nlt (by omega) (by omega)), xc.r1 _ (pn 0 - 1) rfl (by omega), x_isGood xc, bd_at, eg, if_pos h4]
        refine ⟨T, ?_⟩
        have hw0 : nI wt = 0 ↔ wt = 0 := by rw [L0, nI_eq (by omega) (by omega)]
        by_cases h5 : gI pn (M 1 (pn 0 - 1)) = 0
        · rw [if_pos h5, bd_at, if_neg (by decide), nI_1, if_pos h5]
          by_cases h6 : wt = 0
          · rw [if_pos (hw0.mpr h6), if_pos h6]
          · rw [if_neg (fun z => h6 (hw0.mp z)), if_neg h6]
        · rw [if_neg h5, bd_at, if_neg (by decide), nI_1, if_neg h5]
          by_cases h6 : wt = 0
          · rw [if_pos (hw0.mpr h6), if_pos h6]
          · rw [if_neg (fun z => h6 (hw0.mp z)), if_neg h6]
      · have w1 := adv_ro (dr := dr) z0.1 1 (by omega) q1
        have w2 := adv_ro (dr := dr) z0.1 1 (by omega) q2
        have a14 : cAdv pn dr 1 T 0 14 = cAdv pn dr 1 M 0 14 := w1.1.2.2.2.1.1.2.2.2.2.2.2.2.1.trans w2.1.2.2.2.1.1.2.2.2.2.2.2.2.1.symm
        have a15 : cAdv pn dr 1 T 0 15 = cAdv pn dr 1 M 0 15 := w1.1.2.2.2.1.1.2.2.2.2.2.2.2.2.1.trans w2.1.2.2.2.1.1.2.2.2.2.2.2.2.2.1.symm
        have b14 : T 0 14 = M 0 14 := q1.1.2.2.2.1.1.2.2.2.2.2.2.2.1.trans q2.1.2.2.2.1.1.2.2.2.2.2.2.2.1.symm
        have b15 : T 0 15 = M 0 15 := q1.1.2.2.2.1.1.2.2.2.2.2.2.2.2.1.trans q2.1.2.2.2.1.1.2.2.2.2.2.2.2.2.1.symm
        have hw0 : nI wt = 0 ↔ wt = 0 := by rw [L0, nI_eq (by omega) (by omega)]
        have h6 : nI (c + k + 1) = nI (pn 5) ↔ c + k + 1 = pn 5 := nI_eq (by omega) (by omega)
        have x1 := x_adv_t (n := 1) z0 (by omega) (by omega) q1
        obtain ⟨f', rfl⟩ : ∃ f', f = f' + 1 := ⟨f - 1, by omega⟩
        obtain ⟨S', fin⟩ := ih (k + 1) (cAdv pn dr 1 T) (cAdv pn dr 1 M) _ f' (by omega) (by omega) (by omega) (by omega) w1 w2
        rw [if_pos (nI_lt (by omega) (by omega)), L1, x1, bd_at, xc.station _ 4 L4 (by decide), if_neg h4, ← L1, nI_1, put_0, put_0, a14, a15, b14, b15]
        show ∃ S', bd (if nI (c + k + 1) = nI (pn 5) then _ else _) _ = _
        by_cases h5 : c + k + 1 = pn 5
        · rw [if_pos (h6.mpr h5)]
          by_cases h7 : cAdv pn dr 1 M 0 14 ≤ M 0 14
          · have n7 : ¬ (c + k + 1 = pn 5 ∧ ¬ cAdv pn dr 1 M 0 14 ≤ M 0 14) := fun z => z.2 h7
            rw [if_pos h7, if_neg n7]
            by_cases h8 : cAdv pn dr 1 M 0 15 ≤ M 0 15
            · have n8 : ¬ (c + k + 1 = pn 5 ∧ ¬ cAdv pn dr 1 M 0 15 ≤ M 0 15) := fun z => z.2 h8
              rw [if_pos h8, if_neg n8, bd_at, if_pos rfl, nI_1]
              exact ⟨S', fin⟩
            · rw [if_neg h8, if_pos ⟨h5, h8⟩, bd_at, if_neg (by decide), nI_1]
              refine ⟨cAdv pn dr 1 T, ?_⟩
              by_cases h9 : wt = 0
              · rw [if_pos (hw0.mpr h9), if_pos h9]
              · rw [if_neg (fun z => h9 (hw0.mp z)), if_neg h9]
          · rw [if_neg h7, if_pos ⟨h5, h7⟩, bd_at, if_neg (by decide), nI_1]
            refine ⟨cAdv pn dr 1 T, ?_⟩
            by_cases h9 : wt = 0
            · rw [if_pos (hw0.mpr h9), if_pos h9]
            · rw [if_neg (fun z => h9 (hw0.mp z)), if_neg h9]
        · rw [if_neg (fun z => h5 (h6.mp z)), if_neg (fun z => h5 z.1), if_neg (fun z => h5 z.1), bd_at, if_pos rfl, nI_1]
          exact ⟨S', fin⟩
    · rw [if_neg h3, if_neg h3]
      exact ⟨T, rfl⟩
-- the reference's step with a watched bottle
theorem m_go1 {k : Nat} {cm : Int32} {S : SS} {r : RW} (X : MC h k pn dr cm) (hO : OC pn cm S) (hR : RR 9 pn B S r) (hB : B < 2 ^ 28) (ha : r 70 = 0) (w g : Int32) : f_X5_goOn k 1 (mst h k r w g) = some (1, mst h k (mStp pn (jm r) (mPre pn dr cm r)) (wS pn dr cm (jm r) r w) (gS pn dr cm (jm r) r w g)) := by
  have key : ∀ j : Int32, bd (f_X5_stepBy k j (mst h k r w g)) (fun _ h6 => f_X5_goOn_b2 k 199 1 (0 + 1) h6) = some (1, mst h k (mStp pn j (mPre pn dr cm r)) (wS pn dr cm j r w) (gS pn dr cm j r w g)) := by
    intro j
    rw [m_step X hO hR (by omega), bd_at]
    unfold f_X5_goOn_b2
    rw [if_pos (by decide)]
    rfl
  unfold f_X5_goOn
  rw [gd_at (ko_kd X.1)]
  show f_X5_goOn_b2 k (199 + 1) 1 0 _ = _
  unfold f_X5_goOn_b2
  rw [if_neg (by decide), X.r _ _ _ 70 L70 (by decide), if_pos ha, X.r _ _ _ 69 L69 (by decide)]
  unfold jm
  by_cases z : r 69 = 1
  · rw [if_pos z, if_pos z]; exact key 1
  · rw [if_neg z, if_neg z]; exact key 0
theorem mPre_b (hN : PN pn) {cm : Int32} {r : RW} {i : Nat} (h0 : 0 < i) (hi : i < pn 0) : mPre pn dr cm r i = r (i - 1) := by
  have hcl := hN.1
  have hst := hN.2.1
  have e1 : ∀ r : RW, mCk pn r i = r i := by
    intro r
    unfold mCk
    split
    · rfl
    · split
      · rw [upd_ne _ _ (by omega)]
      · split
        · rw [upd_ne _ _ (by omega), upd_ne _ _ (by omega)]
        · rfl
  have e2 : ∀ (c w s : Nat) (r : RW), 27 ≤ w → 67 ≤ s → mDr c w s r i = r i := by
    intro c w s r hw hs
    unfold mDr
    split
    · split
      · rfl
      · rw [upd_ne _ _ (by omega), upd_ne _ _ (by omega)]
    · rfl
  have e3 : ∀ (v : Nat) (r : RW), mWg pn cm v r i = r i := by
    intro v r
    unfold mWg
    split
    · split
      · rfl
      · split
        · rfl
        · rw [upd_ne _ _ (by omega)]
    · rfl
  have e4 : ∀ (s : Nat) (r : RW), mFl pn dr cm s r i = r i := by
    intro s r
    unfold mFl
    split
    · split
      · rfl
      · rw [upd_ne _ _ (by omega), upd_ne _ _ (by omega)]
    · rfl
  unfold mPre
  rw [e1, e2 _ _ _ _ (by omega) (by omega), e2 _ _ _ _ (by omega) (by omega), e3]
  unfold mFi
  rw [e4]
  show (if 9 ≤ i ∧ i < 9 + pn 0 then _ else mQu _ _ i) = _
  rw [if_neg (by omega)]
  have e5 : ∀ (m : Nat) (r : RW), mQu m r i = r i := by
    intro m r
    by_cases z : m = 0
    · unfold mQu; rw [if_pos z]
    · exact mQu_ne z (by omega)
  rw [e5, mM0_cell (by omega) (by omega)]
  have : i % 9 = i := by omega
  rw [this, if_pos hi]
  unfold mLv
  split
  · rfl
  · rw [mE_ne _ (by omega)]
    split
    · rw [upd_ne _ _ (by omega)]
    · rw [upd_ne _ _ (by omega)]
theorem mAdv_1 {cm : Int32} {r : RW} (ha : r 70 = 0) : mAdv pn dr cm 1 r = mStp pn (jm r) (mPre pn dr cm r) := by
  unfold mAdv
  rw [if_pos ha]
  rfl
theorem mStp_b (hN : PN pn) {j : Int32} {r : RW} {i : Nat} (hi : i < 9) (hne : i = pn 5 → ¬ (¬ r (54 + pn 5) = 0 ∧ ¬ r (pn 5) = 0 ∧ j = 0)) : mStp pn j r i = r i := by
  have hcl := hN.1
  have hst := hN.2.1
  unfold mStp
  rw [upd_ne _ _ (by omega)]
  unfold mPs
  by_cases c1 : r (54 + pn 5) = 0
  · rw [if_pos c1]
  · rw [if_neg c1]
    by_cases c2 : r (pn 5) = 0
    · rw [if_pos c2, upd_ne _ _ (by omega)]
    · rw [if_neg c2]
      by_cases c3 : j = 0
      · rw [if_pos c3, upd_ne _ _ (by omega)]
        have : ¬ i % 9 = pn 5 := by
          intro z
          exact hne (by omega) ⟨c1, c2, c3⟩
        rw [mE_ne _ this]
        split
        · rw [upd_ne _ _ (by omega)]
        · rw [upd_ne _ _ (by omega)]
      · rw [if_neg c3, upd_ne _ _ (by omega)]
/-- the counts of what was pushed -/
theorem mStp_74 (hN : PN pn) {j : Int32} {r : RW} : mStp pn j r 74 = (if ¬ r (54 + pn 5) = 0 ∧ ¬ r (pn 5) = 0 ∧ j = 0 then (if r (54 + pn 5) = 1 then r 74 + 1 else r 74) else r 74) ∧ mStp pn j r 75 = (if ¬ r (54 + pn 5) = 0 ∧ ¬ r (pn 5) = 0 ∧ j = 0 then (if r (54 + pn 5) = 1 then r 75 else r 75 + 1) else r 75) := by
  have hcl := hN.1
  have hst := hN.2.1
  unfold mStp
  rw [upd_ne _ _ (by omega), upd_ne _ _ (by omega)]
  unfold mPs
  by_cases c1 : r (54 + pn 5) = 0
  · rw [if_pos c1, if_neg (fun z => z.1 c1), if_neg (fun z => z.1 c1)]
    exact ⟨rfl, rfl⟩
  · rw [if_neg c1]
    by_cases c2 : r (pn 5) = 0
    · rw [if_pos c2, if_neg (fun z => z.2.1 c2), if_neg (fun z => z.2.1 c2), upd_ne _ _ (by omega), upd_ne _ _ (by omega)]
      exact ⟨rfl, rfl⟩
    · rw [if_neg c2]
      by_cases c3 : j = 0
      · have P : ¬ r (54 + pn 5) = 0 ∧ ¬ r (pn 5) = 0 ∧ j = 0 := ⟨c1, c2, c3⟩
        rw [if_pos P, if_pos P, if_pos c3, upd_ne _ _ (by omega), upd_ne _ _ (by omega), mE_ge _ _ (by omega), mE_ge _ _ (by omega)]
        by_cases c4 : r (54 + pn 5) = 1
        · rw [if_pos c4, if_pos c4, if_pos c4]; exact ⟨rfl, rfl⟩
        · rw [if_neg c4, if_neg c4, if_neg c4]; exact ⟨rfl, rfl⟩
      · rw [if_neg c3, if_neg (fun z => c3 z.2.2), if_neg (fun z => c3 z.2.2), upd_ne _ _ (by omega), upd_ne _ _ (by omega)]
        exact ⟨rfl, rfl⟩
theorem nI_nss {a : Nat} (h : a < 2 ^ 30) : ¬ nI a + 1 ≤ nI a := by
  rw [nI_1]
  exact nI_ge (by omega) (by omega)
/-- the end of goes, with the bottle gone or not -/
theorem m_goesEnd {k : Nat} {cm : Int32} {r : RW} (X : MC h k pn dr cm) {wt : Nat} (hwt : wt ≤ 1) (w g v : Int32) : f_X5_goes_b101 (nI wt) v (mst h k r w g) = some (if w = -9 then (if wt = 0 then v else g) else -9, mst h k r (-9) g) := by
  have hw0 : nI wt = 0 ↔ wt = 0 := by rw [L0, nI_eq (by omega) (by omega)]
  have e23 : ∀ (w g : Int32), (mst h k r w g).1 110 23 = g := by
    intro w g
    show (if 110 = k then r 23 else if 110 = 110 ∧ 23 = 22 then w else if 110 = 110 ∧ 23 = 23 then g else h.1 110 23) = g
    rw [if_neg (fun q => X.ne.1 q.symm), if_neg (by decide), if_pos (by decide)]
  unfold f_X5_goes_b101 f_X5_goes_b115
  rw [X.fw, X.sw, X.sw, e23]
  by_cases z : w = -9
  · rw [if_pos z, if_neg (by decide), if_pos z]
    by_cases y : wt = 0
    · rw [if_pos (hw0.mpr y), if_pos y]
    · rw [if_neg (fun x => y (hw0.mp x)), if_neg y]
  · rw [if_neg z, if_pos rfl, if_neg z]
theorem m_goes (z0 : I0 h pn dr) (z6 : IMisc h) (S' : SS) (hB : B < 2 ^ 27) {wt c : Nat} (hwt : wt ≤ 1) : ∀ (n k : Nat) (M : SS) (r : RW) (g : Int32) (f : Nat), c + k < pn 0 → pn 0 < c + k + n → f < 300 → 11 ≤ k + f → RO pn (B + k) M r → r (c + k) = 1 → ∃ (r' : RW) (g' : Int32), f_X5_goes_b60 (f + 1) (nI wt) (nI k) (mst (put h 25 S') 115 r (nI (c + k)) g) = some (gsF pn dr wt n k (c + k) M, mst (put h 25 S') 115 r' (-9) g') := by
  have mc := mc_t z0 z6 S'
  have hN := z0.1
  have hcl := z0.1.1
  have hst := z0.1.2.1
  have hV := z0.1.2.2.2.2.2
  intro n
  induction n with
  | zero => intro k M r g f h1 h2; omega
  | succ n ih =>
    intro k M r g f h1 h2 hf hf2 q hb
    have hO := oc_0 hN q.2
    have e10 : M 0 10 = r 70 := q.1.2.2.2.1.1.2.2.2.1
    unfold f_X5_goes_b60 gsF
    rw [if_neg (by rw [L60]; exact nI_ge (by omega) (by omega)), mc.fw, if_neg (fun z => w_m9 (by omega) z.symm), mc.r _ _ _ 70 L70 (by decide), e10]
    by_cases h3 : r 70 = 0
    · rw [if_pos h3, if_pos h3, m_go1 mc hO q.1 (by omega) h3, bd_at, nI_1]
      have w2 := adv_ro (dr := dr) hN 1 (by omega) q
      have ea := mAdv_1 (pn := pn) (dr := dr) (cm := 15) h3
      rw [ea] at w2
      obtain ⟨v, hv, -, -, -, v4⟩ := vcd_ok (dr := dr) hN hO q.1 (by omega)
      have p74 : mPre pn dr 15 r 74 = r 74 := mPre_hi hN (by omega) (by omega) (by omega) (by omega) (by omega)
      have p75 : mPre pn dr 15 r 75 = r 75 := mPre_hi hN (by omega) (by omega) (by omega) (by omega) (by omega)
      obtain ⟨f', rfl⟩ : ∃ f', f = f' + 1 := ⟨f - 1, by omega⟩
      -- when the bottle has gone, the loop ends
      have gone : ∀ (g2 : Int32) (r2 : RW), f_X5_goes_b60 (f' + 1) (nI wt) (nI (k + 1)) (mst (put h 25 S') 115 r2 (-9) g2) = some (if wt = 0 then nI (k + 1) else g2, mst (put h 25 S') 115 r2 (-9) g2) := by
        intro g2 r2
        unfold f_X5_goes_b60
        rw [if_neg (by rw [L60]; exact nI_ge (by omega) (by omega)), mc.fw, if_pos rfl, m_goesEnd mc hwt, if_pos rfl]
      by_cases h4 : c + k = pn 0 - 1
      · have hlast : r (pn 0 - 1) = 1 := by rw [← h4]; exact hb
        have e1 : wLv pn r (nI (c + k)) = -9 := by
          unfold wLv
          rw [hlast, if_neg (by decide), if_pos (by rw [h4])]
        have e2 : gLv pn r (nI (c + k)) g = if gM pn r (pn 0 - 1) = 0 then 2 else 1 := by
          unfold gLv
          rw [hlast, if_neg (by decide), if_pos (by rw [h4])]
        have e3 : wMv (-9) = -9 := by decide
        have e4 : wS pn dr 15 (jm r) r (nI (c + k)) = -9 := by
          unfold wS
          rw [e1, e3]
          unfold wPs
          repeat' split
          all_goals first
            | rfl
            | (rename_i z; exact absurd z (w_m9 (by omega)))
        have e5 : gS pn dr 15 (jm r) r (nI (c + k)) g = if gM pn r (pn 0 - 1) = 0 then 2 else 1 := by
          unfold gS
          rw [e1, e3, e2]
          unfold gPs
          split
          · rfl
          · split
            · rfl
            · split
              · rw [if_neg (w_m9 (by omega))]
              · rfl
        rw [e4, e5, gone, if_pos h4, good_eq hV (q.1.1 (pn 0 - 1) (by omega) (by omega))]
        exact ⟨_, _, rfl⟩
      · have e1 : wLv pn r (nI (c + k)) = nI (c + k) := by
          unfold wLv
          split
          · rfl
          · rw [if_neg (by rw [nI_eq (by omega) (by omega)]; exact h4)]
        have e2 : gLv pn r (nI (c + k)) g = g := by
          unfold gLv
          split
          · rfl
          · rw [if_neg (by rw [nI_eq (by omega) (by omega)]; exact h4)]
        have e3 : wMv (nI (c + k)) = nI (c + k + 1) := by
          unfold wMv
          rw [if_neg (fun z => w_m9 (by omega) z.symm), nI_1]
        have m14 : M 0 14 = r 74 := q.1.2.2.2.1.1.2.2.2.2.2.2.2.1
        have m15 : M 0 15 = r 75 := q.1.2.2.2.1.1.2.2.2.2.2.2.2.2.1
        have a14 : cAdv pn dr 1 M 0 14 = mStp pn (jm r) (mPre pn dr 15 r) 74 := w2.1.2.2.2.1.1.2.2.2.2.2.2.2.1
        have a15 : cAdv pn dr 1 M 0 15 = mStp pn (jm r) (mPre pn dr 15 r) 75 := w2.1.2.2.2.1.1.2.2.2.2.2.2.2.2.1
        obtain ⟨x74, x741, x742⟩ := q.1.2.2.2.1.2.2.2.2.2.2.1
        obtain ⟨x75, x751, x752⟩ := q.1.2.2.2.1.2.2.2.2.2.2.2
        obtain ⟨s74, s75⟩ := mStp_74 (r := mPre pn dr 15 r) (j := jm r) hN
        rw [p74] at s74
        rw [p75] at s75
        rw [if_neg h4, a14, a15, m14, m15, s74, s75]
        unfold wS gS
        rw [e1, e2, e3]
        by_cases h5 : ¬ mPre pn dr 15 r (54 + pn 5) = 0 ∧ ¬ mPre pn dr 15 r (pn 5) = 0 ∧ jm r = 0
        · rw [if_pos h5, if_pos h5]
          by_cases h6 : c + k + 1 = pn 5
          · have ew : wPs pn (jm r) (mPre pn dr 15 r) (nI (c + k + 1)) = -9 := by
              unfold wPs
              rw [if_neg h5.1, if_neg h5.2.1, if_pos h5.2.2, if_pos (by rw [h6])]
            have eg : gPs pn (jm r) (mPre pn dr 15 r) (nI (c + k + 1)) g = if mPre pn dr 15 r (54 + pn 5) = 1 then 3 else 4 := by
              unfold gPs
              rw [if_neg h5.1, if_neg h5.2.1, if_pos h5.2.2, if_pos (by rw [h6])]
            rw [ew, eg, gone]
            by_cases h7 : mPre pn dr 15 r (54 + pn 5) = 1
            · have n7 : c + k + 1 = pn 5 ∧ ¬ r 74 + 1 ≤ r 74 := ⟨h6, by rw [x742]; exact nI_nss (by omega)⟩
              rw [if_pos h7, if_pos h7, if_pos h7, if_pos n7]
              exact ⟨_, _, rfl⟩
            · have n7 : ¬ (c + k + 1 = pn 5 ∧ ¬ r 74 ≤ r 74) := fun z => z.2 (Int32.le_refl _)
              have n8 : c + k + 1 = pn 5 ∧ ¬ r 75 + 1 ≤ r 75 := ⟨h6, by rw [x752]; exact nI_nss (by omega)⟩
              rw [if_neg h7, if_neg h7, if_neg h7, if_neg n7, if_pos n8]
              exact ⟨_, _, rfl⟩
          · have ew : wPs pn (jm r) (mPre pn dr 15 r) (nI (c + k + 1)) = nI (c + k + 1) := by
              unfold wPs
              rw [if_neg h5.1, if_neg h5.2.1, if_pos h5.2.2, if_neg (by rw [nI_eq (by omega) (by omega)]; exact h6)]
            rw [ew, if_neg (fun z => h6 z.1), if_neg (fun z => h6 z.1)]
            exact ih (k + 1) _ _ _ f' (by omega) (by omega) (by omega) (by omega) w2 (by
              rw [mStp_b hN (by omega) (fun z => absurd z (by omega)), mPre_b hN (by omega) (by omega)]
              exact hb)
        · have ew : wPs pn (jm r) (mPre pn dr 15 r) (nI (c + k + 1)) = nI (c + k + 1) := by
            unfold wPs
            by_cases y1 : mPre pn dr 15 r (54 + pn 5) = 0
            · rw [if_pos y1]
            · rw [if_neg y1]
              by_cases y2 : mPre pn dr 15 r (pn 5) = 0
              · rw [if_pos y2]
              · rw [if_neg y2, if_neg (fun y3 => h5 ⟨y1, y2, y3⟩)]
          have n7 : ¬ (c + k + 1 = pn 5 ∧ ¬ r 74 ≤ r 74) := fun z => z.2 (Int32.le_refl _)
          have n8 : ¬ (c + k + 1 = pn 5 ∧ ¬ r 75 ≤ r 75) := fun z => z.2 (Int32.le_refl _)
          rw [if_neg h5, if_neg h5, ew, if_neg n7, if_neg n8]
          exact ih (k + 1) _ _ _ f' (by omega) (by omega) (by omega) (by omega) w2 (by
            rw [mStp_b hN (by omega) (fun _ => h5), mPre_b hN (by omega) (by omega)]
            exact hb)
    · rw [if_neg h3, if_neg h3, m_goesEnd mc hwt, if_neg (fun z => w_m9 (by omega) z.symm)]
      exact ⟨_, _, rfl⟩
end
theorem op_goes (a b : Int32) : OP (f_X4_goes a b) (f_X5_goes a b) := by
  intro B h hB hI
  have hI0 := hI
  obtain ⟨pn, dr, z0, z1, z2, z3, z4, z5, z6, z7⟩ := hI
  have hcl := z0.1.1
  have hV := z0.1.2.2.2.2.2
  unfold f_X4_goes f_X5_goes
  rw [hasCell_eq z0, bd_at]
  by_cases h1 : isw a 0 (nI (pn 0) - 1) = 0
  · refine ⟨-1, h, h, by rw [if_pos h1], ?_, INV_mono (by omega) hI0⟩
    rw [isCell_eq z0, bd_at, if_pos h1]
  · rw [if_neg h1, isWithin_eq, bd_at]
    by_cases h2 : isw b 0 1 = 0
    · refine ⟨-2, h, h, by rw [if_pos h2], ?_, INV_mono (by omega) hI0⟩
      rw [isCell_eq z0, bd_at, if_neg h1, in_eq, bd_at, if_pos h2]
    · obtain ⟨c, hc, rfl⟩ := isw_nv (by omega) h1
      obtain ⟨wt, -, hwt, rfl⟩ := isw_nat (b := 0) (c := 1) (by omega) (by omega) h2
      have rw1 : ∀ {β : Type} {f : Int32 → Option β}, rd h (20 + 1) (nI c) f = f (h.1 21 c) := fun {β f} => rd_at c rfl (by show c < 9; omega) (by decide)
      have hcr : crel (pn 9) (h.1 21 c) (h.1 114) c := z1.1.1 c (by omega) (by omega)
      have hz := crel_0 hV hcr
      rw [if_neg h2, rw1]
      by_cases h3 : h.1 21 c = 0
      · refine ⟨-3, h, h, by rw [if_pos h3], ?_, INV_mono (by omega) hI0⟩
        rw [isCell_eq z0, bd_at, if_neg h1, in_eq, bd_at, if_neg h2, rd_at c (A0 c) (by show c < 103; omega) (by decide), if_pos (hz.1.mp h3)]
      · obtain ⟨T, x1, hT⟩ := x_try z0 z1 (vw h 25)
        rw [put_vw] at x1
        obtain ⟨S', x2⟩ := x_goes z0 hB (c := c) hwt 10 0 T (vw h 20) (h.1 114) 199 (by omega) (by omega) (by omega) (by omega) hT z1
        obtain ⟨r0, g, e0⟩ := as_t z6 S'
        obtain ⟨r1, m1, hr1⟩ := m_try (h := h) S' r0 (-9) g
        rw [← e0] at m1
        have mc := mc_t z0 z6 S'
        obtain ⟨r', g', m2⟩ := m_goes z0 z6 S' hB (c := c) hwt 10 0 (vw h 20) r1 (-9) 199 (by omega) (by omega) (by omega) (by omega) (RO_lk z0.1 hr1 z1) (by rw [Nat.add_zero, hr1 c (by omega)]; exact hz.2.mp h3)
        refine ⟨gsF pn dr wt 10 0 (c + 0) (vw h 20), put h 25 S', _, ?_, ?_, INV_t2 hI0 S' r' g'⟩
        · rw [if_neg h3, x1, bd_at]
          exact x2
        · have zp := xc_put z0 S'
          rw [isCell_eq zp, bd_at, if_neg h1, in_eq, bd_at, if_neg h2, rd_at c (A0 c) (by show c < 103; omega) (by decide), put_out _ _ _ (by omega), hz.2.mp h3, if_neg (by decide), m1, bd_at, mc.sw, mc.sg]
          exact m2
