-- judge: a command has the digits d, a, b
def tgl (x : Int32) : Int32 := if x = 0 then 1 else 0
def cmB (pn : Nat → Nat) (dr : Nat → Int32) (d a b : Nat) (S : SS) : Bool :=
  if d = 1 then decide (1 ≤ 10 * a + b) && decide (cCnt pn dr (10 * a + b) S = 10 * a + b)
  else if d = 2 then decide (10 * a + b = 0)
  else if d = 3 then decide (10 * a + b = 0)
  else if d = 4 then decide (10 * a + b = 0) && !(decide (S 0 10 = 0))
  else if d = 5 then decide (10 * a + b = 0)
  else if d = 6 then decide (b = 0) && (decide (a < pn 9) && decide (nt (S 0 9) % pn 9 = a))
  else if d = 7 then decide (S 0 12 = nI (10 * a + b))
  else if d = 8 then decide (a < pn 0) && decide (S 2 a = nI b)
  else if d = 9 then decide (b ≤ 1) && (decide (a < pn 0) && (!(decide (S 1 a = 0)) && decide (gI pn (S 1 a) = nI b)))
  else false
def cmS (pn : Nat → Nat) (dr : Nat → Int32) (d a b : Nat) (S : SS) : SS :=
  if d = 1 then (if 1 ≤ 10 * a + b then cAdv pn dr (10 * a + b) S else S)
  else if d = 2 then (if 10 * a + b = 0 then cMm pn S else S)
  else if d = 3 then (if 10 * a + b = 0 then u2 S 0 11 (tgl (S 0 11)) else S)
  else if d = 4 then (if 10 * a + b = 0 ∧ ¬ S 0 10 = 0 then cEA pn S else S)
  else if d = 5 then (if 10 * a + b = 0 then cRs pn S else S)
  else S
def cmR (pn : Nat → Nat) (dr : Nat → Int32) (d a b : Nat) (r : RW) : RW :=
  if d = 1 then (if 1 ≤ 10 * a + b then mAdv pn dr 15 (10 * a + b) r else r)
  else if d = 2 then (if 10 * a + b = 0 then mSl pn r else r)
  else if d = 3 then (if 10 * a + b = 0 then upd r 69 (tgl (r 69)) else r)
  else if d = 4 then (if 10 * a + b = 0 ∧ ¬ r 70 = 0 then mCl pn r else r)
  else if d = 5 then (if 10 * a + b = 0 then mRs pn r else r)
  else r
def cmQ (pn : Nat → Nat) (dr : Nat → Int32) (d a b : Nat) (r : RW) : Bool :=
  if d = 1 then decide (1 ≤ 10 * a + b) && decide (mCnt pn dr 15 (10 * a + b) r = 10 * a + b)
  else if d = 2 then decide (10 * a + b = 0)
  else if d = 3 then decide (10 * a + b = 0)
  else if d = 4 then decide (10 * a + b = 0) && !(decide (r 70 = 0))
  else if d = 5 then decide (10 * a + b = 0)
  else if d = 6 then decide (b = 0) && (decide (a < pn 9) && decide (nt (r 71) % pn 9 = a))
  else if d = 7 then decide (r 72 = nI (10 * a + b))
  else if d = 8 then decide (a < pn 0) && decide (r (54 + a) = nI b)
  else if d = 9 then decide (b ≤ 1) && (decide (a < pn 0) && (decide (r a = 1) && decide (gM pn r a = nI b)))
  else false
theorem tgl_01 (x : Int32) : tgl x = 0 ∨ tgl x = 1 := by
  unfold tgl
  split
  · exact Or.inr rfl
  · exact Or.inl rfl
section
variable {h : PH} {pn : Nat → Nat} {dr : Nat → Int32} {B d a b : Nat} {S : SS} {r : RW}
theorem RO_cm (hN : PN pn) (ha : a ≤ 9) (hb : b ≤ 9) (hB : B < 2 ^ 28) (q : RO pn B S r) : RO pn (B + 99) (cmS pn dr d a b S) (cmR pn dr d a b r) := by
  have k3 := q.1.2.2.2.1.1.2.2.1
  have k4 := q.1.2.2.2.1.1.2.2.2.1
  have up : ∀ {S : SS} {r : RW}, RO pn B S r → RO pn (B + 99) S r := fun z => RO_mono (by omega) z
  unfold cmS cmR
  by_cases c1 : d = 1
  · rw [if_pos c1, if_pos c1]
    by_cases z : 1 ≤ 10 * a + b
    · rw [if_pos z, if_pos z]
      exact RO_mono (by omega) (adv_ro (dr := dr) hN (10 * a + b) (by omega) q)
    · rw [if_neg z, if_neg z]; exact up q
  · rw [if_neg c1, if_neg c1]
    by_cases c2 : d = 2
    · rw [if_pos c2, if_pos c2]
      by_cases z : 10 * a + b = 0
      · rw [if_pos z, if_pos z]; exact up ⟨R_slip hN q.1, q.2⟩
      · rw [if_neg z, if_neg z]; exact up q
    · rw [if_neg c2, if_neg c2]
      by_cases c3 : d = 3
      · rw [if_pos c3, if_pos c3]
        by_cases z : 10 * a + b = 0
        · rw [if_pos z, if_pos z, k3]; exact up ⟨R_jam hN (tgl_01 _) q.1, q.2⟩
        · rw [if_neg z, if_neg z]; exact up q
      · rw [if_neg c3, if_neg c3]
        by_cases c4 : d = 4
        · rw [if_pos c4, if_pos c4, k4]
          by_cases z : 10 * a + b = 0 ∧ ¬ r 70 = 0
          · rw [if_pos z, if_pos z]; exact up ⟨(R_clear hN q.1).1, (cEA_4 _).trans q.2⟩
          · rw [if_neg z, if_neg z]; exact up q
        · rw [if_neg c4, if_neg c4]
          by_cases c5 : d = 5
          · rw [if_pos c5, if_pos c5]
            by_cases z : 10 * a + b = 0
            · rw [if_pos z, if_pos z]; exact up ⟨R_restart hN q.1, q.2⟩
            · rw [if_neg z, if_neg z]; exact up q
          · rw [if_neg c5, if_neg c5]; exact up q
theorem cmd_eq (hN : PN pn) (ha : a ≤ 9) (hb : b ≤ 9) (hB : B < 2 ^ 28) (q : RO pn B S r) : cmB pn dr d a b S = cmQ pn dr d a b r := by
  have hcl := hN.1
  have hV := hN.2.2.2.2.2
  obtain ⟨-, -, k3, k4, k5, k6, -⟩ := q.1.2.2.2.1.1
  have e1 := (R_adv (dr := dr) hN (10 * a + b) B S r (oc_0 hN q.2) q.1 (by omega)).2.1
  unfold cmB cmQ
  rw [e1, k4, k5, k6]
  have e8 : (decide (a < pn 0) && decide (S 2 a = nI b)) = (decide (a < pn 0) && decide (r (54 + a) = nI b)) := by
    by_cases z : a < pn 0
    · rw [(q.1.2.1 a (by omega)).1]
    · rw [decide_eq_false z, Bool.false_and, Bool.false_and]
  have e9 : (decide (a < pn 0) && (!(decide (S 1 a = 0)) && decide (gI pn (S 1 a) = nI b))) = (decide (a < pn 0) && (decide (r a = 1) && decide (gM pn r a = nI b))) := by
    by_cases z : a < pn 0
    · have hc := q.1.1 a (by omega) (by omega)
      have hz := crel_0 hV hc
      rw [good_eq hV hc]
      congr 2
      by_cases y : S 1 a = 0
      · rw [decide_eq_true y, decide_eq_false (show ¬ r a = 1 by rw [hz.1.mp y]; decide)]; rfl
      · rw [decide_eq_false y, decide_eq_true (hz.2.mp y)]; rfl
    · rw [decide_eq_false z, Bool.false_and, Bool.false_and]
  rw [e8, e9]
theorem b01_t {P : Prop} [Decidable P] (h : P) : b01 (decide P) = 1 := by rw [decide_eq_true h]; rfl
theorem b01_f {P : Prop} [Decidable P] (h : ¬ P) : b01 (decide P) = 0 := by rw [decide_eq_false h]; rfl
theorem ite_b01 {P : Prop} [Decidable P] (H : PH) : (if P then some ((1 : Int32), H) else some ((0 : Int32), H)) = some (b01 (decide P), H) := by
  by_cases z : P
  · rw [if_pos z, b01_t z]
  · rw [if_neg z, b01_f z]
theorem isw_lt {a V : Nat} (ha : a ≤ 9) (hV : V ≤ 9) : isw (nI a) 0 (nI V - 1) = b01 (decide (a < V)) := by
  by_cases z : a < V
  · rw [b01_t z, nI_sub1 (by omega)]
    exact isw_yes (b := 0) (by omega) (by omega) (by omega)
  · rw [b01_f z]
    rcases Classical.em (isw (nI a) 0 (nI V - 1) = 0) with y | y
    · exact y
    · exfalso
      obtain ⟨v, v1, v2⟩ := isw_nv hV y
      rw [nI_eq (by omega) (by omega)] at v2
      omega
theorem x_obeys (z0 : I0 h pn dr) (hd : d ≤ 9) (ha : a ≤ 9) (hb : b ≤ 9) (hB : B < 2 ^ 28) (q : RO pn B S r) : f_X4_obeys (nI (100 * d + 10 * a + b)) (put h 25 S) = some (b01 (cmB pn dr d a b S), put h 25 (cmS pn dr d a b S)) := by
  have xc := xc_trial z0
  have hcl := z0.1.1
  have hV := z0.1.2.2.2.2.2
  have zp := xc_put z0 S
  have e1 : nI (100 * d + 10 * a + b) / 100 = nI d := by rw [L100, pk_div (by omega) (by omega) (by omega)]; congr 1; omega
  have e2 : irm (nI (100 * d + 10 * a + b)) 100 = nI (10 * a + b) := by rw [L100, irm_nI (by omega) (by omega) (by omega)]; congr 1; omega
  have e3 : irm (nI (100 * d + 10 * a + b) / 10) 10 = nI a := by rw [L10, pk_div (by omega) (by omega) (by omega), irm_nI (by omega) (by omega) (by omega)]; congr 1; omega
  have e4 : irm (nI (100 * d + 10 * a + b)) 10 = nI b := by rw [L10, irm_nI (by omega) (by omega) (by omega)]; congr 1; omega
  unfold f_X4_obeys
  rw [e1, e2, e3, e4]
  have t0 : nI (10 * a + b) = 0 ↔ 10 * a + b = 0 := by rw [L0, nI_eq (by omega) (by omega)]
  rcases (show d = 0 ∨ d = 1 ∨ d = 2 ∨ d = 3 ∨ d = 4 ∨ d = 5 ∨ d = 6 ∨ d = 7 ∨ d = 8 ∨ d = 9 by omega) with rfl | rfl | rfl | rfl | rfl | rfl | rfl | rfl | rfl | rfl
  · rw [if_neg (by decide), if_neg (by decide), if_neg (by decide), if_neg (by decide), if_neg (by decide), if_neg (by decide), if_neg (by decide), if_neg (by decide), if_neg (by decide)]
    rfl
  · rw [if_pos (by decide)]
    show _ = some (b01 (decide (1 ≤ 10 * a + b) && decide (cCnt pn dr (10 * a + b) S = 10 * a + b)), put h 25 (if 1 ≤ 10 * a + b then cAdv pn dr (10 * a + b) S else S))
    by_cases z : 1 ≤ 10 * a + b
    · rw [if_neg (by rw [L1]; exact nI_nlt z (by omega)), x_adv_t z0 (by omega) (by omega) q, bd_at, if_pos z, decide_eq_true z, Bool.true_and]
      have hle := cCnt_le (pn := pn) (dr := dr) (10 * a + b) S
      have t : nI (cCnt pn dr (10 * a + b) S) = nI (10 * a + b) ↔ cCnt pn dr (10 * a + b) S = 10 * a + b := nI_eq (by omega) (by omega)
      by_cases y : cCnt pn dr (10 * a + b) S = 10 * a + b
      · rw [if_pos (t.mpr y), b01_t y]
      · rw [if_neg (fun w => y (t.mp w)), b01_f y]
    · rw [if_pos (by rw [L1]; exact nI_lt (by omega) (by omega)), if_neg z, decide_eq_false z]
      rfl
  · rw [if_neg (by decide), if_pos (by decide)]
    show _ = some (b01 (decide (10 * a + b = 0)), put h 25 (if 10 * a + b = 0 then cMm pn S else S))
    by_cases z : 10 * a + b = 0
    · unfold f_X4_intervenes
      rw [if_pos (t0.mpr z), if_pos (by decide), x_moveMarks xc, bd_at, bd_at, if_neg (by decide), if_pos z, b01_t z]
    · rw [if_neg (fun y => z (t0.mp y)), if_neg z, b01_f z]
  · rw [if_neg (by decide), if_neg (by decide), if_pos (by decide)]
    show _ = some (b01 (decide (10 * a + b = 0)), put h 25 (if 10 * a + b = 0 then u2 S 0 11 (tgl (S 0 11)) else S))
    by_cases z : 10 * a + b = 0
    · unfold f_X4_intervenes tgl
      rw [if_pos (t0.mpr z), if_neg (by decide), if_pos (by decide), if_pos z, b01_t z, put_0]
      by_cases y : S 0 11 = 0
      · rw [if_pos y, if_pos y, XC.s0, bd_at, if_neg (by decide)]
      · rw [if_neg y, if_neg y, XC.s0, bd_at, if_neg (by decide)]
    · rw [if_neg (fun y => z (t0.mp y)), if_neg z, b01_f z]
  · rw [if_neg (by decide), if_neg (by decide), if_neg (by decide), if_pos (by decide)]
    show _ = some (b01 (decide (10 * a + b = 0) && !(decide (S 0 10 = 0))), put h 25 (if 10 * a + b = 0 ∧ ¬ S 0 10 = 0 then cEA pn S else S))
    by_cases z : 10 * a + b = 0
    · unfold f_X4_intervenes
      rw [if_pos (t0.mpr z), if_neg (by decide), if_neg (by decide), if_pos (by decide), decide_eq_true z, Bool.true_and, put_0]
      by_cases y : S 0 10 = 0
      · rw [if_pos y, bd_at, if_pos rfl, if_neg (fun w => w.2 y), decide_eq_true y]; rfl
      · rw [if_neg y, x_endAlarm xc, bd_at, bd_at, if_neg (by decide), if_pos ⟨z, y⟩, decide_eq_false y]; rfl
    · rw [if_neg (fun y => z (t0.mp y)), if_neg (fun y => z y.1), decide_eq_false z]; rfl
  · rw [if_neg (by decide), if_neg (by decide), if_neg (by decide), if_neg (by decide), if_pos (by decide)]
    show _ = some (b01 (decide (10 * a + b = 0)), put h 25 (if 10 * a + b = 0 then cRs pn S else S))
    by_cases z : 10 * a + b = 0
    · unfold f_X4_intervenes
      rw [if_pos (t0.mpr z), if_neg (by decide), if_neg (by decide), if_neg (by decide), x_restart xc, bd_at, bd_at, if_neg (by decide), if_pos z, b01_t z]
    · rw [if_neg (fun y => z (t0.mp y)), if_neg z, b01_f z]
  · rw [if_neg (by decide), if_neg (by decide), if_neg (by decide), if_neg (by decide), if_neg (by decide), if_pos (by decide)]
    show _ = some (b01 (decide (b = 0) && (decide (a < pn 9) && decide (nt (S 0 9) % pn 9 = a))), put h 25 S)
    by_cases z : b = 0
    · rw [if_pos (by rw [z]; rfl), decide_eq_true z, Bool.true_and, hasValve_eq zp, bd_at, isw_lt ha (by omega)]
      by_cases y : a < pn 9
      · obtain ⟨s, s1, s2⟩ := q.1.2.2.2.1.2.2.2.2.2.1
        have k9 : S 0 9 = nI s := q.1.2.2.2.1.1.2.2.2.2.1.trans s2
        have hlt : s % pn 9 < pn 9 := Nat.mod_lt _ (by omega)
        rw [b01_t y, if_neg (by decide), x_nextValve xc S k9 (by omega), bd_at, if_neg (show ¬ pn 9 = 0 by omega), decide_eq_true y, Bool.true_and, k9, nt_nI (by omega)]
        have t : nI (s % pn 9) = nI a ↔ s % pn 9 = a := nI_eq (by omega) (by omega)
        by_cases w : s % pn 9 = a
        · rw [if_pos (t.mpr w), b01_t w]
        · rw [if_neg (fun v => w (t.mp v)), b01_f w]
      · rw [b01_f y, if_pos rfl, decide_eq_false y]; rfl
    · rw [if_neg (by rw [L0, nI_eq (by omega) (by omega)]; exact z), decide_eq_false z]; rfl
  · rw [if_neg (by decide), if_neg (by decide), if_neg (by decide), if_neg (by decide), if_neg (by decide), if_neg (by decide), if_pos (by decide), put_0]
    exact ite_b01 _
  · rw [if_neg (by decide), if_neg (by decide), if_neg (by decide), if_neg (by decide), if_neg (by decide), if_neg (by decide), if_neg (by decide), if_pos (by decide)]
    show _ = some (b01 (decide (a < pn 0) && decide (S 2 a = nI b)), put h 25 S)
    rw [hasCell_eq zp, bd_at, isw_lt ha (by omega)]
    by_cases y : a < pn 0
    · rw [b01_t y, if_neg (by decide), xc.r2 _ a rfl (by omega), decide_eq_true y, Bool.true_and]
      exact ite_b01 _
    · rw [b01_f y, if_pos rfl, decide_eq_false y]; rfl
  · rw [if_neg (by decide), if_neg (by decide), if_neg (by decide), if_neg (by decide), if_neg (by decide), if_neg (by decide), if_neg (by decide), if_neg (by decide), if_pos (by decide)]
    show _ = some (b01 (decide (b ≤ 1) && (decide (a < pn 0) && (!(decide (S 1 a = 0)) && decide (gI pn (S 1 a) = nI b)))), put h 25 S)
    by_cases z : b ≤ 1
    · rw [if_neg (by rw [L1]; exact nI_nlt z (by omega)), decide_eq_true z, Bool.true_and, hasCell_eq zp, bd_at, isw_lt ha (by omega)]
      by_cases y : a < pn 0
      · rw [b01_t y, if_neg (by decide), xc.r1 _ a rfl (by omega), decide_eq_true y, Bool.true_and]
        by_cases w : S 1 a = 0
        · rw [if_pos w, decide_eq_true w]; rfl
        · rw [if_neg w, xc.r1 _ a rfl (by omega), x_isGood xc, bd_at, decide_eq_false w]
          have fin : (if nI b = 1 then f_X4_obeys_b254 1 (gI pn (S 1 a)) (put h 25 S) else f_X4_obeys_b254 0 (gI pn (S 1 a)) (put h 25 S)) = some (b01 (decide (gI pn (S 1 a) = nI b)), put h 25 S) := by
            unfold f_X4_obeys_b254
            rcases (show b = 0 ∨ b = 1 by omega) with rfl | rfl
            · rw [if_neg (by decide)]; exact ite_b01 _
            · rw [if_pos (by decide)]; exact ite_b01 _
          exact fin
      · rw [b01_f y, if_pos rfl, decide_eq_false y]; rfl
    · rw [if_pos (by rw [L1]; exact nI_lt (by omega) (by omega)), decide_eq_false z]; rfl
end
