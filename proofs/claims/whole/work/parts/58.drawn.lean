-- random events
theorem sj_at {β : Type} {h : PH} {k : Nat} {v : Int64} {f : PH → Option β} : sj h k v f = f (sl h k v) := rfl
theorem lus_33 (x : Int64) : ∃ n : Nat, n < 2 ^ 31 ∧ (lus x 33).toInt32 = nI n := by
  have e1 : (Int32.toInt64 33).toUInt64 &&& Int64.toUInt64 63 = 33 := by decide +kernel
  unfold lus
  rw [e1]
  generalize hu : x.toUInt64 >>> 33 = u
  have hlt : u.toNat < 2 ^ 31 := by
    rw [← hu, UInt64.toNat_shiftRight]
    have e2 : (33 : UInt64).toNat % 64 = 33 := by decide +kernel
    rw [e2, Nat.shiftRight_eq_div_pow]
    have := x.toUInt64.toNat_lt
    omega
  refine ⟨u.toNat, hlt, ?_⟩
  apply Int32.toBitVec_inj.1
  apply BitVec.eq_of_toNat_eq
  show (BitVec.signExtend 32 u.toBitVec).toNat = (BitVec.ofNat 32 u.toNat).toNat
  rw [BitVec.signExtend_eq_setWidth_of_le _ (by decide), BitVec.toNat_setWidth, BitVec.toNat_ofNat]
  rfl
def rnx (x : Int64) : Int64 := x * 6364136223846793005 + 1442695040888963407
def evn (x : Int64) : Nat := nt (irm (lus x 33).toInt32 10)
theorem evn_eq (x : Int64) : irm (lus x 33).toInt32 10 = nI (evn x) ∧ evn x < 10 := by
  obtain ⟨n, hn, e⟩ := lus_33 x
  unfold evn
  rw [e, L10, irm_nI hn (by omega) (by omega), nt_nI (by omega)]
  exact ⟨rfl, Nat.mod_lt _ (by omega)⟩
def evS (pn : Nat → Nat) (dr : Nat → Int32) (e : Nat) (S : SS) : SS := if e = 0 then cMm pn S else if e = 1 then u2 S 0 11 (if S 0 11 = 0 then 1 else 0) else if e = 2 then (if S 0 10 = 0 then cRs pn S else cEA pn S) else cAdv pn dr 1 S
def evR (pn : Nat → Nat) (dr : Nat → Int32) (e : Nat) (r : RW) : RW := if e = 0 then mSl pn r else if e = 1 then upd r 69 (if r 69 = 0 then 1 else 0) else if e = 2 then (if r 70 = 0 then mRs pn r else mCl pn r) else mAdv pn dr 15 1 r
def drF (nx : Int64 → Int64) (ev : Int64 → Nat) (pn : Nat → Nat) (dr : Nat → Int32) : Nat → Int64 → SS → Int32 → Int32
  | 0, _, _, a => a
  | n + 1, x, S, a => drF nx ev pn dr n (nx x) (evS pn dr (ev (nx x)) S) (a + (evS pn dr (ev (nx x)) S 0 12 - evS pn dr (ev (nx x)) S 0 13))
def rnN (nx : Int64 → Int64) : Nat → Int64 → Int64
  | 0, x => x
  | n + 1, x => rnN nx n (nx x)
theorem drF_s (nx : Int64 → Int64) (ev : Int64 → Nat) (pn : Nat → Nat) (dr : Nat → Int32) (n : Nat) (x : Int64) (S : SS) (a : Int32) : drF nx ev pn dr (n + 1) x S a = drF nx ev pn dr n (nx x) (evS pn dr (ev (nx x)) S) (a + (evS pn dr (ev (nx x)) S 0 12 - evS pn dr (ev (nx x)) S 0 13)) := by rw [drF]
theorem drF_0 (nx : Int64 → Int64) (ev : Int64 → Nat) (pn : Nat → Nat) (dr : Nat → Int32) (x : Int64) (S : SS) (a : Int32) : drF nx ev pn dr 0 x S a = a := by rw [drF]
theorem rnN_s (nx : Int64 → Int64) (n : Nat) (x : Int64) : rnN nx (n + 1) x = rnN nx n (nx x) := by rw [rnN]
theorem rnN_0 (nx : Int64 → Int64) (x : Int64) : rnN nx 0 x = x := by rw [rnN]
theorem sl_at (h : PH) (k : Nat) (x : Int64) : (sl h k x).2 k = x := by
  show (if k = k then x else h.2 k) = x
  rw [if_pos rfl]
theorem put_2nd (h : PH) (o : Nat) (S : SS) : (put h o S).2 = h.2 := rfl
theorem mst_2nd (h : PH) (k : Nat) (r : RW) (w g : Int32) : (mst h k r w g).2 = h.2 := rfl
section
variable {h : PH} {pn : Nat → Nat} {dr : Nat → Int32} {B : Nat}
theorem RO_ev (hN : PN pn) {S : SS} {r : RW} (e : Nat) (hB : B < 2 ^ 28) (q : RO pn B S r) : RO pn (B + 1) (evS pn dr e S) (evR pn dr e r) := by
  have k3 := q.1.2.2.2.1.1.2.2.1
  have k4 := q.1.2.2.2.1.1.2.2.2.1
  have up : ∀ {S : SS} {r : RW}, RO pn B S r → RO pn (B + 1) S r := fun z => RO_mono (by omega) z
  unfold evS evR
  by_cases e0 : e = 0
  · rw [if_pos e0, if_pos e0]
    exact up ⟨R_slip hN q.1, q.2⟩
  · rw [if_neg e0, if_neg e0]
    by_cases e1 : e = 1
    · rw [if_pos e1, if_pos e1, k3]
      refine up ⟨R_jam hN ?_ q.1, q.2⟩
      split
      · exact Or.inr rfl
      · exact Or.inl rfl
    · rw [if_neg e1, if_neg e1]
      by_cases e2 : e = 2
      · rw [if_pos e2, if_pos e2, k4]
        by_cases z : r 70 = 0
        · rw [if_pos z, if_pos z]
          exact up ⟨R_restart hN q.1, q.2⟩
        · rw [if_neg z, if_neg z]
          exact up ⟨(R_clear hN q.1).1, (cEA_4 _).trans q.2⟩
      · rw [if_neg e2, if_neg e2]
        exact adv_ro hN 1 (by omega) q
theorem x_happen (z0 : I0 h pn dr) {T : SS} {r : RW} {e : Nat} (he : e < 10) (hB : B < 2 ^ 28) (q : RO pn B T r) : f_X4_happen (nI e) (put h 25 T) = some ((), put h 25 (evS pn dr e T)) := by
  have xc := xc_trial z0
  have t0 : nI e = 0 ↔ e = 0 := by rw [L0, nI_eq (by omega) (by omega)]
  have t1 : nI e = 1 ↔ e = 1 := by rw [L1, nI_eq (by omega) (by omega)]
  have t2 : nI e = 2 ↔ e = 2 := by rw [L2, nI_eq (by omega) (by omega)]
  unfold f_X4_happen evS
  by_cases e0 : e = 0
  · rw [if_pos (t0.mpr e0), if_pos e0, x_moveMarks xc, bd_at]
  · rw [if_neg (fun z => e0 (t0.mp z)), if_neg e0]
    by_cases e1 : e = 1
    · rw [if_pos (t1.mpr e1), if_pos e1, put_0]
      by_cases z : T 0 11 = 0
      · rw [if_pos z, if_pos z, XC.s0]
      · rw [if_neg z, if_neg z, XC.s0]
    · rw [if_neg (fun z => e1 (t1.mp z)), if_neg e1]
      by_cases e2 : e = 2
      · rw [if_pos (t2.mpr e2), if_pos e2, put_0]
        by_cases z : T 0 10 = 0
        · rw [if_pos z, if_pos z, x_restart xc, bd_at]
        · rw [if_neg z, if_neg z, x_endAlarm xc, bd_at]
      · rw [if_neg (fun z => e2 (t2.mp z)), if_neg e2, L1, x_adv_t z0 (by omega) hB q, bd_at]
theorem sl_put (h : PH) (x y : Int64) (T : SS) : sl (put (sl h 0 x) 25 T) 0 y = put (sl h 0 y) 25 T := by
  apply Prod.ext
  · rfl
  · funext a
    show (if a = 0 then y else if a = 0 then x else h.2 a) = (if a = 0 then y else h.2 a)
    by_cases q : a = 0
    · rw [if_pos q, if_pos q]
    · rw [if_neg q, if_neg q, if_neg q]
theorem sl_mst (H : PH) (x y : Int64) (r : RW) (w g : Int32) : sl (mst (sl H 110 x) 115 r w g) 110 y = mst (sl H 110 y) 115 r w g := by
  apply Prod.ext
  · rfl
  · funext a
    show (if a = 110 then y else if a = 110 then x else H.2 a) = (if a = 110 then y else H.2 a)
    by_cases q : a = 110
    · rw [if_pos q, if_pos q]
    · rw [if_neg q, if_neg q, if_neg q]
theorem I0_sl (z0 : I0 h pn dr) (k : Nat) (x : Int64) : I0 (sl h k x) pn dr := I0_cg (h := h) (fun _ _ _ => rfl) z0
theorem x_drawn (z0 : I0 h pn dr) (hB : B < 2 ^ 27) {N : Nat} (hN : N ≤ 20) : ∀ (n i : Nat) (a : Int32) (x : Int64) (T M : SS) (r : RW), i ≤ N → N < i + n → RO pn (B + i) T r → RO pn (B + i) M r → ∃ S' : SS, f_X4_drawn_b28 n (nI N) a (nI i) (put (sl h 0 x) 25 T) = some (drF rnx evn pn dr (N - i) x M a, put (sl h 0 (rnN rnx (N - i) x)) 25 S') := by
  intro n
  induction n with
  | zero => intro i a x T M r h1 h2; omega
  | succ n ih =>
    intro i a x T M r h1 h2 q1 q2
    unfold f_X4_drawn_b28
    by_cases h3 : i = N
    · subst h3
      rw [if_pos (nI_le (Nat.le_refl _) (by omega)), Nat.sub_self, drF_0, rnN_0]
      exact ⟨T, rfl⟩
    · rw [if_neg (nI_ge (by omega) (by omega))]
      have e0 : (put (sl h 0 x) 25 T).2 0 * (6364136223846793005 : Int64) + (1442695040888963407 : Int64) = rnx x := by rw [put_2nd, sl_at, rnx]
      rw [e0]
      rw [sj_at, sl_put]
      have e1 : (put (sl h 0 (rnx x)) 25 T).2 0 = rnx x := by rw [put_2nd, sl_at]
      obtain ⟨e2, e3⟩ := evn_eq (rnx x)
      rw [e1, e2, x_happen (I0_sl z0 0 (rnx x)) e3 (by omega) q1, bd_at, put_0, nI_1]
      have w1 := RO_ev (dr := dr) z0.1 (evn (rnx x)) (by omega) q1
      have w2 := RO_ev (dr := dr) z0.1 (evn (rnx x)) (by omega) q2
      have o12 : evS pn dr (evn (rnx x)) T 0 12 = evS pn dr (evn (rnx x)) M 0 12 := w1.1.2.2.2.1.1.2.2.2.2.2.1.trans w2.1.2.2.2.1.1.2.2.2.2.2.1.symm
      have o13 : evS pn dr (evn (rnx x)) T 0 13 = evS pn dr (evn (rnx x)) M 0 13 := w1.1.2.2.2.1.1.2.2.2.2.2.2.1.trans w2.1.2.2.2.1.1.2.2.2.2.2.2.1.symm
      rw [o12, o13]
      have e4 : N - i = (N - (i + 1)) + 1 := by omega
      rw [e4, drF_s, rnN_s]
      exact ih (i + 1) _ (rnx x) _ _ _ (by omega) (by omega) w1 w2
theorem m_drawn {H : PH} (z0 : I0 H pn dr) (z21 : H.1 110 21 = 15) (hB : B < 2 ^ 27) (g : Int32) {N : Nat} (hN : N ≤ 20) : ∀ (n i : Nat) (a : Int32) (x : Int64) (M : SS) (r : RW), i ≤ N → N < i + n → RO pn (B + i) M r → ∃ r' : RW, f_X5_drawn_b28 n (nI N) a (nI i) (mst (sl H 110 x) 115 r (-9) g) = some (drF rnx evn pn dr (N - i) x M a, mst (sl H 110 (rnN rnx (N - i) x)) 115 r' (-9) g) := by
  intro n
  induction n with
  | zero => intro i a x M r h1 h2; omega
  | succ n ih =>
    intro i a x M r h1 h2 q
    unfold f_X5_drawn_b28
    by_cases h3 : i = N
    · subst h3
      rw [if_pos (nI_le (Nat.le_refl _) (by omega)), Nat.sub_self, drF_0, rnN_0]
      exact ⟨r, rfl⟩
    · rw [if_neg (nI_ge (by omega) (by omega))]
      have e0 : (mst (sl H 110 x) 115 r (-9) g).2 110 * (6364136223846793005 : Int64) + (1442695040888963407 : Int64) = rnx x := by rw [mst_2nd, sl_at, rnx]
      rw [e0]
      rw [sj_at, sl_mst]
      have e1 : (mst (sl H 110 (rnx x)) 115 r (-9) g).2 110 = rnx x := by rw [mst_2nd, sl_at]
      obtain ⟨e2, e3⟩ := evn_eq (rnx x)
      rw [e1, e2]
      have mc : MC (sl H 110 (rnx x)) 115 pn dr 15 := ⟨Or.inr rfl, (I0_sl z0 110 (rnx x)).2.2, z0.1, z21⟩
      have w := RO_ev (dr := dr) z0.1 (evn (rnx x)) (by omega) q
      have o12 : evS pn dr (evn (rnx x)) M 0 12 = evR pn dr (evn (rnx x)) r 72 := w.1.2.2.2.1.1.2.2.2.2.2.1
      have o13 : evS pn dr (evn (rnx x)) M 0 13 = evR pn dr (evn (rnx x)) r 73 := w.1.2.2.2.1.1.2.2.2.2.2.2.1
      have e4 : N - i = (N - (i + 1)) + 1 := by omega
      rw [e4, drF_s, rnN_s]
      obtain ⟨r', fin⟩ := ih (i + 1) (a + (evS pn dr (evn (rnx x)) M 0 12 - evS pn dr (evn (rnx x)) M 0 13)) (rnx x) _ _ (by omega) (by omega) w
      refine ⟨r', Eq.trans ?_ fin⟩
      have tail : ∀ r2 : RW, r2 = evR pn dr (evn (rnx x)) r → f_X5_drawn_b153 (f_X5_drawn_b28 n) (nI N) a (nI i) (mst (sl H 110 (rnx x)) 115 r2 (-9) g) = f_X5_drawn_b28 n (nI N) (a + (evS pn dr (evn (rnx x)) M 0 12 - evS pn dr (evn (rnx x)) M 0 13)) (nI (i + 1)) (mst (sl H 110 (rnx x)) 115 (evR pn dr (evn (rnx x)) r) (-9) g) := by
        intro r2 hr2
        unfold f_X5_drawn_b153
        rw [mc.r _ _ _ 72 L72 (by decide), mc.r _ _ _ 73 L73 (by decide), nI_1, hr2, o12, o13]
      have hj := q.1.2.2.2.1.2.2.2.1
      have ha := q.1.2.2.2.1.2.2.2.2.1
      generalize evn (rnx x) = e at e3 tail
      have t0 : nI e = 0 ↔ e = 0 := by rw [L0, nI_eq (by omega) (by omega)]
      have t1 : nI e = 1 ↔ e = 1 := by rw [L1, nI_eq (by omega) (by omega)]
      have t2 : nI e ≤ 2 ↔ e ≤ 2 := by rw [L2, nI_leI (by omega) (by omega)]
      by_cases c0 : e = 0
      · rw [if_pos (t0.mpr c0), m_slip mc, bd_at]
        exact tail _ (by unfold evR; rw [if_pos c0])
      · rw [if_neg (fun z => c0 (t0.mp z))]
        by_cases c1 : e = 1
        · rw [if_pos (t1.mpr c1), mc.r _ _ _ 69 L69 (by decide), mc.w _ _ _ 69 L69 (by decide)]
          refine tail _ ?_
          unfold evR
          rw [if_neg c0, if_pos c1]
          rcases hj with y | y
          · rw [y, if_pos rfl]; rfl
          · rw [y, if_neg (by decide)]; rfl
        · rw [if_neg (fun z => c1 (t1.mp z))]
          by_cases c2 : e = 2
          · rw [if_pos (t2.mpr (by omega)), mc.r _ _ _ 70 L70 (by decide)]
            rcases ha with y | y
            · rw [if_neg (by rw [y]; decide), m_restart mc, bd_at]
              exact tail _ (by unfold evR; rw [if_neg c0, if_neg c1, if_pos c2, if_pos y])
            · rw [if_pos y, m_clearOn mc, bd_at]
              exact tail _ (by unfold evR; rw [if_neg c0, if_neg c1, if_pos c2, if_neg (by rw [y]; decide)])
          · rw [if_neg (fun z => by have := t2.mp z; omega), L1, m_adv mc g (N := 1) (by omega) (oc_0 z0.1 q.2) q.1 (by omega), bd_at]
            exact tail _ (by unfold evR; rw [if_neg c0, if_neg c1, if_neg c2])
end
theorem op_drawn (a : Int32) : OP (f_X4_drawn a) (f_X5_drawn a) := by
  intro B h hB hI
  have hI0 := hI
  obtain ⟨pn, dr, z0, z1, z2, z3, z4, z5, z6, z7⟩ := hI
  unfold f_X4_drawn f_X5_drawn
  rw [isWithin_eq, bd_at]
  by_cases h1 : isw a 1 20 = 0
  · refine ⟨-2, h, h, by rw [if_pos h1], ?_, INV_mono (by omega) hI0⟩
    rw [in_eq, bd_at, if_pos h1]
  · obtain ⟨N, -, n2, rfl⟩ := isw_nat (b := 1) (c := 20) (by omega) (by omega) h1
    obtain ⟨T, x1, hT⟩ := x_try z0 z1 (vw h 25)
    rw [put_vw] at x1
    have es : sl h 0 (h.2 0) = h := by
      apply Prod.ext
      · rfl
      · funext y
        show (if y = 0 then h.2 0 else h.2 y) = h.2 y
        by_cases q : y = 0
        · rw [if_pos q, q]
        · rw [if_neg q]
    obtain ⟨S', x2⟩ := x_drawn z0 hB n2 200 0 0 (h.2 0) T (vw h 20) (h.1 114) (by omega) (by omega) hT z1
    rw [es, Nat.sub_zero] at x2
    generalize hh : put (sl h 0 (rnN rnx N (h.2 0))) 25 S' = H at x2
    have oH : ∀ x y, ¬ (25 ≤ x ∧ x ≤ 29) → H.1 x y = h.1 x y := by
      intro x y q
      rw [← hh, put_out _ _ _ (by omega)]
      rfl
    have zH : I0 H pn dr := I0_cg (fun x y q => oH x y (by omega)) z0
    have hw : H.1 110 22 = -9 := by rw [oH _ _ (by omega)]; exact z6.2.2
    have e114 : H.1 114 = h.1 114 := funext fun y => oH 114 y (by omega)
    have e2 : H.2 110 = h.2 0 := by
      rw [← hh]
      show (if 110 = 0 then rnN rnx N (h.2 0) else h.2 110) = h.2 0
      rw [if_neg (by decide), z6.1]
    have es2 : sl H 110 (h.2 0) = H := by
      apply Prod.ext
      · rfl
      · funext y
        show (if y = 110 then h.2 0 else H.2 y) = H.2 y
        by_cases q : y = 110
        · rw [if_pos q, q, e2]
        · rw [if_neg q]
    have mcp := m_copy (h := H)
    have er : sa H 115 (sg (H.1 114) (H.1 115) 0 0 103) = mst H 115 (sg (H.1 114) (H.1 115) 0 0 103) (-9) (H.1 110 23) := by
      apply Prod.ext
      · funext x y
        show (if x = 115 then sg (H.1 114) (H.1 115) 0 0 103 else H.1 x) y = (if x = 115 then sg (H.1 114) (H.1 115) 0 0 103 y else if x = 110 ∧ y = 22 then -9 else if x = 110 ∧ y = 23 then H.1 110 23 else H.1 x y)
        by_cases c0 : x = 115
        · rw [if_pos c0, if_pos c0]
        · rw [if_neg c0, if_neg c0]
          by_cases c1 : x = 110 ∧ y = 22
          · rw [if_pos c1, c1.1, c1.2, hw]
          · rw [if_neg c1]
            by_cases c2 : x = 110 ∧ y = 23
            · rw [if_pos c2, c2.1, c2.2]
            · rw [if_neg c2]
      · rfl
    rw [er] at mcp
    have hr1 : RO pn B (vw h 20) (sg (H.1 114) (H.1 115) 0 0 103) := RO_cg z0.1 z1 (fun _ _ => rfl) (fun x hx => by
      unfold sg
      rw [if_pos (by omega), Nat.sub_zero, Nat.zero_add, e114])
    obtain ⟨r', m2⟩ := m_drawn zH (by rw [oH _ _ (by omega)]; exact z6.2.1) hB (H.1 110 23) n2 200 0 0 (h.2 0) (vw h 20) _ (by omega) (by omega) hr1
    rw [es2, Nat.sub_zero] at m2
    refine ⟨_, H, _, by rw [if_neg h1, x1, bd_at]; exact x2, by rw [in_eq, bd_at, if_neg h1, mcp, bd_at]; exact m2, INV_mono (B := B) (by omega) (INV_try hI0 (fun x y q => ?_) ?_)⟩
    · by_cases w : x = 110 ∧ y = 22
      · rw [w.1, w.2]
        show (if 110 = 115 then r' 22 else if 110 = 110 ∧ 22 = 22 then (-9 : Int32) else if 110 = 110 ∧ 22 = 23 then H.1 110 23 else H.1 110 22) = _
        rw [if_neg (by decide), if_pos (by decide)]
        exact z6.2.2.symm
      · show (if x = 115 then r' y else if x = 110 ∧ y = 22 then (-9 : Int32) else if x = 110 ∧ y = 23 then H.1 110 23 else H.1 x y) = _
        rw [if_neg (by omega), if_neg w, if_neg (by omega), oH _ _ (by omega)]
    · show (if 0 = 110 then rnN rnx N (h.2 0) else H.2 0) = (if 110 = 110 then rnN rnx N (h.2 0) else H.2 110)
      rw [if_neg (by decide), if_pos rfl, ← hh, put_2nd, sl_at]
