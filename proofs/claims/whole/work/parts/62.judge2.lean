section
variable {h : PH} {pn : Nat → Nat} {dr : Nat → Int32} {B d a b : Nat} {S : SS} {r : RW}
theorem m_judged (z0 : I0 h pn dr) (z6 : IMisc h) (S' : SS) (g : Int32) (hd : d ≤ 9) (ha : a ≤ 9) (hb : b ≤ 9) (hB : B < 2 ^ 28) (q : RO pn B S r) : f_X5_judged (nI d) (nI a) (nI b) (mst (put h 25 S') 115 r (-9) g) = some (b01 (cmQ pn dr d a b r), mst (put h 25 S') 115 (cmR pn dr d a b r) (-9) g) := by
  have mc := mc_t z0 z6 S'
  have hcl := z0.1.1
  have hV := z0.1.2.2.2.2.2
  have zp : I0 (mst (put h 25 S') 115 r (-9) g) pn dr := I0_cg (fun x y w => by
    show (if x = 115 then r y else if x = 110 ∧ y = 22 then (-9 : Int32) else if x = 110 ∧ y = 23 then g else (put h 25 S').1 x y) = h.1 x y
    rw [if_neg (by omega), if_neg (by omega), if_neg (by omega), put_out _ _ _ (by omega)]) z0
  have en : (10 : Int32) * nI a + nI b = nI (10 * a + b) := by rw [L10, nI_mul, nI_add]
  have red : f_X5_judged (nI d) (nI a) (nI b) (mst (put h 25 S') 115 r (-9) g) = f_X5_judged_b13 (nI d) (nI a) (nI b) (b01 (decide (10 * a + b = 0))) (mst (put h 25 S') 115 r (-9) g) := by
    unfold f_X5_judged
    by_cases z : a = 0
    · by_cases y : b = 0
      · rw [if_pos (by rw [z]; rfl), if_pos (by rw [y]; rfl), b01_t (by omega)]
      · rw [if_pos (by rw [z]; rfl), if_neg (by rw [L0, nI_eq (by omega) (by omega)]; exact y), b01_f (by omega)]
    · rw [if_neg (by rw [L0, nI_eq (by omega) (by omega)]; exact z), b01_f (by omega)]
  rw [red]
  unfold f_X5_judged_b13
  rw [en]
  rcases (show d = 0 ∨ d = 1 ∨ d = 2 ∨ d = 3 ∨ d = 4 ∨ d = 5 ∨ d = 6 ∨ d = 7 ∨ d = 8 ∨ d = 9 by omega) with rfl | rfl | rfl | rfl | rfl | rfl | rfl | rfl | rfl | rfl
  · rw [if_neg (by decide), if_neg (by decide), if_neg (by decide), if_neg (by decide), if_neg (by decide), if_neg (by decide), if_neg (by decide), if_neg (by decide), if_neg (by decide)]
    rfl
  · rw [if_pos (by decide)]
    show _ = some (b01 (decide (1 ≤ 10 * a + b) && decide (mCnt pn dr 15 (10 * a + b) r = 10 * a + b)), mst (put h 25 S') 115 (if 1 ≤ 10 * a + b then mAdv pn dr 15 (10 * a + b) r else r) (-9) g)
    by_cases z : 1 ≤ 10 * a + b
    · rw [if_neg (nI_nle (by omega) (by omega)), m_adv_t z0 z6 S' g (by omega) (by omega) q, bd_at, if_pos z, decide_eq_true z, Bool.true_and]
      have hle := cCnt_le (pn := pn) (dr := dr) (10 * a + b) S
      have e1 := (R_adv (dr := dr) z0.1 (10 * a + b) B S r (oc_0 z0.1 q.2) q.1 (by omega)).2.1
      rw [e1] at hle
      have t : nI (mCnt pn dr 15 (10 * a + b) r) = nI (10 * a + b) ↔ mCnt pn dr 15 (10 * a + b) r = 10 * a + b := nI_eq (by omega) (by omega)
      by_cases y : mCnt pn dr 15 (10 * a + b) r = 10 * a + b
      · rw [if_pos (t.mpr y), b01_t y]
      · rw [if_neg (fun w => y (t.mp w)), b01_f y]
    · rw [if_pos (by have : 10 * a + b = 0 := by omega
                     rw [this]; decide), if_neg z, decide_eq_false z]
      rfl
  · rw [if_neg (by decide), if_pos (by decide)]
    show _ = some (b01 (decide (10 * a + b = 0)), mst (put h 25 S') 115 (if 10 * a + b = 0 then mSl pn r else r) (-9) g)
    by_cases z : 10 * a + b = 0
    · rw [b01_t z, if_neg (by decide), m_slip mc, bd_at, bz_at (Or.inr rfl), if_pos z]
    · rw [b01_f z, if_pos rfl, bz_at (Or.inl rfl), if_neg z]
  · rw [if_neg (by decide), if_neg (by decide), if_pos (by decide)]
    show _ = some (b01 (decide (10 * a + b = 0)), mst (put h 25 S') 115 (if 10 * a + b = 0 then upd r 69 (tgl (r 69)) else r) (-9) g)
    by_cases z : 10 * a + b = 0
    · rw [b01_t z, if_neg (by decide), mc.r _ _ _ 69 L69 (by decide), mc.w _ _ _ 69 L69 (by decide), bz_at (Or.inr rfl), if_pos z]
      have e : (1 : Int32) - r 69 = tgl (r 69) := by
        rcases q.1.2.2.2.1.2.2.2.1 with y | y
        · rw [y]; decide
        · rw [y]; decide
      rw [e]
    · rw [b01_f z, if_pos rfl, mc.r _ _ _ 69 L69 (by decide), mc.w _ _ _ 69 L69 (by decide), bz_at (Or.inl rfl), if_neg z, upd_id]
  · rw [if_neg (by decide), if_neg (by decide), if_neg (by decide), if_pos (by decide)]
    show _ = some (b01 (decide (10 * a + b = 0) && !(decide (r 70 = 0))), mst (put h 25 S') 115 (if 10 * a + b = 0 ∧ ¬ r 70 = 0 then mCl pn r else r) (-9) g)
    by_cases z : 10 * a + b = 0
    · rw [b01_t z, if_neg (by decide), mc.r _ _ _ 70 L70 (by decide), decide_eq_true z, Bool.true_and]
      by_cases y : r 70 = 0
      · rw [if_pos y, if_neg (fun w => w.2 y), decide_eq_true y]; rfl
      · rw [if_neg y, m_clearOn mc, bd_at, if_pos ⟨z, y⟩, decide_eq_false y]; rfl
    · rw [b01_f z, if_pos rfl, if_neg (fun y => z y.1), decide_eq_false z]; rfl
  · rw [if_neg (by decide), if_neg (by decide), if_neg (by decide), if_neg (by decide), if_pos (by decide)]
    show _ = some (b01 (decide (10 * a + b = 0)), mst (put h 25 S') 115 (if 10 * a + b = 0 then mRs pn r else r) (-9) g)
    by_cases z : 10 * a + b = 0
    · rw [b01_t z, if_neg (by decide), m_restart mc, bd_at, bz_at (Or.inr rfl), if_pos z]
    · rw [b01_f z, if_pos rfl, bz_at (Or.inl rfl), if_neg z]
  · rw [if_neg (by decide), if_neg (by decide), if_neg (by decide), if_neg (by decide), if_neg (by decide), if_pos (by decide)]
    show _ = some (b01 (decide (b = 0) && (decide (a < pn 9) && decide (nt (r 71) % pn 9 = a))), mst (put h 25 S') 115 r (-9) g)
    rw [isValve_eq zp, bd_at, isw_lt ha (by omega)]
    by_cases y : a < pn 9
    · rw [b01_t y, if_neg (by decide), decide_eq_true y, Bool.true_and]
      by_cases z : b = 0
      · obtain ⟨s, s1, s2⟩ := q.1.2.2.2.1.2.2.2.2.2.1
        have hlt : s % pn 9 < pn 9 := Nat.mod_lt _ (by omega)
        rw [if_pos (by rw [z]; rfl), decide_eq_true z, Bool.true_and, mc.r _ _ _ 71 L71 (by decide), mc.valves, nz_at (nI_ne0 (by omega) (by omega)), s2, irm_nI (by omega) (by omega) (by omega), nt_nI (by omega)]
        have t : nI (s % pn 9) = nI a ↔ s % pn 9 = a := nI_eq (by omega) (by omega)
        by_cases w : s % pn 9 = a
        · rw [if_pos (t.mpr w), b01_t w]
        · rw [if_neg (fun v => w (t.mp v)), b01_f w]
      · rw [if_neg (by rw [L0, nI_eq (by omega) (by omega)]; exact z), decide_eq_false z]; rfl
    · rw [b01_f y, if_pos rfl, decide_eq_false y, Bool.false_and, Bool.and_false]; rfl
  · rw [if_neg (by decide), if_neg (by decide), if_neg (by decide), if_neg (by decide), if_neg (by decide), if_neg (by decide), if_pos (by decide), mc.r _ _ _ 72 L72 (by decide)]
    exact ite_b01 _
  · rw [if_neg (by decide), if_neg (by decide), if_neg (by decide), if_neg (by decide), if_neg (by decide), if_neg (by decide), if_neg (by decide), if_pos (by decide)]
    show _ = some (b01 (decide (a < pn 0) && decide (r (54 + a) = nI b)), mst (put h 25 S') 115 r (-9) g)
    rw [isCell_eq zp, bd_at, isw_lt ha (by omega)]
    by_cases y : a < pn 0
    · rw [b01_t y, if_neg (by decide), mc.r _ _ _ (54 + a) (A54 a) (by omega), decide_eq_true y, Bool.true_and]
      exact ite_b01 _
    · rw [b01_f y, if_pos rfl, decide_eq_false y]; rfl
  · rw [if_neg (by decide), if_neg (by decide), if_neg (by decide), if_neg (by decide), if_neg (by decide), if_neg (by decide), if_neg (by decide), if_neg (by decide), if_pos (by decide)]
    show _ = some (b01 (decide (b ≤ 1) && (decide (a < pn 0) && (decide (r a = 1) && decide (gM pn r a = nI b)))), mst (put h 25 S') 115 r (-9) g)
    rw [isCell_eq zp, bd_at, isw_lt ha (by omega)]
    by_cases y : a < pn 0
    · rw [b01_t y, if_neg (by decide), decide_eq_true y, Bool.true_and]
      by_cases z : b ≤ 1
      · rw [if_neg (by rw [L2]; exact nI_ge (by omega) (by omega)), decide_eq_true z, Bool.true_and, mc.r _ _ _ a (A0 a) (by omega)]
        by_cases w : r a = 1
        · rw [if_pos w, m_isGood mc _ _ _ (by omega), bd_at, decide_eq_true w]
          have fin : (if nI b = 1 then f_X5_judged_b319 1 (gM pn r a) (mst (put h 25 S') 115 r (-9) g) else f_X5_judged_b319 0 (gM pn r a) (mst (put h 25 S') 115 r (-9) g)) = some (b01 (decide (gM pn r a = nI b)), mst (put h 25 S') 115 r (-9) g) := by
            unfold f_X5_judged_b319
            rcases (show b = 0 ∨ b = 1 by omega) with rfl | rfl
            · rw [if_neg (by decide)]; exact ite_b01 _
            · rw [if_pos (by decide)]; exact ite_b01 _
          exact fin
        · rw [if_neg w, decide_eq_false w]; rfl
      · rw [if_pos (by rw [L2]; exact nI_le (by omega) (by omega)), decide_eq_false z]; rfl
    · rw [b01_f y, if_pos rfl, decide_eq_false y, Bool.false_and, Bool.and_false]; rfl
end
-- the row of digits
def jdF (pn : Nat → Nat) (dr : Nat → Int32) (R : Nat) : Nat → Nat → SS → Int32
  | 0, _, _ => -9
  | n + 1, k, M => if cmB pn dr (R / 1000 ^ n % 1000 / 100) (R / 1000 ^ n % 1000 / 10 % 10) (R / 1000 ^ n % 1000 % 10) M then jdF pn dr R n (k + 1) (cmS pn dr (R / 1000 ^ n % 1000 / 100) (R / 1000 ^ n % 1000 / 10 % 10) (R / 1000 ^ n % 1000 % 10) M) else nI k
section
variable {h : PH} {pn : Nat → Nat} {dr : Nat → Int32} {B : Nat}
theorem pow_1000 {n : Nat} (hn : n ≤ 3) : 1000 ^ n ≤ 1000000000 ∧ 0 < 1000 ^ n := by
  rcases (show n = 0 ∨ n = 1 ∨ n = 2 ∨ n = 3 by omega) with rfl | rfl | rfl | rfl <;> decide
theorem x_judge (z0 : I0 h pn dr) (hB : B < 2 ^ 27) {N R : Nat} (hN : N ≤ 3) (hR : R < 2 ^ 31) : ∀ (n k : Nat) (T M : SS) (r : RW), k ≤ N → N < k + n → RO pn (B + 99 * k) T r → RO pn (B + 99 * k) M r → ∃ S' : SS, f_X4_judge_b61 n (nI N) (nI R) (nI (1000 ^ (N - k))) (nI k) (put h 25 T) = some (jdF pn dr R (N - k) k M, put h 25 S') := by
  intro n
  induction n with
  | zero => intro k T M r h1 h2; omega
  | succ n ih =>
    intro k T M r h1 h2 q1 q2
    unfold f_X4_judge_b61
    by_cases h3 : k = N
    · subst h3
      rw [if_pos (nI_le (Nat.le_refl _) (by omega)), Nat.sub_self]
      exact ⟨T, rfl⟩
    · have e : N - k = (N - (k + 1)) + 1 := by omega
      obtain ⟨p1, p2⟩ := pow_1000 (n := N - k) (by omega)
      obtain ⟨p3, p4⟩ := pow_1000 (n := N - (k + 1)) (by omega)
      have ed : imx 1 (nI (1000 ^ (N - k)) / 1000) = nI (1000 ^ (N - (k + 1))) := by
        have e1000 : (1000 : Int32) = nI 1000 := rfl
        rw [e1000, pk_div (by omega) (by omega) (by omega), e, Nat.pow_succ, Nat.mul_div_cancel _ (by omega)]
        unfold imx
        by_cases z : 1 < 1000 ^ (N - (k + 1))
        · rw [if_pos (by rw [L1]; exact nI_lt z (by omega))]
        · rw [if_neg (by rw [L1]; exact nI_nlt (by omega) (by omega))]
          have : 1000 ^ (N - (k + 1)) = 1 := by omega
          rw [this]; rfl
      have e1000 : (1000 : Int32) = nI 1000 := rfl
      rw [if_neg (nI_ge (by omega) (by omega)), ed, nz_at (nI_ne0 p4 (by omega)), e1000, pk_div hR p4 (by omega), irm_nI (Nat.lt_of_le_of_lt (Nat.div_le_self _ _) hR) (by omega) (by omega), e]
      unfold jdF
      generalize hC : R / 1000 ^ (N - (k + 1)) % 1000 = C
      have hC2 : C < 1000 := by rw [← hC]; exact Nat.mod_lt _ (by omega)
      have ec : C = 100 * (C / 100) + 10 * (C / 10 % 10) + C % 10 := by omega
      have d1 : C / 100 ≤ 9 := by omega
      have d2 : C / 10 % 10 ≤ 9 := by omega
      have d3 : C % 10 ≤ 9 := by omega
      have x1 := x_obeys (d := C / 100) (a := C / 10 % 10) (b := C % 10) z0 d1 d2 d3 (by omega) q1
      rw [← ec] at x1
      have eb : cmB pn dr (C / 100) (C / 10 % 10) (C % 10) T = cmB pn dr (C / 100) (C / 10 % 10) (C % 10) M := (cmd_eq z0.1 d2 d3 (by omega) q1).trans (cmd_eq z0.1 d2 d3 (by omega) q2).symm
      rw [x1, bd_at, eb]
      cases hA : cmB pn dr (C / 100) (C / 10 % 10) (C % 10) M with
      | false => exact ⟨cmS pn dr (C / 100) (C / 10 % 10) (C % 10) T, by rw [if_pos (show b01 false = 0 from rfl), if_neg (show ¬ (false = true) by decide)]⟩
      | true =>
        have w1 := RO_cm (dr := dr) (d := C / 100) z0.1 d2 d3 (by omega) q1
        have w2 := RO_cm (dr := dr) (d := C / 100) z0.1 d2 d3 (by omega) q2
        have eB : B + 99 * k + 99 = B + 99 * (k + 1) := by omega
        rw [eB] at w1 w2
        obtain ⟨S', fin⟩ := ih (k + 1) _ _ _ (by omega) (by omega) w1 w2
        refine ⟨S', ?_⟩
        rw [if_neg (show ¬ b01 true = 0 by decide), if_pos (show (true = true) from rfl), nI_1]
        exact fin
theorem m_power {b : Nat} (hb : b ≤ 1000) : ∀ (n i : Nat) (N : Nat) (p : Nat) (H : PH), i ≤ N → N < i + n → N ≤ 20 → f_X5_power_b4 n (nI b) (nI N) (nI p) (nI i) H = some (nI (p * b ^ (N - i)), H) := by
  intro n
  induction n with
  | zero => intro i N p H h1 h2; omega
  | succ n ih =>
    intro i N p H h1 h2 h3
    unfold f_X5_power_b4
    by_cases z : i = N
    · rw [if_pos (nI_le (by omega) (by omega)), z, Nat.sub_self, Nat.pow_zero, Nat.mul_one]
    · rw [if_neg (nI_ge (by omega) (by omega)), nI_mul, nI_1, ih (i + 1) N _ _ (by omega) (by omega) h3]
      have e : N - i = (N - (i + 1)) + 1 := by omega
      rw [e, Nat.pow_succ, Nat.mul_assoc, Nat.mul_comm b]
theorem power_eq {b N : Nat} (hb : b ≤ 1000) (hN : N ≤ 20) (H : PH) : f_X5_power (nI b) (nI N) H = some (nI (b ^ N), H) := by
  unfold f_X5_power
  have := m_power hb 200 0 N 1 H (by omega) (by omega) hN
  rw [Nat.one_mul, Nat.sub_zero] at this
  exact this
theorem m_judge (z0 : I0 h pn dr) (z6 : IMisc h) (S' : SS) (g : Int32) (hB : B < 2 ^ 27) {N R : Nat} (hN : N ≤ 3) (hR : R < 2 ^ 31) : ∀ (n k : Nat) (M : SS) (r : RW), k ≤ N → N < k + n → RO pn (B + 99 * k) M r → ∃ r' : RW, f_X5_judge_b42 n (nI N) (nI R) (nI k) (mst (put h 25 S') 115 r (-9) g) = some (jdF pn dr R (N - k) k M, mst (put h 25 S') 115 r' (-9) g) := by
  intro n
  induction n with
  | zero => intro k M r h1 h2; omega
  | succ n ih =>
    intro k M r h1 h2 q
    unfold f_X5_judge_b42
    by_cases h3 : k = N
    · subst h3
      rw [if_pos (nI_le (Nat.le_refl _) (by omega)), Nat.sub_self]
      exact ⟨r, rfl⟩
    · have e : N - k = (N - (k + 1)) + 1 := by omega
      obtain ⟨p3, p4⟩ := pow_1000 (n := N - (k + 1)) (by omega)
      have ee : nI N - 1 - nI k = nI (N - (k + 1)) := by rw [nI_sub1 (by omega), nI_subI (by omega)]; congr 1; omega
      have e1000 : (1000 : Int32) = nI 1000 := rfl
      rw [if_neg (nI_ge (by omega) (by omega)), ee, e1000, power_eq (by omega) (by omega), bd_at, nz_at (nI_ne0 p4 (by omega)), pk_div hR p4 (by omega), irm_nI (Nat.lt_of_le_of_lt (Nat.div_le_self _ _) hR) (by omega) (by omega), e]
      unfold jdF
      generalize hC : R / 1000 ^ (N - (k + 1)) % 1000 = C
      have hC2 : C < 1000 := by rw [← hC]; exact Nat.mod_lt _ (by omega)
      have d1 : C / 100 ≤ 9 := by omega
      have d2 : C / 10 % 10 ≤ 9 := by omega
      have d3 : C % 10 ≤ 9 := by omega
      rw [L100, L10, pk_div (by omega) (by omega) (by omega), pk_div (by omega) (by omega) (by omega), irm_nI (by omega) (by omega) (by omega), irm_nI (by omega) (by omega) (by omega), m_judged z0 z6 S' g d1 d2 d3 (by omega) q, bd_at, ← cmd_eq z0.1 d2 d3 (by omega) q]
      cases hA : cmB pn dr (C / 100) (C / 10 % 10) (C % 10) M with
      | false => exact ⟨cmR pn dr (C / 100) (C / 10 % 10) (C % 10) r, by rw [if_pos (show b01 false = 0 from rfl), if_neg (show ¬ (false = true) by decide)]⟩
      | true =>
        have w := RO_cm (dr := dr) (d := C / 100) z0.1 d2 d3 (by omega) q
        have eB : B + 99 * k + 99 = B + 99 * (k + 1) := by omega
        rw [eB] at w
        obtain ⟨r', fin⟩ := ih (k + 1) _ _ (by omega) (by omega) w
        refine ⟨r', ?_⟩
        rw [if_neg (show ¬ b01 true = 0 by decide), if_pos (show (true = true) from rfl), nI_1]
        exact fin
theorem x_unit {N : Nat} (hN : N ≤ 3) (a : Int32) (H : PH) : ∀ (n i : Nat), i ≤ N → N < i + n → f_X4_judge_b17 n (nI N) a (nI (1000 ^ i)) (nI i) H = (if a < 0 then some ((-2), H) else if a < nI (1000 ^ N) then bd (f_X3_copyFrom 25 20 H) (fun _ h4 => f_X4_judge_b61 200 (nI N) a (nI (1000 ^ N)) 0 h4) else some ((-2), H)) := by
  intro n
  induction n with
  | zero => intro i h1 h2; omega
  | succ n ih =>
    intro i h1 h2
    unfold f_X4_judge_b17
    by_cases z : i = N
    · rw [if_pos (nI_le (by omega) (by omega)), z]
    · have e1000 : (1000 : Int32) = nI 1000 := rfl
      rw [if_neg (nI_ge (by omega) (by omega)), e1000, nI_mul, nI_1, ← Nat.pow_succ]
      exact ih (i + 1) (by omega) (by omega)
end
theorem op_judge (a c : Int32) : OP (f_X4_judge a c) (f_X5_judge a c) := by
  intro B h hB hI
  have hI0 := hI
  obtain ⟨pn, dr, z0, z1, z2, z3, z4, z5, z6, z7⟩ := hI
  unfold f_X4_judge f_X5_judge
  rw [isWithin_eq, bd_at]
  by_cases h1 : isw a 1 3 = 0
  · refine ⟨-2, h, h, by rw [if_pos h1], ?_, INV_mono (by omega) hI0⟩
    rw [in_eq, bd_at, if_pos h1]
  · obtain ⟨N, n1, n2, rfl⟩ := isw_nat (b := 1) (c := 3) (by omega) (by omega) h1
    obtain ⟨p1, p2⟩ := pow_1000 n2
    have xu := x_unit n2 c h 200 0 (by omega) (by omega)
    have e1000 : (1000 : Int32) = nI 1000 := rfl
    rw [if_neg h1]
    have m0 : ∀ H : PH, f_X5_power 1000 (nI N) H = some (nI (1000 ^ N), H) := fun H => by rw [e1000]; exact power_eq (by omega) (by omega) H
    have key : isw c 0 (nI (1000 ^ N) - 1) = 0 ↔ (c < 0 ∨ ¬ c < nI (1000 ^ N)) := by
      rw [nI_sub1 p2]
      have e0 : (0 : Int32).toInt = 0 := rfl
      constructor
      · intro z
        rcases isw_0 (m := 0) z with y | y
        · exact Or.inl y
        · right
          intro w
          rw [Int32.lt_iff_toInt_lt, nI_toInt (by omega)] at y w
          omega
      · intro z
        rcases Classical.em (isw c 0 (nI (1000 ^ N - 1)) = 0) with y | y
        · exact y
        · exfalso
          obtain ⟨n, -, y2, rfl⟩ := isw_nat (b := 0) (by omega) (by omega) y
          rcases z with z | z
          · exact nI_pos (by omega) z
          · exact z (nI_lt (by omega) (by omega))
    by_cases h2 : c < 0 ∨ ¬ c < nI (1000 ^ N)
    · refine ⟨-2, h, h, ?_, ?_, INV_mono (by omega) hI0⟩
      · refine xu.trans ?_
        rcases Classical.em (c < 0) with y | y
        · rw [if_pos y]
        · rw [if_neg y, if_neg (h2.resolve_left y)]
      · rw [in_eq, bd_at, if_neg h1, m0, bd_at, in_eq, bd_at, if_pos (key.mpr h2)]
    · have c1 : ¬ c < 0 := fun y => h2 (Or.inl y)
      have c2 : c < nI (1000 ^ N) := Classical.byContradiction fun y => h2 (Or.inr y)
      obtain ⟨R, hR, rfl⟩ := nI_of c1
      obtain ⟨T, x1, hT⟩ := x_try z0 z1 (vw h 25)
      rw [put_vw] at x1
      obtain ⟨S', x2⟩ := x_judge z0 (by omega) n2 hR 200 0 T (vw h 20) (h.1 114) (by omega) (by omega) hT z1
      rw [Nat.sub_zero] at x2
      obtain ⟨r0, g, e0⟩ := as_t z6 S'
      obtain ⟨r1, m1, hr1⟩ := m_try (h := h) S' r0 (-9) g
      rw [← e0] at m1
      obtain ⟨r', m2⟩ := m_judge z0 z6 S' g (by omega) n2 hR 200 0 (vw h 20) r1 (by omega) (by omega) (RO_lk z0.1 hr1 z1)
      rw [Nat.sub_zero] at m2
      refine ⟨jdF pn dr R N 0 (vw h 20), put h 25 S', _, ?_, ?_, INV_t2 hI0 S' r' g⟩
      · refine xu.trans ?_
        rw [if_neg c1, if_pos c2, x1, bd_at]
        exact x2
      · rw [in_eq, bd_at, if_neg h1, m0, bd_at, in_eq, bd_at, if_neg (fun y => h2 (key.mp y)), m1, bd_at]
        exact m2
