-- chance: the ways in which the pusher is free whenever it pushes
def pC (pn : Nat → Nat) (dr : Nat → Int32) : Nat → SS → Nat
  | 0, _ => 0
  | k + 1, S => if S 0 10 = 0 then (if cAdv pn dr 1 S 0 14 + cAdv pn dr 1 S 0 15 ≤ S 0 14 + S 0 15 then 0 else 1) + 2 * pC pn dr k (cAdv pn dr 1 S) else 0
theorem pc_2 : ∀ m, m < 32 → pc (0 + 2 * m) = pc m ∧ pc (1 + 2 * m) = pc m + 1 := by decide +kernel
theorem pc_n : ∀ N, N < 7 → ∀ i, i < 64 → i < 2 ^ N → pc i ≤ N := by decide +kernel
theorem an_t : ∀ s, s < 64 → ∀ m, m < 32 → ((s &&& (0 + 2 * m)) = 0 ↔ (s / 2 &&& m) = 0) ∧ ((s &&& (1 + 2 * m)) = 0 ↔ s % 2 = 0 ∧ (s / 2 &&& m) = 0) := by decide +kernel
theorem onb_t : ∀ s, s < 64 → ∀ i, i < 6 → (onM (nI s) i = 0 ↔ s / 2 ^ i % 2 = 0) := by decide +kernel
theorem p6_t : ∀ N, N < 7 → ((1 : Int32) <<< (nI N &&& 31)) = nI (2 ^ N) ∧ 2 ^ N ≤ 64 ∧ 10 ^ N < 2 ^ 20 := by decide +kernel
section
variable {pn : Nat → Nat} {dr : Nat → Int32}
theorem pC_lt : ∀ (k : Nat) (S : SS), pC pn dr k S < 2 ^ k := by
  intro k
  induction k with
  | zero => intro S; exact Nat.one_pos
  | succ k ih =>
    intro S
    have := ih (cAdv pn dr 1 S)
    have e : 2 ^ (k + 1) = 2 * 2 ^ k := by rw [Nat.pow_succ, Nat.mul_comm]
    unfold pC
    split
    · split
      · omega
      · omega
    · omega
theorem cAdv_s (k : Nat) {S : SS} (h : S 0 10 = 0) : cAdv pn dr (k + 1) S = cAdv pn dr k (cAdv pn dr 1 S) := by
  have e : cAdv pn dr 1 S = cStp pn (cPre pn dr S) := by
    unfold cAdv
    rw [if_pos h]
    rfl
  rw [e]
  conv => lhs; unfold cAdv
  rw [if_pos h]
theorem cAdv_a {S : SS} (h : ¬ S 0 10 = 0) : ∀ k, cAdv pn dr k S = S := by
  intro k
  cases k with
  | zero => rfl
  | succ k =>
    unfold cAdv
    rw [if_neg h]
variable {B : Nat}
/-- one step: whether it pushes, and what a jam does -/
theorem ch_step (hN : PN pn) {S : SS} {r : RW} (q : RO pn B S r) (hB : B < 2 ^ 28) (h3 : r 70 = 0) : RO pn (B + 1) (cAdv pn dr 1 S) (mStp pn (jm r) (mPre pn dr 15 r)) ∧ (cAdv pn dr 1 S 0 14 + cAdv pn dr 1 S 0 15 ≤ S 0 14 + S 0 15 → mStp pn 1 (mPre pn dr 15 r) = mStp pn (jm r) (mPre pn dr 15 r)) ∧ (¬ cAdv pn dr 1 S 0 14 + cAdv pn dr 1 S 0 15 ≤ S 0 14 + S 0 15 → mStp pn 1 (mPre pn dr 15 r) 70 = 1) := by
  have hst := hN.2.1
  have hcl := hN.1
  have hV := hN.2.2.2.2.2
  have hO := oc_0 hN q.2
  have w2 := adv_ro (dr := dr) hN 1 (by omega) q
  have ea := mAdv_1 (pn := pn) (dr := dr) (cm := 15) h3
  rw [ea] at w2
  obtain ⟨v, hv, -, -, -, v4⟩ := vcd_ok (dr := dr) hN hO q.1 (by omega)
  have p74 : mPre pn dr 15 r 74 = r 74 := mPre_hi hN (by omega) (by omega) (by omega) (by omega) (by omega)
  have p75 : mPre pn dr 15 r 75 = r 75 := mPre_hi hN (by omega) (by omega) (by omega) (by omega) (by omega)
  have m14 : S 0 14 = r 74 := q.1.2.2.2.1.1.2.2.2.2.2.2.2.1
  have m15 : S 0 15 = r 75 := q.1.2.2.2.1.1.2.2.2.2.2.2.2.2.1
  have a14 : cAdv pn dr 1 S 0 14 = mStp pn (jm r) (mPre pn dr 15 r) 74 := w2.1.2.2.2.1.1.2.2.2.2.2.2.2.1
  have a15 : cAdv pn dr 1 S 0 15 = mStp pn (jm r) (mPre pn dr 15 r) 75 := w2.1.2.2.2.1.1.2.2.2.2.2.2.2.2.1
  obtain ⟨x74, x741, x742⟩ := q.1.2.2.2.1.2.2.2.2.2.2.1
  obtain ⟨x75, x751, x752⟩ := q.1.2.2.2.1.2.2.2.2.2.2.2
  obtain ⟨s74, s75⟩ := mStp_74 (r := mPre pn dr 15 r) (j := jm r) hN
  rw [p74] at s74
  rw [p75] at s75
  refine ⟨w2, ?_⟩
  rw [a14, a15, m14, m15, s74, s75, x742, x752]
  by_cases c1 : mPre pn dr 15 r (54 + pn 5) = 0
  · rw [if_neg (fun z => z.1 c1), if_neg (fun z => z.1 c1)]
    refine ⟨fun _ => ?_, fun z => absurd (Int32.le_refl _) z⟩
    unfold mStp mPs
    rw [if_pos c1, if_pos c1]
  · by_cases c2 : mPre pn dr 15 r (pn 5) = 0
    · rw [if_neg (fun z => z.2.1 c2), if_neg (fun z => z.2.1 c2)]
      refine ⟨fun _ => ?_, fun z => absurd (Int32.le_refl _) z⟩
      unfold mStp mPs
      rw [if_neg c1, if_pos c2, if_neg c1, if_pos c2]
    · by_cases c3 : jm r = 0
      · have P : ¬ mPre pn dr 15 r (54 + pn 5) = 0 ∧ ¬ mPre pn dr 15 r (pn 5) = 0 ∧ jm r = 0 := ⟨c1, c2, c3⟩
        rw [if_pos P, if_pos P]
        have n : ¬ (if mPre pn dr 15 r (54 + pn 5) = 1 then nI x74 + 1 else nI x74) + (if mPre pn dr 15 r (54 + pn 5) = 1 then nI x75 else nI x75 + 1) ≤ nI x74 + nI x75 := by
          split
          · rw [nI_1, nI_add, nI_add]
            exact nI_ge (by omega) (by omega)
          · rw [nI_1, nI_add, nI_add]
            exact nI_ge (by omega) (by omega)
        refine ⟨fun z => absurd z n, fun _ => ?_⟩
        unfold mStp mPs
        rw [if_neg c1, if_neg c2, if_neg (by decide), upd_ne _ _ (by omega), upd_at]
      · rw [if_neg (fun z => c3 z.2.2), if_neg (fun z => c3 z.2.2)]
        have e : jm r = 1 := by
          unfold jm at c3 ⊢
          split
          · rfl
          · rename_i z; rw [if_neg z] at c3; exact absurd rfl c3
        rw [e]
        exact ⟨fun _ => rfl, fun z => absurd (Int32.le_refl _) z⟩
variable {h : PH}
theorem x_chance (z0 : I0 h pn dr) {N x : Nat} (hN : N ≤ 6) (hx : x ≤ 10) (up : Int32) : ∀ (f i B : Nat) (S : SS) (r : RW) (v4 v5 : Int32), i ≤ N → N < i + f → B + N < 2 ^ 27 + i + 6 → RO pn B S r → f_X4_chance_b43 f (nI N) (nI x) up v4 v5 (nI i) (put h 25 S) = f_X4_chance_b127 up (v4 * nI ((10 - x) ^ pc (pC pn dr (N - i) S))) (v5 * nI (10 ^ pc (pC pn dr (N - i) S))) (put h 25 (cAdv pn dr (N - i) S)) := by
  have mul1 : ∀ y : Int32, y * nI 1 = y := fun y => by rw [← L1, Int32.mul_one]
  intro f
  induction f with
  | zero => intro i B S r v4 v5 h1 h2; omega
  | succ f ih =>
    intro i B S r v4 v5 h1 h2 hB q
    unfold f_X4_chance_b43
    by_cases h3 : i = N
    · subst h3
      rw [if_pos (nI_le (Nat.le_refl _) (by omega)), Nat.sub_self]
      show _ = f_X4_chance_b127 up (v4 * nI ((10 - x) ^ pc 0)) (v5 * nI (10 ^ pc 0)) _
      have e0 : pc 0 = 0 := rfl
      rw [e0, Nat.pow_zero, Nat.pow_zero, mul1, mul1]
      rfl
    · rw [if_neg (nI_ge (by omega) (by omega)), put_0]
      have e : N - i = (N - (i + 1)) + 1 := by omega
      have e10 : S 0 10 = r 70 := q.1.2.2.2.1.1.2.2.2.1
      rw [e]
      by_cases h4 : S 0 10 = 0
      · obtain ⟨s1, -, -⟩ := ch_step (dr := dr) z0.1 q (by omega) (e10.symm.trans h4)
        have hlt : pC pn dr (N - (i + 1)) (cAdv pn dr 1 S) < 32 := Nat.lt_of_lt_of_le (pC_lt _ _) (Nat.le_trans (Nat.pow_le_pow_right (by omega) (show N - (i + 1) ≤ 5 by omega)) (by decide))
        have p2 := pc_2 _ hlt
        rw [if_pos h4, L1, x_adv_t z0 (by omega) (by omega) q, bd_at, put_0, cAdv_s (N - (i + 1)) h4]
        unfold pC
        rw [if_pos h4]
        by_cases h5 : cAdv pn dr 1 S 0 14 + cAdv pn dr 1 S 0 15 ≤ S 0 14 + S 0 15
        · rw [if_pos h5, if_pos h5, p2.1, ← L1, nI_1]
          exact ih (i + 1) (B + 1) _ _ v4 v5 (by omega) (by omega) (by omega) s1
        · rw [if_neg h5, if_neg h5, p2.2, ← L1, nI_1, ih (i + 1) (B + 1) _ _ _ _ (by omega) (by omega) (by omega) s1]
          have e1 : (10 : Int32) - nI x = nI (10 - x) := by rw [L10, nI_subI hx]
          rw [e1, L10, Int32.mul_assoc, Int32.mul_assoc, nI_mul, nI_mul, Nat.pow_succ, Nat.pow_succ, Nat.mul_comm (10 - x), Nat.mul_comm 10]
      · rw [if_neg h4]
        unfold pC
        rw [if_neg h4, cAdv_a h4]
        have e0 : pc 0 = 0 := rfl
        rw [e0, Nat.pow_zero, Nat.pow_zero, mul1, mul1]
/-- one set of jams: whether there is an alarm at its end -/
theorem m_chance1 (z0 : I0 h pn dr) (z6 : IMisc h) (S0 : SS) (g : Int32) {N s : Nat} (hN : N ≤ 6) (hs : s < 64) (rec : Int32 → Int32 → Int32 → Int32 → Int32 → PH → Option (Int32 × PH)) (x up sum : Int32) : ∀ (f i B : Nat) (S : SS) (r : RW), i ≤ N → N < i + f → B + N < 2 ^ 27 + i + 6 → RO pn B S r → ∃ r' : RW, f_X5_chance_b51 rec f (nI N) x up sum (nI s) (nI i) (mst (put h 25 S0) 115 r (-9) g) = f_X5_chance_b107 rec (nI N) x up sum (nI s) (mst (put h 25 S0) 115 r' (-9) g) ∧ (r' 70 = 0 ↔ cAdv pn dr (N - i) S 0 10 = 0 ∧ (s / 2 ^ i &&& pC pn dr (N - i) S) = 0) := by
  have X := mc_t z0 z6 S0
  intro f
  induction f with
  | zero => intro i B S r h1 h2; omega
  | succ f ih =>
    intro i B S r h1 h2 hB q
    have e10 : S 0 10 = r 70 := q.1.2.2.2.1.1.2.2.2.1
    have hO := oc_0 z0.1 q.2
    unfold f_X5_chance_b51
    by_cases h3 : i = N
    · subst h3
      refine ⟨r, by rw [if_pos (nI_le (Nat.le_refl _) (by omega))], ?_⟩
      rw [Nat.sub_self]
      show r 70 = 0 ↔ S 0 10 = 0 ∧ (_ &&& 0) = 0
      rw [e10, Nat.and_zero]
      exact ⟨fun z => ⟨z, rfl⟩, fun z => z.1⟩
    · rw [if_neg (nI_ge (by omega) (by omega)), X.r _ _ _ 70 L70 (by decide)]
      have e : N - i = (N - (i + 1)) + 1 := by omega
      by_cases h4 : r 70 = 0
      · have h4' : S 0 10 = 0 := e10.trans h4
        obtain ⟨s1, s2, s3⟩ := ch_step (dr := dr) z0.1 q (by omega) h4
        have hlt : pC pn dr (N - (i + 1)) (cAdv pn dr 1 S) < 32 := Nat.lt_of_lt_of_le (pC_lt _ _) (Nat.le_trans (Nat.pow_le_pow_right (by omega) (show N - (i + 1) ≤ 5 by omega)) (by decide))
        have hq : s / 2 ^ i < 64 := Nat.lt_of_le_of_lt (Nat.div_le_self _ _) hs
        obtain ⟨n1, n2⟩ := an_t _ hq _ hlt
        have e2 : s / 2 ^ i / 2 = s / 2 ^ (i + 1) := by rw [Nat.div_div_eq_div_mul, Nat.pow_succ]
        rw [e2] at n1 n2
        have key : ∀ j : Int32, bd (f_X5_stepBy 115 j (mst (put h 25 S0) 115 r (-9) g)) (fun _ h6 => f_X5_chance_b51 rec f (nI N) x up sum (nI s) (nI i + 1) h6) = f_X5_chance_b51 rec f (nI N) x up sum (nI s) (nI (i + 1)) (mst (put h 25 S0) 115 (mStp pn j (mPre pn dr 15 r)) (-9) g) := by
          intro j
          rw [m_step X hO q.1 (by omega), bd_at, wS_m9 z0.1, gS_m9 z0.1, nI_1]
        obtain ⟨r', k1, k2⟩ := ih (i + 1) (B + 1) _ _ (by omega) (by omega) (by omega) s1
        have hb := onb_t s hs i (by omega)
        rw [e, cAdv_s (N - (i + 1)) h4']
        unfold pC
        rw [if_pos h4', if_pos h4, has5_eq, bd_at]
        by_cases h5 : onM (nI s) i = 0
        · rw [if_pos h5, X.r _ _ _ 69 L69 (by decide)]
          refine ⟨r', ?_, ?_⟩
          · rw [← k1]
            unfold jm
            by_cases h6 : r 69 = 1
            · rw [if_pos h6, if_pos h6, key]
            · rw [if_neg h6, if_neg h6, key]
          · rw [k2]
            have z := hb.mp h5
            split
            · rw [n1]
            · rw [n2]
              exact ⟨fun y => ⟨y.1, z, y.2⟩, fun y => ⟨y.1, y.2.2⟩⟩
        · rw [if_neg h5, key]
          by_cases h6 : cAdv pn dr 1 S 0 14 + cAdv pn dr 1 S 0 15 ≤ S 0 14 + S 0 15
          · rw [s2 h6, k1, if_pos h6, n1]
            exact ⟨r', rfl, k2⟩
          · rw [if_neg h6, n2]
            have al := s3 h6
            have n70 : ¬ mStp pn 1 (mPre pn dr 15 r) 70 = 0 := by rw [al]; decide
            refine ⟨mStp pn 1 (mPre pn dr 15 r), ?_, fun y => absurd y n70, fun y => absurd (hb.mpr y.2.1) h5⟩
            obtain ⟨f', rfl⟩ : ∃ f', f = f' + 1 := ⟨f - 1, by omega⟩
            conv => lhs; unfold f_X5_chance_b51
            by_cases h7 : i + 1 = N
            · rw [if_pos (nI_le (by omega) (by omega))]
            · rw [if_neg (nI_ge (by omega) (by omega)), X.r _ _ _ 70 L70 (by decide), if_neg n70]
      · rw [if_neg h4]
        refine ⟨r, rfl, ?_⟩
        have h4' : ¬ S 0 10 = 0 := by rw [e10]; exact h4
        rw [cAdv_a h4']
        exact ⟨fun y => absurd y h4, fun y => absurd y.1 h4'⟩
end
