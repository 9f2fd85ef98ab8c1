-- chance: the sum over the sets of jams
def chN (P N x : Nat) : Nat → Nat → Nat → Nat
  | 0, _, s => s
  | n + 1, i, s => chN P N x n (i + 1) (if i &&& P = 0 then s + x ^ pc i * (10 - x) ^ (N - pc i) else s)
theorem ch_t : ∀ N, N < 7 → ∀ P, P < 2 ^ N → ∀ x, x < 11 → chN P N x (2 ^ N) 0 0 = 10 ^ (N - pc P) * (10 - x) ^ pc P := by decide +kernel
section
variable {h : PH} {pn : Nat → Nat} {dr : Nat → Int32} {B : Nat}
theorem m_chance (z0 : I0 h pn dr) (z6 : IMisc h) (S0 : SS) (g : Int32) {N x : Nat} (hN : N ≤ 6) (hx : x ≤ 10) (up : Int32) (hB : B < 2 ^ 27) {T : SS} (hT : RO pn B T (h.1 114)) : ∀ (f i s : Nat) (r0 : RW), i ≤ 2 ^ N → 2 ^ N < i + f → ∃ r' : RW, f_X5_chance_b29 f (nI N) (nI x) up (nI s) (nI i) (mst (put h 25 S0) 115 r0 (-9) g) = f_X5_fraction (nI (if cAdv pn dr N T 0 10 = 0 then chN (pC pn dr N T) N x (2 ^ N - i) i s else s)) (nI (10 ^ N)) up (mst (put h 25 S0) 115 r' (-9) g) := by
  obtain ⟨p1, p2, p3⟩ := p6_t N (by omega)
  have X := mc_t z0 z6 S0
  intro f
  induction f with
  | zero => intro i s r0 h1 h2; omega
  | succ f ih =>
    intro i s r0 h1 h2
    unfold f_X5_chance_b29
    rw [p1]
    by_cases h3 : i = 2 ^ N
    · subst h3
      refine ⟨r0, ?_⟩
      rw [if_pos (nI_le (Nat.le_refl _) (by omega)), L10, power_eq (by omega) (by omega), bd_at, Nat.sub_self]
      show bd _ _ = f_X5_fraction (nI (if cAdv pn dr N T 0 10 = 0 then s else s)) _ _ _
      rw [ite_self]
      exact bd_id
    · have e : 2 ^ N - i = (2 ^ N - (i + 1)) + 1 := by omega
      rw [if_neg (nI_ge (by omega) (by omega)), e]
      obtain ⟨r1, m1, hr1⟩ := m_try (h := h) S0 r0 (-9) g
      have hT1 : RO pn B T r1 := RO_cg z0.1 hT (fun _ _ => rfl) hr1
      obtain ⟨r2, m2, m3⟩ := m_chance1 z0 z6 S0 g hN (s := i) (by omega) (f_X5_chance_b29 f) (nI x) up (nI s) 200 0 B T r1 (by omega) (by omega) (by omega) hT1
      rw [Nat.sub_zero, Nat.pow_zero, Nat.div_one] at m3
      have hpc := pc_n N (by omega) i (by omega) (by omega)
      rw [← L0] at m2
      rw [m1, bd_at, m2]
      unfold f_X5_chance_b107
      rw [X.r _ _ _ 70 L70 (by decide)]
      by_cases h4 : r2 70 = 0
      · obtain ⟨a1, a2⟩ := m3.mp h4
        obtain ⟨r', q⟩ := ih (i + 1) (s + x ^ pc i * (10 - x) ^ (N - pc i)) r2 (by omega) (by omega)
        refine ⟨r', ?_⟩
        have e1 : (10 : Int32) - nI x = nI (10 - x) := by rw [L10, nI_subI hx]
        rw [if_pos h4, on_eq (by omega), bd_at, power_eq (by omega) (by omega), bd_at, on_eq (by omega), bd_at, e1, nI_subI hpc, power_eq (by omega) (by omega), bd_at, nI_mul, nI_add, nI_1, q, if_pos a1, if_pos a1]
        conv => rhs; unfold chN
        rw [if_pos a2]
      · obtain ⟨r', q⟩ := ih (i + 1) s r2 (by omega) (by omega)
        refine ⟨r', ?_⟩
        rw [if_neg h4, Int32.add_zero, nI_1, q]
        by_cases a1 : cAdv pn dr N T 0 10 = 0
        · rw [if_pos a1, if_pos a1]
          conv => rhs; unfold chN
          rw [if_neg (fun z => h4 (m3.mpr ⟨a1, z⟩))]
        · rw [if_neg a1, if_neg a1]
end
theorem iab_nI {A : Nat} (hA : A < 2 ^ 31) : iab (nI A) = nI A := by
  unfold iab
  rw [if_pos (nI_pos' hA)]
theorem frE_k {k a d : Nat} (hk : 0 < k) (hd : 0 < d) (h1 : k * a < 2 ^ 31) (h2 : k * d < 2 ^ 31) (up : Int32) : frE (nI (k * a)) (k * a) (k * d) up = frE (nI a) a d up := by
  have g1 := gcd_bd (A := a) hd
  have hka : a ≤ k * a := Nat.le_mul_of_pos_left a hk
  have hkd : d ≤ k * d := Nat.le_mul_of_pos_left d hk
  have g2 : k * Nat.gcd a d ≤ k * d := Nat.mul_le_mul_left k g1.2
  have g3 : 0 < k * Nat.gcd a d := Nat.mul_pos hk g1.1
  unfold frE
  rw [Nat.gcd_mul_left]
  split
  · rw [pk_div h2 g3 (by omega), pk_div (by omega) g1.1 (by omega), Nat.mul_div_mul_left _ _ hk]
  · rw [pk_div h1 g3 (by omega), pk_div (by omega) g1.1 (by omega), Nat.mul_div_mul_left _ _ hk]
theorem op_chance (a b up : Int32) : OP (f_X4_chance a b up) (f_X5_chance a b up) := by
  intro B h hB hI
  have hI0 := hI
  obtain ⟨pn, dr, z0, z1, z2, z3, z4, z5, z6, z7⟩ := hI
  unfold f_X4_chance f_X5_chance
  rw [isWithin_eq, bd_at]
  by_cases h1 : isw a 1 6 = 0
  · refine ⟨-2, h, h, by rw [if_pos h1], ?_, INV_mono (by omega) hI0⟩
    rw [in_eq, bd_at, if_pos h1]
  · rw [if_neg h1, isWithin_eq, bd_at]
    by_cases h2 : isw b 0 10 = 0
    · refine ⟨-2, h, h, by rw [if_pos h2], ?_, INV_mono (by omega) hI0⟩
      rw [in_eq, bd_at, if_neg h1, in_eq, bd_at, if_pos h2]
    · obtain ⟨N, n1, n2, rfl⟩ := isw_nat (b := 1) (c := 6) (by omega) (by omega) h1
      obtain ⟨x, -, x2, rfl⟩ := isw_nat (b := 0) (c := 10) (by omega) (by omega) h2
      obtain ⟨T, y1, hT⟩ := x_try z0 z1 (vw h 25)
      rw [put_vw] at y1
      have y2 := x_chance (dr := dr) z0 (N := N) (x := x) (by omega) (by omega) up 200 0 B T (h.1 114) 1 1 (by omega) (by omega) (by omega) hT
      rw [Nat.sub_zero, Int32.one_mul, Int32.one_mul] at y2
      obtain ⟨r0, g, e0⟩ := as_t z6 (cAdv pn dr N T)
      obtain ⟨p1, p2, p3⟩ := p6_t N (by omega)
      obtain ⟨r', m1⟩ := m_chance (dr := dr) z0 z6 (cAdv pn dr N T) g (N := N) (x := x) (by omega) (by omega) up hB hT 200 0 0 r0 (Nat.zero_le _) (by omega)
      rw [← e0, Nat.sub_zero] at m1
      have hP := pC_lt (pn := pn) (dr := dr) N T
      have hpc := pc_n N (by omega) (pC pn dr N T) (by omega) hP
      have hs := ch_t N (by omega) (pC pn dr N T) hP x (by omega)
      rw [hs] at m1
      -- the two fractions are one
      have hk : 0 < 10 ^ (N - pc (pC pn dr N T)) := Nat.pow_pos (by omega)
      have hd : 0 < 10 ^ pc (pC pn dr N T) := Nat.pow_pos (by omega)
      have ekd : 10 ^ (N - pc (pC pn dr N T)) * 10 ^ pc (pC pn dr N T) = 10 ^ N := by
        rw [← Nat.pow_add]
        congr 1
        omega
      have hle : (10 - x) ^ pc (pC pn dr N T) ≤ 10 ^ pc (pC pn dr N T) := Nat.pow_le_pow_left (by omega) _
      have hle2 : 10 ^ (N - pc (pC pn dr N T)) * (10 - x) ^ pc (pC pn dr N T) ≤ 10 ^ N := by
        rw [← ekd]
        exact Nat.mul_le_mul_left _ hle
      have hdl : 10 ^ pc (pC pn dr N T) ≤ 10 ^ N := by
        rw [← ekd]
        exact Nat.le_mul_of_pos_left _ hk
      have eA : (put h 25 (cAdv pn dr N T)).1 25 10 = cAdv pn dr N T 0 10 := by rw [put_0]
      by_cases c : cAdv pn dr N T 0 10 = 0
      · refine ⟨frE (nI ((10 - x) ^ pc (pC pn dr N T))) ((10 - x) ^ pc (pC pn dr N T)) (10 ^ pc (pC pn dr N T)) up, put h 25 (cAdv pn dr N T), mst (put h 25 (cAdv pn dr N T)) 115 r' (-9) g, ?_, ?_, INV_t2 hI0 (cAdv pn dr N T) r' g⟩
        · rw [if_neg h2, y1, bd_at]
          refine y2.trans ?_
          unfold f_X4_chance_b127
          rw [eA, if_pos c, bd_id]
          exact partOf_eq (iab_nI (by omega)) (by omega) hd (by omega) up _
        · rw [in_eq, bd_at, if_neg h1, in_eq, bd_at, if_neg h2]
          refine m1.trans ?_
          rw [if_pos c, fraction_eq (iab_nI (A := 10 ^ (N - pc (pC pn dr N T)) * (10 - x) ^ pc (pC pn dr N T)) (by omega)) (by omega) (by omega) p3 up _, ← ekd, frE_k hk hd (by omega) (by omega)]
      · refine ⟨frE (nI 0) 0 (10 ^ pc (pC pn dr N T)) up, put h 25 (cAdv pn dr N T), mst (put h 25 (cAdv pn dr N T)) 115 r' (-9) g, ?_, ?_, INV_t2 hI0 (cAdv pn dr N T) r' g⟩
        · rw [if_neg h2, y1, bd_at]
          refine y2.trans ?_
          unfold f_X4_chance_b127
          rw [eA, if_neg c, bd_id]
          exact partOf_eq (a := nI 0) (iab_nI (by omega)) (by omega) hd (by omega) up _
        · rw [in_eq, bd_at, if_neg h1, in_eq, bd_at, if_neg h2]
          refine m1.trans ?_
          have := frE_k (a := 0) hk hd (by omega) (by omega) up
          rw [Nat.mul_zero, ekd] at this
          rw [if_neg c, fraction_eq (iab_nI (A := 0) (by omega)) (by omega) (by omega) p3 up _, this]
