-- a fraction in lowest terms
theorem gcd_step (A D : Nat) : Nat.gcd A D = Nat.gcd D (A % D) := by
  rw [Nat.gcd_comm A D, Nat.gcd_rec D A, Nat.gcd_comm]
theorem mod_half {m D k : Nat} (h0 : 0 < m) (h1 : m < D) (h2 : D < 2 ^ (k + 1)) : D % m < 2 ^ k := by
  have h3 : 2 ^ (k + 1) = 2 * 2 ^ k := by rw [Nat.pow_succ, Nat.mul_comm]
  by_cases q : 2 * m ≤ D
  · have := Nat.mod_lt D h0
    omega
  · have e : D % m = D - m := by
      rw [Nat.mod_eq_sub_mod (by omega), Nat.mod_eq_of_lt (by omega)]
    omega
theorem nI_nz {a : Nat} (h0 : 0 < a) (h : a < 2 ^ 31) : ¬ nI a = 0 := by
  intro q
  have := nI_lt h0 h
  rw [q] at this
  exact absurd this (by decide)
theorem cd_eq (h : PH) : ∀ (k i f A D : Nat), D < 2 ^ k → i + 2 * k ≤ 50 → 2 * k < f → A < 2 ^ 31 → D < 2 ^ 31 → f_X4_commonDivisor_b2 f (nI A) (nI D) (nI i) h = some (nI (Nat.gcd A D), h) := by
  have z : ∀ (f i A : Nat), 0 < f → f_X4_commonDivisor_b2 f (nI A) (nI 0) (nI i) h = some (nI (Nat.gcd A 0), h) := by
    intro f i A hf
    obtain ⟨f', rfl⟩ : ∃ f', f = f' + 1 := ⟨f - 1, by omega⟩
    unfold f_X4_commonDivisor_b2
    rw [Nat.gcd_zero_right, if_pos (c := nI 0 = 0) rfl, ite_self]
  intro k
  induction k with
  | zero =>
    intro i f A D h1 h2 h3 h4 h5
    have : D = 0 := by omega
    subst this
    exact z f i A h3
  | succ k ih =>
    intro i f A D h1 h2 h3 h4 h5
    by_cases q : D = 0
    · subst q
      exact z f i A (by omega)
    · obtain ⟨f', rfl⟩ : ∃ f', f = f' + 2 := ⟨f - 2, by omega⟩
      unfold f_X4_commonDivisor_b2
      rw [L50, if_neg (nI_ge (by omega) (by omega)), if_neg (nI_nz (by omega) h5), nz_at (nI_nz (by omega) h5), irm_nI h4 (by omega) h5, gcd_step, nI_1]
      have hm := Nat.mod_lt A (show 0 < D by omega)
      by_cases q2 : A % D = 0
      · rw [q2]
        exact z _ _ _ (by omega)
      · unfold f_X4_commonDivisor_b2
        rw [L50, if_neg (nI_ge (by omega) (by omega)), if_neg (nI_nz (by omega) (by omega)), nz_at (nI_nz (by omega) (by omega)), irm_nI h5 (by omega) (by omega), gcd_step, nI_1]
        have := mod_half (k := k) (by omega) hm h1
        have h8 := Nat.mod_lt D (show 0 < A % D by omega)
        exact ih _ _ _ _ this (by omega) (by omega) (by omega) (by omega)
theorem frl_eq (h : PH) (v0 v1 v2 : Int32) : ∀ (k f A D : Nat), D < 2 ^ k → 2 * k < f → A < 2 ^ 31 → D < 2 ^ 31 → f_X5_fraction_b14 f v0 v1 v2 (nI A) (nI D) h = if v2 = 0 then nz (nI (Nat.gcd A D)) (some (v1 / nI (Nat.gcd A D), h)) else nz (nI (Nat.gcd A D)) (some (v0 / nI (Nat.gcd A D), h)) := by
  have z : ∀ (f A : Nat), 0 < f → f_X5_fraction_b14 f v0 v1 v2 (nI A) (nI 0) h = if v2 = 0 then nz (nI (Nat.gcd A 0)) (some (v1 / nI (Nat.gcd A 0), h)) else nz (nI (Nat.gcd A 0)) (some (v0 / nI (Nat.gcd A 0), h)) := by
    intro f A hf
    obtain ⟨f', rfl⟩ : ∃ f', f = f' + 1 := ⟨f - 1, by omega⟩
    unfold f_X5_fraction_b14
    rw [Nat.gcd_zero_right, if_pos (c := nI 0 = 0) rfl]
  intro k
  induction k with
  | zero =>
    intro f A D h1 h3 h4 h5
    have : D = 0 := by omega
    subst this
    exact z f A h3
  | succ k ih =>
    intro f A D h1 h3 h4 h5
    by_cases q : D = 0
    · subst q
      exact z f A (by omega)
    · obtain ⟨f', rfl⟩ : ∃ f', f = f' + 2 := ⟨f - 2, by omega⟩
      unfold f_X5_fraction_b14
      rw [if_neg (nI_nz (by omega) h5), nz_at (nI_nz (by omega) h5), irm_nI h4 (by omega) h5, gcd_step A D]
      have hm := Nat.mod_lt A (show 0 < D by omega)
      by_cases q2 : A % D = 0
      · rw [q2]
        exact z _ _ (by omega)
      · unfold f_X5_fraction_b14
        rw [if_neg (nI_nz (by omega) (by omega)), nz_at (nI_nz (by omega) (by omega)), irm_nI h5 (by omega) (by omega), gcd_step D (A % D)]
        have := mod_half (k := k) (by omega) hm h1
        have h8 := Nat.mod_lt D (show 0 < A % D by omega)
        exact ih _ _ _ this (by omega) (by omega) (by omega)
def frE (a : Int32) (A D : Nat) (up : Int32) : Int32 := if up = 0 then nI D / nI (Nat.gcd A D) else a / nI (Nat.gcd A D)
theorem gcd_bd {A D : Nat} (h : 0 < D) : 0 < Nat.gcd A D ∧ Nat.gcd A D ≤ D := ⟨Nat.gcd_pos_of_pos_right A h, Nat.gcd_le_right A h⟩
theorem partOf_eq {a : Int32} {A D : Nat} (hA : iab a = nI A) (hA2 : A < 2 ^ 31) (h0 : 0 < D) (h1 : D < 2 ^ 20) (up : Int32) (h : PH) : f_X4_partOf a (nI D) up h = some (frE a A D up, h) := by
  have hg := gcd_bd (A := A) h0
  have e : imx (1 : Int32) (nI (Nat.gcd A D)) = nI (Nat.gcd A D) := by
    unfold imx
    by_cases q : Nat.gcd A D = 1
    · rw [q]; rfl
    · rw [if_pos]
      rw [L1]
      exact nI_lt (by omega) (by omega)
  unfold f_X4_partOf f_X4_commonDivisor
  rw [hA, L0, cd_eq h 20 0 200 A D h1 (by omega) (by omega) hA2 (by omega), bd_at, e, nz_at (nI_nz hg.1 (by omega)), nz_at (nI_nz hg.1 (by omega))]
  unfold frE
  by_cases q : up = 0
  · rw [if_pos (by rw [q]; rfl), if_pos q]
  · rw [if_neg (by rw [← L0]; exact q), if_neg q]
theorem fraction_eq {a : Int32} {A D : Nat} (hA : iab a = nI A) (hA2 : A < 2 ^ 31) (h0 : 0 < D) (h1 : D < 2 ^ 20) (up : Int32) (h : PH) : f_X5_fraction a (nI D) up h = some (frE a A D up, h) := by
  have hg := gcd_bd (A := A) h0
  have key : f_X5_fraction_b14 200 a (nI D) up (nI A) (nI D) h = some (frE a A D up, h) := by
    rw [frl_eq h _ _ _ 20 200 A D h1 (by omega) hA2 (by omega), nz_at (nI_nz hg.1 (by omega)), nz_at (nI_nz hg.1 (by omega))]
    unfold frE
    by_cases q : up = 0
    · rw [if_pos q, if_pos q]
    · rw [if_neg q, if_neg q]
  unfold f_X5_fraction
  unfold iab at hA
  by_cases q : 0 ≤ a
  · rw [if_pos q] at hA ⊢
    rw [← hA] at key
    exact key
  · rw [if_neg q] at hA ⊢
    rw [← hA] at key
    have e : 0 - a = -a := by rw [Int32.zero_sub]
    rw [e] at key
    exact key
