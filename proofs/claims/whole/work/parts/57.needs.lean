-- needs
def ndF (val : Nat → Int32) : Nat → Nat → Int32
  | 0, i => nI i
  | n + 1, i => if val i = val 40 then nI i else ndF val n (i + 1)
def m99 (n : Nat) : Nat := if n < 99 then n else 99
theorem imn_m (n : Nat) (h : n < 1000) : imn 99 (nI n) = nI (m99 n) := by
  unfold imn m99
  by_cases q : n < 99
  · rw [if_pos (by rw [L99]; exact nI_lt q (by omega)), if_pos q]
  · rw [if_neg (by rw [L99]; exact nI_nlt (by omega) (by omega)), if_neg q]
    rfl
theorem lmt_m (n : Nat) (h : n < 1000) : lmt (nI n) = nI (m99 n) := by
  unfold lmt m99
  rw [if_neg (nI_pos (by omega))]
  by_cases q : 99 < n
  · rw [if_pos (by rw [L99]; exact nI_lt q (by omega)), if_neg (by omega)]
    rfl
  · rw [if_neg (by rw [L99]; exact nI_nlt (by omega) (by omega))]
    by_cases q2 : n < 99
    · rw [if_pos q2]
    · rw [if_neg q2]
      congr 1
      omega
theorem m99_le (n : Nat) : m99 n ≤ 99 := by
  unfold m99
  split <;> omega
section
variable {h : PH} {pn : Nat → Nat} {dr : Nat → Int32} {B : Nat}
/-- field f of the class is stock s of the reference -/
theorem R_stock {S : SS} {r : RW} {f s n : Nat} (hN : PN pn) (hfs : (f = 7 ∧ s = 67) ∨ (f = 8 ∧ s = 68)) (hn : n ≤ 99) (h1 : RO pn B S r) : RO pn B (u2 S 0 f (nI n)) (upd r s (nI n)) := by
  rcases hfs with ⟨rfl, rfl⟩ | ⟨rfl, rfl⟩
  · exact ⟨R_caps hN hn h1.1, h1.2⟩
  · exact ⟨R_labels hN hn h1.1, h1.2⟩
theorem x_outMore (z0 : I0 h pn dr) (z1 : INow B h pn) (hB : B < 2 ^ 27) {l : Int32} {f s c : Nat} (hfs : (f = 7 ∧ s = 67 ∧ l = 0) ∨ (f = 8 ∧ s = 68 ∧ ¬ l = 0)) (hc : h.1 114 s = nI c) (hc2 : c ≤ 99) {i : Nat} (hi : i ≤ 40) (S0 : SS) : ∃ S' : SS, f_X4_outWithMore l (nI i) (put h 25 S0) = some (cAdv pn dr 40 (u2 (vw h 20) 0 f (nI (m99 (c + i)))) 0 12, put h 25 S') := by
  obtain ⟨T, x1, hT⟩ := x_try z0 z1 S0
  have hfs2 : (f = 7 ∧ s = 67) ∨ (f = 8 ∧ s = 68) := hfs.imp (fun q => ⟨q.1, q.2.1⟩) (fun q => ⟨q.1, q.2.1⟩)
  have r1 := R_stock z0.1 hfs2 (m99_le (c + i)) hT
  have r2 := R_stock z0.1 hfs2 (m99_le (c + i)) z1
  have e : cAdv pn dr 40 (u2 T 0 f (nI (m99 (c + i)))) 0 12 = cAdv pn dr 40 (u2 (vw h 20) 0 f (nI (m99 (c + i)))) 0 12 := (out_eq z0.1 40 (by omega) r1).trans (out_eq z0.1 40 (by omega) r2).symm
  have xs : f_X3_addStock 25 l (nI i) (put h 25 T) = some ((), put h 25 (u2 T 0 f (nI (m99 (c + i))))) := by
    rcases hfs with ⟨rfl, rfl, hl⟩ | ⟨rfl, rfl, hl⟩
    · have k : T 0 7 = nI c := hT.1.2.2.2.1.1.1.trans hc
      rw [addStock_c hl kd_25, put_0, k, nI_add, imn_m _ (by omega), si_put0]
    · have k : T 0 8 = nI c := hT.1.2.2.2.1.1.2.1.trans hc
      rw [addStock_l hl kd_25, put_0, k, nI_add, imn_m _ (by omega), si_put0]
  refine ⟨cAdv pn dr 40 (u2 T 0 f (nI (m99 (c + i)))), ?_⟩
  unfold f_X4_outWithMore
  rw [x1, bd_at, xs, bd_at, L40, x_adv_t z0 (by omega) (by omega) r1, bd_at, put_0, e]
theorem m_outWith (z0 : I0 h pn dr) (z1 : INow B h pn) (z6 : IMisc h) (hB : B < 2 ^ 27) {f s c : Nat} (hfs : (f = 7 ∧ s = 67) ∨ (f = 8 ∧ s = 68)) (hc : h.1 114 s = nI c) (hc2 : c ≤ 99) {i : Nat} (hi : i ≤ 40) (S : SS) (r0 : RW) (g : Int32) : ∃ r' : RW, f_X5_outWith (nI s) (nI i) (mst (put h 25 S) 115 r0 (-9) g) = some (cAdv pn dr 40 (u2 (vw h 20) 0 f (nI (m99 (c + i)))) 0 12, mst (put h 25 S) 115 r' (-9) g) := by
  have mc := mc_t z0 z6 S
  obtain ⟨r1, m1, hr1⟩ := m_try (h := h) S r0 (-9) g
  have r2 := R_stock z0.1 hfs (m99_le (c + i)) (RO_lk z0.1 hr1 z1)
  have e := out_eq (dr := dr) z0.1 40 (by omega) r2
  have es : s < 103 := by omega
  have k : r1 s = nI c := (hr1 s es).trans hc
  refine ⟨mAdv pn dr 15 40 (upd r1 s (nI (m99 (c + i)))), ?_⟩
  unfold f_X5_outWith
  rw [m1, bd_at, mc.r _ _ _ s rfl es, k, nI_add, held_eq, bd_at, lmt_m _ (by omega), mc.w _ _ _ s rfl es, L40, m_adv_t z0 z6 S g (by omega) (by omega) r2, bd_at, mc.r _ _ _ 72 L72 (by decide), ← e]
theorem x_needs (z0 : I0 h pn dr) (z1 : INow B h pn) (hB : B < 2 ^ 27) {l : Int32} {f s c : Nat} (hfs : (f = 7 ∧ s = 67 ∧ l = 0) ∨ (f = 8 ∧ s = 68 ∧ ¬ l = 0)) (hc : h.1 114 s = nI c) (hc2 : c ≤ 99) : ∀ (n i : Nat) (S0 : SS), i ≤ 40 → 40 < i + n → ∃ S' : SS, f_X4_needs_b10 n l (cAdv pn dr 40 (u2 (vw h 20) 0 f (nI (m99 (c + 40)))) 0 12) (nI i) (put h 25 S0) = some (ndF (fun i => cAdv pn dr 40 (u2 (vw h 20) 0 f (nI (m99 (c + i)))) 0 12) (40 - i) i, put h 25 S') := by
  intro n
  induction n with
  | zero => intro i S0 h1 h2; omega
  | succ n ih =>
    intro i S0 h1 h2
    unfold f_X4_needs_b10
    by_cases h3 : i = 40
    · subst h3
      exact ⟨S0, by rw [if_pos (by decide)]; rfl⟩
    · obtain ⟨S1, x1⟩ := x_outMore z0 z1 hB hfs hc hc2 (i := i) (by omega) S0
      rw [if_neg (by rw [L40]; exact nI_ge (by omega) (by omega)), x1, bd_at]
      have e2 : 40 - i = (40 - (i + 1)) + 1 := by omega
      rw [e2]
      unfold ndF
      by_cases h4 : cAdv pn dr 40 (u2 (vw h 20) 0 f (nI (m99 (c + i)))) 0 12 = cAdv pn dr 40 (u2 (vw h 20) 0 f (nI (m99 (c + 40)))) 0 12
      · exact ⟨S1, by rw [if_pos h4, if_pos h4]⟩
      · obtain ⟨S', q⟩ := ih (i + 1) S1 (by omega) (by omega)
        exact ⟨S', by rw [if_neg h4, nI_1, q, if_neg h4]⟩
theorem m_needs (z0 : I0 h pn dr) (z1 : INow B h pn) (z6 : IMisc h) (hB : B < 2 ^ 27) {f s c : Nat} (hfs : (f = 7 ∧ s = 67) ∨ (f = 8 ∧ s = 68)) (hc : h.1 114 s = nI c) (hc2 : c ≤ 99) (S : SS) (g : Int32) : ∀ (n i : Nat) (r0 : RW), i ≤ 40 → 40 < i + n → ∃ r' : RW, f_X5_needs_b23 n (nI s) (cAdv pn dr 40 (u2 (vw h 20) 0 f (nI (m99 (c + 40)))) 0 12) (nI i) (mst (put h 25 S) 115 r0 (-9) g) = some (ndF (fun i => cAdv pn dr 40 (u2 (vw h 20) 0 f (nI (m99 (c + i)))) 0 12) (40 - i) i, mst (put h 25 S) 115 r' (-9) g) := by
  intro n
  induction n with
  | zero => intro i r0 h1 h2; omega
  | succ n ih =>
    intro i r0 h1 h2
    unfold f_X5_needs_b23
    obtain ⟨r1, m1⟩ := m_outWith z0 z1 z6 hB hfs hc hc2 (i := i) h1 S r0 g
    rw [m1, bd_at]
    by_cases h3 : i = 40
    · subst h3
      exact ⟨r1, by rw [if_pos rfl]; rfl⟩
    · have e2 : 40 - i = (40 - (i + 1)) + 1 := by omega
      rw [e2]
      unfold ndF
      by_cases h4 : cAdv pn dr 40 (u2 (vw h 20) 0 f (nI (m99 (c + i)))) 0 12 = cAdv pn dr 40 (u2 (vw h 20) 0 f (nI (m99 (c + 40)))) 0 12
      · exact ⟨r1, by rw [if_pos h4, if_pos h4]⟩
      · obtain ⟨r', q⟩ := ih (i + 1) r1 (by omega) (by omega)
        exact ⟨r', by rw [if_neg h4, nI_1, q, if_neg h4]⟩
end
theorem op_needs (l : Int32) : OP (f_X4_needs l) (f_X5_needs l) := by
  intro B h hB hI
  have hI0 := hI
  obtain ⟨pn, dr, z0, z1, z2, z3, z4, z5, z6, z7⟩ := hI
  have key : ∀ (f s : Nat), ((f = 7 ∧ s = 67 ∧ l = 0) ∨ (f = 8 ∧ s = 68 ∧ ¬ l = 0)) → (∃ c : Nat, c ≤ 99 ∧ h.1 114 s = nI c) → ∃ (r : Int32) (h1 h2 : PH), f_X4_needs l h = some (r, h1) ∧ f_X5_needs_b11 (nI s) h1 = some (r, h2) ∧ INV (B + 99) h2 := by
    intro f s hfs ⟨c, hc2, hc⟩
    have hfs2 : (f = 7 ∧ s = 67) ∨ (f = 8 ∧ s = 68) := hfs.imp (fun q => ⟨q.1, q.2.1⟩) (fun q => ⟨q.1, q.2.1⟩)
    obtain ⟨S1, x1⟩ := x_outMore z0 z1 hB hfs hc hc2 (i := 40) (by omega) (vw h 25)
    rw [put_vw] at x1
    obtain ⟨S', x2⟩ := x_needs z0 z1 hB hfs hc hc2 200 0 S1 (by omega) (by omega)
    obtain ⟨r0, g, e0⟩ := as_t z6 S'
    obtain ⟨r1, m1⟩ := m_outWith z0 z1 z6 hB hfs2 hc hc2 (i := 40) (by omega) S' r0 g
    rw [← e0] at m1
    obtain ⟨r', m2⟩ := m_needs z0 z1 z6 hB hfs2 hc hc2 S' g 200 0 r1 (by omega) (by omega)
    refine ⟨_, _, _, by unfold f_X4_needs; rw [L40, x1, bd_at]; exact x2, ?_, INV_t2 hI0 S' r' g⟩
    unfold f_X5_needs_b11
    rw [L40, m1, bd_at]
    exact m2
  by_cases h1 : l = 0
  · obtain ⟨r, h1', h2', q1, q2, q3⟩ := key 7 67 (Or.inl ⟨rfl, rfl, h1⟩) z1.1.2.2.2.1.2.1
    exact ⟨r, h1', h2', q1, by unfold f_X5_needs; rw [if_pos h1]; exact q2, q3⟩
  · obtain ⟨r, h1', h2', q1, q2, q3⟩ := key 8 68 (Or.inr ⟨rfl, rfl, h1⟩) z1.1.2.2.2.1.2.2.1
    exact ⟨r, h1', h2', q1, by unfold f_X5_needs; rw [if_neg h1]; exact q2, q3⟩
