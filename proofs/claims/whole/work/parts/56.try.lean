-- what is asked: tried on a second State and row
theorem INV_try {B : Nat} {h h' : PH} (hI : INV B h) (q : ∀ a b, ¬ ((25 ≤ a ∧ a ≤ 29) ∨ a = 115 ∨ a = 122 ∨ (a = 110 ∧ b = 23)) → h'.1 a b = h.1 a b) (q2 : h'.2 0 = h'.2 110) : INV B h' := by
  obtain ⟨pn, dr, z0, z1, z2, z3, z4, z5, z6, z7⟩ := hI
  exact ⟨pn, dr, I0_cg (fun a b c => q a b (by omega)) z0, INow_cg (fun a b c => q a b (by omega)) z1, IPast_cg (fun a b c => q a b (by omega)) z2, ISlot_cg (fun a b c => q a b (by omega)) z3, ITx_cg (fun a b c => q a b (by omega)) z4, ISeen_cg (fun a b c => q a b (by omega)) z5, ⟨q2, by rw [q 110 21 (by omega)]; exact z6.2.1, by rw [q 110 22 (by omega)]; exact z6.2.2⟩, IRd_cg (fun a b c => q a b (by omega)) z7⟩
theorem INV_t2 {B : Nat} {h : PH} (hI : INV B h) (S : SS) (r : RW) (g : Int32) : INV (B + 99) (mst (put h 25 S) 115 r (-9) g) := by
  have hI0 := hI
  obtain ⟨pn, dr, z0, z1, z2, z3, z4, z5, z6, z7⟩ := hI
  refine INV_mono (B := B) (by omega) (INV_try hI0 (fun a b q => ?_) z6.1)
  by_cases w : a = 110 ∧ b = 22
  · obtain ⟨rfl, rfl⟩ := w
    show (if 110 = 115 then r 22 else if 110 = 110 ∧ 22 = 22 then (-9 : Int32) else if 110 = 110 ∧ 22 = 23 then g else (put h 25 S).1 110 22) = _
    rw [if_neg (by decide), if_pos (by decide)]
    exact z6.2.2.symm
  · show (if a = 115 then r b else if a = 110 ∧ b = 22 then (-9 : Int32) else if a = 110 ∧ b = 23 then g else (put h 25 S).1 a b) = _
    rw [if_neg (by omega), if_neg w, if_neg (by omega), put_out _ _ _ (by omega)]
section
variable {h : PH} {pn : Nat → Nat} {dr : Nat → Int32} {B : Nat}
theorem x_try (z0 : I0 h pn dr) (z1 : INow B h pn) (S0 : SS) : ∃ T : SS, f_X3_copyFrom 25 20 (put h 25 S0) = some ((), put h 25 T) ∧ RO pn B T (h.1 114) := by
  obtain ⟨⟨-, -, k3, k4, -⟩, -, -, hj, ha, -⟩ := z1.1.2.2.2.1
  have e10 : h.1 20 10 = h.1 114 70 := k4
  have e11 : h.1 20 11 = h.1 114 69 := k3
  have v : vw (put h 25 S0) 20 = vw h 20 := vw_cg (fun a b _ _ => by rw [put_out _ _ _ (by omega)])
  have x1 := x_copy (h := put h 25 S0) (o := 25) (q := 20) kd_25 kd_20 (by omega) (by rw [put_out _ _ _ (by omega), e10]; exact ha) (by rw [put_out _ _ _ (by omega), e11]; exact hj)
  rw [put_put, v] at x1
  exact ⟨_, x1, RO_cpy z0.1 z1 (fun _ _ => rfl)⟩
/-- the reference's trial row: any that is like the present one -/
def LK (h : PH) (r : RW) : Prop := ∀ x, x < 103 → r x = h.1 114 x
theorem m_try (S : SS) (r0 : RW) (w g : Int32) : ∃ r1 : RW, f_X5_copy 114 115 (mst (put h 25 S) 115 r0 w g) = some ((), mst (put h 25 S) 115 r1 w g) ∧ LK h r1 := by
  refine ⟨sg (h.1 114) r0 0 0 103, m_copy.trans ?_, ?_⟩
  · have e1 : (mst (put h 25 S) 115 r0 w g).1 114 = h.1 114 := by
      rw [MC.o _ _ _ (by omega) (by omega)]
      funext b
      rw [put_out _ _ _ (by omega)]
    rw [e1, mst_k]
    congr 2
    apply Prod.ext
    · funext a b
      show (if a = 115 then sg (h.1 114) r0 0 0 103 else fun b => if a = 115 then r0 b else if a = 110 ∧ b = 22 then w else if a = 110 ∧ b = 23 then g else (put h 25 S).1 a b) b = (if a = 115 then sg (h.1 114) r0 0 0 103 b else if a = 110 ∧ b = 22 then w else if a = 110 ∧ b = 23 then g else (put h 25 S).1 a b)
      by_cases q : a = 115
      · rw [if_pos q, if_pos q]
      · rw [if_neg q, if_neg q, if_neg q]
    · rfl
  · intro x hx
    unfold sg
    rw [if_pos (by omega), Nat.sub_zero, Nat.zero_add]
theorem RO_lk {r1 : RW} (hN : PN pn) (q : LK h r1) (z1 : INow B h pn) : RO pn B (vw h 20) r1 := RO_cg hN z1 (fun _ _ => rfl) q
theorem xc_put (z0 : I0 h pn dr) (S : SS) : I0 (put h 25 S) pn dr := I0_cg (fun a b q => by rw [put_out _ _ _ (by omega)]) z0
theorem misc_put (z6 : IMisc h) (S : SS) : IMisc (put h 25 S) := IMisc_cg (fun b q => by rw [put_out _ _ _ (by omega)]) rfl z6
theorem mc_t (z0 : I0 h pn dr) (z6 : IMisc h) (S : SS) : MC (put h 25 S) 115 pn dr 15 := mc_trial (xc_put z0 S) (misc_put z6 S)
theorem adv_ro (hN : PN pn) {S : SS} {r : RW} (n : Nat) (hB : B + n < 2 ^ 29) (h1 : RO pn B S r) : RO pn (B + n) (cAdv pn dr n S) (mAdv pn dr 15 n r) := by
  obtain ⟨q1, -, q3⟩ := R_adv (dr := dr) hN n B S r (oc_0 hN h1.2) h1.1 hB
  exact ⟨q1, q3.trans h1.2⟩
theorem out_eq (hN : PN pn) {S : SS} {r : RW} (n : Nat) (hB : B + n < 2 ^ 29) (h1 : RO pn B S r) : cAdv pn dr n S 0 12 = mAdv pn dr 15 n r 72 := (adv_ro hN n hB h1).1.2.2.2.1.1.2.2.2.2.2.1
theorem x_adv_t (z0 : I0 h pn dr) {S : SS} {r : RW} {n : Nat} (hn : n ≤ 99) (hB : B < 2 ^ 28) (h1 : RO pn B S r) : f_X3_advance 25 (nI n) (put h 25 S) = some (nI (cCnt pn dr n S), put h 25 (cAdv pn dr n S)) := x_adv (xc_trial z0) hn (oc_0 z0.1 h1.2) h1.1 hB
theorem m_adv_t (z0 : I0 h pn dr) (z6 : IMisc h) (S' : SS) {S : SS} {r : RW} (g : Int32) {n : Nat} (hn : n ≤ 99) (hB : B < 2 ^ 28) (h1 : RO pn B S r) : f_X5_goOn 115 (nI n) (mst (put h 25 S') 115 r (-9) g) = some (nI (mCnt pn dr 15 n r), mst (put h 25 S') 115 (mAdv pn dr 15 n r) (-9) g) := m_adv (mc_t z0 z6 S') g hn (oc_0 z0.1 h1.2) h1.1 hB
end
theorem as_t {h : PH} (z6 : IMisc h) (S : SS) : ∃ (r : RW) (g : Int32), put h 25 S = mst (put h 25 S) 115 r (-9) g := by
  refine ⟨(put h 25 S).1 115, (put h 25 S).1 110 23, ?_⟩
  have e : (put h 25 S).1 110 22 = -9 := by rw [put_out _ _ _ (by omega)]; exact z6.2.2
  have q := as_mst (put h 25 S) 115
  rw [e] at q
  exact q
theorem op_ahead (a b : Int32) : OP (f_X4_ahead a b) (f_X5_ahead a b) := by
  intro B h hB hI
  have hI0 := hI
  obtain ⟨pn, dr, z0, z1, z2, z3, z4, z5, z6, z7⟩ := hI
  unfold f_X4_ahead f_X5_ahead
  rw [isWithin_eq, bd_at]
  by_cases h1 : isw a 0 99 = 0
  · refine ⟨-2, h, h, by rw [if_pos h1], ?_, INV_mono (by omega) hI0⟩
    rw [in_eq, bd_at, if_pos h1]
  · rw [if_neg h1, isWithin_eq, bd_at]
    by_cases h2 : isw b 5 17 = 0
    · refine ⟨-2, h, h, by rw [if_pos h2], ?_, INV_mono (by omega) hI0⟩
      rw [in_eq, bd_at, if_neg h1, in_eq, bd_at, if_pos h2]
    · obtain ⟨n, -, n2, rfl⟩ := isw_nat (b := 0) (c := 99) (by omega) (by omega) h1
      obtain ⟨j, j1, j2, rfl⟩ := isw_nat (b := 5) (c := 17) (by omega) (by omega) h2
      obtain ⟨T, x1, hT⟩ := x_try z0 z1 (vw h 25)
      rw [put_vw] at x1
      obtain ⟨r0, g, e0⟩ := as_t z6 (cAdv pn dr n T)
      obtain ⟨r1, m1, hr1⟩ := m_try (h := h) (cAdv pn dr n T) r0 (-9) g
      rw [← e0] at m1
      have hT1 : RO pn B T r1 := RO_cg z0.1 hT (fun _ _ => rfl) hr1
      have x2 := x_number (xc_trial z0) (adv_ro (dr := dr) z0.1 n (by omega) hT1).1 j1 j2
      have m2 := m_tell (r := mAdv pn dr 15 n r1) (mc_t z0 z6 (cAdv pn dr n T)) (-9) g j1 j2
      refine ⟨_, _, _, by rw [if_neg h2, x1, bd_at, x_adv_t z0 n2 (by omega) hT1, bd_at, x2, bd_at], ?_, INV_t2 hI0 (cAdv pn dr n T) (mAdv pn dr 15 n r1) g⟩
      rw [in_eq, bd_at, if_neg h1, in_eq, bd_at, if_neg h2, m1, bd_at, m_adv_t z0 z6 (cAdv pn dr n T) g n2 (by omega) hT1, bd_at, m2, bd_at]
-- best
def bstF (val : Nat → Int32) : Nat → Nat → Int32 → Int32 → Int32
  | 0, _, b, _ => b
  | n + 1, i, b, m => if val i ≤ m then bstF val n (i + 1) b m else bstF val n (i + 1) (nI i) (val i)
section
variable {h : PH} {pn : Nat → Nat} {dr : Nat → Int32} {B : Nat}
theorem x_best (z0 : I0 h pn dr) (z1 : INow B h pn) (hB : B < 2 ^ 27) {v : Nat} (hv : v < pn 9) : ∀ (n i : Nat) (b m : Int32) (S0 : SS), i ≤ 100 → 100 < i + n → ∃ S' : SS, f_X4_best_b20 n (nI v) b m (nI i) (put h 25 S0) = some (bstF (fun s => cAdv pn dr 30 (u2 (vw h 20) 3 v (nI s)) 0 12) (100 - i) i b m, put h 25 S') := by
  have hV := z0.1.2.2.2.2.2
  intro n
  induction n with
  | zero => intro i b m S0 h1 h2; omega
  | succ n ih =>
    intro i b m S0 h1 h2
    unfold f_X4_best_b20
    by_cases h3 : i = 100
    · subst h3
      exact ⟨S0, by rw [if_pos (by decide)]; rfl⟩
    · rw [if_neg (by rw [L99]; exact nI_nlt (by omega) (by omega))]
      obtain ⟨T, x1, hT⟩ := x_try z0 z1 S0
      have hx : ∃ k : Nat, k ≤ 99 ∧ nI i = nI k := ⟨i, by omega, rfl⟩
      have r1 : RO pn B (u2 T 3 v (nI i)) (upd (h.1 114) (63 + v) (nI i)) := ⟨R_set z0.1 hv hx hT.1, hT.2⟩
      have r2 : RO pn B (u2 (vw h 20) 3 v (nI i)) (upd (h.1 114) (63 + v) (nI i)) := ⟨R_set z0.1 hv hx z1.1, z1.2⟩
      have e : cAdv pn dr 30 (u2 T 3 v (nI i)) 0 12 = cAdv pn dr 30 (u2 (vw h 20) 3 v (nI i)) 0 12 := (out_eq z0.1 30 (by omega) r1).trans (out_eq z0.1 30 (by omega) r2).symm
      rw [x1, bd_at, (xc_trial z0).w3 T v rfl (by omega), L30, x_adv_t z0 (by omega) (by omega) r1, bd_at, put_0, e]
      have e2 : 100 - i = (100 - (i + 1)) + 1 := by omega
      rw [e2]
      unfold bstF
      by_cases h4 : cAdv pn dr 30 (u2 (vw h 20) 3 v (nI i)) 0 12 ≤ m
      · rw [if_pos h4, nI_1]
        obtain ⟨S', q⟩ := ih (i + 1) b m (cAdv pn dr 30 (u2 T 3 v (nI i))) (by omega) (by omega)
        exact ⟨S', by rw [q, if_pos h4]⟩
      · rw [if_neg h4, nI_1]
        obtain ⟨S', q⟩ := ih (i + 1) (nI i) (cAdv pn dr 30 (u2 (vw h 20) 3 v (nI i)) 0 12) (cAdv pn dr 30 (u2 T 3 v (nI i))) (by omega) (by omega)
        exact ⟨S', by rw [q, if_neg h4]⟩
theorem m_best (z0 : I0 h pn dr) (z1 : INow B h pn) (z6 : IMisc h) (hB : B < 2 ^ 27) (S : SS) (g : Int32) {v : Nat} (hv : v < pn 9) : ∀ (n i : Nat) (b m : Int32) (r0 : RW), i ≤ 100 → 100 < i + n → ∃ r' : RW, f_X5_best_b17 n (nI v) b m (nI i) (mst (put h 25 S) 115 r0 (-9) g) = some (bstF (fun s => cAdv pn dr 30 (u2 (vw h 20) 3 v (nI s)) 0 12) (100 - i) i b m, mst (put h 25 S) 115 r' (-9) g) := by
  have hV := z0.1.2.2.2.2.2
  have mc := mc_t z0 z6 S
  intro n
  induction n with
  | zero => intro i b m r0 h1 h2; omega
  | succ n ih =>
    intro i b m r0 h1 h2
    unfold f_X5_best_b17
    by_cases h3 : i = 100
    · subst h3
      exact ⟨r0, by rw [if_pos (by decide)]; rfl⟩
    · rw [if_neg (by rw [L100]; exact nI_ge (by omega) (by omega))]
      obtain ⟨r1, m1, hr1⟩ := m_try (h := h) S r0 (-9) g
      have hN1 := RO_lk z0.1 hr1 z1
      have hx : ∃ k : Nat, k ≤ 99 ∧ nI i = nI k := ⟨i, by omega, rfl⟩
      have r2 : RO pn B (u2 (vw h 20) 3 v (nI i)) (upd r1 (63 + v) (nI i)) := ⟨R_set z0.1 hv hx hN1.1, hN1.2⟩
      have e := out_eq (dr := dr) z0.1 30 (by omega) r2
      rw [m1, bd_at, mc.w _ _ _ (63 + v) (A63 v) (by omega), L30, m_adv_t z0 z6 S g (by omega) (by omega) r2, bd_at, mc.r _ _ _ 72 L72 (by decide), ← e]
      have e2 : 100 - i = (100 - (i + 1)) + 1 := by omega
      rw [e2]
      unfold bstF f_X5_best_b74
      rw [mc.r _ _ _ 72 L72 (by decide), mc.r _ _ _ 72 L72 (by decide), mc.r _ _ _ 72 L72 (by decide), ← e]
      by_cases h4 : cAdv pn dr 30 (u2 (vw h 20) 3 v (nI i)) 0 12 ≤ m
      · rw [if_pos h4, if_pos h4, nI_1]
        obtain ⟨r', q⟩ := ih (i + 1) b m (mAdv pn dr 15 30 (upd r1 (63 + v) (nI i))) (by omega) (by omega)
        exact ⟨r', by rw [q, if_pos h4]⟩
      · rw [if_neg h4, if_neg h4, nI_1, mc.r _ _ _ 72 L72 (by decide), ← e]
        obtain ⟨r', q⟩ := ih (i + 1) (nI i) (cAdv pn dr 30 (u2 (vw h 20) 3 v (nI i)) 0 12) (mAdv pn dr 15 30 (upd r1 (63 + v) (nI i))) (by omega) (by omega)
        exact ⟨r', by rw [q, if_neg h4]⟩
end
theorem op_best (a : Int32) : OP (f_X4_best a) (f_X5_best a) := by
  intro B h hB hI
  have hI0 := hI
  obtain ⟨pn, dr, z0, z1, z2, z3, z4, z5, z6, z7⟩ := hI
  have hV := z0.1.2.2.2.2.2
  unfold f_X4_best f_X5_best
  rw [hasValve_eq z0, bd_at]
  by_cases h1 : isw a 0 (nI (pn 9) - 1) = 0
  · refine ⟨-1, h, h, by rw [if_pos h1], ?_, INV_mono (by omega) hI0⟩
    rw [isValve_eq z0, bd_at, if_pos h1]
  · obtain ⟨v, hv, rfl⟩ := isw_nv (by omega) h1
    obtain ⟨S', x1⟩ := x_best z0 z1 hB hv 200 0 0 (-1) (vw h 25) (by omega) (by omega)
    rw [put_vw] at x1
    obtain ⟨r0, g, e0⟩ := as_t z6 S'
    obtain ⟨r', m1⟩ := m_best z0 z1 z6 hB S' g hv 200 0 0 (-1) r0 (by omega) (by omega)
    rw [← e0] at m1
    refine ⟨_, _, _, by rw [if_neg h1]; exact x1, ?_, INV_t2 hI0 S' r' g⟩
    rw [isValve_eq (xc_put z0 S'), bd_at, if_neg h1]
    exact m1
