def whF (ok : Nat → Bool) : Nat → Nat → Int32 → Int32
  | 0, _, a => a
  | n + 1, i, a => whF ok n (i + 1) (if ok i then a ||| ((1 : Int32) <<< (nI i &&& 31)) else a)
section
variable {h : PH} {pn : Nat → Nat} {dr : Nat → Int32} {B sc : Nat} {wh af : Nat → Nat} {vl : Nat → Int32}
theorem x_which (z0 : I0 h pn dr) (z1 : INow B h pn) (O : OBS h sc wh af vl) (hB : B < 2 ^ 27) : ∀ (n i : Nat) (a : Int32) (S0 : SS), i ≤ 10 → 10 < i + n → ∃ S' : SS, f_X4_which_b4 n a (nI i) (put h 25 S0) = some (whF (fun i => okF pn dr wh af vl sc i 21 0 (vw h 20)) (10 - i) i a, put h 25 S') := by
  intro n
  induction n with
  | zero => intro i a S0 h1 h2; omega
  | succ n ih =>
    intro i a S0 h1 h2
    unfold f_X4_which_b4
    by_cases h3 : i = 10
    · subst h3
      exact ⟨S0, by rw [if_pos (by decide)]; rfl⟩
    · obtain ⟨T, x1, hT⟩ := x_try z0 z1 S0
      obtain ⟨S1, x2⟩ := x_agSlip z0 O hB (i := i) (by omega) 200 0 T (vw h 20) (h.1 114) (by omega) (by omega) hT z1
      have e : 10 - i = (10 - (i + 1)) + 1 := by omega
      rw [if_neg (by rw [L10]; exact nI_ge (by omega) (by omega)), e]
      unfold f_X4_agreesWithSlipAfter whF
      rw [x1, bd_at, L0, x2, bd_at, Nat.sub_zero]
      cases hA : okF pn dr wh af vl sc i 21 0 (vw h 20) with
      | false =>
        obtain ⟨S', q⟩ := ih (i + 1) a S1 (by omega) (by omega)
        refine ⟨S', ?_⟩
        rw [if_pos (show b01 false = nI 0 from rfl), nI_1, q, if_neg (show ¬ (false = true) by decide)]
      | true =>
        obtain ⟨S', q⟩ := ih (i + 1) (a ||| ((1 : Int32) <<< (nI i &&& 31))) S1 (by omega) (by omega)
        refine ⟨S', ?_⟩
        rw [if_neg (show ¬ b01 true = nI 0 by decide), nI_1, q, if_pos (show (true = true) from rfl)]
theorem m_soBy (z0 : I0 h pn dr) (z6 : IMisc h) (O : OBS h sc wh af vl) (hB : B < 2 ^ 27) (S : SS) (g : Int32) {i k : Nat} (hi : i < 10) (hk : k < sc) (N : SS) : ∀ (n t : Nat) (r : RW), t ≤ af k → af k < t + n → RO pn (B + t) (chS pn dr i N t) r → ∃ r' : RW, f_X5_isSoBy_b13 n (nI i) (nI k) (nI t) (mst (put h 25 S) 115 r (-9) g) = some (b01 (decide (ov (chS pn dr i N (af k)) (wh k) = vl k)), mst (put h 25 S) 115 r' (-9) g) := by
  have mc := mc_t z0 z6 S
  obtain ⟨o1, -, o3, o4⟩ := O
  obtain ⟨-, ⟨b5, b6, b7⟩, w2, f20⟩ := o4 k hk
  have r119 : ∀ {β : Type} (r : RW) {f : Int32 → Option β}, rd (mst (put h 25 S) 115 r (-9) g) 119 (nI k) f = f (nI (wh k)) := by intro β r f; rw [rd_at k rfl (by show k < 6; omega) (by decide), MC.o _ _ _ (by omega) (by omega), put_out _ _ _ (by omega), b5]
  have r120 : ∀ {β : Type} (r : RW) {f : Int32 → Option β}, rd (mst (put h 25 S) 115 r (-9) g) 120 (nI k) f = f (nI (af k)) := by intro β r f; rw [rd_at k rfl (by show k < 6; omega) (by decide), MC.o _ _ _ (by omega) (by omega), put_out _ _ _ (by omega), b6]
  have r121 : ∀ {β : Type} (r : RW) {f : Int32 → Option β}, rd (mst (put h 25 S) 115 r (-9) g) 121 (nI k) f = f (vl k) := by intro β r f; rw [rd_at k rfl (by show k < 6; omega) (by decide), MC.o _ _ _ (by omega) (by omega), put_out _ _ _ (by omega), b7]
  intro n
  induction n with
  | zero => intro t r h1 h2; omega
  | succ n ih =>
    intro t r h1 h2 q
    unfold f_X5_isSoBy_b13
    rw [r120]
    by_cases h3 : t = af k
    · rw [if_pos (by rw [h3]; exact nI_le (Nat.le_refl _) (by omega)), r119]
      refine ⟨r, ?_⟩
      rw [h3] at q
      have eo := ov_eq q (wh k)
      have fin : ∀ j : Nat, j < 103 → r j = ovR r (wh k) → f_X5_isSoBy_b84 (nI k) (nI j) (mst (put h 25 S) 115 r (-9) g) = some (b01 (decide (ov (chS pn dr i N (af k)) (wh k) = vl k)), mst (put h 25 S) 115 r (-9) g) := by
        intro j hj hr
        unfold f_X5_isSoBy_b84
        rw [mc.r _ _ _ j rfl hj, r121, hr, eo]
        by_cases z : ovR r (wh k) = vl k
        · rw [if_pos z, decide_eq_true z]; rfl
        · rw [if_neg z, decide_eq_false z]; rfl
      rcases (show wh k = 0 ∨ wh k = 1 ∨ wh k = 2 by omega) with z | z | z
      · rw [z, if_pos (by decide), L72]
        rw [z] at fin
        exact fin 72 (by decide) rfl
      · rw [z, if_neg (by decide), if_pos (by decide), L74]
        rw [z] at fin
        exact fin 74 (by decide) rfl
      · rw [z, if_neg (by decide), if_neg (by decide), L73]
        rw [z] at fin
        exact fin 73 (by decide) rfl
    · rw [if_neg (nI_ge (by omega) (by omega))]
      have w := RO_st (dr := dr) z0.1 i t (by omega) q
      obtain ⟨r', fin⟩ := ih (t + 1) _ (by omega) (by omega) w
      refine ⟨r', Eq.trans ?_ fin⟩
      unfold f_X5_isSoBy_b36 stR
      by_cases h4 : t = i
      · rw [if_pos (by rw [h4]), if_pos h4, m_slip mc, bd_at, L1, m_adv_t z0 z6 S g (n := 1) (B := B + t) (S := cMm pn (chS pn dr i N t)) (by omega) (by omega) ⟨R_slip z0.1 q.1, q.2⟩, bd_at, ← L1, nI_1]
      · rw [if_neg (by rw [nI_eq (by omega) (by omega)]; exact h4), if_neg h4, L1, m_adv_t z0 z6 S g (n := 1) (B := B + t) (by omega) (by omega) q, bd_at, ← L1, nI_1]
theorem m_isSoBy (z0 : I0 h pn dr) (z1 : INow B h pn) (z6 : IMisc h) (O : OBS h sc wh af vl) (hB : B < 2 ^ 27) (S : SS) (g : Int32) {i k : Nat} (hi : i < 10) (hk : k < sc) (r0 : RW) : ∃ r' : RW, f_X5_isSoBy (nI i) (nI k) (mst (put h 25 S) 115 r0 (-9) g) = some (b01 (decide (ov (chS pn dr i (vw h 20) (af k)) (wh k) = vl k)), mst (put h 25 S) 115 r' (-9) g) := by
  obtain ⟨r1, m1, hr1⟩ := m_try (h := h) S r0 (-9) g
  have f20 := (O.2.2.2 k hk).2.2.2
  obtain ⟨r', m2⟩ := m_soBy z0 z6 O hB S g hi hk (vw h 20) 200 0 r1 (by omega) (by omega) (RO_lk z0.1 hr1 z1)
  refine ⟨r', ?_⟩
  unfold f_X5_isSoBy
  rw [m1, bd_at]
  exact m2
theorem m_wh15 (z0 : I0 h pn dr) (z1 : INow B h pn) (z6 : IMisc h) (O : OBS h sc wh af vl) (hB : B < 2 ^ 27) (S : SS) (g : Int32) {i : Nat} (hi : i < 10) (rec4 : Int32 → Int32 → PH → Option (Int32 × PH)) (a : Int32) : ∀ (n k : Nat) (b : Bool) (r0 : RW), k ≤ sc → sc < k + n → ∃ r' : RW, f_X5_which_b15 rec4 n a (nI i) (b01 b) (nI k) (mst (put h 25 S) 115 r0 (-9) g) = rec4 (if b && alF pn dr wh af vl i (vw h 20) (sc - k) k then a ||| ((1 : Int32) <<< (nI i &&& 31)) else a) (nI (i + 1)) (mst (put h 25 S) 115 r' (-9) g) := by
  have mc := mc_t z0 z6 S
  have hsc := O.1
  have e19 : ∀ r : RW, (mst (put h 25 S) 115 r (-9) g).1 110 19 = nI sc := fun r => by rw [mc.f _ _ _ (by decide), put_out _ _ _ (by omega)]; exact O.2.2.1
  intro n
  induction n with
  | zero => intro k b r0 h1 h2; omega
  | succ n ih =>
    intro k b r0 h1 h2
    unfold f_X5_which_b15
    rw [e19]
    by_cases h3 : k = sc
    · rw [if_pos (by rw [h3]; exact nI_le (Nat.le_refl _) (by omega)), h3, Nat.sub_self, nI_1]
      refine ⟨r0, ?_⟩
      cases b with
      | false =>
        rw [if_pos (show b01 false = 0 from rfl), Bool.false_and, if_neg (show ¬ (false = true) by decide), Int32.or_zero]
      | true =>
        rw [if_neg (show ¬ b01 true = 0 by decide)]
        rfl
    · have e : sc - k = (sc - (k + 1)) + 1 := by omega
      rw [if_neg (nI_ge (by omega) (by omega)), e]
      cases b with
      | false =>
        obtain ⟨r', q⟩ := ih (k + 1) false r0 (by omega) (by omega)
        refine ⟨r', ?_⟩
        rw [if_pos (show b01 false = 0 from rfl), nI_1]
        rw [Bool.false_and] at q ⊢
        exact q
      | true =>
        obtain ⟨r1, m1⟩ := m_isSoBy z0 z1 z6 O hB S g hi (k := k) (by omega) r0
        rw [if_neg (show ¬ b01 true = 0 by decide), m1, bd_at, nI_1]
        unfold alF
        cases hA : decide (ov (chS pn dr i (vw h 20) (af k)) (wh k) = vl k) with
        | false =>
          obtain ⟨r', q⟩ := ih (k + 1) false r1 (by omega) (by omega)
          refine ⟨r', ?_⟩
          rw [if_pos (show b01 false = 0 from rfl), Bool.false_and, Bool.and_false]
          rw [Bool.false_and] at q
          exact q
        | true =>
          obtain ⟨r', q⟩ := ih (k + 1) true r1 (by omega) (by omega)
          refine ⟨r', ?_⟩
          rw [if_neg (show ¬ b01 true = 0 by decide), Bool.true_and, Bool.true_and]
          rw [Bool.true_and] at q
          exact q
theorem m_which (z0 : I0 h pn dr) (z1 : INow B h pn) (z6 : IMisc h) (O : OBS h sc wh af vl) (hB : B < 2 ^ 27) (S : SS) (g : Int32) : ∀ (n i : Nat) (a : Int32) (r0 : RW), i ≤ 10 → 10 < i + n → ∃ r' : RW, f_X5_which_b4 n a (nI i) (mst (put h 25 S) 115 r0 (-9) g) = some (whF (fun i => alF pn dr wh af vl i (vw h 20) sc 0) (10 - i) i a, mst (put h 25 S) 115 r' (-9) g) := by
  have hsc := O.1
  intro n
  induction n with
  | zero => intro i a r0 h1 h2; omega
  | succ n ih =>
    intro i a r0 h1 h2
    unfold f_X5_which_b4
    by_cases h3 : i = 10
    · subst h3
      exact ⟨r0, by rw [if_pos (by decide)]; rfl⟩
    · obtain ⟨r1, m1⟩ := m_wh15 z0 z1 z6 O hB S g (i := i) (by omega) (f_X5_which_b4 n) a 200 0 true r0 (by omega) (by omega)
      obtain ⟨r', q⟩ := ih (i + 1) (if true && alF pn dr wh af vl i (vw h 20) (sc - 0) 0 then a ||| ((1 : Int32) <<< (nI i &&& 31)) else a) r1 (by omega) (by omega)
      have e : 10 - i = (10 - (i + 1)) + 1 := by omega
      refine ⟨r', ?_⟩
      rw [if_neg (by rw [L10]; exact nI_ge (by omega) (by omega))]
      refine m1.trans (q.trans ?_)
      rw [e, Bool.true_and, Nat.sub_zero]
      rfl
theorem whF_cg {f g : Nat → Bool} (q : ∀ i, i < 10 → f i = g i) : ∀ n i a, i + n ≤ 10 → whF f n i a = whF g n i a := by
  intro n
  induction n with
  | zero => intro i a _; rfl
  | succ n ih =>
    intro i a hi
    unfold whF
    rw [q i (by omega), ih _ _ (by omega)]
end
theorem op_which : OP f_X4_which f_X5_which := by
  intro B h hB hI
  have hI0 := hI
  obtain ⟨pn, dr, z0, z1, z2, z3, z4, ⟨sc, t1, t2, t3, t4⟩, z6, z7⟩ := hI
  have O : OBS h sc (fun k => nt (h.1 5 k)) (fun k => nt (h.1 6 k)) (fun k => h.1 7 k) := by
    refine ⟨t1, t2, t3, fun k hk => ?_⟩
    obtain ⟨q1, q2, q3, ⟨a, ha, qa⟩, ⟨b, hb, qb⟩⟩ := t4 k hk
    have ea : nt (h.1 5 k) = a := by rw [qa, nt_nI (by omega)]
    have eb : nt (h.1 6 k) = b := by rw [qb, nt_nI (by omega)]
    have g5 : h.1 5 k = nI (nt (h.1 5 k)) := by rw [ea]; exact qa
    have g6 : h.1 6 k = nI (nt (h.1 6 k)) := by rw [eb]; exact qb
    exact ⟨⟨g5, g6, rfl⟩, ⟨q1.symm.trans g5, q2.symm.trans g6, q3.symm⟩, by show nt (h.1 5 k) ≤ 2; omega, by show nt (h.1 6 k) ≤ 20; omega⟩
  generalize hwh : (fun k => nt (h.1 5 k)) = wh at O
  generalize haf : (fun k => nt (h.1 6 k)) = af at O
  generalize hvl : (fun k => h.1 7 k) = vl at O
  obtain ⟨S', x1⟩ := x_which z0 z1 O hB 200 0 0 (vw h 25) (by omega) (by omega)
  rw [put_vw] at x1
  obtain ⟨r0, g, e0⟩ := as_t z6 S'
  obtain ⟨r', m1⟩ := m_which z0 z1 z6 O hB S' g 200 0 0 r0 (by omega) (by omega)
  rw [← e0] at m1
  have eq : whF (fun i => okF pn dr wh af vl sc i 21 0 (vw h 20)) (10 - 0) 0 0 = whF (fun i => alF pn dr wh af vl i (vw h 20) sc 0) (10 - 0) 0 0 := by
    refine whF_cg (fun i hi => ?_) _ _ _ (by omega)
    apply Bool.eq_iff_iff.mpr
    have e1 := ok_iff pn dr wh af vl sc i (vw h 20) 21 0
    have e2 := al_iff pn dr wh af vl i (vw h 20) sc 0
    refine (show okF pn dr wh af vl sc i 21 0 (vw h 20) = true ↔ _ from e1).trans (Iff.trans ?_ e2.symm)
    constructor
    · intro q j h1 h2
      have := (O.2.2.2 j (by omega)).2.2.2
      exact q j (by omega) (by omega) (by omega)
    · intro q j h1 h2 h3
      exact q j (by omega) (by omega)
  refine ⟨_, _, _, by unfold f_X4_which; exact x1, ?_, INV_t2 hI0 S' r' g⟩
  unfold f_X5_which
  rw [eq]
  exact m1
