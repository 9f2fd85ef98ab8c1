-- share: what goes out with some of the valves
section
variable {pn : Nat → Nat} {dr : Nat → Int32} {cm : Int32}
theorem mLv_72 (hN : PN pn) (r : RW) : mLv pn r 72 = r 72 ∨ mLv pn r 72 = r 72 + 1 := by
  unfold mLv
  split
  · exact Or.inl rfl
  · rw [mE_ge _ _ (by omega)]
    split
    · exact Or.inl (upd_ne _ _ (by omega))
    · exact Or.inr (upd_at _ _ _)
theorem mPre_72 (hN : PN pn) {r : RW} (hv : vcd (mFi pn dr cm r (18 + pn 1)) ≤ 4) : mPre pn dr cm r 72 = mLv pn r 72 := by
  have hst := hN.2.1
  have hcl := hN.1
  unfold mPre
  rw [mCk_hi hN (by omega) (by omega), mDr_hi (by omega) (by omega) (by omega), mDr_hi (by omega) (by omega) (by omega), mWg_hi _ hv (by omega)]
  unfold mFi
  rw [mFl_hi _ (by omega)]
  show (if 9 ≤ 72 ∧ 72 < 9 + pn 0 then _ else mQu _ _ 72) = _
  rw [if_neg (by omega)]
  by_cases q : nt (r 78) = 0
  · unfold mQu
    rw [if_pos q, mM0_big hcl.2 (by omega)]
  · rw [mQu_ne q (by omega), mM0_big hcl.2 (by omega)]
theorem adv_72 (hN : PN pn) : ∀ (n B : Nat) (S : SS) (r : RW), OC pn cm S → RR 9 pn B S r → B + n < 2 ^ 29 → ∃ d : Nat, d ≤ n ∧ mAdv pn dr cm n r 72 = r 72 + nI d := by
  have hV := hN.2.2.2.2.2
  have z : ∀ x : Int32, x = x + nI 0 := fun x => by
    have : nI 0 = 0 := rfl
    rw [this, Int32.add_zero]
  intro n
  induction n with
  | zero => intro B S r hO h hB; exact ⟨0, by omega, z _⟩
  | succ n ih =>
    intro B S r hO h hB
    unfold mAdv
    by_cases h1 : r 70 = 0
    · rw [if_pos h1]
      have e4 : cStp pn (cPre pn dr S) 0 4 = S 0 4 := by rw [cStp_4, cPre_4]
      obtain ⟨v, hv, -, -, -, v4⟩ := vcd_ok (dr := dr) hN hO h (by omega)
      obtain ⟨d, hd, e⟩ := ih (B + 1) _ _ (OC_of hO e4) (R_step (dr := dr) hN hO h (by omega) (jm_iff h)) (by omega)
      have e1 : mStp pn (jm r) (mPre pn dr cm r) 72 = mLv pn r 72 := by
        unfold mStp
        rw [upd_ne _ _ (by omega), mPs_hi hN (by omega) (by omega) (by omega) (by omega), mPre_72 hN (by omega)]
      rw [e, e1]
      rcases mLv_72 hN r with q | q
      · exact ⟨d, by omega, by rw [q]⟩
      · refine ⟨d + 1, by omega, ?_⟩
        rw [q, ← nI_1, Int32.add_assoc, Int32.add_comm 1]
    · rw [if_neg h1]
      exact ⟨0, by omega, z _⟩
variable {h : PH} {B : Nat}
theorem RR_off {S : SS} {r : RW} (x : Int32) (q : RR 9 pn B S r) : RR 9 pn B (u2 S 0 4 x) r := q
/-- with the valves off: what the class finds -/
theorem x_off (z0 : I0 h pn dr) (z1 : INow B h pn) (hB : B < 2 ^ 27) (off : Int32) (hO : OC pn cm (fun _ _ => off)) (S0 : SS) : ∃ S' : SS, f_X4_outWithOff off (put h 25 S0) = some (mAdv pn dr cm 30 (h.1 114) 72, put h 25 S') := by
  obtain ⟨T, x1, hT⟩ := x_try z0 z1 S0
  have hO2 : OC pn cm (u2 T 0 4 off) := OC_of hO rfl
  have hR : RR 9 pn B (u2 T 0 4 off) (h.1 114) := RR_off off hT.1
  have e : cAdv pn dr 30 (u2 T 0 4 off) 0 12 = mAdv pn dr cm 30 (h.1 114) 72 := (R_adv (dr := dr) z0.1 30 B _ _ hO2 hR (by omega)).1.2.2.2.1.1.2.2.2.2.2.1
  refine ⟨cAdv pn dr 30 (u2 T 0 4 off), ?_⟩
  unfold f_X4_outWithOff
  rw [x1, bd_at, XC.s0, L30, x_adv (xc_trial z0) (by omega) hO2 hR (by omega), bd_at, put_0, e]
/-- with the valves that come: what the reference finds -/
theorem m_out (z0 : I0 h pn dr) (z1 : INow B h pn) (z6 : IMisc h) (hB : B < 2 ^ 27) (off : Int32) (hO : OC pn cm (fun _ _ => off)) : ∃ h' : PH, f_X5_outBy cm h = some (mAdv pn dr cm 30 (h.1 114) 72, h') ∧ (∀ a b, ¬ (a = 115 ∨ (a = 110 ∧ b = 23)) → h'.1 a b = h.1 a b) ∧ h'.2 = h.2 := by
  have w : ∀ a b, ¬ (a = 110 ∧ b = 21) → (si h 110 21 cm).1 a b = h.1 a b := fun a b q => si_at' h cm q
  have y0 : I0 (si h 110 21 cm) pn dr := I0_cg (fun a b q => w a b (by omega)) z0
  have e22 : (si h 110 21 cm).1 110 22 = -9 := by rw [w _ _ (by omega)]; exact z6.2.2
  have q0 := as_mst (si h 110 21 cm) 115
  rw [e22] at q0
  obtain ⟨r1, m1, hr1⟩ := m_try (h := si h 110 21 cm) (vw (si h 110 21 cm) 25) ((si h 110 21 cm).1 115) (-9) ((si h 110 21 cm).1 110 23)
  rw [put_vw, ← q0] at m1
  have X : MC (si h 110 21 cm) 115 pn dr cm := ⟨Or.inr rfl, y0.2.2, z0.1, si_slf _ _ _ _⟩
  have hr2 : LK h r1 := fun x hx => (hr1 x hx).trans (w _ _ (by omega))
  have hR0 := RO_lk z0.1 hr2 z1
  have hO2 : OC pn cm (u2 (vw h 20) 0 4 off) := OC_of hO rfl
  have hR : RR 9 pn B (u2 (vw h 20) 0 4 off) r1 := RR_off off hR0.1
  have hR2 : RR 9 pn B (u2 (vw h 20) 0 4 off) (h.1 114) := RR_off off z1.1
  have e1 := (R_adv (dr := dr) z0.1 30 B _ _ hO2 hR (by omega)).1.2.2.2.1.1.2.2.2.2.2.1
  have e2 := (R_adv (dr := dr) z0.1 30 B _ _ hO2 hR2 (by omega)).1.2.2.2.1.1.2.2.2.2.2.1
  have m2 := m_adv X ((si h 110 21 cm).1 110 23) (N := 30) (by omega) hO2 hR (by omega)
  have e3 : (si (mst (si h 110 21 cm) 115 (mAdv pn dr cm 30 r1) (-9) ((si h 110 21 cm).1 110 23)) 110 21 15).1 115 = mAdv pn dr cm 30 r1 := by
    rw [si_ne _ _ _ _ (by omega), mst_k]
  refine ⟨si (mst (si h 110 21 cm) 115 (mAdv pn dr cm 30 r1) (-9) ((si h 110 21 cm).1 110 23)) 110 21 15, ?_, fun a b q => ?_, rfl⟩
  · unfold f_X5_outBy
    rw [st_at, m1, bd_at, L30, ← put_vw (si h 110 21 cm) 25, put_vw, m2, bd_at, st_at, rd_at 72 L72 (by decide) (by decide), e3, ← e1, e2]
  · by_cases c : a = 110 ∧ b = 21
    · obtain ⟨rfl, rfl⟩ := c
      rw [si_slf]
      exact z6.2.1.symm
    · rw [si_at' _ _ c]
      show (if a = 115 then mAdv pn dr cm 30 r1 b else if a = 110 ∧ b = 22 then (-9 : Int32) else if a = 110 ∧ b = 23 then (si h 110 21 cm).1 110 23 else (si h 110 21 cm).1 a b) = _
      rw [if_neg (by omega)]
      by_cases c2 : a = 110 ∧ b = 22
      · obtain ⟨rfl, rfl⟩ := c2
        rw [if_pos ⟨rfl, rfl⟩]
        exact z6.2.2.symm
      · rw [if_neg c2, if_neg (by omega)]
        exact w _ _ c
end
