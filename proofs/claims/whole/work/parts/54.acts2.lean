theorem hA_put {h : PH} {nx pc : Nat} (hnx : nx < 14) : put (hA h nx pc) 20 (vw h 20) = hA h nx pc := by
  have e := put_vw (hA h nx pc) 20
  rw [vw_hA hnx] at e
  exact e
theorem op_step (a : Int32) : OP (f_X4_step a) (f_X5_step a) := by
  intro B h hB hI
  have hI0 := hI
  obtain ⟨pn, dr, z0, z1, ⟨nx, pc, p1, p2, p3, p4, p5, p6, p7⟩, z3, z4, z5, z6, z7⟩ := hI
  have hal := z1.1.2.2.2.1.2.2.2.2.1
  have e10 : h.1 20 10 = h.1 114 70 := z1.1.2.2.2.1.1.2.2.2.1
  unfold f_X4_step f_X5_step
  rw [isWithin_eq, bd_at]
  by_cases h1 : isw a 1 99 = 0
  · refine ⟨-2, h, h, by rw [if_pos h1], ?_, INV_mono (by omega) hI0⟩
    rw [in_eq, bd_at, if_pos h1]
  · obtain ⟨n, -, n2, rfl⟩ := isw_nat (b := 1) (c := 99) (by omega) (by omega) h1
    rw [if_neg h1, e10]
    by_cases h2 : h.1 114 70 = 0
    · have hO := oc_0 z0.1 z1.2
      obtain ⟨r1, r2, r3⟩ := R_adv (dr := dr) z0.1 n B _ _ hO z1.1 (by omega)
      have x1 := x_adv (xc_now (I0_hA (pc := pc) p1 z0)) n2 hO z1.1 (by omega)
      rw [hA_put p1] at x1
      obtain ⟨g, eg⟩ := as_act (pc := pc) p1 z6 (cAdv pn dr n (vw h 20))
      have m1 := m_adv (mc_act (pc := pc) p1 z0 z6 (cAdv pn dr n (vw h 20))) g n2 hO z1.1 (by omega)
      rw [← eg] at m1
      refine ⟨_, _, _, by rw [if_pos h2, x_remember z1 p1 p2 p3 p5, bd_at, x1, bd_at], ?_, INV_act (B := B) (by omega) z0 z1 p1 p2 p7 z3 z4 z5 z6 z7 g ⟨RR_mono (by omega) r1, r3.trans z1.2⟩⟩
      rw [in_eq, bd_at, if_neg h1, rd_at 70 L70 (by decide) (by decide), put_out _ _ _ (by omega), hA_o (by omega), h2, if_neg (by decide), m_note_act p1 p2 p4 p6, bd_at, m1, bd_at, ← r2]
    · refine ⟨-3, h, h, by rw [if_neg h2], ?_, INV_mono (by omega) hI0⟩
      rw [in_eq, bd_at, if_neg h1, rd_at 70 L70 (by decide) (by decide), if_pos (hal.resolve_left h2)]
theorem op_slip : OP f_X4_slip f_X5_slip := by
  intro B h hB hI
  obtain ⟨pn, dr, z0, z1, ⟨nx, pc, p1, p2, p3, p4, p5, p6, p7⟩, z3, z4, z5, z6, z7⟩ := hI
  have hR := R_slip z0.1 z1.1
  have xc := xc_now (I0_hA (pc := pc) p1 z0)
  have x1 := x_moveMarks xc (vw h 20)
  rw [hA_put p1] at x1
  have x2 := x_countMarks xc hR
  obtain ⟨g, eg⟩ := as_act (pc := pc) p1 z6 (cMm pn (vw h 20))
  have mc := mc_act (pc := pc) p1 z0 z6 (cMm pn (vw h 20))
  have m1 := m_slip mc (h.1 114) (-9) g
  rw [← eg] at m1
  have m2 := m_marks mc hR (-9) g
  refine ⟨_, _, _, by unfold f_X4_slip; rw [x_remember z1 p1 p2 p3 p5, bd_at, x1, bd_at, x2, bd_at], ?_, INV_act (B := B) (by omega) z0 z1 p1 p2 p7 z3 z4 z5 z6 z7 g ⟨RR_mono (by omega) hR, z1.2⟩⟩
  unfold f_X5_slip
  rw [m_note_act p1 p2 p4 p6, bd_at, m1, bd_at, m2, bd_at]
theorem op_jam : OP f_X4_jam f_X5_jam := by
  intro B h hB hI
  obtain ⟨pn, dr, z0, z1, ⟨nx, pc, p1, p2, p3, p4, p5, p6, p7⟩, z3, z4, z5, z6, z7⟩ := hI
  have hj := z1.1.2.2.2.1.2.2.2.1
  have e11 : h.1 20 11 = h.1 114 69 := z1.1.2.2.2.1.1.2.2.1
  have key : ∀ v : Int32, v = 1 - h.1 114 69 → (v = 0 ∨ v = 1) → ∃ (r : Int32) (h1 h2 : PH), st (hA h nx pc) 20 11 v (fun h6 => bd (f_X4_asNumber (h6.1 20 11) h6) (fun r7 h8 => some (r7, h8))) = some (r, h1) ∧ f_X5_jam h1 = some (r, h2) ∧ INV (B + 99) h2 := by
    intro v hv hv2
    have hR := R_jam z0.1 hv2 z1.1
    have x1 : ∀ {β : Type} (f : PH → Option β), st (hA h nx pc) 20 11 v f = f (put (hA h nx pc) 20 (u2 (vw h 20) 0 11 v)) := by
      intro β f
      have := XC.s0 (h := hA h nx pc) (o := 20) (vw h 20) (i := 11) (v := v) (f := f)
      rw [hA_put p1] at this
      exact this
    obtain ⟨g, eg⟩ := as_act (pc := pc) p1 z6 (u2 (vw h 20) 0 11 v)
    have mc := mc_act (pc := pc) p1 z0 z6 (u2 (vw h 20) 0 11 v)
    refine ⟨v, _, _, by rw [x1, put_0, u2_same, asN_eq hv2, bd_at], ?_, INV_act (B := B) (by omega) z0 z1 p1 p2 p7 z3 z4 z5 z6 z7 g ⟨RR_mono (by omega) hR, z1.2⟩⟩
    unfold f_X5_jam
    rw [m_note_act p1 p2 p4 p6, bd_at, eg, mc.r _ _ _ 69 L69 (by decide), mc.w _ _ _ 69 L69 (by decide), mc.r _ _ _ 69 L69 (by decide), upd_at, ← hv, mst_mst]
  unfold f_X4_jam
  have e : (hA h nx pc).1 20 11 = h.1 114 69 := by rw [hA_o (by omega)]; exact e11
  rw [x_remember z1 p1 p2 p3 p5, bd_at, e]
  rcases hj with q | q
  · rw [if_pos q]
    exact key 1 (by rw [q]; decide) (Or.inr rfl)
  · rw [if_neg (by rw [q]; decide)]
    exact key 0 (by rw [q]; decide) (Or.inl rfl)
theorem op_clear : OP f_X4_clear f_X5_clear := by
  intro B h hB hI
  have hI0 := hI
  obtain ⟨pn, dr, z0, z1, ⟨nx, pc, p1, p2, p3, p4, p5, p6, p7⟩, z3, z4, z5, z6, z7⟩ := hI
  have e10 : h.1 20 10 = h.1 114 70 := z1.1.2.2.2.1.1.2.2.2.1
  unfold f_X4_clear f_X5_clear
  rw [e10]
  by_cases h2 : h.1 114 70 = 0
  · refine ⟨-3, h, h, by rw [if_pos h2], ?_, INV_mono (by omega) hI0⟩
    rw [rd_at 70 L70 (by decide) (by decide), if_pos h2]
  · obtain ⟨hR, hv⟩ := R_clear z0.1 z1.1
    have x1 := x_endAlarm (xc_now (I0_hA (pc := pc) p1 z0)) (vw h 20)
    rw [hA_put p1, hv] at x1
    obtain ⟨g, eg⟩ := as_act (pc := pc) p1 z6 (cEA pn (vw h 20))
    have mc := mc_act (pc := pc) p1 z0 z6 (cEA pn (vw h 20))
    have m1 := m_clearOn mc (h.1 114) (-9) g
    rw [← eg] at m1
    have h01 : h.1 114 (pn 5) = 0 ∨ h.1 114 (pn 5) = 1 := by
      rw [← hv]
      split
      · exact Or.inl rfl
      · exact Or.inr rfl
    refine ⟨_, _, _, by rw [if_neg h2, x_remember z1 p1 p2 p3 p5, bd_at, x1, bd_at, asN_eq h01, bd_at], ?_, INV_act (B := B) (by omega) z0 z1 p1 p2 p7 z3 z4 z5 z6 z7 g ⟨RR_mono (by omega) hR, (cEA_4 _).trans z1.2⟩⟩
    rw [rd_at 70 L70 (by decide) (by decide), put_out _ _ _ (by omega), hA_o (by omega), if_neg h2, m_note_act p1 p2 p4 p6, bd_at, m1, bd_at]
theorem op_restart : OP f_X4_restart f_X5_restart := by
  intro B h hB hI
  obtain ⟨pn, dr, z0, z1, ⟨nx, pc, p1, p2, p3, p4, p5, p6, p7⟩, z3, z4, z5, z6, z7⟩ := hI
  have hR := R_restart z0.1 z1.1
  have xc := xc_now (I0_hA (pc := pc) p1 z0)
  have x1 := x_restart xc (vw h 20)
  rw [hA_put p1] at x1
  have x2 := x_countMarks xc hR
  obtain ⟨g, eg⟩ := as_act (pc := pc) p1 z6 (cRs pn (vw h 20))
  have mc := mc_act (pc := pc) p1 z0 z6 (cRs pn (vw h 20))
  have m1 := m_restart mc (h.1 114) (-9) g
  rw [← eg] at m1
  have m2 := m_marks mc hR (-9) g
  refine ⟨_, _, _, by unfold f_X4_restart; rw [x_remember z1 p1 p2 p3 p5, bd_at, x1, bd_at, x2, bd_at], ?_, INV_act (B := B) (by omega) z0 z1 p1 p2 p7 z3 z4 z5 z6 z7 g ⟨RR_mono (by omega) hR, z1.2⟩⟩
  unfold f_X5_restart
  rw [m_note_act p1 p2 p4 p6, bd_at, m1, bd_at, m2, bd_at]
theorem imn_99 {n : Nat} (h : n ≤ 99) : imn 99 (nI n) = nI n := by
  unfold imn
  by_cases q : n < 99
  · rw [if_pos (by rw [L99]; exact nI_lt q (by omega))]
  · have : n = 99 := by omega
    rw [this]
    rfl
theorem stock_c {l : Int32} (hl : l = 0) {o : Nat} (ho : kd o = 2) (H : PH) : f_X3_stock o l H = some (H.1 o 7, H) := by
  unfold f_X3_stock
  rw [gd_at ho, if_pos hl]
theorem stock_l {l : Int32} (hl : ¬ l = 0) {o : Nat} (ho : kd o = 2) (H : PH) : f_X3_stock o l H = some (H.1 o 8, H) := by
  unfold f_X3_stock
  rw [gd_at ho, if_neg hl]
theorem addStock_c {l : Int32} (hl : l = 0) {o : Nat} (ho : kd o = 2) (H : PH) (n : Int32) : f_X3_addStock o l n H = some ((), si H o 7 (imn 99 (H.1 o 7 + n))) := by
  unfold f_X3_addStock
  rw [gd_at ho, if_pos hl, st_at]
theorem addStock_l {l : Int32} (hl : ¬ l = 0) {o : Nat} (ho : kd o = 2) (H : PH) (n : Int32) : f_X3_addStock o l n H = some ((), si H o 8 (imn 99 (H.1 o 8 + n))) := by
  unfold f_X3_addStock
  rw [gd_at ho, if_neg hl, st_at]
theorem op_lay (l a : Int32) : OP (f_X4_lay l a) (f_X5_lay l a) := by
  intro B h hB hI
  have hI0 := hI
  obtain ⟨pn, dr, z0, z1, ⟨nx, pc, p1, p2, p3, p4, p5, p6, p7⟩, z3, z4, z5, z6, z7⟩ := hI
  have e7 : h.1 20 7 = h.1 114 67 := z1.1.2.2.2.1.1.1
  have e8 : h.1 20 8 = h.1 114 68 := z1.1.2.2.2.1.1.2.1
  obtain ⟨c, c1, c2⟩ := z1.1.2.2.2.1.2.1
  obtain ⟨d, d1, d2⟩ := z1.1.2.2.2.1.2.2.1
  unfold f_X4_lay f_X5_lay
  rw [isWithin_eq, bd_at]
  by_cases h1 : isw a 1 9 = 0
  · refine ⟨-2, h, h, by rw [if_pos h1], ?_, INV_mono (by omega) hI0⟩
    rw [in_eq, bd_at, if_pos h1]
  · obtain ⟨n, -, n2, rfl⟩ := isw_nat (b := 1) (c := 9) (by omega) (by omega) h1
    rw [if_neg h1]
    by_cases h2 : l = 0
    · rw [stock_c h2 kd_20, bd_at, e7, c2, nI_add]
      by_cases h3 : c + n ≤ 99
      · have hR := R_caps z0.1 h3 z1.1
        obtain ⟨g, eg⟩ := as_act (pc := pc) p1 z6 (u2 (vw h 20) 0 7 (nI (c + n)))
        have mc := mc_act (pc := pc) p1 z0 z6 (u2 (vw h 20) 0 7 (nI (c + n)))
        have x1 : si (hA h nx pc) 20 7 (nI (c + n)) = put (hA h nx pc) 20 (u2 (vw h 20) 0 7 (nI (c + n))) := by
          have := si_put0 (hA h nx pc) 20 (vw h 20) 7 (nI (c + n))
          rw [hA_put p1] at this
          exact this
        refine ⟨nI (c + n), put (hA h nx pc) 20 (u2 (vw h 20) 0 7 (nI (c + n))), _, ?_, ?_, INV_act (B := B) (by omega) z0 z1 p1 p2 p7 z3 z4 z5 z6 z7 g ⟨RR_mono (by omega) hR, z1.2⟩⟩
        · rw [if_pos (by rw [L99]; exact nI_le h3 (by omega)), x_remember z1 p1 p2 p3 p5, bd_at, addStock_c h2 kd_20, hA_o (by omega), e7, c2, nI_add, imn_99 h3, x1, bd_at, stock_c h2 kd_20, bd_at, put_0, u2_same]
        · unfold f_X5_lay_b24
          rw [in_eq, bd_at, if_neg h1, if_pos h2, rd_at 67 L67 (by decide) (by decide), put_out _ _ _ (by omega), hA_o (by omega), c2, nI_add, if_pos (by rw [L99]; exact nI_le h3 (by omega)), m_note_act p1 p2 p4 p6, bd_at, eg, mc.r _ _ _ 67 L67 (by decide), mc.w _ _ _ 67 L67 (by decide), mc.r _ _ _ 67 L67 (by decide), upd_at, c2, nI_add, mst_mst]
      · refine ⟨-4, h, h, by rw [if_neg (by rw [L99]; exact nI_ge (by omega) (by omega))], ?_, INV_mono (by omega) hI0⟩
        unfold f_X5_lay_b24
        rw [in_eq, bd_at, if_neg h1, if_pos h2, rd_at 67 L67 (by decide) (by decide), c2, nI_add, if_neg (by rw [L99]; exact nI_ge (by omega) (by omega))]
    · rw [stock_l h2 kd_20, bd_at, e8, d2, nI_add]
      by_cases h3 : d + n ≤ 99
      · have hR := R_labels z0.1 h3 z1.1
        obtain ⟨g, eg⟩ := as_act (pc := pc) p1 z6 (u2 (vw h 20) 0 8 (nI (d + n)))
        have mc := mc_act (pc := pc) p1 z0 z6 (u2 (vw h 20) 0 8 (nI (d + n)))
        have x1 : si (hA h nx pc) 20 8 (nI (d + n)) = put (hA h nx pc) 20 (u2 (vw h 20) 0 8 (nI (d + n))) := by
          have := si_put0 (hA h nx pc) 20 (vw h 20) 8 (nI (d + n))
          rw [hA_put p1] at this
          exact this
        refine ⟨nI (d + n), put (hA h nx pc) 20 (u2 (vw h 20) 0 8 (nI (d + n))), _, ?_, ?_, INV_act (B := B) (by omega) z0 z1 p1 p2 p7 z3 z4 z5 z6 z7 g ⟨RR_mono (by omega) hR, z1.2⟩⟩
        · rw [if_pos (by rw [L99]; exact nI_le h3 (by omega)), x_remember z1 p1 p2 p3 p5, bd_at, addStock_l h2 kd_20, hA_o (by omega), e8, d2, nI_add, imn_99 h3, x1, bd_at, stock_l h2 kd_20, bd_at, put_0, u2_same]
        · unfold f_X5_lay_b24
          rw [in_eq, bd_at, if_neg h1, if_neg h2, rd_at 68 L68 (by decide) (by decide), put_out _ _ _ (by omega), hA_o (by omega), d2, nI_add, if_pos (by rw [L99]; exact nI_le h3 (by omega)), m_note_act p1 p2 p4 p6, bd_at, eg, mc.r _ _ _ 68 L68 (by decide), mc.w _ _ _ 68 L68 (by decide), mc.r _ _ _ 68 L68 (by decide), upd_at, d2, nI_add, mst_mst]
      · refine ⟨-4, h, h, by rw [if_neg (by rw [L99]; exact nI_ge (by omega) (by omega))], ?_, INV_mono (by omega) hI0⟩
        unfold f_X5_lay_b24
        rw [in_eq, bd_at, if_neg h1, if_neg h2, rd_at 68 L68 (by decide) (by decide), d2, nI_add, if_neg (by rw [L99]; exact nI_ge (by omega) (by omega))]
theorem op_set (a b : Int32) : OP (f_X4_set a b) (f_X5_set a b) := by
  intro B h hB hI
  have hI0 := hI
  obtain ⟨pn, dr, z0, z1, ⟨nx, pc, p1, p2, p3, p4, p5, p6, p7⟩, z3, z4, z5, z6, z7⟩ := hI
  have hV := z0.1.2.2.2.2.2
  unfold f_X4_set f_X5_set
  rw [hasValve_eq z0, bd_at]
  by_cases h1 : isw a 0 (nI (pn 9) - 1) = 0
  · refine ⟨-1, h, h, by rw [if_pos h1], ?_, INV_mono (by omega) hI0⟩
    rw [isValve_eq z0, bd_at, if_pos h1]
  · rw [if_neg h1, isWithin_eq, bd_at]
    by_cases h2 : isw b 0 99 = 0
    · refine ⟨-2, h, h, by rw [if_pos h2], ?_, INV_mono (by omega) hI0⟩
      rw [isValve_eq z0, bd_at, if_neg h1, in_eq, bd_at, if_pos h2]
    · obtain ⟨v, hv, rfl⟩ := isw_nv (by omega) h1
      obtain ⟨n, -, n2, rfl⟩ := isw_nat (b := 0) (c := 99) (by omega) (by omega) h2
      have hR := R_set z0.1 hv ⟨n, n2, rfl⟩ z1.1
      have xc := xc_now (I0_hA (pc := pc) p1 z0)
      have es : h.1 23 v = h.1 114 (63 + v) := (z1.1.2.2.1 v hv).1
      obtain ⟨g, eg⟩ := as_act (pc := pc) p1 z6 (u2 (vw h 20) 3 v (nI n))
      have mc := mc_act (pc := pc) p1 z0 z6 (u2 (vw h 20) 3 v (nI n))
      have x1 : ∀ {β : Type} (f : PH → Option β), wr (hA h nx pc) (20 + 3) (nI v) (nI n) f = f (put (hA h nx pc) 20 (u2 (vw h 20) 3 v (nI n))) := by
        intro β f
        have := XC.w3 xc (vw h 20) (i := nI v) (v := nI n) v rfl (by omega) (f := f)
        rw [hA_put p1] at this
        exact this
      have zA : I0 (put (hA h nx pc) 20 (u2 (vw h 20) 3 v (nI n))) pn dr := I0_cg (fun x y q => by rw [put_out _ _ _ (by omega), hA_o (by omega)]) z0
      refine ⟨h.1 114 (63 + v), put (hA h nx pc) 20 (u2 (vw h 20) 3 v (nI n)), _, ?_, ?_, INV_act (B := B) (by omega) z0 z1 p1 p2 p7 z3 z4 z5 z6 z7 g ⟨RR_mono (by omega) hR, z1.2⟩⟩
      · rw [if_neg h2, x_remember z1 p1 p2 p3 p5, bd_at, rd_at v rfl (by show v < 4; omega) (by decide), x1, hA_o (by omega)]
        show some (h.1 23 v, _) = _
        rw [es]
      · rw [isValve_eq zA, bd_at, if_neg h1, in_eq, bd_at, if_neg h2, m_note_act p1 p2 p4 p6, bd_at, eg, mc.r _ _ _ (63 + v) (A63 v) (by omega), mc.w _ _ _ (63 + v) (A63 v) (by omega), mst_mst]
/-- an entry more at the end of the queue -/
theorem R_entry {pn : Nat → Nat} {B m : Nat} {S : SS} {r : RW} {x : Int32} (hN : PN pn) (hx : mk3 x) (hm : r 78 = nI m) (hm2 : m < 24) (h : RR 9 pn B S r) : RR 9 pn B (u2 (u2 S 4 m x) 0 6 (nI (m + 1))) (upd (upd r (79 + m) x) 78 (nI (m + 1))) := by
  obtain ⟨hC, hM, hT, hK, m', hm', m1, m2, m3⟩ := h
  have hV := hN.2.2.2.2.2
  have : m' = m := by
    rw [m2] at hm
    exact (nI_eq (by omega) (by omega)).mp hm
  subst this
  have big : ∀ i, i < 78 → upd (upd r (79 + m') x) 78 (nI (m' + 1)) i = r i := fun i hi => by rw [upd_ne _ _ (by omega), upd_ne _ _ (by omega)]
  refine ⟨fun c q1 q2 => ?_, fun c q1 => ?_, fun v q1 => ?_, RK_congr hK (fun i a b => ?_) (fun i a b => big i (by omega)), m' + 1, by omega, rfl, rfl, fun i hi => ?_⟩
  · refine crel_mv ⟨?_, ?_, ?_, ?_, ?_, ?_⟩ (hC c q1 q2) <;> exact big _ (by omega)
  · rw [big _ (by omega)]; exact hM c q1
  · rw [big _ (by omega)]; exact hT v q1
  · rw [u2_i _ _ _ (by omega), u2_a _ _ _ (by decide)]
  · rw [upd_ne _ _ (by omega), u2_a _ _ _ (by decide)]
    by_cases q : i = m'
    · subst q
      rw [upd_at, u2_same]
      exact ⟨rfl, hx⟩
    · rw [upd_ne _ _ (by omega), u2_i _ _ _ q]
      exact m3 i (by omega)
theorem op_come (a : Int32) : OP (f_X4_come a) (f_X5_come a) := by
  intro B h hB hI
  have hI0 := hI
  obtain ⟨pn, dr, z0, z1, ⟨nx, pc, p1, p2, p3, p4, p5, p6, p7⟩, z3, z4, z5, z6, z7⟩ := hI
  obtain ⟨m, hm, m1, m2, m3⟩ := z1.1.2.2.2.2
  have e6 : h.1 20 6 = nI m := m1
  unfold f_X4_come f_X5_come
  rw [isWithin_eq, bd_at]
  by_cases h1 : isw a 0 2 = 0
  · refine ⟨-2, h, h, by rw [if_pos h1], ?_, INV_mono (by omega) hI0⟩
    rw [in_eq, bd_at, if_pos h1]
  · obtain ⟨n, -, n2, rfl⟩ := isw_nat (b := 0) (c := 2) (by omega) (by omega) h1
    rw [if_neg h1, e6]
    by_cases h2 : m = 24
    · refine ⟨-4, h, h, by rw [h2, if_neg (by decide)], ?_, INV_mono (by omega) hI0⟩
      rw [in_eq, bd_at, if_neg h1, rd_at 78 L78 (by decide) (by decide), m2, h2, if_pos (by decide)]
    · have hx : mk3 (nI n) := by
        rcases (show n = 0 ∨ n = 1 ∨ n = 2 by omega) with rfl | rfl | rfl
        · exact Or.inl rfl
        · exact Or.inr (Or.inl rfl)
        · exact Or.inr (Or.inr rfl)
      have hR := R_entry z0.1 hx m2 (by omega) z1.1
      have xc := xc_now (I0_hA (pc := pc) p1 z0)
      obtain ⟨g, eg⟩ := as_act (pc := pc) p1 z6 (u2 (u2 (vw h 20) 4 m (nI n)) 0 6 (nI (m + 1)))
      have mc := mc_act (pc := pc) p1 z0 z6 (u2 (u2 (vw h 20) 4 m (nI n)) 0 6 (nI (m + 1)))
      have x1 : f_X3_addEntry 20 (nI n) (hA h nx pc) = some ((), put (hA h nx pc) 20 (u2 (u2 (vw h 20) 4 m (nI n)) 0 6 (nI (m + 1)))) := by
        unfold f_X3_addEntry
        have e : (hA h nx pc).1 20 6 = nI m := by rw [hA_o (by omega)]; exact e6
        rw [gd_at kd_20, e, if_neg (by rw [L24]; exact nI_ge (by omega) (by omega))]
        have := XC.w4 xc (vw h 20) (i := nI m) (v := nI n) m rfl (by omega) (f := fun h1 => st h1 20 6 ((h1.1 20 6) + (1 : Int32)) (fun h2 => some ((), h2)))
        rw [hA_put p1] at this
        rw [this, XC.s0, put_0]
        have e2 : u2 (vw h 20) 4 m (nI n) 0 6 = nI m := e6
        rw [e2, nI_1]
      refine ⟨nI (m + 1), put (hA h nx pc) 20 (u2 (u2 (vw h 20) 4 m (nI n)) 0 6 (nI (m + 1))), _, ?_, ?_, INV_act (B := B) (by omega) z0 z1 p1 p2 p7 z3 z4 z5 z6 z7 g ⟨RR_mono (by omega) hR, z1.2⟩⟩
      · rw [if_pos (by rw [L24]; exact nI_lt (by omega) (by omega)), x_remember z1 p1 p2 p3 p5, bd_at, x1, bd_at, put_0, u2_same]
      · rw [in_eq, bd_at, if_neg h1, rd_at 78 L78 (by decide) (by decide), put_out _ _ _ (by omega), hA_o (by omega), m2, if_neg (by rw [L24, nI_eq (by omega) (by omega)]; exact h2), m_note_act p1 p2 p4 p6, bd_at, eg, mc.r _ _ _ 78 L78 (by decide), m2, mc.w _ _ _ (79 + m) (A79 m) (by omega), mc.r _ _ _ 78 L78 (by decide), upd_ne _ _ (by omega), m2, nI_1, mc.w _ _ _ 78 L78 (by decide), mc.r _ _ _ 78 L78 (by decide), upd_at, mst_mst]
