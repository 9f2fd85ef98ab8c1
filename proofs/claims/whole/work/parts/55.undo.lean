theorem op_undo : OP f_X4_undo f_X5_undo := by
  intro B h hB hI
  have hI0 := hI
  obtain ⟨pn, dr, z0, z1, ⟨nx, pc, p1, p2, p3, p4, p5, p6, p7⟩, z3, z4, z5, z6, z7⟩ := hI
  unfold f_X4_undo f_X5_undo
  rw [p3]
  by_cases h1 : pc = 0
  · refine ⟨-3, h, h, by rw [h1, if_pos (show nI 0 = 0 from rfl)], ?_, INV_mono (by omega) hI0⟩
    rw [p4, h1, if_pos (show nI 0 = 0 from rfl)]
  · have hne : ¬ nI pc = 0 := nI_ne0 (by omega) (by omega)
    have q0 := p7 0 (by omega)
    rw [Nat.sub_zero] at q0
    have hp : (nx + 13) % 14 < 14 := Nat.mod_lt _ (by omega)
    have ei : ∀ x : Int32, x = nI nx → irm ((x + 14) - 1) 14 = nI ((nx + 13) % 14) := by
      intro x hx
      rw [hx, L14, nI_add, nI_sub1 (by omega), irm_nI (by omega) (by omega) (by omega)]
      rfl
    generalize hP : (nx + 13) % 14 = p at q0 hp ei
    have es : sta 2 p = 30 + 5 * p := by unfold sta; rw [if_pos rfl]
    have ek : kd (30 + 5 * p) = 2 := by rw [← es]; exact kd_sta2' p hp
    generalize hX1 : si (si h 0 8 (nI p)) 0 7 (nI (pc - 1)) = h1'
    have o1 : ∀ a b, ¬ (a = 0 ∧ (b = 7 ∨ b = 8)) → h1'.1 a b = h.1 a b := by
      intro a b q
      rw [← hX1, si_at' _ _ (by omega), si_at' _ _ (by omega)]
    have o7 : h1'.1 0 7 = nI (pc - 1) := by rw [← hX1, si_slf]
    have o8 : h1'.1 0 8 = nI p := by rw [← hX1, si_at' _ _ (by omega), si_slf]
    obtain ⟨⟨-, -, k3, k4, -⟩, -, -, hj, ha, -⟩ := q0.1.2.2.2.1
    have e10 : h1'.1 (30 + 5 * p) 10 = 0 ∨ h1'.1 (30 + 5 * p) 10 = 1 := by
      rw [o1 _ _ (by omega)]
      have e : h.1 (30 + 5 * p) 10 = dv h 116 p 70 := k4
      rw [e]; exact ha
    have e11 : h1'.1 (30 + 5 * p) 11 = 0 ∨ h1'.1 (30 + 5 * p) 11 = 1 := by
      rw [o1 _ _ (by omega)]
      have e : h.1 (30 + 5 * p) 11 = dv h 116 p 69 := k3
      rw [e]; exact hj
    have x1 := x_copy (h := h1') (o := 20) (q := 30 + 5 * p) kd_20 ek (by omega) e10 e11
    generalize hX2 : put h1' 20 (cpS (vw h1' 20) (vw h1' (30 + 5 * p))) = h2 at x1
    have o2 : ∀ a b, ¬ ((20 ≤ a ∧ a ≤ 24) ∨ (a = 0 ∧ (b = 7 ∨ b = 8))) → h2.1 a b = h.1 a b := by
      intro a b q
      rw [← hX2, put_out _ _ _ (by omega), o1 _ _ (by omega)]
    generalize hX3 : si (si h2 110 12 (nI (pc - 1))) 110 13 (nI p) = h3
    have o3 : ∀ a b, ¬ (a = 110 ∧ (b = 12 ∨ b = 13)) → h3.1 a b = h2.1 a b := by
      intro a b q
      rw [← hX3, si_at' _ _ (by omega), si_at' _ _ (by omega)]
    have o12 : h3.1 110 12 = nI (pc - 1) := by rw [← hX3, si_at' _ _ (by omega), si_slf]
    have o13 : h3.1 110 13 = nI p := by rw [← hX3, si_slf]
    have mu := m_undo_b38 (h := h3) o13 hp 200 0 (by omega) (by omega)
    rw [sg_0, sa_id, o12] at mu
    refine ⟨nI (pc - 1), h2, sa h3 114 (sg (h3.1 116) (h3.1 114) (103 * p) 0 103), ?_, ?_, ?_⟩
    · rw [if_neg hne, st_at, ei _ p5, si_at' _ _ (by omega), st_at]
      have e7 : (si h 0 8 (nI p)).1 0 7 = nI pc := by rw [si_at' _ _ (by omega)]; exact p3
      rw [p3, nI_sub1 (by omega), hX1, o8, rq_at p rfl (by show p < 14; exact hp) (by decide), es, x1, bd_at]
      have e9 : h2.1 0 7 = nI (pc - 1) := by rw [← hX2, put_out _ _ _ (by omega)]; exact o7
      rw [e9]
    · have e1 : h2.1 110 12 = nI pc := by rw [o2 _ _ (by omega)]; exact p4
      have e2 : (si h2 110 12 (nI (pc - 1))).1 110 13 = nI nx := by rw [si_at' _ _ (by omega), o2 _ _ (by omega)]; exact p6
      rw [e1, if_neg hne, nI_sub1 (by omega), st_at, ei _ e2, st_at, hX3]
      exact mu
    · have oo : ∀ a b, ¬ ((20 ≤ a ∧ a ≤ 24) ∨ a = 114 ∨ (a = 0 ∧ (b = 7 ∨ b = 8)) ∨ (a = 110 ∧ (b = 12 ∨ b = 13))) → (sa h3 114 (sg (h3.1 116) (h3.1 114) (103 * p) 0 103)).1 a b = h.1 a b := by
        intro a b q
        rw [sa_ne _ _ (by omega), o3 _ _ (by omega), o2 _ _ (by omega)]
      refine INV_mono (B := B) (by omega) ⟨pn, dr, I0_cg (fun a b c => oo a b (by omega)) z0, ?_, ⟨p, pc - 1, hp, by omega, ?_, ?_, ?_, ?_, fun i hi => ?_⟩, ISlot_cg (fun a b c => oo a b (by omega)) z3, ITx_cg (fun a b c => oo a b (by omega)) z4, ISeen_cg (fun a b c => oo a b (by omega)) z5, ?_, IRd_cg (fun a b c => oo a b (by omega)) z7⟩
      · unfold INow
        rw [sa_at]
        have v1 : vw h1' (30 + 5 * p) = vw h (30 + 5 * p) := vw_cg (fun a b _ _ => o1 a b (by omega))
        refine RO_cg (S := cpS (vw h1' 20) (vw h (30 + 5 * p))) (r := dv h 116 p) z0.1 (RO_cpy z0.1 q0 (fun _ _ => rfl)) (fun a ha => ?_) (fun i hi => ?_)
        · unfold vw
          rw [if_pos ha, sa_ne _ _ (by omega)]
          funext b
          rw [o3 _ _ (by omega), ← hX2, put_at _ _ _ ha, v1]
          rfl
        · unfold sg dv
          rw [if_pos (by omega), Nat.sub_zero, o3 _ _ (by omega), o2 _ _ (by omega)]
      · rw [sa_ne _ _ (by omega), o3 _ _ (by omega), ← hX2, put_out _ _ _ (by omega)]; exact o7
      · rw [sa_ne _ _ (by omega)]; exact o12
      · rw [sa_ne _ _ (by omega), o3 _ _ (by omega), ← hX2, put_out _ _ _ (by omega)]; exact o8
      · rw [sa_ne _ _ (by omega)]; exact o13
      · have e : (p + 13 - i) % 14 = (nx + 13 - (i + 1)) % 14 := by omega
        have lt : (nx + 13 - (i + 1)) % 14 < 14 := Nat.mod_lt _ (by omega)
        have q := p7 (i + 1) (by omega)
        rw [e]
        generalize (nx + 13 - (i + 1)) % 14 = y at q lt ⊢
        rw [vw_cg (h := h) (fun a b _ _ => oo a b (by omega)), dv_cg (h := h) (fun b => oo 116 b (by omega))]
        exact q
      · exact ⟨by
          have e2 : (sa h3 114 (sg (h3.1 116) (h3.1 114) (103 * p) 0 103)).2 = h.2 := by
            show h3.2 = h.2
            rw [← hX3]
            show h2.2 = h.2
            rw [← hX2]
            show h1'.2 = h.2
            rw [← hX1]
            rfl
          rw [e2]; exact z6.1, by rw [oo 110 21 (by omega)]; exact z6.2.1, by rw [oo 110 22 (by omega)]; exact z6.2.2⟩
theorem op_keep (a : Int32) : OP (f_X4_keep a) (f_X5_keep a) := by
  intro B h hB hI
  have hI0 := hI
  obtain ⟨pn, dr, z0, z1, z2, z3, z4, z5, z6, z7⟩ := hI
  unfold f_X4_keep f_X5_keep
  rw [isWithin_eq, bd_at]
  by_cases h1 : isw a 0 1 = 0
  · refine ⟨-1, h, h, by rw [if_pos h1], ?_, INV_mono (by omega) hI0⟩
    rw [in_eq, bd_at, if_pos h1]
  · obtain ⟨j, -, j2, rfl⟩ := isw_nat (b := 0) (c := 1) (by omega) (by omega) h1
    have es : sta 3 j = 100 + 5 * j := by unfold sta; rw [if_neg (by decide)]
    have ek : kd (100 + 5 * j) = 2 := by rw [← es]; exact kd_sta3' j (by omega)
    obtain ⟨⟨-, -, k3, k4, k5, -⟩, -, -, hj, ha, -⟩ := z1.1.2.2.2.1
    have e10 : h.1 20 10 = h.1 114 70 := k4
    have e11 : h.1 20 11 = h.1 114 69 := k3
    have e9 : h.1 20 9 = h.1 114 71 := k5
    have x1 := x_copy (h := h) (o := 100 + 5 * j) (q := 20) ek kd_20 (by omega) (by rw [e10]; exact ha) (by rw [e11]; exact hj)
    generalize hX1 : put h (100 + 5 * j) (cpS (vw h (100 + 5 * j)) (vw h 20)) = h1' at x1
    have o1 : ∀ a b, ¬ (100 + 5 * j ≤ a ∧ a < 105 + 5 * j) → h1'.1 a b = h.1 a b := by
      intro a b q
      rw [← hX1, put_out _ _ _ (by omega)]
    generalize hX2 : si (si h1' 4 j 1) 118 j 1 = h2
    have o2 : ∀ a b, ¬ ((a = 4 ∨ a = 118) ∧ b = j) → h2.1 a b = h1'.1 a b := by
      intro a b q
      rw [← hX2, si_at' _ _ (by omega), si_at' _ _ (by omega)]
    have mk := m_keep_b20 (h := h2) (j := j) (by omega) 200 0 (by omega) (by omega)
    rw [sg_0, sa_id] at mk
    refine ⟨h.1 114 71, si h1' 4 j 1, sa h2 117 (sg (h2.1 114) (h2.1 117) 0 (103 * j) 103), ?_, ?_, ?_⟩
    · rw [if_neg h1, rq_at j rfl (by show j < 2; omega) (by decide), es, x1, bd_at, wr_at j rfl (by show j < 2; omega) (by decide), si_at' _ _ (by omega), o1 _ _ (by omega), e9]
    · rw [in_eq, bd_at, if_neg h1, wr_at j rfl (by show j < 2; omega) (by decide), hX2]
      have e : h2.1 114 71 = h.1 114 71 := by rw [o2 _ _ (by omega), o1 _ _ (by omega)]
      rw [e] at mk
      exact mk
    · have oo : ∀ a b, ¬ ((100 + 5 * j ≤ a ∧ a < 105 + 5 * j) ∨ ((a = 4 ∨ a = 118) ∧ b = j) ∨ (a = 117 ∧ 103 * j ≤ b ∧ b < 103 * j + 103)) → (sa h2 117 (sg (h2.1 114) (h2.1 117) 0 (103 * j) 103)).1 a b = h.1 a b := by
        intro a b q
        by_cases z : a = 117
        · subst z
          rw [sa_at]
          unfold sg
          rw [if_neg (by omega), o2 _ _ (by omega), o1 _ _ (by omega)]
        · rw [sa_ne _ _ z, o2 _ _ (by omega), o1 _ _ (by omega)]
      refine INV_mono (B := B) (by omega) ⟨pn, dr, I0_cg (fun a b c => oo a b (by omega)) z0, INow_cg (fun a b c => oo a b (by omega)) z1, IPast_cg (fun a b c => oo a b (by omega)) z2, fun i hi => ?_, ITx_cg (fun a b c => oo a b (by omega)) z4, ISeen_cg (fun a b c => oo a b (by omega)) z5, IMisc_cg (fun b c => oo 110 b (by omega)) (by
          show h2.2 = h.2
          rw [← hX2]
          show h1'.2 = h.2
          rw [← hX1]
          rfl) z6, IRd_cg (fun a b c => oo a b (by omega)) z7⟩
      by_cases q : i = j
      · subst q
        have e4 : (sa h2 117 (sg (h2.1 114) (h2.1 117) 0 (103 * i) 103)).1 4 i = 1 := by rw [sa_ne _ _ (by omega), ← hX2, si_at' _ _ (by omega), si_slf]
        have e118 : (sa h2 117 (sg (h2.1 114) (h2.1 117) 0 (103 * i) 103)).1 118 i = 1 := by rw [sa_ne _ _ (by omega), ← hX2, si_slf]
        rw [e4, e118]
        refine ⟨rfl, Or.inr ⟨rfl, ?_⟩⟩
        refine RO_cg (S := cpS (vw h (100 + 5 * i)) (vw h 20)) (r := h.1 114) z0.1 (RO_cpy z0.1 z1 (fun _ _ => rfl)) (fun a ha => ?_) (fun x hx => ?_)
        · unfold vw
          rw [if_pos ha, sa_ne _ _ (by omega)]
          funext b
          rw [o2 _ _ (by omega), ← hX1, put_at _ _ _ ha]
          rfl
        · unfold dv
          rw [sa_at]
          unfold sg
          rw [if_pos (by omega), Nat.add_sub_cancel_left, Nat.zero_add, o2 _ _ (by omega), o1 _ _ (by omega)]
      · have z := z3 i hi
        rw [oo 4 i (by omega), oo 118 i (by omega), vw_cg (h := h) (fun a b _ _ => oo a b (by omega))]
        refine ⟨z.1, z.2.imp id (fun y => ⟨y.1, RO_cg z0.1 y.2 (fun _ _ => rfl) (fun x hx => ?_)⟩)⟩
        unfold dv
        exact oo _ _ (by omega)
theorem op_again (a : Int32) : OP (f_X4_again a) (f_X5_again a) := by
  intro B h hB hI
  have hI0 := hI
  obtain ⟨pn, dr, z0, z1, ⟨nx, pc, p1, p2, p3, p4, p5, p6, p7⟩, z3, z4, z5, z6, z7⟩ := hI
  unfold f_X4_again f_X5_again
  rw [isWithin_eq, bd_at]
  by_cases h1 : isw a 0 1 = 0
  · refine ⟨-1, h, h, by rw [if_pos h1], ?_, INV_mono (by omega) hI0⟩
    rw [in_eq, bd_at, if_pos h1]
  · obtain ⟨j, -, j2, rfl⟩ := isw_nat (b := 0) (c := 1) (by omega) (by omega) h1
    obtain ⟨s1, s2⟩ := z3 j (by omega)
    rw [if_neg h1, rd_at j rfl (by show j < 2; omega) (by decide)]
    rcases s2 with s2 | ⟨s2, s3⟩
    · refine ⟨-3, h, h, by rw [if_pos s2], ?_, INV_mono (by omega) hI0⟩
      rw [in_eq, bd_at, if_neg h1, rd_at j rfl (by show j < 2; omega) (by decide), ← s1, if_pos s2]
    · have es : sta 3 j = 100 + 5 * j := by unfold sta; rw [if_neg (by decide)]
      have ek : kd (100 + 5 * j) = 2 := by rw [← es]; exact kd_sta3' j (by omega)
      obtain ⟨⟨-, -, k3, k4, k5, -⟩, -, -, hj, ha, -⟩ := s3.1.2.2.2.1
      have e10 : h.1 (100 + 5 * j) 10 = dv h 117 j 70 := k4
      have e11 : h.1 (100 + 5 * j) 11 = dv h 117 j 69 := k3
      have e9 : h.1 (100 + 5 * j) 9 = dv h 117 j 71 := k5
      have x1 := x_copy (h := h) (o := 20) (q := 100 + 5 * j) kd_20 ek (by omega) (by rw [e10]; exact ha) (by rw [e11]; exact hj)
      generalize hX1 : put h 20 (cpS (vw h 20) (vw h (100 + 5 * j))) = h1' at x1
      have o1 : ∀ a b, ¬ (20 ≤ a ∧ a ≤ 24) → h1'.1 a b = h.1 a b := by
        intro a b q
        rw [← hX1, put_out _ _ _ (by omega)]
      have q9 : h1'.1 20 9 = dv h 117 j 71 := by
        rw [← hX1, put_0, cpS_0 _ _ (by omega) (by omega)]
        exact e9
      generalize hX2 : si h1' 0 7 0 = h2
      have o2 : ∀ a b, ¬ (a = 0 ∧ b = 7) → h2.1 a b = h1'.1 a b := by
        intro a b q
        rw [← hX2, si_at' _ _ (by omega)]
      have ma := m_again_b25 (h := h2) (j := j) (by omega) 200 0 (by omega) (by omega)
      rw [sg_0, sa_id] at ma
      have row : ∀ x, x < 103 → sg (h2.1 117) (h2.1 114) (103 * j) 0 103 x = dv h 117 j x := by
        intro x hx
        unfold sg dv
        rw [if_pos (by omega), Nat.sub_zero, o2 _ _ (by omega), o1 _ _ (by omega)]
      rw [row 71 (by omega)] at ma
      refine ⟨dv h 117 j 71, h2, si (sa h2 114 (sg (h2.1 117) (h2.1 114) (103 * j) 0 103)) 110 12 0, ?_, ?_, ?_⟩
      · rw [if_neg (by rw [s2]; decide), rq_at j rfl (by show j < 2; omega) (by decide), es, x1, bd_at]
        unfold f_X4_forgetActs
        rw [st_at, bd_at, hX2, o2 _ _ (by omega), q9]
      · rw [in_eq, bd_at, if_neg h1, rd_at j rfl (by show j < 2; omega) (by decide), o2 _ _ (by omega), o1 _ _ (by omega), ← s1, if_neg (by rw [s2]; decide)]
        exact ma
      · have oo : ∀ a b, ¬ ((20 ≤ a ∧ a ≤ 24) ∨ a = 114 ∨ (a = 0 ∧ b = 7) ∨ (a = 110 ∧ b = 12)) → (si (sa h2 114 (sg (h2.1 117) (h2.1 114) (103 * j) 0 103)) 110 12 0).1 a b = h.1 a b := by
          intro a b q
          rw [si_at' _ _ (by omega), sa_ne _ _ (by omega), o2 _ _ (by omega), o1 _ _ (by omega)]
        refine INV_mono (B := B) (by omega) ⟨pn, dr, I0_cg (fun a b c => oo a b (by omega)) z0, ?_, ⟨nx, 0, p1, by omega, ?_, ?_, ?_, ?_, fun i hi => by omega⟩, ISlot_cg (fun a b c => oo a b (by omega)) z3, ITx_cg (fun a b c => oo a b (by omega)) z4, ISeen_cg (fun a b c => oo a b (by omega)) z5, IMisc_cg (fun b c => oo 110 b (by omega)) (by
          show h2.2 = h.2
          rw [← hX2]
          show h1'.2 = h.2
          rw [← hX1]
          rfl) z6, IRd_cg (fun a b c => oo a b (by omega)) z7⟩
        · unfold INow
          refine RO_cg (S := cpS (vw h 20) (vw h (100 + 5 * j))) (r := dv h 117 j) z0.1 (RO_cpy z0.1 s3 (fun _ _ => rfl)) (fun a ha => ?_) (fun x hx => ?_)
          · unfold vw
            rw [if_pos ha, si_ne _ _ _ _ (by omega), sa_ne _ _ (by omega)]
            funext b
            rw [o2 _ _ (by omega), ← hX1, put_at _ _ _ ha]
            rfl
          · rw [si_at' _ _ (by omega), sa_at, row x hx]
        · rw [si_at' _ _ (by omega), sa_ne _ _ (by omega), ← hX2, si_slf]; rfl
        · rw [si_slf]; rfl
        · rw [oo 0 8 (by omega)]; exact p5
        · rw [oo 110 13 (by omega)]; exact p6
