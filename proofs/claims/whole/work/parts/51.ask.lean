theorem x_number_now {h : PH} {pn : Nat → Nat} {dr : Nat → Int32} {B : Nat} (z : I0 h pn dr) (n : INow B h pn) {j : Nat} (h1 : 5 ≤ j) (h2 : j ≤ 17) : f_X3_number 20 (nI j) h = some (tlv pn (h.1 114) j, h) := by
  have q := x_number (xc_now z) n.1 h1 h2
  rw [put_vw] at q
  exact q
theorem m_tell_now {h : PH} {pn : Nat → Nat} {dr : Nat → Int32} (z : I0 h pn dr) (m : IMisc h) {j : Nat} (h1 : 5 ≤ j) (h2 : j ≤ 17) : f_X5_tell 114 (nI j) h = some (tlv pn (h.1 114) j, h) := by
  have q := m_tell (r := h.1 114) (mc_now z m) (h.1 110 22) (h.1 110 23) h1 h2
  rw [mst_self] at q
  exact q
theorem op_about (a : Int32) : OP (f_X4_about a) (f_X5_about a) := OP_q fun B h hB hI => by
  obtain ⟨pn, dr, z, n, ⟨nx, pc, -, -, p3, p4, -⟩, -, ⟨tl, -, t2, t3, -⟩, ⟨sc, -, s2, s3, -⟩, m, -⟩ := hI
  obtain ⟨-, ⟨a1, a2, a3, a4, a5, a6, a7⟩, ⟨b1, b2, b3, b4, b5, b6, b7⟩⟩ := id z
  unfold f_X4_about f_X5_about
  by_cases c0 : a = 0
  · rw [if_pos c0, if_pos c0, a1, b1]
    exact ⟨_, rfl, rfl⟩
  · rw [if_neg c0, if_neg c0]
    by_cases c1 : a = 1
    · rw [if_pos c1, if_pos c1, a6, b6]
      exact ⟨_, rfl, rfl⟩
    · rw [if_neg c1, if_neg c1]
      by_cases c2 : a = 2
      · rw [if_pos c2, if_pos c2, a3, b3]
        exact ⟨_, rfl, rfl⟩
      · rw [if_neg c2, if_neg c2]
        by_cases c3 : a = 3
        · rw [if_pos c3, if_pos c3, a4, b4]
          exact ⟨_, rfl, rfl⟩
        · rw [if_neg c3, if_neg c3]
          by_cases c4 : a = 4
          · rw [if_pos c4, if_pos c4, a5, b5]
            exact ⟨_, rfl, rfl⟩
          · rw [if_neg c4, if_neg c4]
            by_cases c5 : a = 5
            · rw [if_pos c5, if_pos c5, in_eq, bd_at, c5, if_neg (by decide), L5, x_number_now z n (by omega) (by omega), m_tell_now z m (by omega) (by omega), bd_at]
              exact ⟨_, rfl, rfl⟩
            · rw [if_neg c5, if_neg c5]
              by_cases c6 : a = 6
              · rw [if_pos c6, if_pos c6, in_eq, bd_at, c6, if_neg (by decide), L6, x_number_now z n (by omega) (by omega), m_tell_now z m (by omega) (by omega), bd_at]
                exact ⟨_, rfl, rfl⟩
              · rw [if_neg c6, if_neg c6]
                by_cases c7 : a = 7
                · rw [if_pos c7, if_pos c7, in_eq, bd_at, c7, if_neg (by decide), L7, x_number_now z n (by omega) (by omega), m_tell_now z m (by omega) (by omega), bd_at]
                  exact ⟨_, rfl, rfl⟩
                · rw [if_neg c7, if_neg c7]
                  by_cases c8 : a = 8
                  · rw [if_pos c8, if_pos c8, in_eq, bd_at, c8, if_neg (by decide), L8, x_number_now z n (by omega) (by omega), m_tell_now z m (by omega) (by omega), bd_at]
                    exact ⟨_, rfl, rfl⟩
                  · rw [if_neg c8, if_neg c8]
                    by_cases c9 : a = 9
                    · rw [if_pos c9, if_pos c9, in_eq, bd_at, c9, if_neg (by decide), L9, x_number_now z n (by omega) (by omega), m_tell_now z m (by omega) (by omega), bd_at]
                      exact ⟨_, rfl, rfl⟩
                    · rw [if_neg c9, if_neg c9]
                      by_cases c10 : a = 10
                      · rw [if_pos c10, if_pos c10, in_eq, bd_at, c10, if_neg (by decide), L10, x_number_now z n (by omega) (by omega), m_tell_now z m (by omega) (by omega), bd_at]
                        exact ⟨_, rfl, rfl⟩
                      · rw [if_neg c10, if_neg c10]
                        by_cases c11 : a = 11
                        · rw [if_pos c11, if_pos c11, in_eq, bd_at, c11, if_neg (by decide), L11, x_number_now z n (by omega) (by omega), m_tell_now z m (by omega) (by omega), bd_at]
                          exact ⟨_, rfl, rfl⟩
                        · rw [if_neg c11, if_neg c11]
                          by_cases c12 : a = 12
                          · rw [if_pos c12, if_pos c12, in_eq, bd_at, c12, if_neg (by decide), L12, x_number_now z n (by omega) (by omega), m_tell_now z m (by omega) (by omega), bd_at]
                            exact ⟨_, rfl, rfl⟩
                          · rw [if_neg c12, if_neg c12]
                            by_cases c13 : a = 13
                            · rw [if_pos c13, if_pos c13, in_eq, bd_at, c13, if_neg (by decide), L13, x_number_now z n (by omega) (by omega), m_tell_now z m (by omega) (by omega), bd_at]
                              exact ⟨_, rfl, rfl⟩
                            · rw [if_neg c13, if_neg c13]
                              by_cases c14 : a = 14
                              · rw [if_pos c14, if_pos c14, in_eq, bd_at, c14, if_neg (by decide), L14, x_number_now z n (by omega) (by omega), m_tell_now z m (by omega) (by omega), bd_at]
                                exact ⟨_, rfl, rfl⟩
                              · rw [if_neg c14, if_neg c14]
                                by_cases c15 : a = 15
                                · rw [if_pos c15, if_pos c15, in_eq, bd_at, c15, if_neg (by decide), L15, x_number_now z n (by omega) (by omega), m_tell_now z m (by omega) (by omega), bd_at]
                                  exact ⟨_, rfl, rfl⟩
                                · rw [if_neg c15, if_neg c15]
                                  by_cases c16 : a = 16
                                  · rw [if_pos c16, if_pos c16, in_eq, bd_at, c16, if_neg (by decide), L16, x_number_now z n (by omega) (by omega), m_tell_now z m (by omega) (by omega), bd_at]
                                    exact ⟨_, rfl, rfl⟩
                                  · rw [if_neg c16, if_neg c16]
                                    by_cases c17 : a = 17
                                    · rw [if_pos c17, if_pos c17, in_eq, bd_at, c17, if_neg (by decide), L17, x_number_now z n (by omega) (by omega), m_tell_now z m (by omega) (by omega), bd_at]
                                      exact ⟨_, rfl, rfl⟩
                                    · rw [if_neg c17, if_neg c17]
                                      by_cases c18 : a = 18
                                      · rw [if_pos c18, if_pos c18, p3, p4]
                                        exact ⟨_, rfl, rfl⟩
                                      · rw [if_neg c18, if_neg c18]
                                        by_cases c19 : a = 19
                                        · rw [if_pos c19, if_pos c19, s2, s3]
                                          exact ⟨_, rfl, rfl⟩
                                        · rw [if_neg c19, if_neg c19]
                                          by_cases c20 : a = 20
                                          · rw [if_pos c20, if_pos c20, t2, t3]
                                            exact ⟨_, rfl, rfl⟩
                                          · rw [if_neg c20, if_neg c20]
                                            have e0 : isw a 5 17 = 0 := by
                                              rcases Classical.em (isw a 5 17 = 0) with q | q
                                              · exact q
                                              · exfalso
                                                obtain ⟨i, i1, i2, rfl⟩ := isw_nat (b := 5) (c := 17) (by omega) (by omega) q
                                                have key : i = 5 ∨ i = 6 ∨ i = 7 ∨ i = 8 ∨ i = 9 ∨ i = 10 ∨ i = 11 ∨ i = 12 ∨ i = 13 ∨ i = 14 ∨ i = 15 ∨ i = 16 ∨ i = 17 := by omega
                                                rcases key with rfl | rfl | rfl | rfl | rfl | rfl | rfl | rfl | rfl | rfl | rfl | rfl | rfl
                                                · exact c5 rfl
                                                · exact c6 rfl
                                                · exact c7 rfl
                                                · exact c8 rfl
                                                · exact c9 rfl
                                                · exact c10 rfl
                                                · exact c11 rfl
                                                · exact c12 rfl
                                                · exact c13 rfl
                                                · exact c14 rfl
                                                · exact c15 rfl
                                                · exact c16 rfl
                                                · exact c17 rfl
                                            have e1 : f_X3_number 20 a h = some (-2, h) := by
                                              unfold f_X3_number
                                              rw [gd_at kd_20, if_neg c5, if_neg c6, if_neg c7, if_neg c8, if_neg c9, if_neg c10, if_neg c11, if_neg c12, if_neg c13, if_neg c14, if_neg c15, if_neg c16, if_neg c17]
                                            rw [e1, in_eq, bd_at, bd_at, e0, if_pos rfl]
                                            exact ⟨_, rfl, rfl⟩
theorem hasf_bt {f v t : Nat} (hf : f ≤ 99) (hv : v ≤ 4) (ht : t < 8) : hasf (bt f v t) 1024 = nI (t % 2) ∧ hasf (bt f v t) 2048 = nI (t / 2 % 2) ∧ hasf (bt f v t) 4096 = nI (t / 4) := by
  obtain ⟨-, -, q3, q4, q5, -⟩ := bt_all hf hv ht
  unfold hasf
  rw [q3, q4, q5]
  have key : ∀ x : Nat, x ≤ 1 → ∀ y : Nat, 0 < y → y < 5000 → (if nI (x * y) = 0 then (0 : Int32) else 1) = nI x := by
    intro x hx y hy hy2
    rcases (show x = 0 ∨ x = 1 by omega) with rfl | rfl
    · rw [Nat.zero_mul, if_pos (by decide)]; rfl
    · rw [Nat.one_mul, if_neg (nI_ne0 hy (by omega))]; rfl
  exact ⟨key _ (by omega) _ (by omega) (by omega), key _ (by omega) _ (by omega) (by omega), key _ (by omega) _ (by omega) (by omega)⟩
theorem gI_01 (pn : Nat → Nat) (b : Int32) : gI pn b = 0 ∨ gI pn b = 1 := by
  unfold gI
  split
  · exact Or.inl rfl
  · split
    · exact Or.inl rfl
    · split
      · exact Or.inl rfl
      · exact Or.inr rfl
theorem hasf_01 (b p : Int32) : hasf b p = 0 ∨ hasf b p = 1 := by
  unfold hasf
  split
  · exact Or.inl rfl
  · exact Or.inr rfl
theorem op_cell (a b : Int32) : OP (f_X4_cell a b) (f_X5_cell a b) := OP_q fun B h hB hI => by
  obtain ⟨pn, dr, z, n, -, -, -, -, m, -⟩ := hI
  have hcl := z.1.1
  have hV := z.1.2.2.2.2.2
  unfold f_X4_cell f_X5_cell
  rw [hasCell_eq z, isCell_eq z, bd_at, bd_at]
  by_cases h1 : isw a 0 (nI (pn 0) - 1) = 0
  · rw [if_pos h1, if_pos h1]
    exact ⟨_, rfl, rfl⟩
  · obtain ⟨c, h2, rfl⟩ := isw_nv (by omega) h1
    have rw1 : ∀ {β : Type} {f : Int32 → Option β}, rd h (20 + 1) (nI c) f = f (h.1 21 c) := fun {β f} => rd_at c rfl (by show c < 9; omega) (by decide)
    have rw2 : ∀ {β : Type} {f : Int32 → Option β}, rd h (20 + 2) (nI c) f = f (h.1 22 c) := fun {β f} => rd_at c rfl (by show c < 9; omega) (by decide)
    rw [if_neg h1, if_neg h1, rw1, rd_at c (A0 c) (by show c < 103; omega) (by decide)]
    have hm : h.1 22 c = h.1 114 (54 + c) := (n.1.2.1 c (by omega)).1
    have hg : gI pn (h.1 21 c) = gM pn (h.1 114) c := good_eq hV (n.1.1 c (by omega) (by omega))
    have xg : f_X1_isGood 12 (h.1 21 c) h = some (gI pn (h.1 21 c), h) := by
      have q := x_isGood (xc_now z) (vw h 20) (h.1 21 c)
      rw [put_vw] at q
      exact q
    have mg : f_X5_isGood 114 (nI c) h = some (gM pn (h.1 114) c, h) := by
      have q := m_isGood (mc_now z m) (h.1 114) (h.1 110 22) (h.1 110 23) (c := c) (by omega)
      rw [mst_self] at q
      exact q
    have hc : crel (pn 9) (h.1 21 c) (h.1 114) c := n.1.1 c (by omega) (by omega)
    have key : (h.1 114 c = 0 ∨ h.1 114 c = 1) ∧ (h.1 21 c = 0 ↔ ¬ h.1 114 c = 1) ∧ (h.1 114 c = 1 → (h.1 21 c &&& 127) = h.1 114 (9 + c)) ∧ vlf (h.1 21 c) = (if h.1 114 c = 1 then h.1 114 (18 + c) else -9) ∧ hasf (h.1 21 c) 1024 = h.1 114 (27 + c) ∧ hasf (h.1 21 c) 2048 = h.1 114 (36 + c) ∧ hasf (h.1 21 c) 4096 = h.1 114 (45 + c) := by
      rcases hc with ⟨c0, c1, c2, c3, c4, c5, c6⟩ | ⟨f, v, t, hf, hv, ht, hb, c1, c2, c3, c4, c5, c6⟩
      · rw [c0, c1, c4, c5, c6]
        exact ⟨Or.inl rfl, by decide, fun q => absurd q (by decide), by rw [if_neg (by decide)]; decide, by decide, by decide, by decide⟩
      · obtain ⟨q1, q2, -, -, -, -, -, -, q9⟩ := bt_all hf (Nat.le_trans hv hV) ht
        obtain ⟨g1, g2, g3⟩ := hasf_bt hf (Nat.le_trans hv hV) ht
        rw [hb, c1, c2, c3, c4, c5, c6]
        exact ⟨Or.inr rfl, ⟨fun q => absurd q q9, fun q => absurd rfl q⟩, fun _ => q1, by rw [if_pos rfl]; exact q2, g1, g2, g3⟩
    obtain ⟨k0, k1, k2, k3, k4, k5, k6⟩ := key
    have red : (if h.1 114 c = 1 then f_X5_cell_b27 (nI c) b 1 h else f_X5_cell_b27 (nI c) b 0 h) = f_X5_cell_b27 (nI c) b (if h.1 114 c = 1 then 1 else 0) h := by
      by_cases q : h.1 114 c = 1
      · rw [if_pos q, if_pos q]
      · rw [if_neg q, if_neg q]
    rw [red]
    unfold f_X5_cell_b27
    rw [has0_eq, has0_eq, has0_eq, bd_at, bd_at, bd_at, valveOf_eq, bd_at, xg, mg, bd_at, bd_at]
    by_cases c0 : b = 0
    · rw [if_pos c0, if_pos c0]
      rw [rw2, rd_at (54 + c) (A54 c) (by show 54 + c < 103; omega) (by decide), hm]
      exact ⟨_, rfl, rfl⟩
    · rw [if_neg c0, if_neg c0]
      by_cases c1 : b = 1
      · rw [if_pos c1, if_pos c1]
        rw [rd_at c (A0 c) (by show c < 103; omega) (by decide), asN_eq (Or.inl rfl), asN_eq (Or.inr rfl), bd_at, bd_at]
        by_cases q : h.1 21 c = 0
        · rw [if_pos q]
          rcases k0 with y | y
          · exact ⟨_, rfl, by rw [y]⟩
          · exact absurd y (k1.mp q)
        · rw [if_neg q]
          rcases k0 with y | y
          · exact absurd (k1.mpr (by rw [y]; decide)) q
          · exact ⟨_, rfl, by rw [y]⟩
      · rw [if_neg c1, if_neg c1]
        by_cases c2 : b = 2
        · rw [if_pos c2, if_pos c2]
          by_cases q : h.1 114 c = 1
          · rw [if_pos q, if_neg (fun y => (k1.mp y) q), if_neg (show ¬ (1 : Int32) = 0 by decide), fillOf_eq, bd_at, k2 q, rd_at (9 + c) (A9 c) (by show 9 + c < 103; omega) (by decide)]
            exact ⟨_, rfl, rfl⟩
          · rw [if_neg q, if_pos (k1.mpr q), if_pos (show (0 : Int32) = 0 from rfl)]
            exact ⟨_, rfl, rfl⟩
        · rw [if_neg c2, if_neg c2]
          by_cases c3 : b = 3
          · rw [if_pos c3, if_pos c3]
            rw [k3]
            by_cases q : h.1 114 c = 1
            · rw [if_pos q, if_pos q, if_neg (show ¬ (1 : Int32) = 0 by decide), rd_at (18 + c) (A18 c) (by show 18 + c < 103; omega) (by decide)]
              exact ⟨_, rfl, rfl⟩
            · rw [if_neg q, if_neg q, if_pos (show (0 : Int32) = 0 from rfl)]
              exact ⟨_, rfl, rfl⟩
          · rw [if_neg c3, if_neg c3]
            by_cases c4 : b = 4
            · rw [if_pos c4, if_pos c4]
              rw [asN_eq (hasf_01 _ _), bd_at, k4, rd_at (27 + c) (A27 c) (by show 27 + c < 103; omega) (by decide)]
              exact ⟨_, rfl, rfl⟩
            · rw [if_neg c4, if_neg c4]
              by_cases c5 : b = 5
              · rw [if_pos c5, if_pos c5]
                rw [asN_eq (hasf_01 _ _), bd_at, k5, rd_at (36 + c) (A36 c) (by show 36 + c < 103; omega) (by decide)]
                exact ⟨_, rfl, rfl⟩
              · rw [if_neg c5, if_neg c5]
                by_cases c6 : b = 6
                · rw [if_pos c6, if_pos c6]
                  rw [asN_eq (hasf_01 _ _), bd_at, k6, rd_at (45 + c) (A45 c) (by show 45 + c < 103; omega) (by decide)]
                  exact ⟨_, rfl, rfl⟩
                · rw [if_neg c6, if_neg c6]
                  by_cases c7 : b = 7
                  · rw [if_pos c7, if_pos c7]
                    rw [asN_eq (gI_01 _ _), bd_at, ← hg]
                    rcases gI_01 pn (h.1 21 c) with q | q
                    · rw [q, if_pos rfl]; exact ⟨_, rfl, rfl⟩
                    · rw [q, if_neg (by decide)]; exact ⟨_, rfl, rfl⟩
                  · rw [if_neg c7, if_neg c7]
                    exact ⟨_, rfl, rfl⟩
