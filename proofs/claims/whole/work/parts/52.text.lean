-- write, wipe, see, unsee, seed
theorem si_at' (h : PH) {k a i b : Nat} (v : Int32) (q : ¬ (a = k ∧ b = i)) : (si h k i v).1 a b = h.1 a b := by
  show (if a = k ∧ b = i then v else h.1 a b) = h.1 a b
  rw [if_neg q]
theorem INV_tx {B : Nat} {h h' : PH} (hI : INV B h) (q : ∀ a b, ¬ (a = 1 ∨ a = 111 ∨ ((a = 0 ∨ a = 110) ∧ b = 1)) → h'.1 a b = h.1 a b) (q2 : h'.2 = h.2) (t : ITx h') : INV B h' := by
  obtain ⟨pn, dr, z0, z1, z2, z3, z4, z5, z6, z7⟩ := hI
  exact ⟨pn, dr, I0_cg (fun a b c => q a b (by omega)) z0, INow_cg (fun a b c => q a b (by omega)) z1, IPast_cg (fun a b c => q a b (by omega)) z2, ISlot_cg (fun a b c => q a b (by omega)) z3, t, ISeen_cg (fun a b c => q a b (by omega)) z5, IMisc_cg (fun b c => q 110 b (by omega)) q2 z6, IRd_cg (fun a b c => q a b (by omega)) z7⟩
theorem op_write (a : Int32) : OP (f_X4_write a) (f_X5_write a) := by
  intro B h hB hI
  have hI0 := hI
  obtain ⟨pn, dr, -, -, -, -, ⟨tl, t1, t2, t3, t4⟩, -⟩ := hI
  unfold f_X4_write f_X5_write
  rw [isWithin_eq, bd_at]
  by_cases h1 : isw a 0 255 = 0
  · refine ⟨-2, h, h, by rw [if_pos h1], ?_, INV_mono (by omega) hI0⟩
    rw [in_eq, bd_at, if_pos h1]
  · obtain ⟨c, -, c2, rfl⟩ := isw_nat (b := 0) (c := 255) (by omega) (by omega) h1
    rw [if_neg h1, t2]
    by_cases h2 : tl = 90
    · refine ⟨-4, h, h, by rw [h2, if_neg (by decide)], ?_, INV_mono (by omega) hI0⟩
      rw [in_eq, bd_at, if_neg h1, t3, h2, if_pos (by decide)]
    · have e1 : (si h 1 tl (nI c)).1 0 1 = nI tl := by rw [si_at' _ _ (by omega)]; exact t2
      refine ⟨nI (tl + 1), si (si h 1 tl (nI c)) 0 1 (nI (tl + 1)), si (si (si (si h 1 tl (nI c)) 0 1 (nI (tl + 1))) 111 tl (nI c)) 110 1 (nI (tl + 1)), ?_, ?_, ?_⟩
      · rw [if_pos (by rw [L90]; exact nI_lt (by omega) (by omega)), wr_at tl rfl (by show tl < 90; omega) (by decide), st_at, e1, nI_1, si_slf]
      · have e2 : (si (si h 1 tl (nI c)) 0 1 (nI (tl + 1))).1 110 1 = nI tl := by rw [si_at' _ _ (by omega), si_at' _ _ (by omega)]; exact t3
        have e3 : (si (si (si h 1 tl (nI c)) 0 1 (nI (tl + 1))) 111 tl (nI c)).1 110 1 = nI tl := by rw [si_at' _ _ (by omega)]; exact e2
        rw [in_eq, bd_at, if_neg h1, e2, if_neg (by rw [L90, nI_eq (by omega) (by omega)]; exact h2), wr_at tl rfl (by show tl < 90; omega) (by decide), st_at, e3, nI_1, si_slf]
      · refine INV_mono (B := B) (by omega) (INV_tx hI0 (fun a b q => ?_) rfl ⟨tl + 1, by omega, ?_, ?_, fun i hi => ?_⟩)
        · rw [si_at' _ _ (by omega), si_at' _ _ (by omega), si_at' _ _ (by omega), si_at' _ _ (by omega)]
        · rw [si_at' _ _ (by omega), si_at' _ _ (by omega), si_slf]
        · rw [si_slf]
        · by_cases q : i = tl
          · subst q
            rw [si_at' _ _ (by omega), si_at' _ _ (by omega), si_at' _ _ (by omega), si_slf, si_at' (a := 111) _ _ (by omega), si_slf]
            exact ⟨rfl, c, c2, rfl⟩
          · rw [si_at' _ _ (by omega), si_at' _ _ (by omega), si_at' _ _ (by omega), si_at' _ _ (by omega), si_at' (a := 111) _ _ (by omega), si_at' (a := 111) _ _ (by omega), si_at' (a := 111) _ _ (by omega), si_at' (a := 111) _ _ (by omega)]
            exact t4 i (by omega)
theorem op_wipe : OP f_X4_wipe f_X5_wipe := by
  intro B h hB hI
  have hI0 := hI
  obtain ⟨pn, dr, -, -, -, -, ⟨tl, t1, t2, t3, t4⟩, -⟩ := hI
  refine ⟨nI tl, si h 0 1 0, si (si h 0 1 0) 110 1 0, ?_, ?_, ?_⟩
  · unfold f_X4_wipe
    rw [st_at, t2]
  · unfold f_X5_wipe
    rw [st_at, si_at' _ _ (by omega), t3]
  · refine INV_mono (B := B) (by omega) (INV_tx hI0 (fun a b q => ?_) rfl ⟨0, by omega, ?_, ?_, fun i hi => by omega⟩)
    · rw [si_at' _ _ (by omega), si_at' _ _ (by omega)]
    · rw [si_at' _ _ (by omega), si_slf]; rfl
    · rw [si_slf]; rfl
theorem INV_seen {B : Nat} {h h' : PH} (hI : INV B h) (q : ∀ a b, ¬ ((5 ≤ a ∧ a ≤ 7) ∨ (119 ≤ a ∧ a ≤ 121) ∨ (a = 0 ∧ b = 14) ∨ (a = 110 ∧ b = 19)) → h'.1 a b = h.1 a b) (q2 : h'.2 = h.2) (t : ISeen h') : INV B h' := by
  obtain ⟨pn, dr, z0, z1, z2, z3, z4, z5, z6, z7⟩ := hI
  exact ⟨pn, dr, I0_cg (fun a b c => q a b (by omega)) z0, INow_cg (fun a b c => q a b (by omega)) z1, IPast_cg (fun a b c => q a b (by omega)) z2, ISlot_cg (fun a b c => q a b (by omega)) z3, ITx_cg (fun a b c => q a b (by omega)) z4, t, IMisc_cg (fun b c => q 110 b (by omega)) q2 z6, IRd_cg (fun a b c => q a b (by omega)) z7⟩
theorem op_unsee : OP f_X4_unsee f_X5_unsee := by
  intro B h hB hI
  have hI0 := hI
  obtain ⟨pn, dr, -, -, -, -, -, ⟨sc, t1, t2, t3, t4⟩, -⟩ := hI
  refine ⟨nI sc, si h 0 14 0, si (si h 0 14 0) 110 19 0, ?_, ?_, ?_⟩
  · unfold f_X4_unsee
    rw [st_at, t2]
  · unfold f_X5_unsee
    rw [st_at, si_at' _ _ (by omega), t3]
  · refine INV_mono (B := B) (by omega) (INV_seen hI0 (fun a b q => ?_) rfl ⟨0, by omega, ?_, ?_, fun i hi => by omega⟩)
    · rw [si_at' _ _ (by omega), si_at' _ _ (by omega)]
    · rw [si_at' _ _ (by omega), si_slf]; rfl
    · rw [si_slf]; rfl
theorem op_see (a b c : Int32) : OP (f_X4_see a b c) (f_X5_see a b c) := by
  intro B h hB hI
  have hI0 := hI
  obtain ⟨pn, dr, -, -, -, -, -, ⟨sc, t1, t2, t3, t4⟩, -⟩ := hI
  unfold f_X4_see f_X5_see
  rw [isWithin_eq, bd_at]
  by_cases h1 : isw a 0 2 = 0
  · refine ⟨-2, h, h, by rw [if_pos h1], ?_, INV_mono (by omega) hI0⟩
    rw [in_eq, bd_at, if_pos h1]
  · rw [if_neg h1, isWithin_eq, bd_at]
    by_cases h2 : isw b 0 20 = 0
    · refine ⟨-2, h, h, by rw [if_pos h2], ?_, INV_mono (by omega) hI0⟩
      rw [in_eq, bd_at, if_neg h1, in_eq, bd_at, if_pos h2]
    · rw [if_neg h2, isWithin_eq, bd_at]
      by_cases h3 : isw c 0 99 = 0
      · refine ⟨-2, h, h, by rw [if_pos h3], ?_, INV_mono (by omega) hI0⟩
        rw [in_eq, bd_at, if_neg h1, in_eq, bd_at, if_neg h2, in_eq, bd_at, if_pos h3]
      · rw [if_neg h3, t2]
        by_cases h4 : sc = 6
        · refine ⟨-4, h, h, by rw [h4, if_neg (by decide)], ?_, INV_mono (by omega) hI0⟩
          rw [in_eq, bd_at, if_neg h1, in_eq, bd_at, if_neg h2, in_eq, bd_at, if_neg h3, t3, h4, if_pos (by decide)]
        · obtain ⟨na, -, na2, rfl⟩ := isw_nat (b := 0) (c := 2) (by omega) (by omega) h1
          obtain ⟨nb, -, nb2, rfl⟩ := isw_nat (b := 0) (c := 20) (by omega) (by omega) h2
          generalize hh1 : si (si (si (si h 5 sc (nI na)) 6 sc (nI nb)) 7 sc c) 0 14 (nI (sc + 1)) = h1'
          have o1 : ∀ x y, ¬ ((5 ≤ x ∧ x ≤ 7) ∨ (x = 0 ∧ y = 14)) → h1'.1 x y = h.1 x y := by
            intro x y q
            rw [← hh1, si_at' _ _ (by omega), si_at' _ _ (by omega), si_at' _ _ (by omega), si_at' _ _ (by omega)]
          refine ⟨nI (sc + 1), h1', si (si (si (si h1' 119 sc (nI na)) 120 sc (nI nb)) 121 sc c) 110 19 (nI (sc + 1)), ?_, ?_, ?_⟩
          · have g1 : (si h 5 sc (nI na)).1 0 14 = nI sc := by rw [si_at' _ _ (by omega)]; exact t2
            have g2 : (si (si h 5 sc (nI na)) 6 sc (nI nb)).1 0 14 = nI sc := by rw [si_at' _ _ (by omega)]; exact g1
            have g3 : (si (si (si h 5 sc (nI na)) 6 sc (nI nb)) 7 sc c).1 0 14 = nI sc := by rw [si_at' _ _ (by omega)]; exact g2
            rw [if_pos (by rw [L6]; exact nI_lt (by omega) (by omega)), wr_at sc rfl (by show sc < 6; omega) (by decide), g1, wr_at sc rfl (by show sc < 6; omega) (by decide), g2, wr_at sc rfl (by show sc < 6; omega) (by decide), st_at, g3, nI_1, si_slf, hh1]
          · have g0 : h1'.1 110 19 = nI sc := by rw [o1 _ _ (by omega)]; exact t3
            have g1 : (si h1' 119 sc (nI na)).1 110 19 = nI sc := by rw [si_at' _ _ (by omega)]; exact g0
            have g2 : (si (si h1' 119 sc (nI na)) 120 sc (nI nb)).1 110 19 = nI sc := by rw [si_at' _ _ (by omega)]; exact g1
            have g3 : (si (si (si h1' 119 sc (nI na)) 120 sc (nI nb)) 121 sc c).1 110 19 = nI sc := by rw [si_at' _ _ (by omega)]; exact g2
            rw [in_eq, bd_at, if_neg h1, in_eq, bd_at, if_neg h2, in_eq, bd_at, if_neg h3, g0, if_neg (by rw [L6, nI_eq (by omega) (by omega)]; exact h4), wr_at sc rfl (by show sc < 6; omega) (by decide), g1, wr_at sc rfl (by show sc < 6; omega) (by decide), g2, wr_at sc rfl (by show sc < 6; omega) (by decide), st_at, g3, nI_1, si_slf]
          · have n5 : h1'.1 5 sc = nI na := by rw [← hh1, si_at' _ _ (by omega), si_at' _ _ (by omega), si_at' _ _ (by omega), si_slf]
            have n6 : h1'.1 6 sc = nI nb := by rw [← hh1, si_at' _ _ (by omega), si_at' _ _ (by omega), si_slf]
            have n7 : h1'.1 7 sc = c := by rw [← hh1, si_at' _ _ (by omega), si_slf]
            have lo : ∀ x y, x < 110 → (si (si (si (si h1' 119 sc (nI na)) 120 sc (nI nb)) 121 sc c) 110 19 (nI (sc + 1))).1 x y = h1'.1 x y := by
              intro x y q
              rw [si_at' _ _ (by omega), si_at' _ _ (by omega), si_at' _ _ (by omega), si_at' _ _ (by omega)]
            have old : ∀ x i, 5 ≤ x → x ≤ 7 → ¬ i = sc → h1'.1 x i = h.1 x i := by
              intro x i q1 q2 q3
              rw [← hh1, si_at' _ _ (by omega), si_at' _ _ (by omega), si_at' _ _ (by omega), si_at' _ _ (by omega)]
            refine INV_mono (B := B) (by omega) (INV_seen hI0 (fun x y q => ?_) (by rw [← hh1]; rfl) ⟨sc + 1, by omega, ?_, ?_, fun i hi => ?_⟩)
            · rw [si_at' _ _ (by omega), si_at' _ _ (by omega), si_at' _ _ (by omega), si_at' _ _ (by omega), o1 _ _ (by omega)]
            · rw [lo _ _ (by omega), ← hh1, si_slf]
            · rw [si_slf]
            · rw [lo 5 i (by omega), lo 6 i (by omega), lo 7 i (by omega)]
              by_cases q : i = sc
              · subst q
                rw [n5, n6, n7]
                refine ⟨?_, ?_, ?_, ⟨na, na2, rfl⟩, ⟨nb, nb2, rfl⟩⟩
                · rw [si_at' _ _ (by omega), si_at' _ _ (by omega), si_at' _ _ (by omega), si_slf]
                · rw [si_at' _ _ (by omega), si_at' _ _ (by omega), si_slf]
                · rw [si_at' _ _ (by omega), si_slf]
              · rw [old 5 i (by omega) (by omega) q, old 6 i (by omega) (by omega) q, old 7 i (by omega) (by omega) q]
                have e1 : (si (si (si (si h1' 119 sc (nI na)) 120 sc (nI nb)) 121 sc c) 110 19 (nI (sc + 1))).1 119 i = h.1 119 i := by rw [si_at' _ _ (by omega), si_at' _ _ (by omega), si_at' _ _ (by omega), si_at' _ _ (by omega), o1 _ _ (by omega)]
                have e2 : (si (si (si (si h1' 119 sc (nI na)) 120 sc (nI nb)) 121 sc c) 110 19 (nI (sc + 1))).1 120 i = h.1 120 i := by rw [si_at' _ _ (by omega), si_at' _ _ (by omega), si_at' _ _ (by omega), si_at' _ _ (by omega), o1 _ _ (by omega)]
                have e3 : (si (si (si (si h1' 119 sc (nI na)) 120 sc (nI nb)) 121 sc c) 110 19 (nI (sc + 1))).1 121 i = h.1 121 i := by rw [si_at' _ _ (by omega), si_at' _ _ (by omega), si_at' _ _ (by omega), si_at' _ _ (by omega), o1 _ _ (by omega)]
                rw [e1, e2, e3]
                exact t4 i (by omega)
theorem op_seed (a : Int64) (B : Nat) (h : PH) (hI : INV B h) : ∃ (r : Int64) (h1 h2 : PH), f_X4_seed a h = some (r, h1) ∧ f_X5_seed a h1 = some (r, h2) ∧ INV (B + 99) h2 := by
  obtain ⟨pn, dr, z0, z1, z2, z3, z4, z5, z6, z7⟩ := hI
  refine ⟨h.2 0, sl h 0 a, sl (sl h 0 a) 110 a, rfl, ?_, ?_⟩
  · unfold f_X5_seed sj
    have e : (sl h 0 a).2 110 = h.2 0 := by
      show (if 110 = 0 then a else h.2 110) = h.2 0
      rw [if_neg (by decide), z6.1]
    rw [e]
  · refine INV_mono (B := B) (by omega) ⟨pn, dr, I0_cg (h := h) (fun a b c => rfl) z0, INow_cg (h := h) (fun a b c => rfl) z1, IPast_cg (h := h) (fun a b c => rfl) z2, ISlot_cg (h := h) (fun a b c => rfl) z3, ITx_cg (h := h) (fun a b c => rfl) z4, ISeen_cg (h := h) (fun a b c => rfl) z5, ⟨?_, z6.2⟩, IRd_cg (h := h) (fun a b c => rfl) z7⟩
    show (if 0 = 110 then a else if 0 = 0 then a else h.2 0) = (if 110 = 110 then a else if 110 = 0 then a else h.2 110)
    rw [if_neg (by decide), if_pos rfl, if_pos rfl]
