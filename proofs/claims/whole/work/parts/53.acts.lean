-- acts: what is remembered, then the change
def hA (h : PH) (nx pc : Nat) : PH := si (si (put h (30 + 5 * nx) (cpS (vw h (30 + 5 * nx)) (vw h 20))) 0 8 (nI ((nx + 1) % 14))) 0 7 (nI (if pc < 14 then pc + 1 else 14))
def hB (h : PH) (nx pc : Nat) : PH := si (si (sa h 116 (sg (h.1 114) (h.1 116) 0 (103 * nx) 103)) 110 13 (nI ((nx + 1) % 14))) 110 12 (nI (if pc < 14 then pc + 1 else 14))
section
variable {h : PH} {pn : Nat → Nat} {dr : Nat → Int32} {B nx pc : Nat}
theorem hA_o {a b : Nat} (q : ¬ ((30 + 5 * nx ≤ a ∧ a < 35 + 5 * nx) ∨ (a = 0 ∧ (b = 7 ∨ b = 8)))) : (hA h nx pc).1 a b = h.1 a b := by
  unfold hA
  rw [si_at' _ _ (by omega), si_at' _ _ (by omega), put_out _ _ _ (by omega)]
theorem hA_p (hnx : nx < 14) {a : Nat} (ha : a < 5) : (hA h nx pc).1 (30 + 5 * nx + a) = cpS (vw h (30 + 5 * nx)) (vw h 20) a := by
  unfold hA
  rw [si_ne _ _ _ _ (by omega), si_ne _ _ _ _ (by omega), put_at _ _ _ ha]
theorem hB_o {a b : Nat} (q : ¬ ((a = 116 ∧ 103 * nx ≤ b ∧ b < 103 * nx + 103) ∨ (a = 110 ∧ (b = 12 ∨ b = 13)))) : (hB h nx pc).1 a b = h.1 a b := by
  unfold hB
  rw [si_at' _ _ (by omega), si_at' _ _ (by omega)]
  by_cases z : a = 116
  · subst z
    rw [sa_at]
    unfold sg
    rw [if_neg (by omega)]
  · rw [sa_ne _ _ z]
theorem hB_d {x : Nat} (hx : x < 103) : (hB h nx pc).1 116 (103 * nx + x) = h.1 114 x := by
  unfold hB
  rw [si_at' _ _ (by omega), si_at' _ _ (by omega), sa_at]
  unfold sg
  rw [if_pos (by omega), Nat.add_sub_cancel_left, Nat.zero_add]
theorem x_remember (n : INow B h pn) (hnx : nx < 14) (hpc : pc ≤ 14) (p7 : h.1 0 7 = nI pc) (p8 : h.1 0 8 = nI nx) : f_X4_rememberAct h = some ((), hA h nx pc) := by
  obtain ⟨⟨-, -, k3, k4, -⟩, -, -, hj, ha, -⟩ := n.1.2.2.2.1
  have e10 : h.1 20 10 = h.1 114 70 := k4
  have e11 : h.1 20 11 = h.1 114 69 := k3
  unfold f_X4_rememberAct
  rw [p8, rq_at nx rfl (by show nx < 14; exact hnx) (by decide)]
  have es : sta 2 nx = 30 + 5 * nx := by unfold sta; rw [if_pos rfl]
  have ek : kd (30 + 5 * nx) = 2 := by rw [← es]; exact kd_sta2' nx hnx
  rw [es, x_copy ek kd_20 (by omega) (by rw [e10]; exact ha) (by rw [e11]; exact hj), bd_at, st_at]
  have e8 : (put h (30 + 5 * nx) (cpS (vw h (30 + 5 * nx)) (vw h 20))).1 0 8 = nI nx := by rw [put_out _ _ _ (by omega)]; exact p8
  rw [e8, nI_1, L14, irm_nI (by omega) (by omega) (by omega), st_at]
  have e7 : (si (put h (30 + 5 * nx) (cpS (vw h (30 + 5 * nx)) (vw h 20))) 0 8 (nI ((nx + 1) % 14))).1 0 7 = nI pc := by rw [si_at' _ _ (by omega), put_out _ _ _ (by omega)]; exact p7
  rw [e7, nI_1]
  have e : imn (nI 14) (nI (pc + 1)) = nI (if pc < 14 then pc + 1 else 14) := by
    unfold imn
    by_cases z : pc + 1 < 14
    · rw [if_pos (nI_lt z (by omega)), if_pos (by omega)]
    · rw [if_neg (nI_nlt (by omega) (by omega))]
      congr 1
      by_cases z2 : pc < 14
      · rw [if_pos z2]; omega
      · rw [if_neg z2]
  rw [e]
  rfl
theorem vw_hA (hnx : nx < 14) : vw (hA h nx pc) 20 = vw h 20 := vw_cg (fun a b h1 h2 => hA_o (by omega))
theorem I0_hA (hnx : nx < 14) (z : I0 h pn dr) : I0 (hA h nx pc) pn dr := I0_cg (fun a b q => hA_o (by omega)) z
/-- what the reference finds when the class has acted -/
theorem mc_act (hnx : nx < 14) (z : I0 h pn dr) (m : IMisc h) (S' : SS) : MC (hB (put (hA h nx pc) 20 S') nx pc) 114 pn dr 15 := by
  have o1 : ∀ a b, (110 ≤ a ∧ a ≤ 114 ∧ a ≠ 110) ∨ (12 ≤ a ∧ a ≤ 14) ∨ (a = 110 ∧ b ≠ 12 ∧ b ≠ 13) → (hB (put (hA h nx pc) 20 S') nx pc).1 a b = h.1 a b := by
    intro a b q
    rw [hB_o (by omega), put_out _ _ _ (by omega), hA_o (by omega)]
  have z2 : I0 (hB (put (hA h nx pc) 20 S') nx pc) pn dr := I0_cg (fun a b q => o1 a b (by omega)) z
  exact ⟨Or.inl rfl, z2.2.2, z.1, by rw [o1 _ _ (by omega)]; exact m.2.1⟩
theorem as_act (hnx : nx < 14) (m : IMisc h) (S' : SS) : ∃ g : Int32, hB (put (hA h nx pc) 20 S') nx pc = mst (hB (put (hA h nx pc) 20 S') nx pc) 114 (h.1 114) (-9) g := by
  refine ⟨(hB (put (hA h nx pc) 20 S') nx pc).1 110 23, ?_⟩
  have e1 : (hB (put (hA h nx pc) 20 S') nx pc).1 114 = h.1 114 := by
    funext b
    rw [hB_o (by omega), put_out _ _ _ (by omega), hA_o (by omega)]
  have e2 : (hB (put (hA h nx pc) 20 S') nx pc).1 110 22 = -9 := by
    rw [hB_o (by omega), put_out _ _ _ (by omega), hA_o (by omega)]
    exact m.2.2
  have q := as_mst (hB (put (hA h nx pc) 20 S') nx pc) 114
  rw [e1, e2] at q
  exact q
theorem m_note_act (hnx : nx < 14) (hpc : pc ≤ 14) (p12 : h.1 110 12 = nI pc) (p13 : h.1 110 13 = nI nx) (S' : SS) : f_X5_note (put (hA h nx pc) 20 S') = some ((), hB (put (hA h nx pc) 20 S') nx pc) := by
  have e : ∀ b, (put (hA h nx pc) 20 S').1 110 b = h.1 110 b := fun b => by rw [put_out _ _ _ (by omega), hA_o (by omega)]
  exact m_note (by rw [e]; exact p13) hnx (by rw [e]; exact p12) hpc
theorem vw_put (h : PH) (o : Nat) (S : SS) {a : Nat} (ha : a < 5) : vw (put h o S) o a = S a := by
  unfold vw
  rw [if_pos ha, put_at _ _ _ ha]
theorem RO_cg {S S' : SS} {r r' : RW} (hN : PN pn) (hR : RO pn B S r) (h0 : ∀ a, a < 5 → S' a = S a) (hr : ∀ i, i < 103 → r' i = r i) : RO pn B S' r' :=
  ⟨RR_cg hN hR.1 (fun i _ _ => by rw [h0 0 (by omega)]) (fun i _ => by rw [h0 1 (by omega)]) (fun i _ => by rw [h0 2 (by omega)]) (fun i _ => by rw [h0 3 (by omega)]) (fun i _ => by rw [h0 4 (by omega)]) hr, by rw [h0 0 (by omega)]; exact hR.2⟩
theorem RO_cpy {D S : SS} {r r' : RW} (hN : PN pn) (hR : RO pn B S r) (hr : ∀ i, i < 103 → r' i = r i) : RO pn B (cpS D S) r' :=
  ⟨RR_cg hN hR.1 (fun i a b => cpS_0 D S a b) (fun i a => cpS_1 D S a) (fun i a => cpS_2 D S a) (fun i a => cpS_3 D S a) (fun i a => cpS_4 D S a) hr, hR.2⟩
theorem INV_act {B' : Nat} (hB' : B ≤ B') (z0 : I0 h pn dr) (z1 : INow B h pn) (hnx : nx < 14) (hpc : pc ≤ 14) (q7 : ∀ i, i < pc → RO pn B (vw h (30 + 5 * ((nx + 13 - i) % 14))) (dv h 116 ((nx + 13 - i) % 14))) (z3 : ISlot B h pn) (z4 : ITx h) (z5 : ISeen h) (z6 : IMisc h) (z7 : IRd h) {S' : SS} {r' : RW} (g : Int32) (hR : RO pn B' S' r') : INV B' (mst (hB (put (hA h nx pc) 20 S') nx pc) 114 r' (-9) g) := by
  generalize hh : mst (hB (put (hA h nx pc) 20 S') nx pc) 114 r' (-9) g = h2
  have oo : ∀ a b, ¬ ((20 ≤ a ∧ a ≤ 24) ∨ a = 114 ∨ (30 + 5 * nx ≤ a ∧ a < 35 + 5 * nx) ∨ (a = 0 ∧ (b = 7 ∨ b = 8)) ∨ (a = 110 ∧ (b = 12 ∨ b = 13 ∨ b = 22 ∨ b = 23)) ∨ (a = 116 ∧ 103 * nx ≤ b ∧ b < 103 * nx + 103)) → h2.1 a b = h.1 a b := by
    intro a b q
    rw [← hh]
    have e : (mst (hB (put (hA h nx pc) 20 S') nx pc) 114 r' (-9) g).1 a b = (hB (put (hA h nx pc) 20 S') nx pc).1 a b := by
      show (if a = 114 then r' b else if a = 110 ∧ b = 22 then _ else if a = 110 ∧ b = 23 then _ else (hB (put (hA h nx pc) 20 S') nx pc).1 a b) = _
      rw [if_neg (by omega), if_neg (by omega), if_neg (by omega)]
    rw [e, hB_o (by omega), put_out _ _ _ (by omega), hA_o (by omega)]
  have onow : ∀ a, a < 5 → vw h2 20 a = S' a := by
    intro a ha
    unfold vw
    rw [if_pos ha, ← hh]
    have e : (mst (hB (put (hA h nx pc) 20 S') nx pc) 114 r' (-9) g).1 (20 + a) = (hB (put (hA h nx pc) 20 S') nx pc).1 (20 + a) := MC.o _ _ _ (by omega) (by omega)
    rw [e]
    funext b
    rw [hB_o (by omega), put_at _ _ _ ha]
  have orow : h2.1 114 = r' := by rw [← hh, mst_k]
  have opast : ∀ a, a < 5 → vw h2 (30 + 5 * nx) a = cpS (vw h (30 + 5 * nx)) (vw h 20) a := by
    intro a ha
    unfold vw
    rw [if_pos ha, ← hh]
    have e : (mst (hB (put (hA h nx pc) 20 S') nx pc) 114 r' (-9) g).1 (30 + 5 * nx + a) = (hB (put (hA h nx pc) 20 S') nx pc).1 (30 + 5 * nx + a) := MC.o _ _ _ (by omega) (by omega)
    rw [e]
    funext b
    rw [hB_o (by omega), put_out _ _ _ (by omega), hA_p hnx ha]
    rfl
  have odv : ∀ x, x < 103 → dv h2 116 nx x = h.1 114 x := by
    intro x hx
    unfold dv
    rw [← hh, MC.o _ _ _ (by omega) (by omega), hB_d hx, put_out _ _ _ (by omega), hA_o (by omega)]
  have o07 : h2.1 0 7 = nI (if pc < 14 then pc + 1 else 14) := by
    rw [← hh, MC.o _ _ _ (by omega) (by omega), hB_o (by omega), put_out _ _ _ (by omega)]
    unfold hA
    rw [si_slf]
  have o08 : h2.1 0 8 = nI ((nx + 1) % 14) := by
    rw [← hh, MC.o _ _ _ (by omega) (by omega), hB_o (by omega), put_out _ _ _ (by omega)]
    unfold hA
    rw [si_at' _ _ (by omega), si_slf]
  have o12 : h2.1 110 12 = nI (if pc < 14 then pc + 1 else 14) := by
    rw [← hh]
    show (if 110 = 114 then r' 12 else if 110 = 110 ∧ 12 = 22 then (-9 : Int32) else if 110 = 110 ∧ 12 = 23 then g else (hB (put (hA h nx pc) 20 S') nx pc).1 110 12) = _
    rw [if_neg (by decide), if_neg (by decide), if_neg (by decide)]
    unfold hB
    rw [si_slf]
  have o13 : h2.1 110 13 = nI ((nx + 1) % 14) := by
    rw [← hh]
    show (if 110 = 114 then r' 13 else if 110 = 110 ∧ 13 = 22 then (-9 : Int32) else if 110 = 110 ∧ 13 = 23 then g else (hB (put (hA h nx pc) 20 S') nx pc).1 110 13) = _
    rw [if_neg (by decide), if_neg (by decide), if_neg (by decide)]
    unfold hB
    rw [si_at' _ _ (by omega), si_slf]
  have o22 : h2.1 110 22 = -9 := by
    rw [← hh]
    show (if 110 = 114 then r' 22 else if 110 = 110 ∧ 22 = 22 then (-9 : Int32) else if 110 = 110 ∧ 22 = 23 then g else (hB (put (hA h nx pc) 20 S') nx pc).1 110 22) = _
    rw [if_neg (by decide), if_pos (by decide)]
  have o2 : h2.2 = h.2 := by rw [← hh]; rfl
  refine ⟨pn, dr, I0_cg (fun a b c => oo a b (by omega)) z0, ?_, ⟨(nx + 1) % 14, if pc < 14 then pc + 1 else 14, by omega, ?_, o07, o12, o08, o13, fun i hi => ?_⟩, ISlot_mono hB' (ISlot_cg (fun a b c => oo a b (by omega)) z3), ITx_cg (fun a b c => oo a b (by omega)) z4, ISeen_cg (fun a b c => oo a b (by omega)) z5, ⟨by rw [o2]; exact z6.1, by rw [oo 110 21 (by omega)]; exact z6.2.1, o22⟩, IRd_cg (fun a b c => oo a b (by omega)) z7⟩
  · unfold INow
    rw [orow]
    exact RO_cg z0.1 hR onow (fun i _ => rfl)
  · by_cases q : pc < 14
    · rw [if_pos q]; omega
    · rw [if_neg q]; omega
  · by_cases q0 : i = 0
    · subst q0
      have e : ((nx + 1) % 14 + 13 - 0) % 14 = nx := by omega
      rw [e]
      exact RO_mono hB' (RO_cg z0.1 (RO_cpy (D := vw h (30 + 5 * nx)) (r' := dv h2 116 nx) z0.1 z1 odv) opast (fun i _ => rfl))
    · have hi2 : i - 1 < pc ∧ i - 1 ≤ 12 := by
        by_cases q : pc < 14
        · rw [if_pos q] at hi; omega
        · rw [if_neg q] at hi; omega
      have e : ((nx + 1) % 14 + 13 - i) % 14 = (nx + 13 - (i - 1)) % 14 := by omega
      have ne : (nx + 13 - (i - 1)) % 14 ≠ nx := by omega
      have lt : (nx + 13 - (i - 1)) % 14 < 14 := Nat.mod_lt _ (by omega)
      rw [e]
      have q := q7 (i - 1) hi2.1
      generalize (nx + 13 - (i - 1)) % 14 = p at q ne lt ⊢
      refine RO_mono hB' (RO_cg z0.1 q (fun a ha => ?_) (fun x hx => ?_))
      · unfold vw
        rw [if_pos ha, if_pos ha]
        funext b
        exact oo _ _ (by omega)
      · unfold dv
        exact oo _ _ (by omega)
end
