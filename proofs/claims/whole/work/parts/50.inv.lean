-- what holds between two calls
def I0 (h : PH) (pn : Nat → Nat) (dr : Nat → Int32) : Prop := PN pn ∧ PX h 12 pn dr ∧ PMd h pn dr
def RO (pn : Nat → Nat) (B : Nat) (S : SS) (r : RW) : Prop := RR 9 pn B S r ∧ S 0 4 = 0
def INow (B : Nat) (h : PH) (pn : Nat → Nat) : Prop := RO pn B (vw h 20) (h.1 114)
def IPast (B : Nat) (h : PH) (pn : Nat → Nat) : Prop := ∃ nx pc : Nat, nx < 14 ∧ pc ≤ 14 ∧ h.1 0 7 = nI pc ∧ h.1 110 12 = nI pc ∧ h.1 0 8 = nI nx ∧ h.1 110 13 = nI nx ∧ ∀ i, i < pc → RO pn B (vw h (30 + 5 * ((nx + 13 - i) % 14))) (dv h 116 ((nx + 13 - i) % 14))
def ISlot (B : Nat) (h : PH) (pn : Nat → Nat) : Prop := ∀ j, j < 2 → h.1 4 j = h.1 118 j ∧ (h.1 4 j = 0 ∨ h.1 4 j = 1 ∧ RO pn B (vw h (100 + 5 * j)) (dv h 117 j))
def ITx (h : PH) : Prop := ∃ tl : Nat, tl ≤ 90 ∧ h.1 0 1 = nI tl ∧ h.1 110 1 = nI tl ∧ ∀ i, i < tl → h.1 1 i = h.1 111 i ∧ ∃ c : Nat, c ≤ 255 ∧ h.1 1 i = nI c
def ISeen (h : PH) : Prop := ∃ sc : Nat, sc ≤ 6 ∧ h.1 0 14 = nI sc ∧ h.1 110 19 = nI sc ∧ ∀ i, i < sc → h.1 5 i = h.1 119 i ∧ h.1 6 i = h.1 120 i ∧ h.1 7 i = h.1 121 i ∧ (∃ a : Nat, a ≤ 2 ∧ h.1 5 i = nI a) ∧ ∃ b : Nat, b ≤ 20 ∧ h.1 6 i = nI b
def IMisc (h : PH) : Prop := h.2 0 = h.2 110 ∧ h.1 110 21 = 15 ∧ h.1 110 22 = -9
def IRd (h : PH) : Prop := (∀ i, i < 9 → h.1 16 i = 0) ∧ (∀ i, i < 9 → h.1 17 i = 0) ∧ h.1 15 4 = 0 ∧ ∀ i, 9 ≤ i → i ≤ 17 → h.1 15 i = 0
def INV (B : Nat) (h : PH) : Prop := ∃ (pn : Nat → Nat) (dr : Nat → Int32), I0 h pn dr ∧ INow B h pn ∧ IPast B h pn ∧ ISlot B h pn ∧ ITx h ∧ ISeen h ∧ IMisc h ∧ IRd h
theorem RO_mono {pn : Nat → Nat} {B B' : Nat} {S : SS} {r : RW} (hB : B ≤ B') (h : RO pn B S r) : RO pn B' S r := ⟨RR_mono hB h.1, h.2⟩
theorem IPast_mono {B B' : Nat} {h : PH} {pn : Nat → Nat} (hB : B ≤ B') (q : IPast B h pn) : IPast B' h pn := by
  obtain ⟨nx, pc, q1, q2, q3, q4, q5, q6, q7⟩ := q
  exact ⟨nx, pc, q1, q2, q3, q4, q5, q6, fun i hi => RO_mono hB (q7 i hi)⟩
theorem ISlot_mono {B B' : Nat} {h : PH} {pn : Nat → Nat} (hB : B ≤ B') (q : ISlot B h pn) : ISlot B' h pn := fun j hj => ⟨(q j hj).1, (q j hj).2.imp id (fun z => ⟨z.1, RO_mono hB z.2⟩)⟩
theorem INV_mono {B B' : Nat} {h : PH} (hB : B ≤ B') (q : INV B h) : INV B' h := by
  obtain ⟨pn, dr, q0, q1, q2, q3, q4⟩ := q
  exact ⟨pn, dr, q0, RO_mono hB q1, IPast_mono hB q2, ISlot_mono hB q3, q4⟩
section
variable {h h' : PH} {pn : Nat → Nat} {dr : Nat → Int32} {B : Nat}
theorem vw_cg {o : Nat} (q : ∀ a b, o ≤ a → a < o + 5 → h'.1 a b = h.1 a b) : vw h' o = vw h o := by
  funext a b
  unfold vw
  by_cases z : a < 5
  · rw [if_pos z, if_pos z, q _ _ (by omega) (by omega)]
  · rw [if_neg z, if_neg z]
theorem I0_cg (q : ∀ a b, (12 ≤ a ∧ a ≤ 14) ∨ (a = 110 ∧ (b = 2 ∨ (4 ≤ b ∧ b ≤ 7))) ∨ a = 112 ∨ a = 113 → h'.1 a b = h.1 a b) (z : I0 h pn dr) : I0 h' pn dr := by
  obtain ⟨z1, ⟨a1, a2, a3, a4, a5, a6, a7⟩, ⟨b1, b2, b3, b4, b5, b6, b7⟩⟩ := z
  refine ⟨z1, ⟨?_, fun i hi => ?_, ?_, ?_, ?_, ?_, fun v hv => ?_⟩, ⟨?_, fun i hi => ?_, ?_, ?_, ?_, ?_, fun v hv => ?_⟩⟩
  · rw [q 12 0 (by omega)]; exact a1
  · show h'.1 13 i = _
    rw [q 13 i (by omega)]; exact a2 i hi
  · rw [q 12 2 (by omega)]; exact a3
  · rw [q 12 3 (by omega)]; exact a4
  · rw [q 12 4 (by omega)]; exact a5
  · rw [q 12 5 (by omega)]; exact a6
  · show h'.1 14 v = _
    rw [q 14 v (by omega)]; exact a7 v hv
  · rw [q 110 2 (by omega)]; exact b1
  · rw [q 112 i (by omega)]; exact b2 i hi
  · rw [q 110 4 (by omega)]; exact b3
  · rw [q 110 5 (by omega)]; exact b4
  · rw [q 110 6 (by omega)]; exact b5
  · rw [q 110 7 (by omega)]; exact b6
  · rw [q 113 v (by omega)]; exact b7 v hv
theorem INow_cg (q : ∀ a b, (20 ≤ a ∧ a ≤ 24) ∨ a = 114 → h'.1 a b = h.1 a b) (z : INow B h pn) : INow B h' pn := by
  unfold INow
  have e : h'.1 114 = h.1 114 := funext fun b => q 114 b (by omega)
  rw [vw_cg (h := h) (h' := h') (o := 20) (fun a b _ _ => q a b (by omega)), e]
  exact z
theorem dv_cg {p : Nat} (q : ∀ b, h'.1 p b = h.1 p b) (j : Nat) : dv h' p j = dv h p j := by
  funext x
  exact q _
theorem IPast_cg (q : ∀ a b, (30 ≤ a ∧ a ≤ 99) ∨ a = 116 ∨ (a = 0 ∧ (b = 7 ∨ b = 8)) ∨ (a = 110 ∧ (b = 12 ∨ b = 13)) → h'.1 a b = h.1 a b) (z : IPast B h pn) : IPast B h' pn := by
  obtain ⟨nx, pc, q1, q2, q3, q4, q5, q6, q7⟩ := z
  refine ⟨nx, pc, q1, q2, by rw [q 0 7 (by omega)]; exact q3, by rw [q 110 12 (by omega)]; exact q4, by rw [q 0 8 (by omega)]; exact q5, by rw [q 110 13 (by omega)]; exact q6, fun i hi => ?_⟩
  rw [vw_cg (h := h) (h' := h') (fun a b _ _ => q a b (by omega)), dv_cg (h := h) (h' := h') (fun b => q 116 b (by omega))]
  exact q7 i hi
theorem ISlot_cg (q : ∀ a b, (100 ≤ a ∧ a ≤ 109) ∨ a = 117 ∨ a = 4 ∨ a = 118 → h'.1 a b = h.1 a b) (z : ISlot B h pn) : ISlot B h' pn := by
  intro j hj
  rw [q 4 j (by omega), q 118 j (by omega), vw_cg (h := h) (h' := h') (fun a b _ _ => q a b (by omega)), dv_cg (h := h) (h' := h') (fun b => q 117 b (by omega))]
  exact z j hj
theorem ITx_cg (q : ∀ a b, a = 1 ∨ a = 111 ∨ ((a = 0 ∨ a = 110) ∧ b = 1) → h'.1 a b = h.1 a b) (z : ITx h) : ITx h' := by
  obtain ⟨tl, t1, t2, t3, t4⟩ := z
  refine ⟨tl, t1, by rw [q 0 1 (by omega)]; exact t2, by rw [q 110 1 (by omega)]; exact t3, fun i hi => ?_⟩
  rw [q 1 i (by omega), q 111 i (by omega)]
  exact t4 i hi
theorem ISeen_cg (q : ∀ a b, (5 ≤ a ∧ a ≤ 7) ∨ (119 ≤ a ∧ a ≤ 121) ∨ (a = 0 ∧ b = 14) ∨ (a = 110 ∧ b = 19) → h'.1 a b = h.1 a b) (z : ISeen h) : ISeen h' := by
  obtain ⟨sc, t1, t2, t3, t4⟩ := z
  refine ⟨sc, t1, by rw [q 0 14 (by omega)]; exact t2, by rw [q 110 19 (by omega)]; exact t3, fun i hi => ?_⟩
  rw [q 5 i (by omega), q 6 i (by omega), q 7 i (by omega), q 119 i (by omega), q 120 i (by omega), q 121 i (by omega)]
  exact t4 i hi
theorem IMisc_cg (q : ∀ b, b = 21 ∨ b = 22 → h'.1 110 b = h.1 110 b) (q2 : h'.2 = h.2) (z : IMisc h) : IMisc h' := by
  unfold IMisc
  rw [q 21 (by omega), q 22 (by omega), q2]
  exact z
theorem IRd_cg (q : ∀ a b, (a = 15 ∧ (b = 4 ∨ 9 ≤ b)) ∨ a = 16 ∨ a = 17 → h'.1 a b = h.1 a b) (z : IRd h) : IRd h' := by
  obtain ⟨z1, z2, z3, z4⟩ := z
  refine ⟨fun i hi => ?_, fun i hi => ?_, ?_, fun i h1 h2 => ?_⟩
  · rw [q 16 i (by omega)]; exact z1 i hi
  · rw [q 17 i (by omega)]; exact z2 i hi
  · rw [q 15 4 (by omega)]; exact z3
  · rw [q 15 i (by omega)]; exact z4 i h1 h2
end
/-- the two calls answer alike, and what held before holds behind -/
def OP (f g : PH → Option (Int32 × PH)) : Prop := ∀ (B : Nat) (h : PH), B < 2 ^ 27 → INV B h → ∃ (r : Int32) (h1 h2 : PH), f h = some (r, h1) ∧ g h1 = some (r, h2) ∧ INV (B + 99) h2
theorem OP_q {f g : PH → Option (Int32 × PH)} (q : ∀ (B : Nat) (h : PH), B < 2 ^ 27 → INV B h → ∃ r : Int32, f h = some (r, h) ∧ g h = some (r, h)) : OP f g := by
  intro B h hB hI
  obtain ⟨r, q1, q2⟩ := q B h hB hI
  exact ⟨r, h, h, q1, q2, INV_mono (by omega) hI⟩
-- the heap, as the step's rows want it
theorem as_put (h : PH) (o : Nat) : h = put h o (vw h o) := (put_vw h o).symm
theorem as_mst (h : PH) (k : Nat) : h = mst h k (h.1 k) (h.1 110 22) (h.1 110 23) := mst_self.symm
theorem xc_now {h : PH} {pn : Nat → Nat} {dr : Nat → Int32} (z : I0 h pn dr) : XC h 20 pn dr := ⟨Or.inl rfl, z.2.1, z.1⟩
theorem xc_trial {h : PH} {pn : Nat → Nat} {dr : Nat → Int32} (z : I0 h pn dr) : XC h 25 pn dr := ⟨Or.inr rfl, z.2.1, z.1⟩
theorem mc_now {h : PH} {pn : Nat → Nat} {dr : Nat → Int32} (z : I0 h pn dr) (m : IMisc h) : MC h 114 pn dr 15 := ⟨Or.inl rfl, z.2.2, z.1, m.2.1⟩
theorem mc_trial {h : PH} {pn : Nat → Nat} {dr : Nat → Int32} (z : I0 h pn dr) (m : IMisc h) : MC h 115 pn dr 15 := ⟨Or.inr rfl, z.2.2, z.1, m.2.1⟩
theorem on15 : ∀ v, v < 4 → ¬ onM 15 v = 0 := by decide +kernel
theorem oc_0 {pn : Nat → Nat} (hN : PN pn) {S : SS} (h : S 0 4 = 0) : OC pn 15 S := by
  intro v hv
  have hV := hN.2.2.2.2.2
  have h1 : offI S v = 0 := by
    unfold offI
    rw [h, Int32.zero_shiftRight, Int32.zero_and, if_pos rfl]
  exact ⟨fun _ => on15 v (by omega), fun _ => h1⟩
-- questions that change nothing
theorem hasCell_eq {h : PH} {pn : Nat → Nat} {dr : Nat → Int32} (z : I0 h pn dr) (a : Int32) : f_X1_hasCell 12 a h = some (isw a 0 (nI (pn 0) - 1), h) := by
  unfold f_X1_hasCell
  rw [gd_at kd_12, z.2.1.1, isWithin_eq, bd_at, bz_at (isw_01 _ _ _)]
theorem hasValve_eq {h : PH} {pn : Nat → Nat} {dr : Nat → Int32} (z : I0 h pn dr) (a : Int32) : f_X1_hasValve 12 a h = some (isw a 0 (nI (pn 9) - 1), h) := by
  unfold f_X1_hasValve
  rw [gd_at kd_12, z.2.1.2.2.2.2.2.1, isWithin_eq, bd_at, bz_at (isw_01 _ _ _)]
theorem isCell_eq {h : PH} {pn : Nat → Nat} {dr : Nat → Int32} (z : I0 h pn dr) (a : Int32) : f_X5_isCell a h = some (isw a 0 (nI (pn 0) - 1), h) := by
  unfold f_X5_isCell
  rw [z.2.2.1, in_eq, bd_at, bz_at (isw_01 _ _ _)]
theorem isValve_eq {h : PH} {pn : Nat → Nat} {dr : Nat → Int32} (z : I0 h pn dr) (a : Int32) : f_X5_isValve a h = some (isw a 0 (nI (pn 9) - 1), h) := by
  unfold f_X5_isValve
  rw [z.2.2.2.2.2.2.2.1, in_eq, bd_at, bz_at (isw_01 _ _ _)]
theorem isw_nv {a : Int32} {V : Nat} (hV : V ≤ 9) (h : ¬ isw a 0 (nI V - 1) = 0) : ∃ v : Nat, v < V ∧ a = nI v := by
  rcases Nat.eq_zero_or_pos V with q | q
  · subst q
    exfalso
    apply h
    unfold isw
    have e : nI 0 - 1 = (-1 : Int32) := by decide
    rw [e]
    by_cases z : a < 0
    · rw [if_pos z]
    · rw [if_neg z, if_pos]
      have e0 : (0 : Int32).toInt = 0 := rfl
      have e1 : (-1 : Int32).toInt = -1 := rfl
      rw [Int32.lt_iff_toInt_lt] at *
      omega
  · rw [nI_sub1 q, L0] at h
    obtain ⟨n, h1, h2, h3⟩ := isw_nat (by omega) (by omega) h
    exact ⟨n, by omega, h3⟩
theorem op_place (a : Int32) : OP (f_X4_place a) (f_X5_place a) := OP_q fun B h hB hI => by
  obtain ⟨pn, dr, z, -⟩ := hI
  unfold f_X4_place f_X5_place
  rw [isWithin_eq, in_eq, bd_at, bd_at]
  by_cases h1 : isw a 0 4 = 0
  · rw [if_pos h1, if_pos h1]
    exact ⟨_, rfl, rfl⟩
  · obtain ⟨n, -, h2, rfl⟩ := isw_nat (b := 0) (c := 4) (by omega) (by omega) h1
    rw [if_neg h1, if_neg h1, rd_at n rfl (by show n < 5; omega) (by decide), rd_at n rfl (by show n < 5; omega) (by decide), z.2.2.2.1 n (by omega)]
    refine ⟨_, rfl, ?_⟩
    rw [← z.2.1.2.1 n (by omega)]
theorem op_valve (a b : Int32) : OP (f_X4_valve a b) (f_X5_valve a b) := OP_q fun B h hB hI => by
  obtain ⟨pn, dr, z, n, -⟩ := hI
  have hV := z.1.2.2.2.2.2
  unfold f_X4_valve f_X5_valve
  rw [hasValve_eq z, isValve_eq z, bd_at, bd_at]
  by_cases h1 : isw a 0 (nI (pn 9) - 1) = 0
  · rw [if_pos h1, if_pos h1]
    exact ⟨_, rfl, rfl⟩
  · obtain ⟨v, h2, rfl⟩ := isw_nv (by omega) h1
    have hs : h.1 23 v = h.1 114 (63 + v) := (n.1.2.2.1 v h2).1
    rw [if_neg h1, if_neg h1]
    by_cases h3 : b = 0
    · rw [if_pos h3, if_pos h3, rd_at v rfl (by show v < 4; omega) (by decide), rd_at (63 + v) (A63 v) (by show 63 + v < 103; omega) (by decide)]
      exact ⟨_, rfl, by rw [← hs]⟩
    · rw [if_neg h3, if_neg h3]
      by_cases h4 : b = 1
      · rw [if_pos h4, if_pos h4, rd_at v rfl (by show v < 4; omega) (by decide), rd_at v rfl (by show v < 4; omega) (by decide), z.2.2.2.2.2.2.2.2 v h2]
        refine ⟨_, rfl, ?_⟩
        rw [z.2.1.2.2.2.2.2.2 v h2]
      · rw [if_neg h4, if_neg h4]
        exact ⟨_, rfl, rfl⟩
theorem op_queue (a : Int32) : OP (f_X4_queue a) (f_X5_queue a) := OP_q fun B h hB hI => by
  obtain ⟨pn, dr, z, n, -⟩ := hI
  obtain ⟨m, hm, m1, m2, m3⟩ := n.1.2.2.2.2
  have m1 : h.1 20 6 = nI m := m1
  unfold f_X4_queue f_X5_queue
  rw [isWithin_eq, in_eq, bd_at, bd_at]
  by_cases h1 : isw a 0 23 = 0
  · rw [if_pos h1, if_pos h1]
    exact ⟨_, rfl, rfl⟩
  · obtain ⟨i, -, h2, rfl⟩ := isw_nat (b := 0) (c := 23) (by omega) (by omega) h1
    rw [if_neg h1, if_neg h1, rd_at 78 L78 (by decide) (by decide), m1, m2]
    by_cases h3 : m ≤ i
    · rw [if_pos (nI_le h3 (by omega)), if_pos (nI_le h3 (by omega))]
      exact ⟨_, rfl, rfl⟩
    · rw [if_neg (nI_ge (by omega) (by omega)), if_neg (nI_ge (by omega) (by omega)), rd_at i rfl (by show i < 24; omega) (by decide), rd_at (79 + i) (A79 i) (by show 79 + i < 103; omega) (by decide)]
      have := (m3 i (by omega)).1
      have e : h.1 24 i = h.1 114 (79 + i) := this
      exact ⟨_, rfl, by rw [← e]⟩
