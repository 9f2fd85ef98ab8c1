-- what holds behind both constructors
def pn0 (i : Nat) : Nat := if i = 0 then 6 else if i ≤ 5 then i else 0
theorem pn0_st {i : Nat} (h : i < 5) : pn0 (1 + i) = i + 1 := by
  unfold pn0
  rw [if_neg (by omega), if_pos (by omega)]
  omega
theorem INV_0 {b b' : Nat} {u : S4} {v : S5} (hu : p4 b u) (hv : p5 b' v) : INV 0 (h00 u v) := by
  obtain ⟨-, u1, u2, -, -⟩ := hu
  obtain ⟨-, v1, v2⟩ := hv
  have hz : ∀ a b, ¬ (a = 9 ∨ a = 12 ∨ a = 10 ∨ a = 13 ∨ a = 110 ∨ a = 112 ∨ a = 114) → (h00 u v).1 a b = 0 := fun a b h => by rw [hr_z h]; rfl
  have e12 : (h00 u v).1 12 = c6 := rfl
  have e13 : (h00 u v).1 13 = u.2.2.1.2 := rfl
  have e110 : (h00 u v).1 110 = m00 := rfl
  have e112 : (h00 u v).1 112 = v.2.1 := rfl
  have e114 : (h00 u v).1 114 = v.2.2 := rfl
  have r0 : ∀ b, ¬ (18 ≤ b ∧ b < 27) → v.2.2 b = 0 := fun b h => (v2 b).trans (z14_0 h)
  have r9 : ∀ b, 18 ≤ b ∧ b < 27 → v.2.2 b = -9 := fun b h => (v2 b).trans (z14_9 h)
  have s0 : ∀ a i, a < 5 → vw (h00 u v) 20 a i = 0 := fun a i h => by
    unfold vw
    rw [if_pos h]
    exact hz _ _ (by omega)
  refine ⟨pn0, fun _ => 0, ⟨?_, ⟨rfl, fun i hi => ?_, rfl, rfl, rfl, rfl, fun v hv => absurd hv (Nat.not_lt_zero v)⟩, ⟨rfl, fun i hi => ?_, rfl, rfl, rfl, rfl, fun v hv => absurd hv (Nat.not_lt_zero v)⟩⟩, ⟨⟨fun c hc _ => Or.inl ?_, fun c hc => ?_, fun v hv => absurd hv (Nat.not_lt_zero v), ?_, ?_⟩, s0 0 4 (by omega)⟩, ?_, ?_, ?_, ?_, ?_, ?_⟩
  · unfold PN
    decide
  · show (h00 u v).1 13 i = _
    rw [e13, u2 i hi, pn0_st hi]
  · rw [e112, v1 i hi, pn0_st hi]
  · rw [e114, r0 _ (by omega), r0 _ (by omega), r9 _ (by omega), r0 _ (by omega), r0 _ (by omega), r0 _ (by omega)]
    exact ⟨s0 1 c (by omega), rfl, rfl, rfl, rfl, rfl, rfl⟩
  · rw [e114, r0 _ (by omega)]
    exact ⟨s0 2 c (by omega), Or.inl rfl⟩
  · unfold RK
    rw [e114, s0 0 7 (by omega), s0 0 8 (by omega), s0 0 9 (by omega), s0 0 10 (by omega), s0 0 11 (by omega), s0 0 12 (by omega), s0 0 13 (by omega), s0 0 14 (by omega), s0 0 15 (by omega), s0 0 16 (by omega), s0 0 17 (by omega), r0 67 (by omega), r0 68 (by omega), r0 69 (by omega), r0 70 (by omega), r0 71 (by omega), r0 72 (by omega), r0 73 (by omega), r0 74 (by omega), r0 75 (by omega), r0 76 (by omega), r0 77 (by omega)]
    exact ⟨⟨rfl, rfl, rfl, rfl, rfl, rfl, rfl, rfl, rfl, rfl, rfl⟩, ⟨0, Nat.zero_le _, rfl⟩, ⟨0, Nat.zero_le _, rfl⟩, Or.inl rfl, Or.inl rfl, ⟨0, Nat.zero_le _, rfl⟩, ⟨0, Nat.zero_le _, rfl⟩, ⟨0, Nat.zero_le _, rfl⟩⟩
  · refine ⟨0, Nat.zero_le _, s0 0 6 (by omega), ?_, fun i hi => absurd hi (Nat.not_lt_zero i)⟩
    rw [e114, r0 _ (by omega)]
    rfl
  · exact ⟨0, 0, by omega, by omega, hz 0 7 (by omega), rfl, hz 0 8 (by omega), rfl, fun i hi => absurd hi (Nat.not_lt_zero i)⟩
  · intro j hj
    rw [hz 4 j (by omega), hz 118 j (by omega)]
    exact ⟨rfl, Or.inl rfl⟩
  · exact ⟨0, by omega, hz 0 1 (by omega), rfl, fun i hi => absurd hi (Nat.not_lt_zero i)⟩
  · exact ⟨0, by omega, hz 0 14 (by omega), rfl, fun i hi => absurd hi (Nat.not_lt_zero i)⟩
  · exact ⟨rfl, rfl, rfl⟩
  · exact ⟨fun i hi => hz 16 i (by omega), fun i hi => hz 17 i (by omega), hz 15 4 (by omega), fun i h1 h2 => hz 15 i (by omega)⟩
