-- the head of a text, the class's way
def hkB (tx : Nat → Nat) (i : Nat) : Bool := if i = 0 then decide (tx 0 = 66) else if i = 1 then decide (54 ≤ tx 1 ∧ tx 1 ≤ 57) else if i ≤ 6 then decide ((48 ≤ tx i ∧ tx i ≤ 57) ∧ (if i = 2 then 1 else tx (i - 1) - 48 + 1) ≤ tx i - 48 ∧ tx i - 48 + 5 ≤ (tx 1 - 48) + (i - 2)) else decide (48 ≤ tx i ∧ tx i ≤ 57)
def CH (tx : Nat → Nat) (i : Nat) (h : PH) : Prop := h.1 8 2 = nI i ∧ (h.1 8 3 = nI 0 ∧ h.1 9 5 = nI 0 ∧ h.1 15 7 = nI 0 ∧ h.1 15 8 = nI 0 ∧ h.1 15 6 = nI 0) ∧ (2 ≤ i → h.1 9 0 = nI (tx 1 - 48)) ∧ (∀ k, k < 5 → k + 3 ≤ i → h.1 10 k = nI (tx (k + 2) - 48)) ∧ (8 ≤ i → h.1 9 2 = nI (if i = 8 then (tx 7 - 48) * 10 else (tx 7 - 48) * 10 + (tx 8 - 48))) ∧ (10 ≤ i → h.1 9 3 = nI (tx 9 - 48)) ∧ (11 ≤ i → h.1 9 4 = nI (tx 10 - 48))
def FrH (h h' : PH) : Prop := (∀ a b, ¬ ((8 ≤ a ∧ a ≤ 11) ∨ a = 18 ∨ a = 19 ∨ (a = 15 ∧ 6 ≤ b ∧ b ≤ 8)) → h'.1 a b = h.1 a b) ∧ h'.2 = h.2
theorem FrH_tr {h h1 h2 : PH} (q : FrH h h1) (q2 : FrH h1 h2) : FrH h h2 := ⟨fun a b z => (q2.1 a b z).trans (q.1 a b z), q2.2.trans q.2⟩
theorem FrC_H {h h1 : PH} (q : FrC h h1) : FrH h h1 := ⟨fun a b z => q.1 a b (by omega), q.2⟩
section
variable {h : PH} {tx : Nat → Nat}
theorem hk_hi {i : Nat} (h1 : 7 ≤ i) : hkB tx i = decide (48 ≤ tx i ∧ tx i ≤ 57) := by
  unfold hkB
  rw [if_neg (by omega), if_neg (by omega), if_neg (by omega)]
theorem hk_st {k : Nat} (h1 : k < 5) : hkB tx (k + 2) = decide ((48 ≤ tx (k + 2) ∧ tx (k + 2) ≤ 57) ∧ (if k = 0 then 1 else tx (k + 1) - 48 + 1) ≤ tx (k + 2) - 48 ∧ tx (k + 2) - 48 + 5 ≤ (tx 1 - 48) + k) := by
  unfold hkB
  rw [if_neg (by omega), if_neg (by omega), if_pos (by omega)]
  by_cases q : k = 0
  · subst q; rfl
  · rw [if_neg (show ¬ k + 2 = 2 by omega), if_neg q]
    have e1 : k + 2 - 1 = k + 1 := by omega
    have e2 : k + 2 - 2 = k := by omega
    rw [e1, e2]
/-- a station's letter -/
theorem x_sta {k : Nat} (hk : k < 5) (w : CH tx (k + 2) h) (hp : ∀ j, j < k + 2 → hkB tx j = true) (hc : 48 ≤ tx (k + 2) ∧ tx (k + 2) ≤ 57) : ∃ b : Int32, f_X2_takesStation (nI k) (nI (tx (k + 2) - 48)) h = some (b, si h 10 k (nI (tx (k + 2) - 48))) ∧ b = if hkB tx (k + 2) then 1 else 0 := by
  have h1 : 54 ≤ tx 1 ∧ tx 1 ≤ 57 := by
    have := hp 1 (by omega)
    exact of_decide_eq_true this
  have e0 : h.1 9 0 = nI (tx 1 - 48) := w.2.2.1 (by omega)
  have em : (h.1 9 0 - 5) + nI k = nI (tx 1 - 48 - 5 + k) := by
    rw [e0, L5, nI_subI (by omega), nI_add]
  have key : ∀ l : Nat, l = (if k = 0 then 1 else tx (k + 1) - 48 + 1) → l ≤ 300 → f_X2_takesStation_b21 (nI k) (nI (tx (k + 2) - 48)) (nI l) h = some (if hkB tx (k + 2) then 1 else 0, si h 10 k (nI (tx (k + 2) - 48))) := by
    intro l hl hl2
    unfold f_X2_takesStation_b21
    rw [wr_at k rfl (by show k < 5; omega) (by decide), isWithin_eq, bd_at, bz_at (isw_01 _ _ _), em, hk_st hk, ← hl]
    congr 2
    unfold isw
    by_cases q : (48 ≤ tx (k + 2) ∧ tx (k + 2) ≤ 57) ∧ l ≤ tx (k + 2) - 48 ∧ tx (k + 2) - 48 + 5 ≤ (tx 1 - 48) + k
    · rw [if_neg (nI_nlt (by omega) (by omega)), if_neg (nI_nlt (by omega) (by omega)), if_pos (decide_eq_true q)]
    · have n : ¬ decide ((48 ≤ tx (k + 2) ∧ tx (k + 2) ≤ 57) ∧ l ≤ tx (k + 2) - 48 ∧ tx (k + 2) - 48 + 5 ≤ (tx 1 - 48) + k) = true := fun z => q (of_decide_eq_true z)
      rw [if_neg n]
      by_cases q2 : tx (k + 2) - 48 < l
      · rw [if_pos (nI_lt q2 (by omega))]
      · rw [if_neg (nI_nlt (by omega) (by omega)), if_pos (nI_lt (by omega) (by omega))]
  unfold f_X2_takesStation
  by_cases q : k = 0
  · rw [if_pos (by rw [q]; rfl)]
    exact ⟨_, key 1 (by rw [if_pos q]) (by omega), rfl⟩
  · have e1 : nI k - 1 = nI (k - 1) := nI_sub1 (by omega)
    have e2 : h.1 10 (k - 1) = nI (tx (k + 1) - 48) := by
      have := w.2.2.2.1 (k - 1) (by omega) (by omega)
      have z : k - 1 + 2 = k + 1 := by omega
      rw [z] at this
      exact this
    have h3 : tx (k + 1) ≤ 57 := by
      have := hp (k + 1) (by omega)
      have z : k + 1 = (k - 1) + 2 := by omega
      rw [z, hk_st (by omega), ← z] at this
      have := of_decide_eq_true this
      omega
    rw [if_neg (nI_nz (by omega) (by omega)), e1, rd_at (k - 1) rfl (by show k - 1 < 5; omega) (by decide)]
    have e3 : h.1 (9 + 1) (k - 1) = nI (tx (k + 1) - 48) := e2
    rw [e3, nI_1]
    exact ⟨_, key (tx (k + 1) - 48 + 1) (by rw [if_neg q]) (by omega), rfl⟩
end
