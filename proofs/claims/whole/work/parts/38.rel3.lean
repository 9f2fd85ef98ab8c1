section
variable {pn : Nat → Nat} {B : Nat} {S : SS} {r : RW} {dr : Nat → Int32} {cm : Int32}
/-- only mark c0 changes, and perhaps 'passed' -/
theorem R_mark (hN : PN pn) {x p : Int32} {c0 : Nat} (hc : c0 < 9) (hx : mk3 x) (h : RR 9 pn B S r) : RR 9 pn B (u2 (u2 S 0 17 p) 2 c0 x) (upd (upd r 77 p) (54 + c0) x) := by
  obtain ⟨hC, hM, hT, ⟨⟨k1, k2, k3, k4, k5, k6, k7, k8, k9, k10, k11⟩, K⟩, m, hm, m1, m2, m3⟩ := h
  have hV := hN.2.2.2.2.2
  have big : ∀ i, ¬ i = 54 + c0 → ¬ i = 77 → upd (upd r 77 p) (54 + c0) x i = r i := fun i h1 h2 => by rw [upd_ne _ _ h1, upd_ne _ _ h2]
  have b67 := big 67 (by omega) (by omega)
  have b68 := big 68 (by omega) (by omega)
  have b69 := big 69 (by omega) (by omega)
  have b70 := big 70 (by omega) (by omega)
  have b71 := big 71 (by omega) (by omega)
  have b72 := big 72 (by omega) (by omega)
  have b73 := big 73 (by omega) (by omega)
  have b74 := big 74 (by omega) (by omega)
  have b75 := big 75 (by omega) (by omega)
  have b76 := big 76 (by omega) (by omega)
  refine ⟨fun c q1 q2 => ?_, fun c q1 => ?_, fun v q1 => ?_, ⟨⟨?_, ?_, ?_, ?_, ?_, ?_, ?_, ?_, ?_, ?_, ?_⟩, ?_⟩, m, hm, m1, by rw [big 78 (by omega) (by omega)]; exact m2, fun i hi => ?_⟩
  · refine crel_mv ⟨?_, ?_, ?_, ?_, ?_, ?_⟩ (hC c q1 q2) <;> exact big _ (by omega) (by omega)
  · by_cases q : c = c0
    · subst q
      rw [upd_at, u2_same]
      exact ⟨rfl, hx⟩
    · rw [big _ (by omega) (by omega), u2_i _ _ _ q]; exact hM c q1
  · rw [big _ (by omega) (by omega)]; exact hT v q1
  · rw [b67]; exact k1
  · rw [b68]; exact k2
  · rw [b69]; exact k3
  · rw [b70]; exact k4
  · rw [b71]; exact k5
  · rw [b72]; exact k6
  · rw [b73]; exact k7
  · rw [b74]; exact k8
  · rw [b75]; exact k9
  · rw [b76]; exact k10
  · rw [upd_ne _ _ (show ¬ 77 = 54 + c0 by omega), upd_at]; rfl
  · rw [b67, b68, b69, b70, b71, b74, b75]; exact K
  · rw [big _ (by omega) (by omega)]; exact m3 i hi
theorem u2_id (S : SS) (a i : Nat) : u2 S a i (S a i) = S := by
  funext x y
  unfold u2
  by_cases q : x = a ∧ y = i
  · rw [if_pos q, q.1, q.2]
  · rw [if_neg q]
theorem upd_id (r : RW) (i : Nat) : upd r i (r i) = r := by
  funext x
  unfold upd
  by_cases q : x = i
  · rw [if_pos q, q]
  · rw [if_neg q]
theorem R_mark0 (hN : PN pn) {x : Int32} {c0 : Nat} (hc : c0 < 9) (hx : mk3 x) (h : RR 9 pn B S r) : RR 9 pn B (u2 S 2 c0 x) (upd r (54 + c0) x) := by
  have h1 := R_mark hN (p := S 0 17) hc hx h
  rw [u2_id, h.2.2.2.1.1.2.2.2.2.2.2.2.2.2.2, upd_id] at h1
  exact h1
theorem R_check (hN : PN pn) (h : RR 9 pn B S r) : RR 9 pn B (cCk pn S) (mCk pn r) := by
  have hcl := hN.1
  have hst := hN.2.1
  have hV := hN.2.2.2.2.2
  have hc := h.1 (pn 4) (by omega) (by omega)
  have hz := crel_0 hV hc
  have hg := good_eq (pn := pn) hV hc
  have hm := h.2.1 (pn 4) (by omega)
  have hp := h.2.2.2.1.1.2.2.2.2.2.2.2.2.2.2
  unfold cCk mCk
  rw [hg, hm.1, hp]
  by_cases h1 : S 1 (pn 4) = 0
  · rw [if_pos h1, if_pos (hz.1.mp h1)]; exact h
  · rw [if_neg h1, if_neg (fun q => h1 (hz.1.mpr q))]
    by_cases h2 : gM pn r (pn 4) = 0
    · rw [if_pos h2, if_pos h2]
      exact R_mark0 hN (by omega) (Or.inr (Or.inl rfl)) h
    · rw [if_neg h2, if_neg h2]
      by_cases h3 : r (54 + pn 4) = 0
      · rw [if_pos h3, if_pos h3]
        have zero : RR 9 pn B (u2 S 0 17 (r 77 + 1)) (upd (upd r 77 (r 77 + 1)) (54 + pn 4) 0) := by
          have z := R_mark hN (x := 0) (p := r 77 + 1) (c0 := pn 4) (by omega) (Or.inl rfl) h
          have e : u2 (u2 S 0 17 (r 77 + 1)) 2 (pn 4) 0 = u2 S 0 17 (r 77 + 1) := by
            have := u2_id (u2 S 0 17 (r 77 + 1)) 2 (pn 4)
            have e2 : u2 S 0 17 (r 77 + 1) 2 (pn 4) = 0 := hm.1.trans h3
            rw [e2] at this
            exact this
          rw [e] at z
          exact z
        by_cases h4 : pn 8 = 0
        · rw [if_pos h4, if_pos h4]; exact zero
        · rw [if_neg h4, if_neg h4]
          by_cases h5 : irm (r 77 + 1) (nI (pn 8)) = 0
          · rw [if_pos h5, if_pos h5]
            exact R_mark hN (by omega) (Or.inr (Or.inr rfl)) h
          · rw [if_neg h5, if_neg h5]; exact zero
      · rw [if_neg h3, if_neg h3]; exact h
/-- a scalar changes -/
theorem R_sc {B' : Nat} {a b : Nat} {v w : Int32} (ha : 7 ≤ a) (hb : 67 ≤ b ∧ b ≤ 77) (h : RR 9 pn B S r) (hN : PN pn) (hK : RK B' (u2 S 0 a v) (upd r b w)) : RR 9 pn B' (u2 S 0 a v) (upd r b w) := by
  obtain ⟨hC, hM, hT, -, m, hm, m1, m2, m3⟩ := h
  have hV := hN.2.2.2.2.2
  have big : ∀ i, i < 67 ∨ 77 < i → upd r b w i = r i := fun i h1 => upd_ne _ _ (by omega)
  refine ⟨fun c q1 q2 => ?_, fun c q1 => ?_, fun v q1 => ?_, hK, m, hm, ?_, by rw [big 78 (by omega)]; exact m2, fun i hi => ?_⟩
  · refine crel_mv ⟨?_, ?_, ?_, ?_, ?_, ?_⟩ (hC c q1 q2) <;> exact big _ (by omega)
  · rw [big _ (by omega)]; exact hM c q1
  · rw [big _ (by omega)]; exact hT v q1
  · rw [u2_i _ _ _ (by omega)]; exact m1
  · rw [big _ (by omega)]; exact m3 i hi
theorem R_alarm (hN : PN pn) (h : RR 9 pn B S r) : RR 9 pn B (u2 S 0 10 1) (upd r 70 1) := by
  refine R_sc (by omega) (by omega) h hN ?_
  obtain ⟨⟨k1, k2, k3, k4, k5, k6, k7, k8, k9, k10, k11⟩, K1, K2, K3, K4, K5⟩ := h.2.2.2.1
  exact ⟨⟨k1, k2, k3, rfl, k5, k6, k7, k8, k9, k10, k11⟩, K1, K2, K3, Or.inr rfl, K5⟩
theorem R_rej (hN : PN pn) (hB : B < 2 ^ 30) (h : RR 9 pn B S r) : RR 9 pn (B + 1) (u2 S 0 14 (S 0 14 + 1)) (upd r 74 (r 74 + 1)) := by
  refine R_sc (by omega) (by omega) h hN ?_
  obtain ⟨⟨k1, k2, k3, k4, k5, k6, k7, k8, k9, k10, k11⟩, K1, K2, K3, K4, ⟨a, ha, ha2⟩, ⟨b, hb, hb2⟩, ⟨c, hc, hc2⟩⟩ := h.2.2.2.1
  refine ⟨⟨k1, k2, k3, k4, k5, k6, k7, ?_, k9, k10, k11⟩, K1, K2, K3, K4, ⟨a, by omega, ha2⟩, ⟨b + 1, by omega, ?_⟩, ⟨c, by omega, hc2⟩⟩
  · show S 0 14 + 1 = r 74 + 1
    rw [k8]
  · show r 74 + 1 = _
    rw [hb2, nI_1]
theorem R_smp (hN : PN pn) (hB : B < 2 ^ 30) (h : RR 9 pn B S r) : RR 9 pn (B + 1) (u2 S 0 15 (S 0 15 + 1)) (upd r 75 (r 75 + 1)) := by
  refine R_sc (by omega) (by omega) h hN ?_
  obtain ⟨⟨k1, k2, k3, k4, k5, k6, k7, k8, k9, k10, k11⟩, K1, K2, K3, K4, ⟨a, ha, ha2⟩, ⟨b, hb, hb2⟩, ⟨c, hc, hc2⟩⟩ := h.2.2.2.1
  refine ⟨⟨k1, k2, k3, k4, k5, k6, k7, k8, ?_, k10, k11⟩, K1, K2, K3, K4, ⟨a, by omega, ha2⟩, ⟨b, by omega, hb2⟩, ⟨c + 1, by omega, ?_⟩⟩
  · show S 0 15 + 1 = r 75 + 1
    rw [k9]
  · show r 75 + 1 = _
    rw [hc2, nI_1]
theorem R_step1 (hN : PN pn) (h : RR 9 pn B S r) {a : Nat} (ha : r 71 = nI a) (haB : a < B) : RR 9 pn B (u2 S 0 9 (S 0 9 + 1)) (upd r 71 (r 71 + 1)) := by
  refine R_sc (by omega) (by omega) h hN ?_
  obtain ⟨⟨k1, k2, k3, k4, k5, k6, k7, k8, k9, k10, k11⟩, K1, K2, K3, K4, -, K6, K7⟩ := h.2.2.2.1
  refine ⟨⟨k1, k2, k3, k4, ?_, k6, k7, k8, k9, k10, k11⟩, K1, K2, K3, K4, ⟨a + 1, by omega, ?_⟩, K6, K7⟩
  · show S 0 9 + 1 = r 71 + 1
    rw [k5]
  · show r 71 + 1 = _
    rw [ha, nI_1]
theorem R_empty (hN : PN pn) {c : Nat} (hc : c < 9) (h : RR 9 pn B S r) : RR 9 pn B (u2 (u2 S 1 c 0) 2 c 0) (upd (mE r c) (54 + c) 0) := by
  refine R_mark0 hN hc (Or.inl rfl) ?_
  refine R_cell (c0 := c) h (fun d q => u2_i S 1 _ q) (fun a q => u2_a S _ _ q) (fun i q => ?_) hc ?_
  · unfold mE
    rw [if_neg q]
  · rw [u2_same]
    left
    refine ⟨rfl, ?_, ?_, ?_, ?_, ?_, ?_⟩
    · show (if c < 54 ∧ c % 9 = c then (if c = 18 + c then (-9 : Int32) else 0) else r c) = 0
      rw [if_pos (by omega), if_neg (by omega)]
    · show (if 9 + c < 54 ∧ (9 + c) % 9 = c then (if 9 + c = 18 + c then (-9 : Int32) else 0) else r (9 + c)) = 0
      rw [if_pos (by omega), if_neg (by omega)]
    · show (if 18 + c < 54 ∧ (18 + c) % 9 = c then (if 18 + c = 18 + c then (-9 : Int32) else 0) else r (18 + c)) = -9
      rw [if_pos (by omega), if_pos rfl]
    · show (if 27 + c < 54 ∧ (27 + c) % 9 = c then (if 27 + c = 18 + c then (-9 : Int32) else 0) else r (27 + c)) = 0
      rw [if_pos (by omega), if_neg (by omega)]
    · show (if 36 + c < 54 ∧ (36 + c) % 9 = c then (if 36 + c = 18 + c then (-9 : Int32) else 0) else r (36 + c)) = 0
      rw [if_pos (by omega), if_neg (by omega)]
    · show (if 45 + c < 54 ∧ (45 + c) % 9 = c then (if 45 + c = 18 + c then (-9 : Int32) else 0) else r (45 + c)) = 0
      rw [if_pos (by omega), if_neg (by omega)]
theorem R_push (hN : PN pn) (hB : B < 2 ^ 30) {j : Int32} (hj : j = 0 ↔ r 69 = 0) (h : RR 9 pn B S r) : RR 9 pn (B + 1) (cPs pn S) (mPs pn j r) := by
  have hcl := hN.1
  have hst := hN.2.1
  have hV := hN.2.2.2.2.2
  have hc := h.1 (pn 5) (by omega) (by omega)
  have hz := crel_0 hV hc
  have hm := h.2.1 (pn 5) (by omega)
  have hjm := h.2.2.2.1.1.2.2.1
  have h' := RR_mono (B' := B + 1) (by omega) h
  unfold cPs mPs
  rw [hm.1, hjm]
  by_cases h1 : r (54 + pn 5) = 0
  · rw [if_pos h1, if_pos h1]; exact h'
  · rw [if_neg h1, if_neg h1]
    by_cases h2 : S 1 (pn 5) = 0
    · rw [if_pos h2, if_pos (hz.1.mp h2)]
      exact R_alarm hN h'
    · rw [if_neg h2, if_neg (fun q => h2 (hz.1.mpr q))]
      by_cases h3 : j = 0
      · rw [if_pos (hj.mp h3), if_pos h3]
        by_cases h4 : r (54 + pn 5) = 1
        · rw [if_pos h4, if_pos h4]
          exact R_empty hN (by omega) (R_rej hN hB h)
        · rw [if_neg h4, if_neg h4]
          exact R_empty hN (by omega) (R_smp hN hB h)
      · rw [if_neg (fun q => h3 (hj.mpr q)), if_neg h3]
        exact R_alarm hN h'
end
