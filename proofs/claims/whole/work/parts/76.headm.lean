-- the head of a text, the reference's way
def MH (tx : Nat → Nat) (i : Nat) (h : PH) : Prop := h.1 110 35 = nI 66 ∧ h.1 110 36 = nI (i - 1) ∧ (h.1 110 29 = nI 0 ∧ h.1 126 0 = nI 0 ∧ h.1 126 1 = nI 0 ∧ h.1 110 33 = nI 0) ∧ (2 ≤ i → h.1 123 0 = nI (tx 1 - 48)) ∧ (∀ k, k < 5 → k + 3 ≤ i → h.1 123 (k + 1) = nI (tx (k + 2) - 48)) ∧ h.1 110 26 = nI (if i ≤ 7 then 0 else if i = 8 then tx 7 - 48 else (tx 7 - 48) * 10 + (tx 8 - 48)) ∧ (10 ≤ i → h.1 110 27 = nI (tx 9 - 48))
def MP (tx : Nat → Nat) (h : PH) : Prop := h.1 123 0 = nI (tx 1 - 48) ∧ (∀ k, k < 5 → h.1 123 (k + 1) = nI (tx (k + 2) - 48)) ∧ h.1 110 26 = nI ((tx 7 - 48) * 10 + (tx 8 - 48)) ∧ h.1 110 27 = nI (tx 9 - 48) ∧ h.1 110 28 = nI (tx 10 - 48)
def FrN (h h' : PH) : Prop := (∀ a b, ¬ ((123 ≤ a ∧ a ≤ 127) ∨ (a = 110 ∧ ((26 ≤ b ∧ b ≤ 29) ∨ b = 33 ∨ (35 ≤ b ∧ b ≤ 37)))) → h'.1 a b = h.1 a b) ∧ h'.2 = h.2
theorem FrN_tr {h h1 h2 : PH} (q : FrN h h1) (q2 : FrN h1 h2) : FrN h h2 := ⟨fun a b z => (q2.1 a b z).trans (q.1 a b z), q2.2.trans q.2⟩
theorem FrM_N {h h1 : PH} (q : FrM h h1) : FrN h h1 := ⟨fun a b z => q.1 a b (by omega), q.2⟩
theorem MP_fr {tx : Nat → Nat} {h h' : PH} (q : FrM h h') (c : MP tx h) : MP tx h' := by
  obtain ⟨c1, c2, c3, c4, c5⟩ := c
  refine ⟨?_, fun k hk => ?_, ?_, ?_, ?_⟩
  · rw [q.1 _ _ (by omega)]; exact c1
  · rw [q.1 _ _ (by omega)]; exact c2 k hk
  · rw [q.1 _ _ (by omega)]; exact c3
  · rw [q.1 _ _ (by omega)]; exact c4
  · rw [q.1 _ _ (by omega)]; exact c5
theorem TxM_fr {tx : Nat → Nat} {L : Nat} {h h' : PH} (q : FrN h h') (c : TxM tx L h) : TxM tx L h' := ⟨by rw [q.1 _ _ (by omega)]; exact c.1, fun i hi => by rw [q.1 _ _ (by omega)]; exact c.2 i hi⟩
theorem dg69_t : ∀ c, c < 256 → isw (nI c - 48) 6 9 = if 54 ≤ c ∧ c ≤ 57 then 1 else 0 := by decide +kernel
theorem dgn_t : ∀ c, c < 48 → (nI c - 48 : Int32) < 0 := by decide +kernel
theorem isw_sta {c l u : Nat} (hc : c ≤ 255) (h1 : 1 ≤ l) (h2 : l ≤ 300) (h3 : u ≤ 9) : isw (nI c - 48) (nI l) (nI u) = if 48 ≤ c ∧ l ≤ c - 48 ∧ c - 48 ≤ u then 1 else 0 := by
  unfold isw
  by_cases q : 48 ≤ c
  · have ec : nI c - 48 = nI (c - 48) := by rw [L48, nI_subI q]
    rw [ec]
    by_cases q1 : c - 48 < l
    · rw [if_pos (nI_lt q1 (by omega)), if_neg (by omega)]
    · rw [if_neg (nI_nlt (by omega) (by omega))]
      by_cases q2 : u < c - 48
      · rw [if_pos (nI_lt q2 (by omega)), if_neg (by omega)]
      · rw [if_neg (nI_nlt (by omega) (by omega)), if_pos (by omega)]
  · have n := dgn_t c (by omega)
    rw [if_pos, if_neg (by omega)]
    have e0 := nI_pos' (n := l) (by omega)
    rw [Int32.lt_iff_toInt_lt] at n ⊢
    rw [Int32.le_iff_toInt_le] at e0
    omega
section
variable {h : PH} {tx : Nat → Nat}
def YH (tx : Nat → Nat) (i : Nat) (h : PH) : Prop := ∃ h' : PH, f_X5_take (nI (tx i)) h = some (if hkB tx i then 1 else 0, h') ∧ FrN h h' ∧ (hkB tx i = true → if i = 10 then HM h' s00 ∧ MP tx h' else MH tx (i + 1) h')
theorem m_hd_of {i : Nat} (w : MH tx i h) {h1 : PH} (e : f_X5_takeHead (nI (tx i) - 48) h = some (if hkB tx i then 1 else 0, h1)) (fr : FrN h h1) (c : hkB tx i = true → if i = 10 then HM h1 s00 ∧ MP tx h1 else MH tx (i + 1) h1) : YH tx i h := by
  refine ⟨h1, ?_, fr, c⟩
  unfold f_X5_take
  rw [w.1, if_neg (by decide), if_pos (c := nI 66 = 66) rfl, e, bd_at]
  by_cases q : hkB tx i = true
  · rw [if_pos q, bz_1]
  · rw [if_neg q, bz_0]
theorem m_hd1 (w : MH tx 1 h) (hc : tx 1 ≤ 255) : YH tx 1 h := by
  refine m_hd_of (h1 := si (si h 110 36 (nI 1)) 123 0 (nI (tx 1) - 48)) w ?_ ⟨fun a b z => by rw [rsi, if_neg (by omega), rsi, if_neg (by omega)], rfl⟩ (fun z => ?_)
  · unfold f_X5_takeHead
    rw [st_at, w.2.1, if_pos (c := nI (1 - 1) = 0) rfl, wr_at 0 L0 (by decide) (by decide), in_eq, bd_at, bz_at (isw_01 _ _ _), dg69_t _ (by omega)]
    show some ((if 54 ≤ tx 1 ∧ tx 1 ≤ 57 then 1 else 0), _) = some (if decide (54 ≤ tx 1 ∧ tx 1 ≤ 57) = true then 1 else 0, _)
    by_cases q : 54 ≤ tx 1 ∧ tx 1 ≤ 57
    · rw [if_pos q, if_pos (decide_eq_true q)]; rfl
    · rw [if_neg q, if_neg (fun z => q (of_decide_eq_true z))]; rfl
  · have z := of_decide_eq_true (show decide (54 ≤ tx 1 ∧ tx 1 ≤ 57) = true from z)
    rw [if_neg (by omega)]
    refine ⟨w.1, rfl, w.2.2.1, fun _ => ?_, fun k hk z => by omega, w.2.2.2.2.2.1, fun z => by omega⟩
    show nI (tx 1) - 48 = nI (tx 1 - 48)
    rw [L48, nI_subI (by omega)]
/-- a station's letter -/
theorem m_sta {k : Nat} (hk : k < 5) (w : MH tx (k + 2) h) (hc : tx (k + 2) ≤ 255) (hp : ∀ j, 1 ≤ j → j < k + 2 → hkB tx j = true) : f_X5_takeHead (nI (tx (k + 2)) - 48) h = some (if hkB tx (k + 2) then 1 else 0, si (si h 110 36 (nI (k + 2))) 123 (k + 1) (nI (tx (k + 2)) - 48)) := by
  have h1 : 54 ≤ tx 1 ∧ tx 1 ≤ 57 := by
    have := hp 1 (by omega) (by omega)
    exact of_decide_eq_true this
  have e0 : h.1 123 0 = nI (tx 1 - 48) := w.2.2.2.1 (by omega)
  have e36 : h.1 110 36 = nI (k + 1) := w.2.1
  generalize hH : si (si h 110 36 (nI (k + 2))) 123 (k + 1) (nI (tx (k + 2)) - 48) = H
  have f0 : H.1 123 0 = nI (tx 1 - 48) := by
    rw [← hH, rsi, if_neg (by omega), rsi, if_neg (by omega)]
    exact e0
  have key : ∀ l : Nat, l = (if k = 0 then 1 else tx (k + 1) - 48 + 1) → l ≤ 300 → f_X5_takeHead_b68 (nI (k + 1)) (nI l) (nI (tx (k + 2)) - 48) H = some (if hkB tx (k + 2) then 1 else 0, H) := by
    intro l hl hl2
    have h1l : 1 ≤ l := by
      rw [hl]
      split
      · omega
      · omega
    unfold f_X5_takeHead_b68
    rw [rd_at 0 L0 (by decide) (by decide), f0, L6, nI_subI (by omega), nI_add, in_eq, bd_at, bz_at (isw_01 _ _ _), isw_sta hc h1l hl2 (by omega), hk_st hk, ← hl]
    congr 2
    by_cases q : (48 ≤ tx (k + 2) ∧ tx (k + 2) ≤ 57) ∧ l ≤ tx (k + 2) - 48 ∧ tx (k + 2) - 48 + 5 ≤ (tx 1 - 48) + k
    · rw [if_pos (by omega), if_pos (decide_eq_true q)]
    · rw [if_neg (by omega), if_neg (fun z => q (of_decide_eq_true z))]
  unfold f_X5_takeHead
  rw [st_at, e36, if_neg (nI_nz (by omega) (by omega)), if_neg (by rw [L6]; exact nI_ge (by omega) (by omega)), nI_1, wr_at (k + 1) rfl (by show k + 1 < 6; omega) (by decide), hH]
  by_cases q : k = 0
  · rw [if_pos (by rw [q]; rfl)]
    exact key 1 (by rw [if_pos q]) (by omega)
  · have e2 : H.1 123 k = nI (tx (k + 1) - 48) := by
      have := w.2.2.2.2.1 (k - 1) (by omega) (by omega)
      have z1 : k - 1 + 1 = k := by omega
      have z2 : k - 1 + 2 = k + 1 := by omega
      rw [z1, z2] at this
      rw [← hH, rsi, if_neg (by omega), rsi, if_neg (by omega)]
      exact this
    have h3 : tx (k + 1) ≤ 57 := by
      have := hp (k + 1) (by omega) (by omega)
      have z : k + 1 = (k - 1) + 2 := by omega
      rw [z, hk_st (by omega), ← z] at this
      have := of_decide_eq_true this
      omega
    have n1 : ¬ nI (k + 1) = 1 := fun z => by
      have := (nI_eq (by omega) (by omega)).mp (z.trans L1)
      omega
    have e3 : nI (k + 1) - 1 = nI k := nI_sub1 (by omega)
    rw [if_neg n1, e3, rd_at k rfl (by show k < 6; omega) (by decide), e2, nI_1]
    exact key _ (by rw [if_neg q]) (by omega)
theorem m_hd2 (w : MH tx 2 h) (hc : tx 2 ≤ 255) (hp : ∀ j, 1 ≤ j → j < 2 → hkB tx j = true) : YH tx 2 h := by
  have e := m_sta (k := 0) (by omega) w hc hp
  refine m_hd_of (h1 := si (si h 110 36 (nI 2)) 123 1 (nI (tx 2) - 48)) w e ⟨fun a b z => by rw [rsi, if_neg (by omega), rsi, if_neg (by omega)], rfl⟩ (fun z => ?_)
  have z : hkB tx (0 + 2) = true := z
  rw [hk_st (by omega)] at z
  have z : (48 ≤ tx 2 ∧ tx 2 ≤ 57) ∧ _ := of_decide_eq_true z
  have ec : nI (tx 2) - 48 = nI (tx 2 - 48) := by rw [L48, nI_subI (by omega)]
  rw [if_neg (by omega), ec]
  refine ⟨w.1, rfl, w.2.2.1, fun _ => w.2.2.2.1 (by omega), fun k hk y => ?_, w.2.2.2.2.2.1, fun y => by omega⟩
  show (si h 123 1 (nI (tx 2 - 48))).1 123 (k + 1) = _
  by_cases q : k = 0
  · subst q
    rw [si_slf]
  · rw [si_oth _ _ _ (by omega)]
    exact w.2.2.2.2.1 k hk (by omega)
theorem m_hd3 (w : MH tx 3 h) (hc : tx 3 ≤ 255) (hp : ∀ j, 1 ≤ j → j < 3 → hkB tx j = true) : YH tx 3 h := by
  have e := m_sta (k := 1) (by omega) w hc hp
  refine m_hd_of (h1 := si (si h 110 36 (nI 3)) 123 2 (nI (tx 3) - 48)) w e ⟨fun a b z => by rw [rsi, if_neg (by omega), rsi, if_neg (by omega)], rfl⟩ (fun z => ?_)
  have z : hkB tx (1 + 2) = true := z
  rw [hk_st (by omega)] at z
  have z : (48 ≤ tx 3 ∧ tx 3 ≤ 57) ∧ _ := of_decide_eq_true z
  have ec : nI (tx 3) - 48 = nI (tx 3 - 48) := by rw [L48, nI_subI (by omega)]
  rw [if_neg (by omega), ec]
  refine ⟨w.1, rfl, w.2.2.1, fun _ => w.2.2.2.1 (by omega), fun k hk y => ?_, w.2.2.2.2.2.1, fun y => by omega⟩
  show (si h 123 2 (nI (tx 3 - 48))).1 123 (k + 1) = _
  by_cases q : k = 1
  · subst q
    rw [si_slf]
  · rw [si_oth _ _ _ (by omega)]
    exact w.2.2.2.2.1 k hk (by omega)
theorem m_hd4 (w : MH tx 4 h) (hc : tx 4 ≤ 255) (hp : ∀ j, 1 ≤ j → j < 4 → hkB tx j = true) : YH tx 4 h := by
  have e := m_sta (k := 2) (by omega) w hc hp
  refine m_hd_of (h1 := si (si h 110 36 (nI 4)) 123 3 (nI (tx 4) - 48)) w e ⟨fun a b z => by rw [rsi, if_neg (by omega), rsi, if_neg (by omega)], rfl⟩ (fun z => ?_)
  have z : hkB tx (2 + 2) = true := z
  rw [hk_st (by omega)] at z
  have z : (48 ≤ tx 4 ∧ tx 4 ≤ 57) ∧ _ := of_decide_eq_true z
  have ec : nI (tx 4) - 48 = nI (tx 4 - 48) := by rw [L48, nI_subI (by omega)]
  rw [if_neg (by omega), ec]
  refine ⟨w.1, rfl, w.2.2.1, fun _ => w.2.2.2.1 (by omega), fun k hk y => ?_, w.2.2.2.2.2.1, fun y => by omega⟩
  show (si h 123 3 (nI (tx 4 - 48))).1 123 (k + 1) = _
  by_cases q : k = 2
  · subst q
    rw [si_slf]
  · rw [si_oth _ _ _ (by omega)]
    exact w.2.2.2.2.1 k hk (by omega)
theorem m_hd5 (w : MH tx 5 h) (hc : tx 5 ≤ 255) (hp : ∀ j, 1 ≤ j → j < 5 → hkB tx j = true) : YH tx 5 h := by
  have e := m_sta (k := 3) (by omega) w hc hp
  refine m_hd_of (h1 := si (si h 110 36 (nI 5)) 123 4 (nI (tx 5) - 48)) w e ⟨fun a b z => by rw [rsi, if_neg (by omega), rsi, if_neg (by omega)], rfl⟩ (fun z => ?_)
  have z : hkB tx (3 + 2) = true := z
  rw [hk_st (by omega)] at z
  have z : (48 ≤ tx 5 ∧ tx 5 ≤ 57) ∧ _ := of_decide_eq_true z
  have ec : nI (tx 5) - 48 = nI (tx 5 - 48) := by rw [L48, nI_subI (by omega)]
  rw [if_neg (by omega), ec]
  refine ⟨w.1, rfl, w.2.2.1, fun _ => w.2.2.2.1 (by omega), fun k hk y => ?_, w.2.2.2.2.2.1, fun y => by omega⟩
  show (si h 123 4 (nI (tx 5 - 48))).1 123 (k + 1) = _
  by_cases q : k = 3
  · subst q
    rw [si_slf]
  · rw [si_oth _ _ _ (by omega)]
    exact w.2.2.2.2.1 k hk (by omega)
theorem m_hd6 (w : MH tx 6 h) (hc : tx 6 ≤ 255) (hp : ∀ j, 1 ≤ j → j < 6 → hkB tx j = true) : YH tx 6 h := by
  have e := m_sta (k := 4) (by omega) w hc hp
  refine m_hd_of (h1 := si (si h 110 36 (nI 6)) 123 5 (nI (tx 6) - 48)) w e ⟨fun a b z => by rw [rsi, if_neg (by omega), rsi, if_neg (by omega)], rfl⟩ (fun z => ?_)
  have z : hkB tx (4 + 2) = true := z
  rw [hk_st (by omega)] at z
  have z : (48 ≤ tx 6 ∧ tx 6 ≤ 57) ∧ _ := of_decide_eq_true z
  have ec : nI (tx 6) - 48 = nI (tx 6 - 48) := by rw [L48, nI_subI (by omega)]
  rw [if_neg (by omega), ec]
  refine ⟨w.1, rfl, w.2.2.1, fun _ => w.2.2.2.1 (by omega), fun k hk y => ?_, w.2.2.2.2.2.1, fun y => by omega⟩
  show (si h 123 5 (nI (tx 6 - 48))).1 123 (k + 1) = _
  by_cases q : k = 4
  · subst q
    rw [si_slf]
  · rw [si_oth _ _ _ (by omega)]
    exact w.2.2.2.2.1 k hk (by omega)
theorem m_hd7 (w : MH tx 7 h) (hc : tx 7 ≤ 255) : YH tx 7 h := by
  by_cases nd : tx 7 < 48 ∨ 57 < tx 7
  · have n : ¬ hkB tx 7 = true := fun z => by
      rw [hk_hi (by omega)] at z
      have z := of_decide_eq_true z
      omega
    refine m_hd_of (h1 := si h 110 36 (nI 7)) w ?_ ⟨fun a b z => by rw [rsi, if_neg (by omega)], rfl⟩ (fun z => absurd z n)
    unfold f_X5_takeHead
    rw [st_at, w.2.1, if_neg (by decide), if_pos (by decide), in_eq, bd_at, dgm_t _ (by omega), if_pos nd, if_pos rfl, if_neg n]
    rfl
  have ec := dg_ec nd
  have hk : hkB tx 7 = true := by rw [hk_hi (by omega)]; exact decide_eq_true (by omega)
  refine m_hd_of (h1 := si (si h 110 36 (nI 7)) 110 26 (nI (tx 7 - 48))) w ?_ ⟨fun a b z => by rw [rsi, if_neg (by omega), rsi, if_neg (by omega)], rfl⟩ (fun _ => ?_)
  · unfold f_X5_takeHead
    rw [st_at, w.2.1, if_neg (by decide), if_pos (by decide), in_eq, bd_at, dgm_t _ (by omega), if_neg nd, if_neg (by decide)]
    have e26 : ∀ x, (si h 110 36 x).1 110 26 = nI 0 := fun x => w.2.2.2.2.2.1
    rw [if_neg (by decide), st_at, e26, ec, L10, nI_mul, nI_add, if_pos hk]
    have e10 : 10 * 0 + (tx 7 - 48) = tx 7 - 48 := by omega
    rw [e10]
    rfl
  · rw [if_neg (by omega)]
    exact ⟨w.1, rfl, w.2.2.1, fun _ => w.2.2.2.1 (by omega), fun k hk y => w.2.2.2.2.1 k hk (by omega), rfl, fun y => by omega⟩
theorem m_hd8 (w : MH tx 8 h) (hc : tx 8 ≤ 255) : YH tx 8 h := by
  by_cases nd : tx 8 < 48 ∨ 57 < tx 8
  · have n : ¬ hkB tx 8 = true := fun z => by
      rw [hk_hi (by omega)] at z
      have z := of_decide_eq_true z
      omega
    refine m_hd_of (h1 := si h 110 36 (nI 8)) w ?_ ⟨fun a b z => by rw [rsi, if_neg (by omega)], rfl⟩ (fun z => absurd z n)
    unfold f_X5_takeHead
    rw [st_at, w.2.1, if_neg (by decide), if_pos (by decide), in_eq, bd_at, dgm_t _ (by omega), if_pos nd, if_pos rfl, if_neg n]
    rfl
  have ec := dg_ec nd
  have hk : hkB tx 8 = true := by rw [hk_hi (by omega)]; exact decide_eq_true (by omega)
  refine m_hd_of (h1 := si (si h 110 36 (nI 8)) 110 26 (nI ((tx 7 - 48) * 10 + (tx 8 - 48)))) w ?_ ⟨fun a b z => by rw [rsi, if_neg (by omega), rsi, if_neg (by omega)], rfl⟩ (fun _ => ?_)
  · unfold f_X5_takeHead
    rw [st_at, w.2.1, if_neg (by decide), if_pos (by decide), in_eq, bd_at, dgm_t _ (by omega), if_neg nd, if_neg (by decide)]
    have e26 : ∀ x, (si h 110 36 x).1 110 26 = nI (tx 7 - 48) := fun x => w.2.2.2.2.2.1
    rw [if_neg (by decide), st_at, e26, ec, L10, nI_mul, nI_add, if_pos hk, Nat.mul_comm 10]
    rfl
  · rw [if_neg (by omega)]
    exact ⟨w.1, rfl, w.2.2.1, fun _ => w.2.2.2.1 (by omega), fun k hk y => w.2.2.2.2.1 k hk (by omega), rfl, fun y => by omega⟩
theorem m_hd9 (w : MH tx 9 h) (hc : tx 9 ≤ 255) : YH tx 9 h := by
  by_cases nd : tx 9 < 48 ∨ 57 < tx 9
  · have n : ¬ hkB tx 9 = true := fun z => by
      rw [hk_hi (by omega)] at z
      have z := of_decide_eq_true z
      omega
    refine m_hd_of (h1 := si h 110 36 (nI 9)) w ?_ ⟨fun a b z => by rw [rsi, if_neg (by omega)], rfl⟩ (fun z => absurd z n)
    unfold f_X5_takeHead
    rw [st_at, w.2.1, if_neg (by decide), if_pos (by decide), in_eq, bd_at, dgm_t _ (by omega), if_pos nd, if_pos rfl, if_neg n]
    rfl
  have ec := dg_ec nd
  have hk : hkB tx 9 = true := by rw [hk_hi (by omega)]; exact decide_eq_true (by omega)
  refine m_hd_of (h1 := si (si h 110 36 (nI 9)) 110 27 (nI (tx 9 - 48))) w ?_ ⟨fun a b z => by rw [rsi, if_neg (by omega), rsi, if_neg (by omega)], rfl⟩ (fun _ => ?_)
  · unfold f_X5_takeHead
    rw [st_at, w.2.1, if_neg (by decide), if_pos (by decide), in_eq, bd_at, dgm_t _ (by omega), if_neg nd, if_neg (by decide)]
    rw [if_pos (by decide), if_pos (by decide), st_at, ec, if_pos hk]
    rfl
  · rw [if_neg (by omega)]
    exact ⟨w.1, rfl, w.2.2.1, fun _ => w.2.2.2.1 (by omega), fun k hk y => w.2.2.2.2.1 k hk (by omega), w.2.2.2.2.2.1, fun _ => rfl⟩
theorem m_hd10 (w : MH tx 10 h) (hc : tx 10 ≤ 255) : YH tx 10 h := by
  by_cases nd : tx 10 < 48 ∨ 57 < tx 10
  · have n : ¬ hkB tx 10 = true := fun z => by
      rw [hk_hi (by omega)] at z
      have z := of_decide_eq_true z
      omega
    refine m_hd_of (h1 := si h 110 36 (nI 10)) w ?_ ⟨fun a b z => by rw [rsi, if_neg (by omega)], rfl⟩ (fun z => absurd z n)
    unfold f_X5_takeHead
    rw [st_at, w.2.1, if_neg (by decide), if_pos (by decide), in_eq, bd_at, dgm_t _ (by omega), if_pos nd, if_pos rfl, if_neg n]
    rfl
  have ec := dg_ec nd
  have hk : hkB tx 10 = true := by rw [hk_hi (by omega)]; exact decide_eq_true (by omega)
  refine m_hd_of (h1 := si (si (si (si h 110 36 (nI 10)) 110 28 (nI (tx 10 - 48))) 110 36 0) 110 35 0) w ?_ ⟨fun a b z => by rw [rsi, if_neg (by omega), rsi, if_neg (by omega), rsi, if_neg (by omega), rsi, if_neg (by omega)], rfl⟩ (fun _ => ?_)
  · unfold f_X5_takeHead
    rw [st_at, w.2.1, if_neg (by decide), if_pos (by decide), in_eq, bd_at, dgm_t _ (by omega), if_neg nd, if_neg (by decide)]
    rw [if_pos (by decide), if_neg (by decide), st_at, st_at, st_at, ec, if_pos hk]
    rfl
  · rw [if_pos rfl]
    exact ⟨⟨rfl, fun z => absurd rfl z, w.2.2.1.1, fun v hv => absurd hv (Nat.not_lt_zero v), w.2.2.1.2.1, w.2.2.1.2.2.1, w.2.2.1.2.2.2, fun v hv => absurd hv (Nat.not_lt_zero v)⟩, w.2.2.2.1 (by omega), fun k hk => w.2.2.2.2.1 k hk (by omega), w.2.2.2.2.2.1, w.2.2.2.2.2.2 (by omega), rfl⟩
theorem m_hd {i : Nat} (h0 : 1 ≤ i) (hi : i < 11) (w : MH tx i h) (hc : tx i ≤ 255) (hp : ∀ j, 1 ≤ j → j < i → hkB tx j = true) : YH tx i h := by
  have : i = 1 ∨ i = 2 ∨ i = 3 ∨ i = 4 ∨ i = 5 ∨ i = 6 ∨ i = 7 ∨ i = 8 ∨ i = 9 ∨ i = 10 := by omega
  rcases this with rfl | rfl | rfl | rfl | rfl | rfl | rfl | rfl | rfl | rfl
  · exact m_hd1 w hc
  · exact m_hd2 w hc hp
  · exact m_hd3 w hc hp
  · exact m_hd4 w hc hp
  · exact m_hd5 w hc hp
  · exact m_hd6 w hc hp
  · exact m_hd7 w hc
  · exact m_hd8 w hc
  · exact m_hd9 w hc
  · exact m_hd10 w hc
end
