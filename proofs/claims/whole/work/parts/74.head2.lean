-- the head of a text: a letter
section
variable {h : PH} {tx : Nat → Nat}
def XH (tx : Nat → Nat) (i : Nat) (h : PH) : Prop := ∃ h' : PH, f_X2_takes (nI (tx i)) h = some (if hkB tx i then 1 else 0, h') ∧ FrH h h' ∧ (hkB tx i = true → CH tx (i + 1) h')
theorem x_hd_of {i : Nat} (hi : i < 11) (w : CH tx i h) {h1 : PH} (e : f_X2_takesInHead (nI (tx i)) h = some (if hkB tx i then 1 else 0, h1)) (e82 : h1.1 8 2 = nI i) (fr : FrH h h1) (c : hkB tx i = true → CH tx (i + 1) (si h1 8 2 (nI (i + 1)))) : XH tx i h := by
  refine ⟨si h1 8 2 (nI (i + 1)), ?_, FrH_tr fr ⟨fun a b z => by rw [rsi, if_neg (by omega)], rfl⟩, c⟩
  unfold f_X2_takes
  rw [w.1, if_neg (by rw [L11]; exact nI_ge (by omega) (by omega)), e, bd_at, st_at, e82, nI_1]
  by_cases q : hkB tx i = true
  · rw [if_pos q, bz_1]
  · rw [if_neg q, bz_0]
theorem x_hd0 (w : CH tx 0 h) (hc : tx 0 ≤ 255) : XH tx 0 h := by
  refine x_hd_of (h1 := h) (by omega) w ?_ w.1 ⟨fun _ _ _ => rfl, rfl⟩ (fun _ => ⟨rfl, w.2.1, fun z => by omega, fun k hk z => by omega, fun z => by omega, fun z => by omega, fun z => by omega⟩)
  unfold f_X2_takesInHead
  rw [w.1, if_pos (c := nI 0 = 0) rfl]
  show (if nI (tx 0) = 66 then _ else _) = some (if decide (tx 0 = 66) = true then 1 else 0, h)
  by_cases q : tx 0 = 66
  · rw [if_pos (by rw [q]; rfl), if_pos (decide_eq_true q)]
  · rw [if_neg (fun z => q ((nI_eq (by omega) (by omega)).mp (z.trans L66))), if_neg (fun z => q (of_decide_eq_true z))]
theorem dg_ec {c : Nat} (h1 : ¬ (c < 48 ∨ 57 < c)) : nI c - 48 = nI (c - 48) := by rw [L48, nI_subI (by omega)]
theorem x_hdn {i : Nat} (hi : i < 11) (h0 : 1 ≤ i) (w : CH tx i h) (hc : tx i ≤ 255) (nd : tx i < 48 ∨ 57 < tx i) : XH tx i h := by
  have n : ¬ hkB tx i = true := by
    intro z
    by_cases q1 : i = 1
    · subst q1
      have z := of_decide_eq_true z
      omega
    · by_cases q2 : i ≤ 6
      · have e : i = (i - 2) + 2 := by omega
        rw [e, hk_st (by omega), ← e] at z
        have z := of_decide_eq_true z
        omega
      · rw [hk_hi (by omega)] at z
        have z := of_decide_eq_true z
        omega
  refine x_hd_of (h1 := h) hi w ?_ w.1 ⟨fun _ _ _ => rfl, rfl⟩ (fun z => absurd z n)
  unfold f_X2_takesInHead
  rw [w.1, if_neg (nI_nz (by omega) (by omega)), isDigit2_eq hc, bd_at, if_pos nd, if_pos rfl, if_neg n]

theorem x_hd1 (w : CH tx 1 h) (hc : tx 1 ≤ 255) (hp : ∀ j, j < 1 → hkB tx j = true) : XH tx 1 h := by
  by_cases nd : tx 1 < 48 ∨ 57 < tx 1
  · exact x_hdn (by omega) (by omega) w hc nd
  have ec := dg_ec nd
  refine x_hd_of (h1 := si h 9 0 (nI (tx 1 - 48))) (by omega) w ?_ w.1 ⟨fun a b z => by rw [rsi, if_neg (by omega)], rfl⟩ (fun _ => ⟨rfl, w.2.1, fun _ => rfl, fun k hk z => by omega, fun z => by omega, fun z => by omega, fun z => by omega⟩)
  unfold f_X2_takesInHead
  rw [w.1, if_neg (by decide), isDigit2_eq hc, bd_at, if_neg nd, if_neg (by decide), w.1, if_pos (c := nI 1 = 1) rfl, st_at, ec]
  show _ = some (if decide (54 ≤ tx 1 ∧ tx 1 ≤ 57) = true then 1 else 0, _)
  by_cases q : 54 ≤ tx 1 ∧ tx 1 ≤ 57
  · rw [if_neg (by rw [L6]; exact nI_nlt (by omega) (by omega)), if_pos (decide_eq_true q)]
  · rw [if_pos (by rw [L6]; exact nI_lt (by omega) (by omega)), if_neg (fun z => q (of_decide_eq_true z))]
theorem x_hd2 (w : CH tx 2 h) (hc : tx 2 ≤ 255) (hp : ∀ j, j < 2 → hkB tx j = true) : XH tx 2 h := by
  by_cases nd : tx 2 < 48 ∨ 57 < tx 2
  · exact x_hdn (by omega) (by omega) w hc nd
  have ec := dg_ec nd
  obtain ⟨b, e, eb⟩ := x_sta (k := 0) (by omega) w hp (show 48 ≤ tx 2 ∧ tx 2 ≤ 57 by omega)
  refine x_hd_of (h1 := si h 10 0 (nI (tx 2 - 48))) (by omega) w ?_ w.1 ⟨fun a b z => by rw [rsi, if_neg (by omega)], rfl⟩ (fun _ => ⟨rfl, w.2.1, fun _ => w.2.2.1 (by omega), fun k hk z => ?_, fun z => by omega, fun z => by omega, fun z => by omega⟩)
  · unfold f_X2_takesInHead
    have e2 : nI 2 - 2 = nI 0 := rfl
    rw [w.1, if_neg (by decide), isDigit2_eq hc, bd_at, if_neg nd, if_neg (by decide), w.1, if_neg (by decide), if_pos (c := nI 2 = 2) rfl, ec, e2, e, bd_at, eb]
    by_cases q : hkB tx 2 = true
    · rw [if_pos q, bz_1]
    · rw [if_neg q, bz_0]
  · show (si h 10 0 (nI (tx 2 - 48))).1 10 k = _
    by_cases q : k = 0
    · subst q
      rw [si_slf]
    · rw [si_oth _ _ _ q]
      exact w.2.2.2.1 k hk (by omega)
theorem x_hd3 (w : CH tx 3 h) (hc : tx 3 ≤ 255) (hp : ∀ j, j < 3 → hkB tx j = true) : XH tx 3 h := by
  by_cases nd : tx 3 < 48 ∨ 57 < tx 3
  · exact x_hdn (by omega) (by omega) w hc nd
  have ec := dg_ec nd
  obtain ⟨b, e, eb⟩ := x_sta (k := 1) (by omega) w hp (show 48 ≤ tx 3 ∧ tx 3 ≤ 57 by omega)
  refine x_hd_of (h1 := si h 10 1 (nI (tx 3 - 48))) (by omega) w ?_ w.1 ⟨fun a b z => by rw [rsi, if_neg (by omega)], rfl⟩ (fun _ => ⟨rfl, w.2.1, fun _ => w.2.2.1 (by omega), fun k hk z => ?_, fun z => by omega, fun z => by omega, fun z => by omega⟩)
  · unfold f_X2_takesInHead
    have e2 : nI 3 - 2 = nI 1 := rfl
    rw [w.1, if_neg (by decide), isDigit2_eq hc, bd_at, if_neg nd, if_neg (by decide), w.1, if_neg (by decide), if_neg (by decide), if_pos (c := nI 3 = 3) rfl, ec, e2, e, bd_at, eb]
    by_cases q : hkB tx 3 = true
    · rw [if_pos q, bz_1]
    · rw [if_neg q, bz_0]
  · show (si h 10 1 (nI (tx 3 - 48))).1 10 k = _
    by_cases q : k = 1
    · subst q
      rw [si_slf]
    · rw [si_oth _ _ _ q]
      exact w.2.2.2.1 k hk (by omega)
theorem x_hd4 (w : CH tx 4 h) (hc : tx 4 ≤ 255) (hp : ∀ j, j < 4 → hkB tx j = true) : XH tx 4 h := by
  by_cases nd : tx 4 < 48 ∨ 57 < tx 4
  · exact x_hdn (by omega) (by omega) w hc nd
  have ec := dg_ec nd
  obtain ⟨b, e, eb⟩ := x_sta (k := 2) (by omega) w hp (show 48 ≤ tx 4 ∧ tx 4 ≤ 57 by omega)
  refine x_hd_of (h1 := si h 10 2 (nI (tx 4 - 48))) (by omega) w ?_ w.1 ⟨fun a b z => by rw [rsi, if_neg (by omega)], rfl⟩ (fun _ => ⟨rfl, w.2.1, fun _ => w.2.2.1 (by omega), fun k hk z => ?_, fun z => by omega, fun z => by omega, fun z => by omega⟩)
  · unfold f_X2_takesInHead
    have e2 : nI 4 - 2 = nI 2 := rfl
    rw [w.1, if_neg (by decide), isDigit2_eq hc, bd_at, if_neg nd, if_neg (by decide), w.1, if_neg (by decide), if_neg (by decide), if_neg (by decide), if_pos (c := nI 4 = 4) rfl, ec, e2, e, bd_at, eb]
    by_cases q : hkB tx 4 = true
    · rw [if_pos q, bz_1]
    · rw [if_neg q, bz_0]
  · show (si h 10 2 (nI (tx 4 - 48))).1 10 k = _
    by_cases q : k = 2
    · subst q
      rw [si_slf]
    · rw [si_oth _ _ _ q]
      exact w.2.2.2.1 k hk (by omega)
theorem x_hd5 (w : CH tx 5 h) (hc : tx 5 ≤ 255) (hp : ∀ j, j < 5 → hkB tx j = true) : XH tx 5 h := by
  by_cases nd : tx 5 < 48 ∨ 57 < tx 5
  · exact x_hdn (by omega) (by omega) w hc nd
  have ec := dg_ec nd
  obtain ⟨b, e, eb⟩ := x_sta (k := 3) (by omega) w hp (show 48 ≤ tx 5 ∧ tx 5 ≤ 57 by omega)
  refine x_hd_of (h1 := si h 10 3 (nI (tx 5 - 48))) (by omega) w ?_ w.1 ⟨fun a b z => by rw [rsi, if_neg (by omega)], rfl⟩ (fun _ => ⟨rfl, w.2.1, fun _ => w.2.2.1 (by omega), fun k hk z => ?_, fun z => by omega, fun z => by omega, fun z => by omega⟩)
  · unfold f_X2_takesInHead
    have e2 : nI 5 - 2 = nI 3 := rfl
    rw [w.1, if_neg (by decide), isDigit2_eq hc, bd_at, if_neg nd, if_neg (by decide), w.1, if_neg (by decide), if_neg (by decide), if_neg (by decide), if_neg (by decide), if_pos (c := nI 5 = 5) rfl, ec, e2, e, bd_at, eb]
    by_cases q : hkB tx 5 = true
    · rw [if_pos q, bz_1]
    · rw [if_neg q, bz_0]
  · show (si h 10 3 (nI (tx 5 - 48))).1 10 k = _
    by_cases q : k = 3
    · subst q
      rw [si_slf]
    · rw [si_oth _ _ _ q]
      exact w.2.2.2.1 k hk (by omega)
theorem x_hd6 (w : CH tx 6 h) (hc : tx 6 ≤ 255) (hp : ∀ j, j < 6 → hkB tx j = true) : XH tx 6 h := by
  by_cases nd : tx 6 < 48 ∨ 57 < tx 6
  · exact x_hdn (by omega) (by omega) w hc nd
  have ec := dg_ec nd
  obtain ⟨b, e, eb⟩ := x_sta (k := 4) (by omega) w hp (show 48 ≤ tx 6 ∧ tx 6 ≤ 57 by omega)
  refine x_hd_of (h1 := si h 10 4 (nI (tx 6 - 48))) (by omega) w ?_ w.1 ⟨fun a b z => by rw [rsi, if_neg (by omega)], rfl⟩ (fun _ => ⟨rfl, w.2.1, fun _ => w.2.2.1 (by omega), fun k hk z => ?_, fun z => by omega, fun z => by omega, fun z => by omega⟩)
  · unfold f_X2_takesInHead
    have e2 : nI 6 - 2 = nI 4 := rfl
    rw [w.1, if_neg (by decide), isDigit2_eq hc, bd_at, if_neg nd, if_neg (by decide), w.1, if_neg (by decide), if_neg (by decide), if_neg (by decide), if_neg (by decide), if_neg (by decide), if_pos (c := nI 6 = 6) rfl, ec, e2, e, bd_at, eb]
    by_cases q : hkB tx 6 = true
    · rw [if_pos q, bz_1]
    · rw [if_neg q, bz_0]
  · show (si h 10 4 (nI (tx 6 - 48))).1 10 k = _
    by_cases q : k = 4
    · subst q
      rw [si_slf]
    · rw [si_oth _ _ _ q]
      exact w.2.2.2.1 k hk (by omega)
theorem x_hd7 (w : CH tx 7 h) (hc : tx 7 ≤ 255) (hp : ∀ j, j < 7 → hkB tx j = true) : XH tx 7 h := by
  by_cases nd : tx 7 < 48 ∨ 57 < tx 7
  · exact x_hdn (by omega) (by omega) w hc nd
  have ec := dg_ec nd
  have hk : hkB tx 7 = true := by rw [hk_hi (by omega)]; exact decide_eq_true (by omega)
  refine x_hd_of (h1 := si h 9 2 (nI ((tx 7 - 48) * 10))) (by omega) w ?_ w.1 ⟨fun a b z => by rw [rsi, if_neg (by omega)], rfl⟩ (fun _ => ⟨rfl, w.2.1, fun _ => w.2.2.1 (by omega), fun k hk z => w.2.2.2.1 k hk (by omega), fun _ => rfl, fun z => by omega, fun z => by omega⟩)
  unfold f_X2_takesInHead
  rw [w.1, if_neg (by decide), isDigit2_eq hc, bd_at, if_neg nd, if_neg (by decide), w.1, if_neg (by decide), if_neg (by decide), if_neg (by decide), if_neg (by decide), if_neg (by decide), if_neg (by decide), if_pos (c := nI 7 = 7) rfl, st_at, ec, L10, nI_mul, if_pos hk]
theorem x_hd8 (w : CH tx 8 h) (hc : tx 8 ≤ 255) (hp : ∀ j, j < 8 → hkB tx j = true) : XH tx 8 h := by
  by_cases nd : tx 8 < 48 ∨ 57 < tx 8
  · exact x_hdn (by omega) (by omega) w hc nd
  have ec := dg_ec nd
  have hk : hkB tx 8 = true := by rw [hk_hi (by omega)]; exact decide_eq_true (by omega)
  refine x_hd_of (h1 := si h 9 2 (nI ((tx 7 - 48) * 10 + (tx 8 - 48)))) (by omega) w ?_ w.1 ⟨fun a b z => by rw [rsi, if_neg (by omega)], rfl⟩ (fun _ => ⟨rfl, w.2.1, fun _ => w.2.2.1 (by omega), fun k hk z => w.2.2.2.1 k hk (by omega), fun _ => rfl, fun z => by omega, fun z => by omega⟩)
  unfold f_X2_takesInHead
  rw [w.1, if_neg (by decide), isDigit2_eq hc, bd_at, if_neg nd, if_neg (by decide), w.1, if_neg (by decide), if_neg (by decide), if_neg (by decide), if_neg (by decide), if_neg (by decide), if_neg (by decide), if_neg (by decide), if_pos (c := nI 8 = 8) rfl, st_at, ec, w.2.2.2.2.1 (by omega), if_pos rfl, nI_add, if_pos hk]
theorem x_hd9 (w : CH tx 9 h) (hc : tx 9 ≤ 255) (hp : ∀ j, j < 9 → hkB tx j = true) : XH tx 9 h := by
  by_cases nd : tx 9 < 48 ∨ 57 < tx 9
  · exact x_hdn (by omega) (by omega) w hc nd
  have ec := dg_ec nd
  have hk : hkB tx 9 = true := by rw [hk_hi (by omega)]; exact decide_eq_true (by omega)
  refine x_hd_of (h1 := si h 9 3 (nI (tx 9 - 48))) (by omega) w ?_ w.1 ⟨fun a b z => by rw [rsi, if_neg (by omega)], rfl⟩ (fun _ => ⟨rfl, w.2.1, fun _ => w.2.2.1 (by omega), fun k hk z => w.2.2.2.1 k hk (by omega), fun _ => w.2.2.2.2.1 (by omega), fun _ => rfl, fun z => by omega⟩)
  unfold f_X2_takesInHead
  rw [w.1, if_neg (by decide), isDigit2_eq hc, bd_at, if_neg nd, if_neg (by decide), w.1, if_neg (by decide), if_neg (by decide), if_neg (by decide), if_neg (by decide), if_neg (by decide), if_neg (by decide), if_neg (by decide), if_neg (by decide), if_pos (c := nI 9 = 9) rfl, st_at, ec, if_pos hk]
theorem x_hd10 (w : CH tx 10 h) (hc : tx 10 ≤ 255) (hp : ∀ j, j < 10 → hkB tx j = true) : XH tx 10 h := by
  by_cases nd : tx 10 < 48 ∨ 57 < tx 10
  · exact x_hdn (by omega) (by omega) w hc nd
  have ec := dg_ec nd
  have hk : hkB tx 10 = true := by rw [hk_hi (by omega)]; exact decide_eq_true (by omega)
  refine x_hd_of (h1 := si h 9 4 (nI (tx 10 - 48))) (by omega) w ?_ w.1 ⟨fun a b z => by rw [rsi, if_neg (by omega)], rfl⟩ (fun _ => ⟨rfl, w.2.1, fun _ => w.2.2.1 (by omega), fun k hk z => w.2.2.2.1 k hk (by omega), fun _ => w.2.2.2.2.1 (by omega), fun _ => w.2.2.2.2.2.1 (by omega), fun _ => rfl⟩)
  unfold f_X2_takesInHead
  rw [w.1, if_neg (by decide), isDigit2_eq hc, bd_at, if_neg nd, if_neg (by decide), w.1, if_neg (by decide), if_neg (by decide), if_neg (by decide), if_neg (by decide), if_neg (by decide), if_neg (by decide), if_neg (by decide), if_neg (by decide), if_neg (by decide), if_pos (c := nI 10 = 10) rfl, st_at, ec, if_pos hk]
theorem x_hd {i : Nat} (hi : i < 11) (w : CH tx i h) (hc : tx i ≤ 255) (hp : ∀ j, j < i → hkB tx j = true) : XH tx i h := by
  have : i = 0 ∨ i = 1 ∨ i = 2 ∨ i = 3 ∨ i = 4 ∨ i = 5 ∨ i = 6 ∨ i = 7 ∨ i = 8 ∨ i = 9 ∨ i = 10 := by omega
  rcases this with rfl | rfl | rfl | rfl | rfl | rfl | rfl | rfl | rfl | rfl | rfl
  · exact x_hd0 w hc
  · exact x_hd1 w hc hp
  · exact x_hd2 w hc hp
  · exact x_hd3 w hc hp
  · exact x_hd4 w hc hp
  · exact x_hd5 w hc hp
  · exact x_hd6 w hc hp
  · exact x_hd7 w hc hp
  · exact x_hd8 w hc hp
  · exact x_hd9 w hc hp
  · exact x_hd10 w hc hp
end
