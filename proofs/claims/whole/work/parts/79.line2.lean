-- a new line: both sides, and what holds behind
theorem l46_s (n : Nat) (v : Int32) (h : PH) : f_X4_line_b46 (n + 1) v h = if (2 : Int32) ≤ v then some ((h.1 12 5), h) else wr h 4 v (0 : Int32) (fun h9 => (f_X4_line_b46 n) (v + 1) h9) := rfl
theorem x_l46 (n : Nat) (h : PH) : f_X4_line_b46 (n + 1 + 1 + 1) 0 h = some (h.1 12 5, si (si h 4 0 0) 4 1 0) := by
  have e1 : (0 : Int32) + 1 = 1 := by decide
  have e2 : (1 : Int32) + 1 = 2 := by decide
  rw [l46_s, if_neg (by decide), wr_at 0 L0 (by decide) (by decide), e1, l46_s, if_neg (by decide), wr_at 1 L1 (by decide) (by decide), e2, l46_s, if_pos (by decide), si_ne _ _ _ _ (by decide), si_ne _ _ _ _ (by decide)]
/-- what the class's line leaves -/
def XL (s : BS) (h h' : PH) : Prop := (∀ a b, ¬ ((12 ≤ a ∧ a ≤ 14) ∨ (20 ≤ a ∧ a ≤ 24) ∨ (a = 0 ∧ b = 7) ∨ a = 4) → h'.1 a b = h.1 a b) ∧ h'.2 = h.2 ∧
  (h'.1 12 0 = h.1 9 0 ∧ (∀ k, k < 5 → h'.1 13 k = h.1 10 k) ∧ h'.1 12 2 = h.1 9 2 ∧ h'.1 12 3 = h.1 9 3 ∧ h'.1 12 4 = h.1 9 4 ∧ h'.1 12 5 = h.1 9 5 ∧ ∀ v, v < 4 → h'.1 14 v = h.1 11 v) ∧
  ((∀ c, c < 9 → h'.1 21 c = 0) ∧ (∀ c, c < 9 → h'.1 22 c = 0) ∧ (∀ v, v < s.V → h'.1 23 v = nI (s.se v)) ∧ (∀ i, i < s.m → h'.1 24 i = nI (s.en i)) ∧ h'.1 20 4 = 0 ∧ h'.1 20 6 = nI s.m ∧ h'.1 20 7 = nI s.ca ∧ h'.1 20 8 = nI s.la ∧ ∀ i, 9 ≤ i → i ≤ 17 → h'.1 20 i = 0) ∧
  h'.1 0 7 = 0 ∧ h'.1 4 0 = 0 ∧ h'.1 4 1 = 0
theorem x_line {h : PH} {s : BS} (w : HC h s) (ws : WS s) (q : IRd h) : ∃ h', (bd (f_X1_copyFrom 12 9 h) (fun _ h4 => bd (f_X3_copyFrom 20 15 h4) (fun _ h6 => bd (f_X4_forgetActs h6) (fun _ h8 => f_X4_line_b46 200 (0 : Int32) h8)))) = some (nI s.V, h') ∧ XL s h h' := by
  obtain ⟨-, -, -, wV, wse, wca, wla, wm, wen⟩ := w
  obtain ⟨i1, i2, i3, i4⟩ := q
  obtain ⟨hA, A1, A2, A3, A4, A5, A6, A7, A8, A9, A10⟩ := x_pcopy h
  have x1 := x_copy (h := hA) (o := 20) (q := 15) kd_20 kd_15 (by omega) (by rw [A2 _ _ (by omega)]; exact Or.inl (i4 10 (by omega) (by omega))) (by rw [A2 _ _ (by omega)]; exact Or.inl (i4 11 (by omega) (by omega)))
  generalize hB : put hA 20 (cpS (vw hA 20) (vw hA 15)) = h2 at x1
  have o2 : ∀ a b, ¬ (20 ≤ a ∧ a ≤ 24) → h2.1 a b = hA.1 a b := by
    intro a b z
    rw [← hB, put_out _ _ _ (by omega)]
  have hV := ws.V
  have hm := ws.m
  have f0 : ∀ i, 6 ≤ i → i ≤ 17 → h2.1 20 i = h.1 15 i := by
    intro i z1 z2
    rw [← hB, put_0, cpS_0 _ _ z1 z2]
    exact A2 15 i (by omega)
  have f4 : h2.1 20 4 = h.1 15 4 := by
    rw [← hB, put_0, cpS_04]
    exact A2 15 4 (by omega)
  have f1 : ∀ c, c < 9 → h2.1 21 c = h.1 16 c := by
    intro c hc
    rw [← hB, put_1, cpS_1 _ _ hc]
    exact A2 16 c (by omega)
  have f2 : ∀ c, c < 9 → h2.1 22 c = h.1 17 c := by
    intro c hc
    rw [← hB, put_2, cpS_2 _ _ hc]
    exact A2 17 c (by omega)
  have f3 : ∀ v, v < 4 → h2.1 23 v = h.1 18 v := by
    intro c hc
    rw [← hB, put_3, cpS_3 _ _ hc]
    exact A2 18 c (by omega)
  have f5 : ∀ i, i < 24 → h2.1 24 i = h.1 19 i := by
    intro c hc
    rw [← hB, put_4, cpS_4 _ _ hc]
    exact A2 19 c (by omega)
  have h2e : h2.2 = h.2 := by
    rw [← hB]
    exact A3
  clear hB
  have e3 : f_X4_forgetActs h2 = some ((), si h2 0 7 0) := rfl
  have e4 := x_l46 197 (si h2 0 7 0)
  generalize hD : si (si (si h2 0 7 0) 4 0 0) 4 1 0 = h' at e4
  have o3 : ∀ a b, ¬ ((a = 0 ∧ b = 7) ∨ a = 4) → h'.1 a b = h2.1 a b := by
    intro a b z
    rw [← hD, rsi, if_neg (by omega), rsi, if_neg (by omega), rsi, if_neg (by omega)]
  have g1 : h'.1 0 7 = 0 := by rw [← hD]; rfl
  have g2 : h'.1 4 0 = 0 := by rw [← hD]; rfl
  have g3 : h'.1 4 1 = 0 := by rw [← hD]; rfl
  have g4 : h'.2 = h.2 := by rw [← hD]; exact h2e
  clear hD
  refine ⟨h', ?_, fun a b z => ?_, g4, ⟨?_, fun k hk => ?_, ?_, ?_, ?_, ?_, fun v hv => ?_⟩, ⟨fun c hc => ?_, fun c hc => ?_, fun v hv => ?_, fun i hi => ?_, ?_, ?_, ?_, ?_, fun i z1 z2 => ?_⟩, g1, g2, g3⟩
  · rw [A1, bd_at, x1, bd_at, e3, bd_at]
    refine e4.trans ?_
    rw [rsi, if_neg (by omega), o2 _ _ (by omega), A9, wV]
  · rw [o3 _ _ (by omega), o2 _ _ (by omega), A2 _ _ (by omega)]
  · rw [o3 _ _ (by omega), o2 _ _ (by omega), A4]
  · rw [o3 _ _ (by omega), o2 _ _ (by omega), A5 k hk]
  · rw [o3 _ _ (by omega), o2 _ _ (by omega), A6]
  · rw [o3 _ _ (by omega), o2 _ _ (by omega), A7]
  · rw [o3 _ _ (by omega), o2 _ _ (by omega), A8]
  · rw [o3 _ _ (by omega), o2 _ _ (by omega), A9]
  · rw [o3 _ _ (by omega), o2 _ _ (by omega), A10 v hv]
  · rw [o3 _ _ (by omega), f1 c hc, i1 c hc]
  · rw [o3 _ _ (by omega), f2 c hc, i2 c hc]
  · rw [o3 _ _ (by omega), f3 v (by omega), (wse v hv).1]
  · rw [o3 _ _ (by omega), f5 i (by omega), wen i hi]
  · rw [o3 _ _ (by omega), f4, i3]
  · rw [o3 _ _ (by omega), f0 6 (by omega) (by omega), wm]
  · rw [o3 _ _ (by omega), f0 7 (by omega) (by omega), wca]
  · rw [o3 _ _ (by omega), f0 8 (by omega) (by omega), wla]
  · rw [o3 _ _ (by omega), f0 i (by omega) z2, i4 i z1 z2]
/-- what the reference's line leaves -/
def ML (s : BS) (h h' : PH) : Prop := (∀ a b, ¬ (a = 112 ∨ a = 113 ∨ a = 114 ∨ a = 118 ∨ (a = 110 ∧ (b = 2 ∨ (4 ≤ b ∧ b ≤ 7) ∨ b = 12))) → h'.1 a b = h.1 a b) ∧ h'.2 = h.2 ∧
  (h'.1 110 2 = h.1 123 0 ∧ (∀ k, k < 5 → h'.1 112 k = h.1 123 (k + 1)) ∧ h'.1 110 4 = h.1 110 26 ∧ h'.1 110 5 = h.1 110 27 ∧ h'.1 110 6 = h.1 110 28 ∧ h'.1 110 7 = nI s.V ∧ ∀ v, v < s.V → h'.1 113 v = s.dr v) ∧
  ((∀ b, b < 63 → h'.1 114 b = z14 b) ∧ (∀ v, v < s.V → h'.1 114 (63 + v) = nI (s.se v)) ∧ h'.1 114 67 = nI s.ca ∧ h'.1 114 68 = nI s.la ∧ (∀ b, 69 ≤ b → b ≤ 77 → h'.1 114 b = 0) ∧ h'.1 114 78 = nI s.m ∧ ∀ i, i < s.m → h'.1 114 (79 + i) = nI (s.en i)) ∧
  h'.1 110 12 = 0 ∧ h'.1 118 0 = 0 ∧ h'.1 118 1 = 0
theorem m_line {h : PH} {s : BS} (w : HM h s) (ws : WS s) : ∃ h', f_X5_line_b14 200 (0 : Int32) h = some (nI s.V, h') ∧ ML s h h' := by
  have hV := ws.V
  have hm := ws.m
  obtain ⟨a1, A1, A2, A3, A4⟩ := m_l14 200 0 h (by omega) (by omega) (fun b hb => by omega)
  generalize hb : si a1 110 2 (a1.1 123 0) = b1
  have B2 : ∀ a b, ¬ (a = 110 ∧ b = 2) → b1.1 a b = a1.1 a b := fun a b z => by rw [← hb, rsi, if_neg z]
  have B3 : b1.1 110 2 = a1.1 123 0 := by rw [← hb]; rfl
  have B4 : b1.2 = a1.2 := by rw [← hb]; rfl
  obtain ⟨c1, C1, C2, C3, C4⟩ := m_l62 200 0 b1 (by omega) (by omega) (fun b hb => by omega)
  generalize hd1 : si c1 110 4 (c1.1 110 26) = d1
  generalize hd2 : si d1 110 5 (d1.1 110 27) = d2
  generalize hd3 : si d2 110 6 (d2.1 110 28) = d3
  generalize hd4 : si d3 110 7 (d3.1 110 29) = d4
  have D2 : ∀ a b, ¬ (a = 110 ∧ 4 ≤ b ∧ b ≤ 7) → d4.1 a b = c1.1 a b := fun a b z => by rw [← hd4, rsi, if_neg (by omega), ← hd3, rsi, if_neg (by omega), ← hd2, rsi, if_neg (by omega), ← hd1, rsi, if_neg (by omega)]
  have D4 : d4.1 110 4 = c1.1 110 26 := by rw [← hd4, rsi, if_neg (by omega), ← hd3, rsi, if_neg (by omega), ← hd2, rsi, if_neg (by omega), ← hd1, rsi, if_pos (by omega)]
  have D5 : d4.1 110 5 = c1.1 110 27 := by rw [← hd4, rsi, if_neg (by omega), ← hd3, rsi, if_neg (by omega), ← hd2, rsi, if_pos (by omega), ← hd1, rsi, if_neg (by omega)]
  have D6 : d4.1 110 6 = c1.1 110 28 := by rw [← hd4, rsi, if_neg (by omega), ← hd3, rsi, if_pos (by omega), ← hd2, rsi, if_neg (by omega), ← hd1, rsi, if_neg (by omega)]
  have D7 : d4.1 110 7 = c1.1 110 29 := by rw [← hd4, rsi, if_pos (by omega), ← hd3, rsi, if_neg (by omega), ← hd2, rsi, if_neg (by omega), ← hd1, rsi, if_neg (by omega)]
  have D8 : d4.2 = c1.2 := by rw [← hd4, ← hd3, ← hd2, ← hd1]; rfl
  have t1 : ∀ a b, ¬ (a = 112 ∨ a = 114 ∨ (a = 110 ∧ (b = 2 ∨ (4 ≤ b ∧ b ≤ 7)))) → d4.1 a b = h.1 a b := fun a b z => by rw [D2 _ _ (by omega), C3 _ _ (by omega), B2 _ _ (by omega), A3 _ _ (by omega)]
  have e7 : d4.1 110 7 = nI s.V := by rw [D7, C3 _ _ (by omega), B2 _ _ (by omega), A3 _ _ (by omega), w.V]
  obtain ⟨e1, E1, E2, E3, E4⟩ := m_l121 (V := s.V) hV 200 0 d4 (by omega) (by omega) e7 (fun b hb => by omega)
  generalize hf1 : si e1 114 67 (e1.1 126 0) = f1
  generalize hf2 : si f1 114 68 (f1.1 126 1) = f2
  generalize hf3 : si f2 114 78 (f2.1 110 33) = f3
  have F2 : ∀ a b, ¬ (a = 114 ∧ (b = 67 ∨ b = 68 ∨ b = 78)) → f3.1 a b = e1.1 a b := fun a b z => by rw [← hf3, rsi, if_neg (by omega), ← hf2, rsi, if_neg (by omega), ← hf1, rsi, if_neg (by omega)]
  have F3 : f3.1 114 67 = e1.1 126 0 := by rw [← hf3, rsi, if_neg (by omega), ← hf2, rsi, if_neg (by omega), ← hf1, rsi, if_pos (by omega)]
  have F4 : f3.1 114 68 = e1.1 126 1 := by rw [← hf3, rsi, if_neg (by omega), ← hf2, rsi, if_pos (by omega), ← hf1, rsi, if_neg (by omega)]
  have F5 : f3.1 114 78 = e1.1 110 33 := by rw [← hf3, rsi, if_pos (by omega), ← hf2, rsi, if_neg (by omega), ← hf1, rsi, if_neg (by omega)]
  have F6 : f3.2 = e1.2 := by rw [← hf3, ← hf2, ← hf1]; rfl
  have t2 : ∀ a b, ¬ (a = 112 ∨ a = 113 ∨ a = 114 ∨ (a = 110 ∧ (b = 2 ∨ (4 ≤ b ∧ b ≤ 7)))) → f3.1 a b = h.1 a b := fun a b z => by rw [F2 _ _ (by omega), E3 _ _ (by omega), t1 _ _ (by omega)]
  have e33 : f3.1 110 33 = nI s.m := by rw [t2 _ _ (by omega), w.m]
  obtain ⟨g1, G1, G2, G3, G4⟩ := m_l201 (m := s.m) hm 200 0 f3 (by omega) (by omega) e33 (fun b hb => by omega)
  generalize hh : si (si (si g1 110 12 0) 118 0 0) 118 1 0 = h' at G1
  have K1 : ∀ a b, ¬ (a = 118 ∨ (a = 110 ∧ b = 12)) → h'.1 a b = g1.1 a b := fun a b z => by rw [← hh, rsi, if_neg (by omega), rsi, if_neg (by omega), rsi, if_neg (by omega)]
  have K2 : h'.1 110 12 = 0 := by rw [← hh]; rfl
  have K3 : h'.1 118 0 = 0 := by rw [← hh]; rfl
  have K4 : h'.1 118 1 = 0 := by rw [← hh]; rfl
  have K5 : h'.2 = g1.2 := by rw [← hh]; rfl
  have run : f_X5_line_b14 200 (0 : Int32) h = some (g1.1 110 7, h') := by
    refine A1.trans ?_
    rw [rd_at 0 L0 (by decide) (by decide), st_at, hb]
    refine C1.trans ?_
    rw [st_at, hd1, st_at, hd2, st_at, hd3, st_at, hd4]
    refine E1.trans ?_
    rw [rd_at 0 L0 (by decide) (by decide), wr_at 67 L67 (by decide) (by decide), hf1, rd_at 1 L1 (by decide) (by decide), wr_at 68 L68 (by decide) (by decide), hf2, wr_at 78 L78 (by decide) (by decide), hf3]
    exact G1
  clear hb hd1 hd2 hd3 hd4 hf1 hf2 hf3 hh A1 C1 E1 G1
  have n : ∀ b, ¬ ((63 ≤ b ∧ b < 69) ∨ 78 ≤ b) → h'.1 114 b = z14 b := fun b z => by
    rw [K1 _ _ (by omega), G3 _ _ (by omega), F2 _ _ (by omega), E3 _ _ (by omega), D2 _ _ (by omega), C3 _ _ (by omega), B2 _ _ (by omega), A2 _ (by omega)]
  have k : ∀ a b, ¬ (a = 118 ∨ a = 114 ∨ (a = 110 ∧ b = 12)) → h'.1 a b = e1.1 a b := fun a b z => by
    rw [K1 _ _ (by omega), G3 _ _ (by omega), F2 _ _ (by omega)]
  have eV : g1.1 110 7 = nI s.V := by rw [G3 _ _ (by omega), F2 _ _ (by omega), E3 _ _ (by omega), e7]
  refine ⟨h', by rw [run, eV], fun a b z => ?_, ?_, ⟨?_, fun i hi => ?_, ?_, ?_, ?_, ?_, fun v hv => ?_⟩, ⟨fun b hb => n b (by omega), fun v hv => ?_, ?_, ?_, fun b z1 z2 => ?_, ?_, fun i hi => ?_⟩, K2, K3, K4⟩
  · rw [K1 _ _ (by omega), G3 _ _ (by omega), t2 _ _ (by omega)]
  · rw [K5, G4, F6, E4, D8, C4, B4, A4]
  · rw [k _ _ (by omega), E3 _ _ (by omega), D2 _ _ (by omega), C3 _ _ (by omega), B3, A3 _ _ (by omega)]
  · rw [k _ _ (by omega), E3 _ _ (by omega), D2 _ _ (by omega), C2 i hi, B2 _ _ (by omega), A3 _ _ (by omega)]
  · rw [k _ _ (by omega), E3 _ _ (by omega), D4, C3 _ _ (by omega), B2 _ _ (by omega), A3 _ _ (by omega)]
  · rw [k _ _ (by omega), E3 _ _ (by omega), D5, C3 _ _ (by omega), B2 _ _ (by omega), A3 _ _ (by omega)]
  · rw [k _ _ (by omega), E3 _ _ (by omega), D6, C3 _ _ (by omega), B2 _ _ (by omega), A3 _ _ (by omega)]
  · rw [k _ _ (by omega), E3 _ _ (by omega), e7]
  · rw [k _ _ (by omega), (E2 v hv).2, t1 _ _ (by omega), (w.se v hv).2]
  · rw [K1 _ _ (by omega), G3 _ _ (by omega), F2 _ _ (by omega), (E2 v hv).1, t1 _ _ (by omega), (w.se v hv).1]
  · rw [K1 _ _ (by omega), G3 _ _ (by omega), F3, E3 _ _ (by omega), t1 _ _ (by omega), w.ca]
  · rw [K1 _ _ (by omega), G3 _ _ (by omega), F4, E3 _ _ (by omega), t1 _ _ (by omega), w.la]
  · rw [n b (by omega)]
    unfold z14
    rw [if_neg (by omega)]
  · rw [K1 _ _ (by omega), G3 _ _ (by omega), F5, E3 _ _ (by omega), t1 _ _ (by omega), w.m]
  · rw [K1 _ _ (by omega), G2 i hi, t2 _ _ (by omega), w.en i hi]
/-- the plan's numbers, out of the text -/
def pnT (tx : Nat → Nat) (V : Nat) (i : Nat) : Nat := if i = 0 then tx 1 - 48 else if i ≤ 5 then tx (i + 1) - 48 else if i = 6 then (tx 7 - 48) * 10 + (tx 8 - 48) else if i = 7 then tx 9 - 48 else if i = 8 then tx 10 - 48 else V
theorem pnT_st (tx : Nat → Nat) (V : Nat) {k : Nat} (hk : k < 5) : pnT tx V (1 + k) = tx (k + 2) - 48 := by
  unfold pnT
  rw [if_neg (by omega), if_pos (by omega)]
  congr 2
  omega
theorem pnT_ok {tx : Nat → Nat} {V : Nat} (hV : V ≤ 4) (h : ∀ j, j < 11 → hkB tx j = true) : PN (pnT tx V) := by
  have h1 : 54 ≤ tx 1 ∧ tx 1 ≤ 57 := of_decide_eq_true (h 1 (by omega))
  have s0 := of_decide_eq_true ((hk_st (tx := tx) (k := 0) (by omega)).symm.trans (h 2 (by omega)))
  have s1 := of_decide_eq_true ((hk_st (tx := tx) (k := 1) (by omega)).symm.trans (h 3 (by omega)))
  have s2 := of_decide_eq_true ((hk_st (tx := tx) (k := 2) (by omega)).symm.trans (h 4 (by omega)))
  have s3 := of_decide_eq_true ((hk_st (tx := tx) (k := 3) (by omega)).symm.trans (h 5 (by omega)))
  have s4 := of_decide_eq_true ((hk_st (tx := tx) (k := 4) (by omega)).symm.trans (h 6 (by omega)))
  have d7 := of_decide_eq_true ((hk_hi (tx := tx) (i := 7) (by omega)).symm.trans (h 7 (by omega)))
  have d8 := of_decide_eq_true ((hk_hi (tx := tx) (i := 8) (by omega)).symm.trans (h 8 (by omega)))
  have d9 := of_decide_eq_true ((hk_hi (tx := tx) (i := 9) (by omega)).symm.trans (h 9 (by omega)))
  have d10 := of_decide_eq_true ((hk_hi (tx := tx) (i := 10) (by omega)).symm.trans (h 10 (by omega)))
  rw [if_pos rfl] at s0
  rw [if_neg (by decide)] at s1 s2 s3 s4
  have p0 : pnT tx V 0 = tx 1 - 48 := rfl
  have p1 : pnT tx V 1 = tx 2 - 48 := pnT_st tx V (k := 0) (by omega)
  have p2 : pnT tx V 2 = tx 3 - 48 := pnT_st tx V (k := 1) (by omega)
  have p3 : pnT tx V 3 = tx 4 - 48 := pnT_st tx V (k := 2) (by omega)
  have p4 : pnT tx V 4 = tx 5 - 48 := pnT_st tx V (k := 3) (by omega)
  have p5 : pnT tx V 5 = tx 6 - 48 := pnT_st tx V (k := 4) (by omega)
  have p6 : pnT tx V 6 = (tx 7 - 48) * 10 + (tx 8 - 48) := rfl
  have p7 : pnT tx V 7 = tx 9 - 48 := rfl
  have p8 : pnT tx V 8 = tx 10 - 48 := rfl
  have p9 : pnT tx V 9 = V := rfl
  unfold PN
  rw [p0, p1, p2, p3, p4, p5, p6, p7, p8, p9]
  have s0 : (48 ≤ tx 2 ∧ tx 2 ≤ 57) ∧ 1 ≤ tx 2 - 48 ∧ tx 2 - 48 + 5 ≤ (tx 1 - 48) + 0 := s0
  have s1 : (48 ≤ tx 3 ∧ tx 3 ≤ 57) ∧ tx 2 - 48 + 1 ≤ tx 3 - 48 ∧ tx 3 - 48 + 5 ≤ (tx 1 - 48) + 1 := s1
  have s2 : (48 ≤ tx 4 ∧ tx 4 ≤ 57) ∧ tx 3 - 48 + 1 ≤ tx 4 - 48 ∧ tx 4 - 48 + 5 ≤ (tx 1 - 48) + 2 := s2
  have s3 : (48 ≤ tx 5 ∧ tx 5 ≤ 57) ∧ tx 4 - 48 + 1 ≤ tx 5 - 48 ∧ tx 5 - 48 + 5 ≤ (tx 1 - 48) + 3 := s3
  have s4 : (48 ≤ tx 6 ∧ tx 6 ≤ 57) ∧ tx 5 - 48 + 1 ≤ tx 6 - 48 ∧ tx 6 - 48 + 5 ≤ (tx 1 - 48) + 4 := s4
  omega
