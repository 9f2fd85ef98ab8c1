theorem z14_0 {b : Nat} (h : ¬ (18 ≤ b ∧ b < 27)) : z14 b = 0 := if_neg h
theorem z14_9 {b : Nat} (h : 18 ≤ b ∧ b < 27) : z14 b = -9 := if_pos h
theorem mk3_nI {e : Nat} (h : e ≤ 2) : mk3 (nI e) := by
  have k : e = 0 ∨ e = 1 ∨ e = 2 := by omega
  rcases k with rfl | rfl | rfl
  · exact Or.inl rfl
  · exact Or.inr (Or.inl rfl)
  · exact Or.inr (Or.inr rfl)
theorem INV_line {B : Nat} {h h1 h2 h3 h4 : PH} {tx : Nat → Nat} {s : BS} (hI : INV B h) (fr : FrH h h1) (hk : ∀ j, j < 11 → hkB tx j = true) (wC : HC h1 s) (ws : WS s) (cp : CP tx h1) (X2 : XL s h1 h2) (fr2 : FrN h2 h3) (mp : MP tx h3) (M2 : ML s h3 h4) : INV B h4 := by
  obtain ⟨pn, dr, z0, z1, z2, z3, z4, z5, z6, z7⟩ := hI
  obtain ⟨-, -, -, wV, wse, -, -, -, -⟩ := wC
  obtain ⟨X1, Xe, ⟨P1, P2, P3, P4, P5, P6, P7⟩, ⟨S1, S2, S3, S4, S5, S6, S7, S8, S9⟩, Y1, Y2, Y3⟩ := X2
  obtain ⟨M1, Me, ⟨Q1, Q2, Q3, Q4, Q5, Q6, Q7⟩, ⟨R1, R2, R3, R4, R5, R6, R7⟩, Z1, Z2, Z3⟩ := M2
  obtain ⟨c1, c2, c3, c4, c5⟩ := cp
  obtain ⟨d1, d2, d3, d4, d5⟩ := mp
  have hV := ws.V
  have u : ∀ a b, a < 110 → h4.1 a b = h2.1 a b := fun a b z => by rw [M1 _ _ (by omega), fr2.1 _ _ (by omega)]
  have p9 : pnT tx s.V 9 = s.V := rfl
  refine ⟨pnT tx s.V, s.dr, ⟨pnT_ok hV hk, ⟨?_, fun i hi => ?_, ?_, ?_, ?_, ?_, fun v hv => ?_⟩, ⟨?_, fun i hi => ?_, ?_, ?_, ?_, ?_, fun v hv => ?_⟩⟩, ⟨⟨fun c hc _ => Or.inl ?_, fun c hc => ?_, fun v hv => ?_, ?_, ?_⟩, ?_⟩, ?_, ?_, ?_, ?_, ?_, ?_⟩
  · rw [u _ _ (by omega), P1, c1]; rfl
  · show h4.1 13 i = _
    rw [u _ _ (by omega), P2 i hi, c2 i hi, pnT_st _ _ hi]
  · rw [u _ _ (by omega), P3, c3]; rfl
  · rw [u _ _ (by omega), P4, c4]; rfl
  · rw [u _ _ (by omega), P5, c5]; rfl
  · rw [u _ _ (by omega), P6, wV]; rfl
  · rw [p9] at hv
    show h4.1 14 v = _
    rw [u _ _ (by omega), P7 v (by omega), (wse v hv).2]
  · rw [Q1, d1]; rfl
  · rw [Q2 i hi, d2 i hi, pnT_st _ _ hi]
  · rw [Q3, d3]; rfl
  · rw [Q4, d4]; rfl
  · rw [Q5, d5]; rfl
  · rw [Q6]; rfl
  · rw [p9] at hv
    exact Q7 v hv
  · refine ⟨?_, ?_, ?_, ?_, ?_, ?_, ?_⟩
    · show h4.1 21 c = 0
      rw [u _ _ (by omega), S1 c hc]
    · rw [R1 _ (by omega), z14_0 (by omega)]
    · rw [R1 _ (by omega), z14_0 (by omega)]
    · rw [R1 _ (by omega), z14_9 (by omega)]
    · rw [R1 _ (by omega), z14_0 (by omega)]
    · rw [R1 _ (by omega), z14_0 (by omega)]
    · rw [R1 _ (by omega), z14_0 (by omega)]
  · have e : h4.1 114 (54 + c) = 0 := by rw [R1 _ (by omega), z14_0 (by omega)]
    rw [e]
    refine ⟨?_, Or.inl rfl⟩
    show h4.1 22 c = 0
    rw [u _ _ (by omega), S2 c hc]
  · rw [p9] at hv
    rw [R2 v hv]
    refine ⟨?_, s.se v, ws.se v hv, rfl⟩
    show h4.1 23 v = _
    rw [u _ _ (by omega), S3 v hv]
  · have r : ∀ b, 69 ≤ b → b ≤ 77 → h4.1 114 b = 0 := R5
    have t : ∀ i, 9 ≤ i → i ≤ 17 → vw h4 20 0 i = 0 := fun i z1 z2 => by
      show h4.1 20 i = 0
      rw [u _ _ (by omega), S9 i z1 z2]
    have t7 : vw h4 20 0 7 = nI s.ca := by
      show h4.1 20 7 = _
      rw [u _ _ (by omega), S7]
    have t8 : vw h4 20 0 8 = nI s.la := by
      show h4.1 20 8 = _
      rw [u _ _ (by omega), S8]
    unfold RK
    rw [t7, t8, t 9 (by omega) (by omega), t 10 (by omega) (by omega), t 11 (by omega) (by omega), t 12 (by omega) (by omega), t 13 (by omega) (by omega), t 14 (by omega) (by omega), t 15 (by omega) (by omega), t 16 (by omega) (by omega), t 17 (by omega) (by omega), R3, R4, r 69 (by omega) (by omega), r 70 (by omega) (by omega), r 71 (by omega) (by omega), r 72 (by omega) (by omega), r 73 (by omega) (by omega), r 74 (by omega) (by omega), r 75 (by omega) (by omega), r 76 (by omega) (by omega), r 77 (by omega) (by omega)]
    exact ⟨⟨rfl, rfl, rfl, rfl, rfl, rfl, rfl, rfl, rfl, rfl, rfl⟩, ⟨s.ca, ws.ca, rfl⟩, ⟨s.la, ws.la, rfl⟩, Or.inl rfl, Or.inl rfl, ⟨0, Nat.zero_le _, rfl⟩, ⟨0, Nat.zero_le _, rfl⟩, ⟨0, Nat.zero_le _, rfl⟩⟩
  · refine ⟨s.m, ws.m, ?_, R6, fun i hi => ?_⟩
    · show h4.1 20 6 = _
      rw [u _ _ (by omega), S6]
    · rw [R7 i hi]
      refine ⟨?_, mk3_nI (ws.en i hi)⟩
      show h4.1 24 i = _
      rw [u _ _ (by omega), S4 i hi]
  · show h4.1 20 4 = 0
    rw [u _ _ (by omega), S5]
  · obtain ⟨nx, pc, q1, q2, q3, q4, q5, q6, q7⟩ := z2
    refine ⟨nx, 0, q1, by omega, ?_, Z1, ?_, ?_, fun i hi => absurd hi (Nat.not_lt_zero i)⟩
    · rw [u _ _ (by omega)]; exact Y1
    · rw [u _ _ (by omega), X1 _ _ (by omega), fr.1 _ _ (by omega), q5]
    · rw [M1 _ _ (by omega), fr2.1 _ _ (by omega), X1 _ _ (by omega), fr.1 _ _ (by omega), q6]
  · intro j hj
    have k : j = 0 ∨ j = 1 := by omega
    rcases k with rfl | rfl
    · rw [u _ _ (by omega), Y2, Z2]
      exact ⟨rfl, Or.inl rfl⟩
    · rw [u _ _ (by omega), Y3, Z3]
      exact ⟨rfl, Or.inl rfl⟩
  · exact ITx_cg (fun a b c => by rw [M1 _ _ (by omega), fr2.1 _ _ (by omega), X1 _ _ (by omega), fr.1 _ _ (by omega)]) z4
  · exact ISeen_cg (fun a b c => by rw [M1 _ _ (by omega), fr2.1 _ _ (by omega), X1 _ _ (by omega), fr.1 _ _ (by omega)]) z5
  · exact IMisc_cg (fun b c => by rw [M1 _ _ (by omega), fr2.1 _ _ (by omega), X1 _ _ (by omega), fr.1 _ _ (by omega)]) (by rw [Me, fr2.2, Xe, fr.2]) z6
  · exact IRd_cg (fun a b c => by rw [M1 _ _ (by omega), fr2.1 _ _ (by omega), X1 _ _ (by omega), fr.1 _ _ (by omega)]) z7
theorem op_line : OP f_X4_line f_X5_line := by
  intro B h hB hI
  have hI0 := hI
  obtain ⟨pn, dr, z0, z1, z2, z3, z4, z5, z6, z7⟩ := hI
  obtain ⟨tx, L, hL, ht, tc, tm⟩ := tx_of z4
  obtain ⟨h1, x1, fr, X⟩ := x_read hL ht tc
  have tm1 := TxM_frH fr tm
  by_cases q : (hdR tx L 11 0).1 = -9
  · obtain ⟨⟨-, hk⟩, wC, ⟨ws, -⟩, cp⟩ := X q
    have rd1 : IRd h1 := IRd_cg (fun a b c => fr.1 a b (by omega)) z7
    obtain ⟨h2, x2, X2⟩ := x_line wC ws rd1
    have tm2 : TxM tx L h2 := ⟨by rw [X2.1 _ _ (by omega)]; exact tm1.1, fun i hi => by rw [X2.1 _ _ (by omega)]; exact tm1.2 i hi⟩
    obtain ⟨h3, m1, fr2, Y⟩ := m_read hL ht tm2
    obtain ⟨wM, mp⟩ := Y q
    obtain ⟨h4, m2, M2⟩ := m_line wM ws
    refine ⟨nI (hdR tx L 11 0).2.V, h2, h4, ?_, ?_, INV_mono (B := B) (by omega) (INV_line hI0 fr hk wC ws cp X2 fr2 mp M2)⟩
    · unfold f_X4_line
      rw [x1, bd_at, if_pos q]
      exact x2
    · unfold f_X5_line
      rw [m1, bd_at, if_pos q]
      exact m2
  · obtain ⟨h2, m1, fr2, -⟩ := m_read hL ht tm1
    refine ⟨-3, h1, h2, ?_, ?_, INV_mono (B := B) (by omega) (INV_frN fr2 (INV_frH fr hI0))⟩
    · unfold f_X4_line
      rw [x1, bd_at, if_neg q]
    · unfold f_X5_line
      rw [m1, bd_at, if_neg q]
