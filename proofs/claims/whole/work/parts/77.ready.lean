-- a whole text, the reference's way
section
variable {tx : Nat → Nat} {L : Nat}
theorem m_body (hL : L ≤ 90) (ht : ∀ i, i < L → tx i ≤ 255) : ∀ (f i : Nat) (h : PH) (s : BS), i ≤ L → L < i + f → HM h s → WS s → TxM tx L h → ∃ h', f_X5_readText_b62 f (nI i) h = some ((bdR tx (L - i) i s).1, h') ∧ FrM h h' ∧ ((bdR tx (L - i) i s).1 = -9 → HM h' (bdR tx (L - i) i s).2) := by
  intro f
  induction f with
  | zero => intro i h s h1 h2; omega
  | succ f ih =>
    intro i h s h1 h2 w ws t
    unfold f_X5_readText_b62
    rw [t.1]
    by_cases h3 : i = L
    · rw [if_pos (nI_le (by omega) (by omega)), w.p]
      have e : L - i = 0 := by omega
      rw [e]
      unfold bdR
      by_cases q : s.p = 0
      · rw [if_pos (by rw [q]; rfl), if_pos q]
        exact ⟨h, rfl, FrM_rfl h, fun _ => w⟩
      · have n : ¬ nI s.p = 0 := nI_nz (by omega) (by rcases ws.p with q | q | q <;> omega)
        rw [if_neg n, if_neg q]
        refine ⟨h, by rw [h3], FrM_rfl h, fun z => absurd z (nI_m9 (by omega))⟩
    · rw [if_neg (nI_ge (by omega) (by omega)), rd_at i rfl (by show i < 90; omega) (by decide), t.2 i (by omega)]
      have e : L - i = (L - (i + 1)) + 1 := by omega
      obtain ⟨b, h', e1, fr, q⟩ := m_take w ws (ht i (by omega))
      rw [e, e1, bd_at]
      unfold bdR
      rcases q with ⟨q1, q2⟩ | ⟨s', q1, q2, q3⟩
      · rw [q1, q2, if_pos rfl]
        exact ⟨h', rfl, fr, fun z => absurd z (nI_m9 (by omega))⟩
      · rw [q1, q2, if_neg (by decide), nI_1]
        obtain ⟨h2, r1, r2, r3⟩ := ih (i + 1) h' s' (by omega) (by omega) q3 (ws_stp (ht i (by omega)) ws q1) (TxM_fr (FrM_N fr) t)
        exact ⟨h2, r1, FrM_tr fr r2, r3⟩
theorem m_headR (hL : L ≤ 90) (ht : ∀ i, i < L → tx i ≤ 255) : ∀ (n f i : Nat) (h : PH), i + n = 11 → 1 ≤ i → 1 ≤ n → i ≤ L → L < i + f → MH tx i h → (∀ j, 1 ≤ j → j < i → hkB tx j = true) → TxM tx L h → ∃ h', f_X5_readText_b62 f (nI i) h = some ((hdR tx L n i).1, h') ∧ FrN h h' ∧ ((hdR tx L n i).1 = -9 → HM h' (hdR tx L n i).2 ∧ MP tx h') := by
  intro n
  induction n with
  | zero => intro f i h h1 h0 hn; omega
  | succ n ih =>
    intro f i h h1 h0 hn h2 h3 w hp t
    obtain ⟨f', rfl⟩ : ∃ f', f = f' + 1 := ⟨f - 1, by omega⟩
    unfold f_X5_readText_b62 hdR
    rw [t.1]
    by_cases h4 : i = L
    · rw [if_pos (nI_le (by omega) (by omega)), if_pos h4, w.1, if_neg (by decide)]
      exact ⟨h, rfl, ⟨fun _ _ _ => rfl, rfl⟩, fun z => absurd z (nI_m9 (by omega))⟩
    · rw [if_neg (nI_ge (by omega) (by omega)), if_neg h4, rd_at i rfl (by show i < 90; omega) (by decide), t.2 i (by omega)]
      obtain ⟨h', e1, fr, q⟩ := m_hd h0 (by omega) w (ht i (by omega)) hp
      rw [e1, bd_at]
      by_cases c : hkB tx i = true
      · rw [if_pos c, if_neg (by decide), if_pos c, nI_1]
        have y := q c
        clear q
        by_cases c2 : i = 10
        · rw [if_pos c2] at y
          have e0 : n = 0 := by omega
          subst e0
          subst c2
          obtain ⟨h2, r1, r2, r3⟩ := m_body hL ht f' 11 h' s00 (by omega) (by omega) y.1 ws_00 (TxM_fr fr t)
          exact ⟨h2, r1, FrN_tr fr (FrM_N r2), fun z => ⟨r3 z, MP_fr r2 y.2⟩⟩
        · rw [if_neg c2] at y
          obtain ⟨h2, r1, r2, r3⟩ := ih f' (i + 1) h' (by omega) (by omega) (by omega) (by omega) (by omega) y (fun j hj1 hj => by
            by_cases z : j = i
            · rw [z]; exact c
            · exact hp j hj1 (by omega)) (TxM_fr fr t)
          exact ⟨h2, r1, FrN_tr fr r2, r3⟩
      · rw [if_neg c, if_pos rfl, if_neg c]
        exact ⟨h', rfl, fr, fun z => absurd z (nI_m9 (by omega))⟩
theorem m_read {h : PH} (hL : L ≤ 90) (ht : ∀ i, i < L → tx i ≤ 255) (t : TxM tx L h) : ∃ h', f_X5_readText h = some ((hdR tx L 11 0).1, h') ∧ FrN h h' ∧ ((hdR tx L 11 0).1 = -9 → HM h' (hdR tx L 11 0).2 ∧ MP tx h') := by
  unfold f_X5_readText
  rw [st_at, st_at, wr_at 0 L0 (by decide) (by decide), wr_at 1 L1 (by decide) (by decide), st_at, st_at, st_at]
  generalize hH : si (si (si (si (si (si (si h 110 26 0) 110 29 0) 126 0 0) 126 1 0) 110 33 0) 110 35 66) 110 36 0 = H
  have fr : FrN h H := ⟨fun a b z => by rw [← hH, rsi, if_neg (by omega), rsi, if_neg (by omega), rsi, if_neg (by omega), rsi, if_neg (by omega), rsi, if_neg (by omega), rsi, if_neg (by omega), rsi, if_neg (by omega)], by rw [← hH]; rfl⟩
  have w : MH tx 1 H := by
    rw [← hH]
    exact ⟨rfl, rfl, ⟨rfl, rfl, rfl, rfl⟩, fun z => by omega, fun k hk z => by omega, rfl, fun z => by omega⟩
  have tH := TxM_fr fr t
  unfold hdR
  rw [tH.1]
  by_cases c : L = 0
  · rw [if_pos (by rw [c]; rfl), if_pos c.symm]
    exact ⟨H, by rw [c]; rfl, fr, fun z => absurd z (nI_m9 (by omega))⟩
  · rw [if_neg (nI_nz (by omega) (by omega)), if_neg (fun z => c z.symm), rd_at 0 L0 (by decide) (by decide), tH.2 0 (by omega)]
    by_cases c2 : tx 0 = 66
    · have k : hkB tx 0 = true := decide_eq_true c2
      rw [if_pos (by rw [c2]; rfl), if_pos k]
      obtain ⟨h', r1, r2, r3⟩ := m_headR hL ht 10 200 1 H (by omega) (by omega) (by omega) (by omega) (by omega) w (fun j h1 hj => by omega) tH
      exact ⟨h', r1, FrN_tr fr r2, r3⟩
    · have k : ¬ hkB tx 0 = true := fun z => c2 (of_decide_eq_true z)
      have h0 := ht 0 (by omega)
      rw [if_neg (fun z => c2 ((nI_eq (by omega) (by omega)).mp (z.trans L66))), if_neg k]
      exact ⟨H, rfl, fr, fun z => absurd z (nI_m9 (by omega))⟩
end
theorem tx_of {h : PH} (z4 : ITx h) : ∃ (tx : Nat → Nat) (L : Nat), L ≤ 90 ∧ (∀ i, i < L → tx i ≤ 255) ∧ TxC tx L h ∧ TxM tx L h := by
  obtain ⟨L, l1, l2, l3, l4⟩ := z4
  have e : ∀ i, i < L → h.1 1 i = nI (nt (h.1 1 i)) ∧ nt (h.1 1 i) ≤ 255 := fun i hi => by
    obtain ⟨-, c, c1, c2⟩ := l4 i hi
    rw [c2, nt_nI (by omega)]
    exact ⟨rfl, c1⟩
  exact ⟨fun i => nt (h.1 1 i), L, l1, fun i hi => (e i hi).2, ⟨l2, fun i hi => (e i hi).1⟩, l3, fun i hi => (l4 i hi).1.symm.trans (e i hi).1⟩
theorem INV_frH {B : Nat} {h h' : PH} (fr : FrH h h') (hI : INV B h) : INV B h' := by
  obtain ⟨pn, dr, z0, z1, z2, z3, z4, z5, z6, z7⟩ := hI
  exact ⟨pn, dr, I0_cg (fun a b c => fr.1 a b (by omega)) z0, INow_cg (fun a b c => fr.1 a b (by omega)) z1, IPast_cg (fun a b c => fr.1 a b (by omega)) z2, ISlot_cg (fun a b c => fr.1 a b (by omega)) z3, ITx_cg (fun a b c => fr.1 a b (by omega)) z4, ISeen_cg (fun a b c => fr.1 a b (by omega)) z5, IMisc_cg (fun b c => fr.1 110 b (by omega)) fr.2 z6, IRd_cg (fun a b c => fr.1 a b (by omega)) z7⟩
theorem INV_frN {B : Nat} {h h' : PH} (fr : FrN h h') (hI : INV B h) : INV B h' := by
  obtain ⟨pn, dr, z0, z1, z2, z3, z4, z5, z6, z7⟩ := hI
  exact ⟨pn, dr, I0_cg (fun a b c => fr.1 a b (by omega)) z0, INow_cg (fun a b c => fr.1 a b (by omega)) z1, IPast_cg (fun a b c => fr.1 a b (by omega)) z2, ISlot_cg (fun a b c => fr.1 a b (by omega)) z3, ITx_cg (fun a b c => fr.1 a b (by omega)) z4, ISeen_cg (fun a b c => fr.1 a b (by omega)) z5, IMisc_cg (fun b c => fr.1 110 b (by omega)) fr.2 z6, IRd_cg (fun a b c => fr.1 a b (by omega)) z7⟩
theorem TxM_frH {tx : Nat → Nat} {L : Nat} {h h' : PH} (q : FrH h h') (c : TxM tx L h) : TxM tx L h' := ⟨by rw [q.1 _ _ (by omega)]; exact c.1, fun i hi => by rw [q.1 _ _ (by omega)]; exact c.2 i hi⟩
theorem op_fault : OP f_X4_fault f_X5_fault := by
  intro B h hB hI
  have hI0 := hI
  obtain ⟨pn, dr, z0, z1, z2, z3, z4, z5, z6, z7⟩ := hI
  obtain ⟨tx, L, hL, ht, tc, tm⟩ := tx_of z4
  obtain ⟨h1, x1, fr, -⟩ := x_read hL ht tc
  obtain ⟨h2, m1, fr2, -⟩ := m_read hL ht (TxM_frH fr tm)
  refine ⟨(hdR tx L 11 0).1, h1, h2, ?_, ?_, INV_mono (B := B) (by omega) (INV_frN fr2 (INV_frH fr hI0))⟩
  · unfold f_X4_fault
    rw [bd_id]
    exact x1
  · unfold f_X5_fault
    rw [bd_id]
    exact m1
