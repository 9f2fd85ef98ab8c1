-- a whole text
def s00 : BS := mkB 0 0 0 0 0 0 0 (fun _ => 0) (fun _ => 0) (fun _ => 0)
def bdR (tx : Nat → Nat) : Nat → Nat → BS → Int32 × BS
  | 0, i, s => (if s.p = 0 then -9 else nI i, s)
  | n + 1, i, s => match stp s (tx i) with
    | none => (nI i, s)
    | some s' => bdR tx n (i + 1) s'
def hdR (tx : Nat → Nat) (L : Nat) : Nat → Nat → Int32 × BS
  | 0, _ => bdR tx (L - 11) 11 s00
  | n + 1, i => if i = L then (nI L, s00) else if hkB tx i = true then hdR tx L n (i + 1) else (nI i, s00)
def OKs (s : BS) : Prop := WS s ∧ s.p = 0
theorem ws_00 : WS s00 := ⟨Nat.zero_le _, fun v hv => absurd hv (Nat.not_lt_zero v), Nat.zero_le _, Nat.zero_le _, Nat.zero_le _, fun v hv => absurd hv (Nat.not_lt_zero v), Or.inl rfl⟩
def TxC (tx : Nat → Nat) (L : Nat) (h : PH) : Prop := h.1 0 1 = nI L ∧ ∀ i, i < L → h.1 1 i = nI (tx i)
def TxM (tx : Nat → Nat) (L : Nat) (h : PH) : Prop := h.1 110 1 = nI L ∧ ∀ i, i < L → h.1 111 i = nI (tx i)
/-- what the head has left in the class's reader -/
def CP (tx : Nat → Nat) (h : PH) : Prop := h.1 9 0 = nI (tx 1 - 48) ∧ (∀ k, k < 5 → h.1 10 k = nI (tx (k + 2) - 48)) ∧ h.1 9 2 = nI ((tx 7 - 48) * 10 + (tx 8 - 48)) ∧ h.1 9 3 = nI (tx 9 - 48) ∧ h.1 9 4 = nI (tx 10 - 48)
theorem CP_fr {tx : Nat → Nat} {h h' : PH} (q : FrC h h') (c : CP tx h) : CP tx h' := by
  obtain ⟨c1, c2, c3, c4, c5⟩ := c
  refine ⟨?_, fun k hk => ?_, ?_, ?_, ?_⟩
  · rw [q.1 _ _ (by omega)]; exact c1
  · rw [q.1 _ _ (by omega)]; exact c2 k hk
  · rw [q.1 _ _ (by omega)]; exact c3
  · rw [q.1 _ _ (by omega)]; exact c4
  · rw [q.1 _ _ (by omega)]; exact c5
theorem TxC_fr {tx : Nat → Nat} {L : Nat} {h h' : PH} (q : FrH h h') (c : TxC tx L h) : TxC tx L h' := ⟨by rw [q.1 _ _ (by omega)]; exact c.1, fun i hi => by rw [q.1 _ _ (by omega)]; exact c.2 i hi⟩
theorem nI_m9 {i : Nat} (h : i ≤ 1000) : ¬ nI i = -9 := fun z => w_m9 (by omega) z.symm
section
variable {tx : Nat → Nat} {L : Nat}
theorem x_body (hL : L ≤ 90) (ht : ∀ i, i < L → tx i ≤ 255) : ∀ (f i : Nat) (h : PH) (s : BS), i ≤ L → L < i + f → HC h s → WS s → TxC tx L h → ∃ h', f_X4_readText_b9 f (nI i) h = some ((bdR tx (L - i) i s).1, h') ∧ FrC h h' ∧ ((bdR tx (L - i) i s).1 = -9 → HC h' (bdR tx (L - i) i s).2 ∧ OKs (bdR tx (L - i) i s).2) := by
  intro f
  induction f with
  | zero => intro i h s h1 h2; omega
  | succ f ih =>
    intro i h s h1 h2 w ws t
    unfold f_X4_readText_b9
    rw [t.1]
    by_cases h3 : i = L
    · rw [if_pos (nI_le (by omega) (by omega))]
      have e : L - i = 0 := by omega
      rw [e]
      unfold bdR f_X2_isComplete
      rw [w.t, if_pos (c := nI 11 = 11) rfl, w.p]
      by_cases q : s.p = 0
      · rw [if_pos (by rw [q]; rfl), bd_at, if_neg (by decide), if_pos q]
        exact ⟨h, rfl, FrC_rfl h, fun _ => ⟨w, ws, q⟩⟩
      · have n : ¬ nI s.p = 0 := nI_nz (by omega) (by rcases ws.p with q | q | q <;> omega)
        rw [if_neg n, bd_at, if_pos rfl, t.1, if_neg q]
        refine ⟨h, by rw [h3], FrC_rfl h, fun z => absurd z (nI_m9 (by omega))⟩
    · rw [if_neg (nI_ge (by omega) (by omega)), rd_at i rfl (by show i < 90; omega) (by decide), t.2 i (by omega)]
      have e : L - i = (L - (i + 1)) + 1 := by omega
      obtain ⟨b, h', e1, fr, q⟩ := x_take w ws (ht i (by omega))
      rw [e, e1, bd_at]
      unfold bdR
      rcases q with ⟨q1, q2⟩ | ⟨s', q1, q2, q3⟩
      · rw [q1, q2, if_pos rfl]
        exact ⟨h', rfl, fr, fun z => absurd z (nI_m9 (by omega))⟩
      · rw [q1, q2, if_neg (by decide), nI_1]
        obtain ⟨h2, r1, r2, r3⟩ := ih (i + 1) h' s' (by omega) (by omega) q3 (ws_stp (ht i (by omega)) ws q1) (TxC_fr (FrC_H fr) t)
        exact ⟨h2, r1, FrC_tr fr r2, r3⟩
theorem x_headR (hL : L ≤ 90) (ht : ∀ i, i < L → tx i ≤ 255) : ∀ (n f i : Nat) (h : PH), i + n = 11 → i ≤ L → L < i + f → CH tx i h → (∀ j, j < i → hkB tx j = true) → TxC tx L h → ∃ h', f_X4_readText_b9 f (nI i) h = some ((hdR tx L n i).1, h') ∧ FrH h h' ∧ ((hdR tx L n i).1 = -9 → (11 ≤ L ∧ ∀ j, j < 11 → hkB tx j = true) ∧ HC h' (hdR tx L n i).2 ∧ OKs (hdR tx L n i).2 ∧ CP tx h') := by
  intro n
  induction n with
  | zero =>
    intro f i h h1 h2 h3 w hp t
    have hi : i = 11 := by omega
    subst hi
    have cp : CP tx h := ⟨w.2.2.1 (by omega), fun k hk => w.2.2.2.1 k hk (by omega), w.2.2.2.2.1 (by omega), w.2.2.2.2.2.1 (by omega), w.2.2.2.2.2.2 (by omega)⟩
    have hc : HC h s00 := ⟨w.1, w.2.1.1, fun z => absurd rfl z, w.2.1.2.1, fun v hv => absurd hv (Nat.not_lt_zero v), w.2.1.2.2.1, w.2.1.2.2.2.1, w.2.1.2.2.2.2, fun v hv => absurd hv (Nat.not_lt_zero v)⟩
    obtain ⟨h', r1, r2, r3⟩ := x_body hL ht f 11 h s00 h2 h3 hc ws_00 t
    exact ⟨h', r1, FrC_H r2, fun z => ⟨⟨h2, hp⟩, (r3 z).1, (r3 z).2, CP_fr r2 cp⟩⟩
  | succ n ih =>
    intro f i h h1 h2 h3 w hp t
    obtain ⟨f', rfl⟩ : ∃ f', f = f' + 1 := ⟨f - 1, by omega⟩
    unfold f_X4_readText_b9 hdR
    rw [t.1]
    by_cases h4 : i = L
    · rw [if_pos (nI_le (by omega) (by omega)), if_pos h4]
      unfold f_X2_isComplete
      have n11 : ¬ nI i = 11 := fun z => by
        have := (nI_eq (by omega) (by omega)).mp (z.trans L11)
        omega
      rw [w.1, if_neg n11, bd_at, if_pos rfl, t.1]
      exact ⟨h, rfl, ⟨fun _ _ _ => rfl, rfl⟩, fun z => absurd z (nI_m9 (by omega))⟩
    · rw [if_neg (nI_ge (by omega) (by omega)), if_neg h4, rd_at i rfl (by show i < 90; omega) (by decide), t.2 i (by omega)]
      obtain ⟨h', e1, fr, q⟩ := x_hd (by omega) w (ht i (by omega)) hp
      rw [e1, bd_at]
      by_cases c : hkB tx i = true
      · rw [if_pos c, if_neg (by decide), if_pos c, nI_1]
        obtain ⟨h2, r1, r2, r3⟩ := ih f' (i + 1) h' (by omega) (by omega) (by omega) (q c) (fun j hj => by
          by_cases z : j = i
          · rw [z]; exact c
          · exact hp j (by omega)) (TxC_fr fr t)
        exact ⟨h2, r1, FrH_tr fr r2, r3⟩
      · rw [if_neg c, if_pos rfl, if_neg c]
        exact ⟨h', rfl, fr, fun z => absurd z (nI_m9 (by omega))⟩
theorem x_read {h : PH} (hL : L ≤ 90) (ht : ∀ i, i < L → tx i ≤ 255) (t : TxC tx L h) : ∃ h', f_X4_readText h = some ((hdR tx L 11 0).1, h') ∧ FrH h h' ∧ ((hdR tx L 11 0).1 = -9 → (11 ≤ L ∧ ∀ j, j < 11 → hkB tx j = true) ∧ HC h' (hdR tx L 11 0).2 ∧ OKs (hdR tx L 11 0).2 ∧ CP tx h') := by
  unfold f_X4_readText f_X2_begin
  rw [st_at, st_at, st_at, st_at, st_at, st_at, bd_at]
  generalize hH : si (si (si (si (si (si h 8 2 0) 8 3 0) 9 5 0) 15 7 0) 15 8 0) 15 6 0 = H
  have fr : FrH h H := ⟨fun a b z => by rw [← hH, rsi, if_neg (by omega), rsi, if_neg (by omega), rsi, if_neg (by omega), rsi, if_neg (by omega), rsi, if_neg (by omega), rsi, if_neg (by omega)], by rw [← hH]; rfl⟩
  have w : CH tx 0 H := by
    rw [← hH]
    exact ⟨rfl, ⟨rfl, rfl, rfl, rfl, rfl⟩, fun z => by omega, fun k hk z => by omega, fun z => by omega, fun z => by omega, fun z => by omega⟩
  obtain ⟨h', r1, r2, r3⟩ := x_headR hL ht 11 200 0 H (by omega) (by omega) (by omega) w (fun j hj => by omega) (TxC_fr fr t)
  exact ⟨h', r1, FrH_tr fr r2, r3⟩
end
