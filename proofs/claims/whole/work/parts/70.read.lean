-- the reader: what it reads, apart from both
def BS : Type := (Nat × Nat × Nat × Nat) × (Nat × Nat × Nat) × (Nat → Nat) × (Nat → Nat) × (Nat → Int32)
def mkB (V ca la m p d nu : Nat) (se en : Nat → Nat) (dr : Nat → Int32) : BS := ((V, ca, la, m), (p, d, nu), se, en, dr)
def BS.V (s : BS) : Nat := s.1.1
def BS.ca (s : BS) : Nat := s.1.2.1
def BS.la (s : BS) : Nat := s.1.2.2.1
def BS.m (s : BS) : Nat := s.1.2.2.2
def BS.p (s : BS) : Nat := s.2.1.1
def BS.d (s : BS) : Nat := s.2.1.2.1
def BS.nu (s : BS) : Nat := s.2.1.2.2
def BS.se (s : BS) : Nat → Nat := s.2.2.1
def BS.en (s : BS) : Nat → Nat := s.2.2.2.1
def BS.dr (s : BS) : Nat → Int32 := s.2.2.2.2
def un (f : Nat → Nat) (i v : Nat) : Nat → Nat := fun j => if j = i then v else f j
def stp (s : BS) (c : Nat) : Option BS :=
  if s.p = 0 then
    if c = 45 then (if s.m < 24 then some (mkB s.V s.ca s.la (s.m + 1) s.p s.d s.nu s.se (un s.en s.m 0) s.dr) else none)
    else if c = 98 then (if s.m < 24 then some (mkB s.V s.ca s.la (s.m + 1) s.p s.d s.nu s.se (un s.en s.m 1) s.dr) else none)
    else if c = 99 then (if s.ca < 99 then some (mkB s.V s.ca s.la s.m 99 0 0 s.se s.en s.dr) else none)
    else if c = 108 then (if s.la < 99 then some (mkB s.V s.ca s.la s.m 108 0 0 s.se s.en s.dr) else none)
    else if c = 118 then (if s.V < 4 then some (mkB s.V s.ca s.la s.m 118 0 0 s.se s.en s.dr) else none)
    else if c = 120 then (if s.m < 24 then some (mkB s.V s.ca s.la (s.m + 1) s.p s.d s.nu s.se (un s.en s.m 2) s.dr) else none)
    else none
  else if c < 48 ∨ 57 < c then none
  else if s.p = 118 then
    (if s.d = 2 then some (mkB (s.V + 1) s.ca s.la s.m 0 s.d s.nu (un s.se s.V s.nu) s.en (upd s.dr s.V (nI (c - 48) - 4)))
     else some (mkB s.V s.ca s.la s.m s.p (s.d + 1) (s.nu * 10 + (c - 48)) s.se s.en s.dr))
  else if s.d = 0 then (if (c - 48) * 10 + (if s.p = 108 then s.la else s.ca) ≤ 99 then some (mkB s.V s.ca s.la s.m s.p 1 (c - 48) s.se s.en s.dr) else none)
  else if 1 ≤ s.nu * 10 + (c - 48) ∧ s.nu * 10 + (c - 48) + (if s.p = 108 then s.la else s.ca) ≤ 99 then
    (if s.p = 108 then some (mkB s.V s.ca (s.la + (s.nu * 10 + (c - 48))) s.m 0 s.d s.nu s.se s.en s.dr) else some (mkB s.V (s.ca + (s.nu * 10 + (c - 48))) s.la s.m 0 s.d s.nu s.se s.en s.dr))
  else none
def WS (s : BS) : Prop := s.V ≤ 4 ∧ (∀ v, v < s.V → s.se v ≤ 99) ∧ s.ca ≤ 99 ∧ s.la ≤ 99 ∧ s.m ≤ 24 ∧ (∀ i, i < s.m → s.en i ≤ 2) ∧ (s.p = 0 ∨ (s.p = 118 ∧ s.V < 4 ∧ (s.d = 0 ∧ s.nu = 0 ∨ s.d = 1 ∧ s.nu ≤ 9 ∨ s.d = 2 ∧ s.nu ≤ 99)) ∨ (s.p = 99 ∧ s.ca < 99 ∨ s.p = 108 ∧ s.la < 99) ∧ (s.d = 0 ∧ s.nu = 0 ∨ s.d = 1 ∧ s.nu ≤ 9))
section
theorem WS.V {s : BS} (w : WS s) : s.V ≤ 4 := w.1
theorem WS.se {s : BS} (w : WS s) : ∀ v, v < s.V → s.se v ≤ 99 := w.2.1
theorem WS.ca {s : BS} (w : WS s) : s.ca ≤ 99 := w.2.2.1
theorem WS.la {s : BS} (w : WS s) : s.la ≤ 99 := w.2.2.2.1
theorem WS.m {s : BS} (w : WS s) : s.m ≤ 24 := w.2.2.2.2.1
theorem WS.en {s : BS} (w : WS s) : ∀ i, i < s.m → s.en i ≤ 2 := w.2.2.2.2.2.1
theorem WS.p {s : BS} (w : WS s) : s.p = 0 ∨ (s.p = 118 ∧ s.V < 4 ∧ (s.d = 0 ∧ s.nu = 0 ∨ s.d = 1 ∧ s.nu ≤ 9 ∨ s.d = 2 ∧ s.nu ≤ 99)) ∨ (s.p = 99 ∧ s.ca < 99 ∨ s.p = 108 ∧ s.la < 99) ∧ (s.d = 0 ∧ s.nu = 0 ∨ s.d = 1 ∧ s.nu ≤ 9) := w.2.2.2.2.2.2
end
theorem un_at (f : Nat → Nat) (i v : Nat) : un f i v i = v := if_pos rfl
theorem un_ne (f : Nat → Nat) {i j : Nat} (v : Nat) (h : j ≠ i) : un f i v j = f j := if_neg h
theorem ws_en {s : BS} (w : WS s) (hp : s.p = 0) (hm : s.m < 24) {e : Nat} (he : e ≤ 2) : WS (mkB s.V s.ca s.la (s.m + 1) s.p s.d s.nu s.se (un s.en s.m e) s.dr) := by
  refine ⟨w.V, w.se, w.ca, w.la, hm, fun i hi => ?_, Or.inl hp⟩
  by_cases q : i = s.m
  · subst q
    show un s.en s.m e s.m ≤ 2
    rw [un_at]
    exact he
  · show un s.en s.m e i ≤ 2
    rw [un_ne _ _ q]
    have hi : i < s.m + 1 := hi
    exact w.en i (by omega)
theorem ws_stp {s s' : BS} {c : Nat} (hc : c ≤ 255) (w : WS s) (h : stp s c = some s') : WS s' := by
  unfold stp at h
  by_cases hp : s.p = 0
  · rw [if_pos hp] at h
    by_cases c1 : c = 45
    · rw [if_pos c1] at h
      by_cases q : s.m < 24
      · rw [if_pos q] at h; cases h; exact ws_en w hp q (by omega)
      · rw [if_neg q] at h; cases h
    rw [if_neg c1] at h
    by_cases c2 : c = 98
    · rw [if_pos c2] at h
      by_cases q : s.m < 24
      · rw [if_pos q] at h; cases h; exact ws_en w hp q (by omega)
      · rw [if_neg q] at h; cases h
    rw [if_neg c2] at h
    by_cases c3 : c = 99
    · rw [if_pos c3] at h
      by_cases q : s.ca < 99
      · rw [if_pos q] at h; cases h; exact ⟨w.V, w.se, w.ca, w.la, w.m, w.en, Or.inr (Or.inr ⟨Or.inl ⟨rfl, q⟩, Or.inl ⟨rfl, rfl⟩⟩)⟩
      · rw [if_neg q] at h; cases h
    rw [if_neg c3] at h
    by_cases c4 : c = 108
    · rw [if_pos c4] at h
      by_cases q : s.la < 99
      · rw [if_pos q] at h; cases h; exact ⟨w.V, w.se, w.ca, w.la, w.m, w.en, Or.inr (Or.inr ⟨Or.inr ⟨rfl, q⟩, Or.inl ⟨rfl, rfl⟩⟩)⟩
      · rw [if_neg q] at h; cases h
    rw [if_neg c4] at h
    by_cases c5 : c = 118
    · rw [if_pos c5] at h
      by_cases q : s.V < 4
      · rw [if_pos q] at h; cases h; exact ⟨w.V, w.se, w.ca, w.la, w.m, w.en, Or.inr (Or.inl ⟨rfl, q, Or.inl ⟨rfl, rfl⟩⟩)⟩
      · rw [if_neg q] at h; cases h
    rw [if_neg c5] at h
    by_cases c6 : c = 120
    · rw [if_pos c6] at h
      by_cases q : s.m < 24
      · rw [if_pos q] at h; cases h; exact ws_en w hp q (by omega)
      · rw [if_neg q] at h; cases h
    rw [if_neg c6] at h
    cases h
  · rw [if_neg hp] at h
    by_cases c1 : c < 48 ∨ 57 < c
    · rw [if_pos c1] at h; cases h
    rw [if_neg c1] at h
    by_cases c2 : s.p = 118
    · rw [if_pos c2] at h
      obtain ⟨hV, hd⟩ : s.V < 4 ∧ (s.d = 0 ∧ s.nu = 0 ∨ s.d = 1 ∧ s.nu ≤ 9 ∨ s.d = 2 ∧ s.nu ≤ 99) := by
        rcases w.p with q | q | q
        · omega
        · exact q.2
        · omega
      by_cases c3 : s.d = 2
      · rw [if_pos c3] at h
        cases h
        refine ⟨hV, fun v hv => ?_, w.ca, w.la, w.m, w.en, Or.inl rfl⟩
        have hv : v < s.V + 1 := hv
        show un s.se s.V s.nu v ≤ 99
        by_cases q : v = s.V
        · subst q
          rw [un_at]
          omega
        · rw [un_ne _ _ q]
          exact w.se v (by omega)
      · rw [if_neg c3] at h
        cases h
        refine ⟨w.V, w.se, w.ca, w.la, w.m, w.en, Or.inr (Or.inl ⟨c2, hV, ?_⟩)⟩
        show s.d + 1 = 0 ∧ _ ∨ s.d + 1 = 1 ∧ s.nu * 10 + (c - 48) ≤ 9 ∨ s.d + 1 = 2 ∧ s.nu * 10 + (c - 48) ≤ 99
        omega
    · rw [if_neg c2] at h
      obtain ⟨h1, h2⟩ : (s.p = 99 ∧ s.ca < 99 ∨ s.p = 108 ∧ s.la < 99) ∧ (s.d = 0 ∧ s.nu = 0 ∨ s.d = 1 ∧ s.nu ≤ 9) := by
        rcases w.p with q | q | q
        · omega
        · omega
        · exact q
      by_cases c3 : s.d = 0
      · rw [if_pos c3] at h
        by_cases q : (c - 48) * 10 + (if s.p = 108 then s.la else s.ca) ≤ 99
        · rw [if_pos q] at h
          cases h
          refine ⟨w.V, w.se, w.ca, w.la, w.m, w.en, Or.inr (Or.inr ⟨h1, Or.inr ⟨rfl, ?_⟩⟩)⟩
          show c - 48 ≤ 9
          omega
        · rw [if_neg q] at h; cases h
      · rw [if_neg c3] at h
        by_cases q : 1 ≤ s.nu * 10 + (c - 48) ∧ s.nu * 10 + (c - 48) + (if s.p = 108 then s.la else s.ca) ≤ 99
        · rw [if_pos q] at h
          by_cases q2 : s.p = 108
          · rw [if_pos q2] at h q
            cases h
            refine ⟨w.V, w.se, w.ca, ?_, w.m, w.en, Or.inl rfl⟩
            show s.la + (s.nu * 10 + (c - 48)) ≤ 99
            omega
          · rw [if_neg q2] at h q
            cases h
            refine ⟨w.V, w.se, ?_, w.la, w.m, w.en, Or.inl rfl⟩
            show s.ca + (s.nu * 10 + (c - 48)) ≤ 99
            omega
        · rw [if_neg q] at h; cases h
/-- the class's reader behind the head -/
def HC (h : PH) (s : BS) : Prop := h.1 8 2 = nI 11 ∧ h.1 8 3 = nI s.p ∧ (s.p ≠ 0 → h.1 8 4 = nI s.d ∧ h.1 8 5 = nI s.nu) ∧ h.1 9 5 = nI s.V ∧ (∀ v, v < s.V → h.1 18 v = nI (s.se v) ∧ h.1 11 v = s.dr v) ∧ h.1 15 7 = nI s.ca ∧ h.1 15 8 = nI s.la ∧ h.1 15 6 = nI s.m ∧ ∀ i, i < s.m → h.1 19 i = nI (s.en i)
section
theorem HC.t {h : PH} {s : BS} (w : HC h s) : h.1 8 2 = nI 11 := w.1
theorem HC.p {h : PH} {s : BS} (w : HC h s) : h.1 8 3 = nI s.p := w.2.1
theorem HC.d {h : PH} {s : BS} (w : HC h s) : s.p ≠ 0 → h.1 8 4 = nI s.d ∧ h.1 8 5 = nI s.nu := w.2.2.1
theorem HC.V {h : PH} {s : BS} (w : HC h s) : h.1 9 5 = nI s.V := w.2.2.2.1
theorem HC.se {h : PH} {s : BS} (w : HC h s) : ∀ v, v < s.V → h.1 18 v = nI (s.se v) ∧ h.1 11 v = s.dr v := w.2.2.2.2.1
theorem HC.ca {h : PH} {s : BS} (w : HC h s) : h.1 15 7 = nI s.ca := w.2.2.2.2.2.1
theorem HC.la {h : PH} {s : BS} (w : HC h s) : h.1 15 8 = nI s.la := w.2.2.2.2.2.2.1
theorem HC.m {h : PH} {s : BS} (w : HC h s) : h.1 15 6 = nI s.m := w.2.2.2.2.2.2.2.1
theorem HC.en {h : PH} {s : BS} (w : HC h s) : ∀ i, i < s.m → h.1 19 i = nI (s.en i) := w.2.2.2.2.2.2.2.2
end
/-- what the class's reader leaves as it was -/
def FrC (h h' : PH) : Prop := (∀ a b, ¬ (a = 8 ∨ a = 11 ∨ a = 18 ∨ a = 19 ∨ (a = 9 ∧ b = 5) ∨ (a = 15 ∧ 6 ≤ b ∧ b ≤ 8)) → h'.1 a b = h.1 a b) ∧ h'.2 = h.2
theorem rsi (h : PH) (k i : Nat) (v : Int32) (a b : Nat) : (si h k i v).1 a b = if a = k ∧ b = i then v else h.1 a b := rfl
theorem isdig_t : ∀ c, c < 256 → isw (nI c) 48 57 = if c < 48 ∨ 57 < c then 0 else 1 := by decide +kernel
theorem isDigit2_eq {c : Nat} (hc : c ≤ 255) (h : PH) : f_X2_isDigit (nI c) h = some (if c < 48 ∨ 57 < c then 0 else 1, h) := by
  unfold f_X2_isDigit
  rw [isWithin_eq, bd_at, bz_at (isw_01 _ _ _), isdig_t c (by omega)]
