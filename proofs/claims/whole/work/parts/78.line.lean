-- a new line
theorem rsa (h : PH) (k : Nat) (f : Nat → Int32) (a b : Nat) : (sa h k f).1 a b = if a = k then f b else h.1 a b := by
  show (if a = k then f else h.1 a) b = _
  by_cases q : a = k
  · rw [if_pos q, if_pos q]
  · rw [if_neg q, if_neg q]
theorem va_c0 (f g : Nat → Int32) {n i : Nat} (h : i < n) : va_cpy f g 0 0 n i = f i := by
  unfold va_cpy
  rw [if_pos (by omega)]
  congr 1
  omega
theorem x_pcopy (h : PH) : ∃ h', f_X1_copyFrom 12 9 h = some ((), h') ∧ (∀ a b, ¬ (12 ≤ a ∧ a ≤ 14) → h'.1 a b = h.1 a b) ∧ h'.2 = h.2 ∧ h'.1 12 0 = h.1 9 0 ∧ (∀ k, k < 5 → h'.1 13 k = h.1 10 k) ∧ h'.1 12 2 = h.1 9 2 ∧ h'.1 12 3 = h.1 9 3 ∧ h'.1 12 4 = h.1 9 4 ∧ h'.1 12 5 = h.1 9 5 ∧ ∀ v, v < 4 → h'.1 14 v = h.1 11 v := by
  unfold f_X1_copyFrom
  rw [gd_at kd_12, gd_at kd_9, st_at, cp_at 0 0 5 L0 L0 L5 (by decide) (by decide) (by decide) (by decide), st_at, st_at, st_at, st_at, cp_at 0 0 4 L0 L0 L4 (by decide) (by decide) (by decide) (by decide)]
  refine ⟨_, rfl, fun a b q => ?_, rfl, rfl, fun k hk => ?_, rfl, rfl, rfl, rfl, fun v hv => ?_⟩
  · rw [rsa, if_neg (by omega), rsi, if_neg (by omega), rsi, if_neg (by omega), rsi, if_neg (by omega), rsi, if_neg (by omega), rsa, if_neg (by omega), rsi, if_neg (by omega)]
  · rw [rsa, if_neg (by omega), rsi, if_neg (by omega), rsi, if_neg (by omega), rsi, if_neg (by omega), rsi, if_neg (by omega), rsa, if_pos rfl, va_c0 _ _ hk]
    rfl
  · rw [rsa, if_pos rfl, va_c0 _ _ hv]
    rfl
/-- the row of a new line, before what was read -/
def z14 (b : Nat) : Int32 := if 18 ≤ b ∧ b < 27 then -9 else 0
theorem m_l14 : ∀ (n i : Nat) (h : PH), i ≤ 103 → 103 < i + n → (∀ b, b < i → h.1 114 b = z14 b) → ∃ h', f_X5_line_b14 n (nI i) h = rd h' 123 0 (fun x3 => st h' 110 2 x3 (fun h4 => f_X5_line_b62 200 0 h4)) ∧ (∀ b, b < 103 → h'.1 114 b = z14 b) ∧ (∀ a b, a ≠ 114 → h'.1 a b = h.1 a b) ∧ h'.2 = h.2 := by
  intro n
  induction n with
  | zero => intro i h h1 h2; omega
  | succ n ih =>
    intro i h h1 h2 q
    unfold f_X5_line_b14
    by_cases h3 : i = 103
    · subst h3
      rw [if_pos (by decide)]
      exact ⟨h, rfl, q, fun _ _ _ => rfl, rfl⟩
    · have key : ∀ v : Int32, v = z14 i → ∃ h', wr h 114 (nI i) v (fun h5 => f_X5_line_b14 n (nI i + 1) h5) = rd h' 123 0 (fun x3 => st h' 110 2 x3 (fun h4 => f_X5_line_b62 200 0 h4)) ∧ (∀ b, b < 103 → h'.1 114 b = z14 b) ∧ (∀ a b, a ≠ 114 → h'.1 a b = h.1 a b) ∧ h'.2 = h.2 := by
        intro v hv
        rw [wr_at i rfl (by show i < 103; omega) (by decide), nI_1]
        obtain ⟨h', r1, r2, r3, r4⟩ := ih (i + 1) (si h 114 i v) (by omega) (by omega) (fun b hb => by
          by_cases z : b = i
          · rw [z, si_slf, hv]
          · rw [si_oth _ _ _ z]
            exact q b (by omega))
        exact ⟨h', r1, r2, fun a b z => (r3 a b z).trans (by rw [si_ne _ _ _ _ z]), r4⟩
      rw [if_neg (by rw [L103]; exact nI_ge (by omega) (by omega))]
      by_cases h4 : i < 18
      · rw [if_pos (by rw [L18]; exact nI_lt h4 (by omega))]
        exact key 0 (by unfold z14; rw [if_neg (by omega)])
      · rw [if_neg (by rw [L18]; exact nI_nlt (by omega) (by omega))]
        by_cases h5 : 27 ≤ i
        · rw [if_pos (by rw [L27]; exact nI_le h5 (by omega))]
          exact key 0 (by unfold z14; rw [if_neg (by omega)])
        · rw [if_neg (by rw [L27]; exact nI_ge (by omega) (by omega))]
          exact key (-9) (by unfold z14; rw [if_pos (by omega)])
theorem m_l62 : ∀ (n i : Nat) (h : PH), i ≤ 5 → 5 < i + n → (∀ k, k < i → h.1 112 k = h.1 123 (k + 1)) → ∃ h', f_X5_line_b62 n (nI i) h = st h' 110 4 (h'.1 110 26) (fun h8 => st h8 110 5 (h8.1 110 27) (fun h9 => st h9 110 6 (h9.1 110 28) (fun h10 => st h10 110 7 (h10.1 110 29) (fun h11 => f_X5_line_b121 200 0 h11)))) ∧ (∀ k, k < 5 → h'.1 112 k = h.1 123 (k + 1)) ∧ (∀ a b, a ≠ 112 → h'.1 a b = h.1 a b) ∧ h'.2 = h.2 := by
  intro n
  induction n with
  | zero => intro i h h1 h2; omega
  | succ n ih =>
    intro i h h1 h2 q
    unfold f_X5_line_b62
    by_cases h3 : i = 5
    · subst h3
      rw [if_pos (by decide)]
      exact ⟨h, rfl, q, fun _ _ _ => rfl, rfl⟩
    · rw [if_neg (by rw [L5]; exact nI_ge (by omega) (by omega)), nI_1, rd_at (i + 1) rfl (by show i + 1 < 6; omega) (by decide), wr_at i rfl (by show i < 5; omega) (by decide)]
      obtain ⟨h', r1, r2, r3, r4⟩ := ih (i + 1) (si h 112 i (h.1 123 (i + 1))) (by omega) (by omega) (fun b hb => by
        rw [si_ne _ _ _ _ (show 123 ≠ 112 by omega)]
        by_cases z : b = i
        · rw [z, si_slf]
        · rw [si_oth _ _ _ z]
          exact q b (by omega))
      refine ⟨h', r1, fun k hk => ?_, fun a b z => (r3 a b z).trans (by rw [si_ne _ _ _ _ z]), r4⟩
      rw [r2 k hk, si_ne _ _ _ _ (show 123 ≠ 112 by omega)]
theorem A63' (v : Nat) : (63 : Int32) + nI v = nI (63 + v) := A63 v
theorem m_l121 {V : Nat} (hV : V ≤ 4) : ∀ (n i : Nat) (h : PH), i ≤ V → V < i + n → h.1 110 7 = nI V → (∀ v, v < i → h.1 114 (63 + v) = h.1 124 v ∧ h.1 113 v = h.1 125 v) → ∃ h', f_X5_line_b121 n (nI i) h = rd h' 126 0 (fun x14 => wr h' 114 67 x14 (fun h15 => rd h15 126 1 (fun x16 => wr h15 114 68 x16 (fun h17 => wr h17 114 78 (h17.1 110 33) (fun h18 => f_X5_line_b201 200 0 h18))))) ∧ (∀ v, v < V → h'.1 114 (63 + v) = h.1 124 v ∧ h'.1 113 v = h.1 125 v) ∧ (∀ a b, ¬ (a = 113 ∨ (a = 114 ∧ 63 ≤ b ∧ b < 67)) → h'.1 a b = h.1 a b) ∧ h'.2 = h.2 := by
  intro n
  induction n with
  | zero => intro i h h1 h2; omega
  | succ n ih =>
    intro i h h1 h2 e7 q
    unfold f_X5_line_b121
    rw [e7]
    by_cases h3 : i = V
    · subst h3
      rw [if_pos (nI_le (Nat.le_refl _) (by omega))]
      exact ⟨h, rfl, q, fun _ _ _ => rfl, rfl⟩
    · rw [if_neg (nI_ge (by omega) (by omega)), rd_at i rfl (by show i < 4; omega) (by decide), wr_at (63 + i) (A63 i) (by show 63 + i < 103; omega) (by decide), rd_at i rfl (by show i < 4; omega) (by decide), wr_at i rfl (by show i < 4; omega) (by decide), nI_1]
      have e125 : (si h 114 (63 + i) (h.1 124 i)).1 125 i = h.1 125 i := by rw [si_ne _ _ _ _ (by omega)]
      rw [e125]
      obtain ⟨h', r1, r2, r3, r4⟩ := ih (i + 1) (si (si h 114 (63 + i) (h.1 124 i)) 113 i (h.1 125 i)) (by omega) (by omega) (by rw [si_ne _ _ _ _ (by omega), si_ne _ _ _ _ (by omega)]; exact e7) (fun b hb => by
        rw [rsi, if_neg (by omega), rsi, rsi, if_neg (show ¬ (124 = 113 ∧ b = i) by omega), rsi, if_neg (show ¬ (124 = 114 ∧ b = 63 + i) by omega), rsi, rsi (k := 114) (a := 113), if_neg (show ¬ (113 = 114 ∧ b = 63 + i) by omega), rsi, if_neg (show ¬ (125 = 113 ∧ b = i) by omega), rsi, if_neg (show ¬ (125 = 114 ∧ b = 63 + i) by omega)]
        by_cases z : b = i
        · rw [if_pos (by omega), if_pos ⟨rfl, z⟩, z]
          exact ⟨rfl, rfl⟩
        · rw [if_neg (by omega), if_neg (by omega)]
          exact q b (by omega))
      refine ⟨h', r1, fun v hv => ?_, fun a b z => (r3 a b z).trans (by rw [rsi, if_neg (by omega), rsi, if_neg (by omega)]), r4⟩
      have := r2 v hv
      rw [si_ne _ _ _ _ (show 124 ≠ 113 by omega), si_ne _ _ _ _ (show 124 ≠ 114 by omega), si_ne _ _ _ _ (show 125 ≠ 113 by omega), si_ne _ _ _ _ (show 125 ≠ 114 by omega)] at this
      exact this
theorem m_l201 {m : Nat} (hm : m ≤ 24) : ∀ (n i : Nat) (h : PH), i ≤ m → m < i + n → h.1 110 33 = nI m → (∀ k, k < i → h.1 114 (79 + k) = h.1 127 k) → ∃ h', f_X5_line_b201 n (nI i) h = some (h'.1 110 7, si (si (si h' 110 12 0) 118 0 0) 118 1 0) ∧ (∀ k, k < m → h'.1 114 (79 + k) = h.1 127 k) ∧ (∀ a b, ¬ (a = 114 ∧ 79 ≤ b) → h'.1 a b = h.1 a b) ∧ h'.2 = h.2 := by
  intro n
  induction n with
  | zero => intro i h h1 h2; omega
  | succ n ih =>
    intro i h h1 h2 e33 q
    unfold f_X5_line_b201
    rw [e33]
    by_cases h3 : i = m
    · subst h3
      rw [if_pos (nI_le (Nat.le_refl _) (by omega)), st_at, wr_at 0 L0 (by decide) (by decide), wr_at 1 L1 (by decide) (by decide)]
      exact ⟨h, rfl, q, fun _ _ _ => rfl, rfl⟩
    · rw [if_neg (nI_ge (by omega) (by omega)), rd_at i rfl (by show i < 24; omega) (by decide), wr_at (79 + i) (A79 i) (by show 79 + i < 103; omega) (by decide), nI_1]
      obtain ⟨h', r1, r2, r3, r4⟩ := ih (i + 1) (si h 114 (79 + i) (h.1 127 i)) (by omega) (by omega) (by rw [si_ne _ _ _ _ (by omega)]; exact e33) (fun b hb => by
        rw [si_ne _ _ _ _ (show 127 ≠ 114 by omega)]
        by_cases z : b = i
        · rw [z, si_slf]
        · rw [si_oth _ _ _ (show 79 + b ≠ 79 + i by omega)]
          exact q b (by omega))
      refine ⟨h', r1, fun k hk => ?_, fun a b z => (r3 a b z).trans (by rw [rsi, if_neg (by omega)]), r4⟩
      rw [r2 k hk, si_ne _ _ _ _ (show 127 ≠ 114 by omega)]
