theorem nI_mul (a b : Nat) : nI a * nI b = nI (a * b) := (Int32.ofNat_mul a b).symm
theorem al_all : ∀ o, o < 128 → kd o = 2 → al (o + 1) = 9 ∧ al (o + 2) = 9 ∧ al (o + 3) = 4 ∧ al (o + 4) = 24 ∧ 15 ≤ o ∧ o ≤ 105 := by decide +kernel
theorem al_st {o : Nat} (h : kd o = 2) : al (o + 1) = 9 ∧ al (o + 2) = 9 ∧ al (o + 3) = 4 ∧ al (o + 4) = 24 ∧ 15 ≤ o ∧ o ≤ 105 := al_all o (kd_lt 2 (by decide) h) h
def cpS (D S : SS) : SS := u2 (u2 (u2 (u2 (u2 (u2 (u2 (u2 (u2 (u2 (u2 (u2 (u1 (u2 (u1 (u1 (u1 D 1 (va_cpy (S 1) (D 1) 0 0 9)) 2 (va_cpy (S 2) (D 2) 0 0 9)) 3 (va_cpy (S 3) (D 3) 0 0 4)) 0 4 (S 0 4)) 4 (va_cpy (S 4) (D 4) 0 0 24)) 0 6 (S 0 6)) 0 7 (S 0 7)) 0 8 (S 0 8)) 0 9 (S 0 9)) 0 10 (S 0 10)) 0 11 (S 0 11)) 0 12 (S 0 12)) 0 13 (S 0 13)) 0 14 (S 0 14)) 0 15 (S 0 15)) 0 16 (S 0 16)) 0 17 (S 0 17)
theorem cpS_0 (D S : SS) {i : Nat} (h1 : 6 ≤ i) (h2 : i ≤ 17) : cpS D S 0 i = S 0 i := by
  have key : i = 6 ∨ i = 7 ∨ i = 8 ∨ i = 9 ∨ i = 10 ∨ i = 11 ∨ i = 12 ∨ i = 13 ∨ i = 14 ∨ i = 15 ∨ i = 16 ∨ i = 17 := by omega
  rcases key with rfl | rfl | rfl | rfl | rfl | rfl | rfl | rfl | rfl | rfl | rfl | rfl <;> rfl
theorem cpS_04 (D S : SS) : cpS D S 0 4 = S 0 4 := rfl
theorem cpS_1 (D S : SS) {i : Nat} (h : i < 9) : cpS D S 1 i = S 1 i := by
  show va_cpy (S 1) (D 1) 0 0 9 i = S 1 i
  unfold va_cpy
  rw [if_pos (by omega)]
  congr 1
  omega
theorem cpS_2 (D S : SS) {i : Nat} (h : i < 9) : cpS D S 2 i = S 2 i := by
  show va_cpy (S 2) (D 2) 0 0 9 i = S 2 i
  unfold va_cpy
  rw [if_pos (by omega)]
  congr 1
  omega
theorem cpS_3 (D S : SS) {i : Nat} (h : i < 4) : cpS D S 3 i = S 3 i := by
  show va_cpy (S 3) (D 3) 0 0 4 i = S 3 i
  unfold va_cpy
  rw [if_pos (by omega)]
  congr 1
  omega
theorem cpS_4 (D S : SS) {i : Nat} (h : i < 24) : cpS D S 4 i = S 4 i := by
  show va_cpy (S 4) (D 4) 0 0 24 i = S 4 i
  unfold va_cpy
  rw [if_pos (by omega)]
  congr 1
  omega
theorem sa_put3 (h : PH) (o : Nat) (S : SS) (f : Nat → Int32) : sa (put h o S) (o + 3) f = put h o (u1 S 3 f) := sa_put h o S (by decide) f
theorem x_copy {h : PH} {o q : Nat} (ho : kd o = 2) (hq : kd q = 2) (hap : o + 5 ≤ q ∨ q + 5 ≤ o) (h10 : h.1 q 10 = 0 ∨ h.1 q 10 = 1) (h11 : h.1 q 11 = 0 ∨ h.1 q 11 = 1) : f_X3_copyFrom o q h = some ((), put h o (cpS (vw h o) (vw h q))) := by
  obtain ⟨a1, a2, a3, a4, -⟩ := al_st ho
  obtain ⟨b1, b2, b3, b4, -⟩ := al_st hq
  have q0 : ∀ T : SS, (put h o T).1 q = h.1 q := fun T => put_out h o T (by omega)
  have q1 : ∀ T : SS, (put h o T).1 (q + 1) = h.1 (q + 1) := fun T => put_out h o T (by omega)
  have q2 : ∀ T : SS, (put h o T).1 (q + 2) = h.1 (q + 2) := fun T => put_out h o T (by omega)
  have q3 : ∀ T : SS, (put h o T).1 (q + 3) = h.1 (q + 3) := fun T => put_out h o T (by omega)
  have q4 : ∀ T : SS, (put h o T).1 (q + 4) = h.1 (q + 4) := fun T => put_out h o T (by omega)
  have start : f_X3_copyFrom o q h = f_X3_copyFrom o q (put h o (vw h o)) := by rw [put_vw]
  rw [start]
  generalize hD : vw h o = D
  unfold f_X3_copyFrom
  rw [gd_at ho, gd_at hq,
    cp_at 0 0 9 L0 L0 L9 (by omega) (by omega) (by omega) (by omega), sa_put1, q1, put_1,
    cp_at 0 0 9 L0 L0 L9 (by omega) (by omega) (by omega) (by omega), sa_put2, q2, put_2,
    cp_at 0 0 4 L0 L0 L4 (by omega) (by omega) (by omega) (by omega), sa_put3, q3, put_3,
    XC.s0, q0, cp_at 0 0 24 L0 L0 L24 (by omega) (by omega) (by omega) (by omega), sa_put4, q4, put_4,
    XC.s0, q0, XC.s0, q0, XC.s0, q0, XC.s0, q0, q0, bz_at h10, XC.s0, q0, bz_at h11, XC.s0, q0, XC.s0, q0, XC.s0, q0, XC.s0, q0, XC.s0, q0, XC.s0, q0, XC.s0]
  rfl
/-- a row of a long array -/
def dv (h : PH) (p j : Nat) : RW := fun x => h.1 p (103 * j + x)
section
variable {h : PH}
theorem sa_sa (h : PH) (k : Nat) (f g : Nat → Int32) : sa (sa h k f) k g = sa h k g := by
  apply Prod.ext
  · funext a
    show (if a = k then g else if a = k then f else h.1 a) = (if a = k then g else h.1 a)
    by_cases q : a = k
    · rw [if_pos q, if_pos q]
    · rw [if_neg q, if_neg q, if_neg q]
  · rfl
theorem si_sa (h : PH) (k : Nat) (f : Nat → Int32) (i : Nat) (v : Int32) : si (sa h k f) k i v = sa h k (upd f i v) := by
  apply Prod.ext
  · funext a b
    show (if a = k ∧ b = i then v else (if a = k then f else h.1 a) b) = (if a = k then upd f i v else h.1 a) b
    by_cases q : a = k
    · simp only [q, true_and, if_true]
      rfl
    · simp only [q, false_and, if_false]
  · rfl
theorem sa_id (h : PH) (k : Nat) : sa h k (h.1 k) = h := by
  apply Prod.ext
  · funext a
    show (if a = k then h.1 k else h.1 a) = h.1 a
    by_cases q : a = k
    · rw [if_pos q, q]
    · rw [if_neg q]
  · rfl
theorem sa_at (h : PH) (k : Nat) (f : Nat → Int32) : (sa h k f).1 k = f := by
  show (if k = k then f else h.1 k) = f
  rw [if_pos rfl]
theorem sa_ne (h : PH) {k a : Nat} (f : Nat → Int32) (q : a ≠ k) : (sa h k f).1 a = h.1 a := by
  show (if a = k then f else h.1 a) = h.1 a
  rw [if_neg q]
theorem si_oth (h : PH) (k : Nat) {i j : Nat} (v : Int32) (q : j ≠ i) : (si h k i v).1 k j = h.1 k j := by
  show (if k = k ∧ j = i then v else h.1 k j) = h.1 k j
  rw [if_neg (fun z => q z.2)]
theorem si_slf (h : PH) (k i : Nat) (v : Int32) : (si h k i v).1 k i = v := by
  show (if k = k ∧ i = i then v else h.1 k i) = v
  rw [if_pos ⟨rfl, rfl⟩]
/-- c entries from index s of f over those from d of g -/
def sg (f : Nat → Int32) (g : Nat → Int32) (s d c : Nat) : Nat → Int32 := fun x => if d ≤ x ∧ x < d + c then f (s + (x - d)) else g x
theorem sg_0 (f g : Nat → Int32) (s d : Nat) : sg f g s d 0 = g := by
  funext x
  unfold sg
  rw [if_neg (by omega)]
theorem sg_1 (f g : Nat → Int32) (s d c : Nat) : upd (sg f g s d c) (d + c) (f (s + c)) = sg f g s d (c + 1) := by
  funext x
  unfold upd
  by_cases q : x = d + c
  · rw [if_pos q]
    unfold sg
    rw [if_pos (by omega), q, Nat.add_sub_cancel_left]
  · rw [if_neg q]
    unfold sg
    by_cases q1 : d ≤ x ∧ x < d + c
    · rw [if_pos q1, if_pos (by omega)]
    · rw [if_neg q1, if_neg (by omega)]

theorem m_copy_b2 : ∀ (n i : Nat), i ≤ 103 → 103 < i + n → f_X5_copy_b2 114 115 n (nI i) (sa h 115 (sg (h.1 114) (h.1 115) 0 0 i)) = some ((), sa h 115 (sg (h.1 114) (h.1 115) 0 0 103)) := by
  intro n
  induction n with
  | zero => intro i h1 h2; omega
  | succ n ih =>
    intro i h1 h2
    unfold f_X5_copy_b2
    by_cases h3 : i = 103
    · rw [h3, if_pos (by decide)]
    · rw [if_neg (by rw [L103]; exact nI_ge (by omega) (by omega)), rd_at i rfl (by show i < 103; omega) (by decide), sa_ne _ _ (by decide), wr_at i rfl (by show i < 103; omega) (by decide), si_sa, nI_1]
      have := sg_1 (h.1 114) (h.1 115) 0 0 i
      rw [Nat.zero_add] at this
      rw [this]
      exact ih (i + 1) (by omega) (by omega)
theorem m_copy : f_X5_copy 114 115 h = some ((), sa h 115 (sg (h.1 114) (h.1 115) 0 0 103)) := by
  unfold f_X5_copy
  rw [gd_at kd_114, gd_at kd_115]
  have := m_copy_b2 (h := h) 200 0 (by omega) (by omega)
  rw [sg_0, sa_id] at this
  exact this
-- the diary
theorem m_note_b2 {nx pc : Nat} (h13 : h.1 110 13 = nI nx) (hnx : nx < 14) (h12 : h.1 110 12 = nI pc) (hpc : pc ≤ 14) : ∀ (n i : Nat), i ≤ 103 → 103 < i + n → f_X5_note_b2 n (nI i) (sa h 116 (sg (h.1 114) (h.1 116) 0 (103 * nx) i)) = some ((), si (si (sa h 116 (sg (h.1 114) (h.1 116) 0 (103 * nx) 103)) 110 13 (nI ((nx + 1) % 14))) 110 12 (nI (if pc < 14 then pc + 1 else 14))) := by
  intro n
  induction n with
  | zero => intro i h1 h2; omega
  | succ n ih =>
    intro i h1 h2
    have e110 : ∀ f : Nat → Int32, (sa h 116 f).1 110 = h.1 110 := fun f => sa_ne _ _ (by decide)
    have e114 : ∀ f : Nat → Int32, (sa h 116 f).1 114 = h.1 114 := fun f => sa_ne _ _ (by decide)
    unfold f_X5_note_b2
    by_cases h3 : i = 103
    · rw [h3, if_pos (by decide), st_at, e110, h13, nI_1, L14, irm_nI (by omega) (by omega) (by omega)]
      have e12 : (si (sa h 116 (sg (h.1 114) (h.1 116) 0 (103 * nx) 103)) 110 13 (nI ((nx + 1) % 14))).1 110 12 = nI pc := by
        rw [si_oth _ _ _ (by decide), e110, h12]
      rw [e12]
      by_cases h4 : pc < 14
      · rw [if_neg (nI_ge (by omega) (by omega)), if_pos h4, st_at, nI_1]
      · rw [if_pos (nI_le (by omega) (by omega)), if_neg h4, st_at]
    · rw [if_neg (by rw [L103]; exact nI_ge (by omega) (by omega)), rd_at i rfl (by show i < 103; omega) (by decide), e114, e110, h13, L103, nI_mul, nI_add, wr_at (103 * nx + i) rfl (by show 103 * nx + i < 1442; omega) (by decide), si_sa, nI_1]
      have := sg_1 (h.1 114) (h.1 116) 0 (103 * nx) i
      rw [Nat.zero_add] at this
      rw [this]
      exact ih (i + 1) (by omega) (by omega)
theorem m_note {nx pc : Nat} (h13 : h.1 110 13 = nI nx) (hnx : nx < 14) (h12 : h.1 110 12 = nI pc) (hpc : pc ≤ 14) : f_X5_note h = some ((), si (si (sa h 116 (sg (h.1 114) (h.1 116) 0 (103 * nx) 103)) 110 13 (nI ((nx + 1) % 14))) 110 12 (nI (if pc < 14 then pc + 1 else 14))) := by
  unfold f_X5_note
  have := m_note_b2 h13 hnx h12 hpc 200 0 (by omega) (by omega)
  rw [sg_0, sa_id] at this
  exact this
theorem m_undo_b38 {nx : Nat} (h13 : h.1 110 13 = nI nx) (hnx : nx < 14) : ∀ (n i : Nat), i ≤ 103 → 103 < i + n → f_X5_undo_b38 n (nI i) (sa h 114 (sg (h.1 116) (h.1 114) (103 * nx) 0 i)) = some (h.1 110 12, sa h 114 (sg (h.1 116) (h.1 114) (103 * nx) 0 103)) := by
  intro n
  induction n with
  | zero => intro i h1 h2; omega
  | succ n ih =>
    intro i h1 h2
    have e110 : ∀ f : Nat → Int32, (sa h 114 f).1 110 = h.1 110 := fun f => sa_ne _ _ (by decide)
    unfold f_X5_undo_b38
    by_cases h3 : i = 103
    · rw [h3, if_pos (by decide), e110]
    · rw [if_neg (by rw [L103]; exact nI_ge (by omega) (by omega)), e110, h13, L103, nI_mul, nI_add, rd_at (103 * nx + i) rfl (by show 103 * nx + i < 1442; omega) (by decide), sa_ne _ _ (by decide), wr_at i rfl (by show i < 103; omega) (by decide), si_sa, nI_1]
      have := sg_1 (h.1 116) (h.1 114) (103 * nx) 0 i
      rw [Nat.zero_add] at this
      rw [this]
      exact ih (i + 1) (by omega) (by omega)
theorem m_keep_b20 {j : Nat} (hj : j < 2) : ∀ (n i : Nat), i ≤ 103 → 103 < i + n → f_X5_keep_b20 n (nI j) (nI i) (sa h 117 (sg (h.1 114) (h.1 117) 0 (103 * j) i)) = some (h.1 114 71, sa h 117 (sg (h.1 114) (h.1 117) 0 (103 * j) 103)) := by
  intro n
  induction n with
  | zero => intro i h1 h2; omega
  | succ n ih =>
    intro i h1 h2
    unfold f_X5_keep_b20
    by_cases h3 : i = 103
    · rw [h3, if_pos (by decide), rd_at 71 L71 (by decide) (by decide), sa_ne _ _ (by decide)]
    · rw [if_neg (by rw [L103]; exact nI_ge (by omega) (by omega)), rd_at i rfl (by show i < 103; omega) (by decide), sa_ne _ _ (by decide), L103, nI_mul, nI_add, wr_at (103 * j + i) rfl (by show 103 * j + i < 206; omega) (by decide), si_sa, nI_1]
      have := sg_1 (h.1 114) (h.1 117) 0 (103 * j) i
      rw [Nat.zero_add] at this
      rw [this]
      exact ih (i + 1) (by omega) (by omega)
theorem m_again_b25 {j : Nat} (hj : j < 2) : ∀ (n i : Nat), i ≤ 103 → 103 < i + n → f_X5_again_b25 n (nI j) (nI i) (sa h 114 (sg (h.1 117) (h.1 114) (103 * j) 0 i)) = some (sg (h.1 117) (h.1 114) (103 * j) 0 103 71, si (sa h 114 (sg (h.1 117) (h.1 114) (103 * j) 0 103)) 110 12 0) := by
  intro n
  induction n with
  | zero => intro i h1 h2; omega
  | succ n ih =>
    intro i h1 h2
    unfold f_X5_again_b25
    by_cases h3 : i = 103
    · rw [h3, if_pos (by decide), st_at, rd_at 71 L71 (by decide) (by decide)]
      have e : (si (sa h 114 (sg (h.1 117) (h.1 114) (103 * j) 0 103)) 110 12 0).1 114 = (sa h 114 (sg (h.1 117) (h.1 114) (103 * j) 0 103)).1 114 := si_ne _ _ _ _ (by decide)
      rw [e, sa_at]
    · rw [if_neg (by rw [L103]; exact nI_ge (by omega) (by omega)), L103, nI_mul, nI_add, rd_at (103 * j + i) rfl (by show 103 * j + i < 206; omega) (by decide), sa_ne _ _ (by decide), wr_at i rfl (by show i < 103; omega) (by decide), si_sa, nI_1]
      have := sg_1 (h.1 117) (h.1 114) (103 * j) 0 i
      rw [Nat.zero_add] at this
      rw [this]
      exact ih (i + 1) (by omega) (by omega)
end
