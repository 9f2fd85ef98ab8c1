-- when the marks can have slipped
def ov (M : SS) (w : Nat) : Int32 := if w = 0 then M 0 12 else if w = 1 then M 0 14 else M 0 13
def ovR (r : RW) (w : Nat) : Int32 := if w = 0 then r 72 else if w = 1 then r 74 else r 73
def stS (pn : Nat → Nat) (dr : Nat → Int32) (i t : Nat) (S : SS) : SS := cAdv pn dr 1 (if t = i then cMm pn S else S)
def stR (pn : Nat → Nat) (dr : Nat → Int32) (i t : Nat) (r : RW) : RW := mAdv pn dr 15 1 (if t = i then mSl pn r else r)
def chS (pn : Nat → Nat) (dr : Nat → Int32) (i : Nat) (N : SS) : Nat → SS
  | 0 => N
  | t + 1 => stS pn dr i t (chS pn dr i N t)
/-- do the observations from the k-th on that speak of time t hold of M -/
def agF (wh af : Nat → Nat) (vl : Nat → Int32) (t : Nat) (M : SS) : Nat → Nat → Bool
  | 0, _ => true
  | n + 1, k => (if af k = t then decide (ov M (wh k) = vl k) else true) && agF wh af vl t M n (k + 1)
def okF (pn : Nat → Nat) (dr : Nat → Int32) (wh af : Nat → Nat) (vl : Nat → Int32) (sc i : Nat) : Nat → Nat → SS → Bool
  | 0, _, _ => true
  | n + 1, t, M => agF wh af vl t M sc 0 && okF pn dr wh af vl sc i n (t + 1) (stS pn dr i t M)
/-- do the observations from the k-th on hold -/
def alF (pn : Nat → Nat) (dr : Nat → Int32) (wh af : Nat → Nat) (vl : Nat → Int32) (i : Nat) (N : SS) : Nat → Nat → Bool
  | 0, _ => true
  | n + 1, k => decide (ov (chS pn dr i N (af k)) (wh k) = vl k) && alF pn dr wh af vl i N n (k + 1)
def b01 (b : Bool) : Int32 := if b then 1 else 0
theorem ag_iff (wh af : Nat → Nat) (vl : Nat → Int32) (t : Nat) (M : SS) : ∀ n k, agF wh af vl t M n k = true ↔ ∀ j, k ≤ j → j < k + n → af j = t → ov M (wh j) = vl j := by
  intro n
  induction n with
  | zero => intro k; exact ⟨fun _ j h1 h2 => by omega, fun _ => rfl⟩
  | succ n ih =>
    intro k
    unfold agF
    rw [Bool.and_eq_true, ih]
    constructor
    · intro ⟨q1, q2⟩ j h1 h2 h3
      by_cases z : j = k
      · subst z
        rw [if_pos h3, decide_eq_true_eq] at q1
        exact q1
      · exact q2 j (by omega) (by omega) h3
    · intro q
      refine ⟨?_, fun j h1 h2 h3 => q j (by omega) (by omega) h3⟩
      by_cases z : af k = t
      · rw [if_pos z, decide_eq_true_eq]
        exact q k (by omega) (by omega) z
      · rw [if_neg z]
theorem al_iff (pn : Nat → Nat) (dr : Nat → Int32) (wh af : Nat → Nat) (vl : Nat → Int32) (i : Nat) (N : SS) : ∀ n k, alF pn dr wh af vl i N n k = true ↔ ∀ j, k ≤ j → j < k + n → ov (chS pn dr i N (af j)) (wh j) = vl j := by
  intro n
  induction n with
  | zero => intro k; exact ⟨fun _ j h1 h2 => by omega, fun _ => rfl⟩
  | succ n ih =>
    intro k
    unfold alF
    rw [Bool.and_eq_true, ih, decide_eq_true_eq]
    constructor
    · intro ⟨q1, q2⟩ j h1 h2
      by_cases z : j = k
      · subst z; exact q1
      · exact q2 j (by omega) (by omega)
    · intro q
      exact ⟨q k (by omega) (by omega), fun j h1 h2 => q j (by omega) (by omega)⟩
theorem ok_iff (pn : Nat → Nat) (dr : Nat → Int32) (wh af : Nat → Nat) (vl : Nat → Int32) (sc i : Nat) (N : SS) : ∀ n t, okF pn dr wh af vl sc i n t (chS pn dr i N t) = true ↔ ∀ j, j < sc → t ≤ af j → af j < t + n → ov (chS pn dr i N (af j)) (wh j) = vl j := by
  intro n
  induction n with
  | zero => intro t; exact ⟨fun _ j _ h1 h2 => by omega, fun _ => rfl⟩
  | succ n ih =>
    intro t
    unfold okF
    rw [Bool.and_eq_true, ag_iff]
    have e : stS pn dr i t (chS pn dr i N t) = chS pn dr i N (t + 1) := rfl
    rw [e, ih]
    constructor
    · intro ⟨q1, q2⟩ j h1 h2 h3
      by_cases z : af j = t
      · rw [z]; exact q1 j (by omega) (by omega) z
      · exact q2 j h1 (by omega) (by omega)
    · intro q
      refine ⟨fun j h1 h2 h3 => ?_, fun j h1 h2 h3 => q j h1 (by omega) (by omega)⟩
      have := q j (by omega) (by omega) (by omega)
      rw [h3] at this
      exact this
section
variable {h : PH} {pn : Nat → Nat} {dr : Nat → Int32} {B sc : Nat} {wh af : Nat → Nat} {vl : Nat → Int32}
theorem ov_eq {S : SS} {r : RW} (q : RO pn B S r) (w : Nat) : ov S w = ovR r w := by
  unfold ov ovR
  rw [q.1.2.2.2.1.1.2.2.2.2.2.1, q.1.2.2.2.1.1.2.2.2.2.2.2.1, q.1.2.2.2.1.1.2.2.2.2.2.2.2.1]
theorem RO_st (hN : PN pn) {S : SS} {r : RW} (i t : Nat) (hB : B < 2 ^ 28) (q : RO pn B S r) : RO pn (B + 1) (stS pn dr i t S) (stR pn dr i t r) := by
  unfold stS stR
  refine adv_ro hN 1 (by omega) ?_
  by_cases z : t = i
  · rw [if_pos z, if_pos z]; exact ⟨R_slip hN q.1, q.2⟩
  · rw [if_neg z, if_neg z]; exact q
/-- the observations as the class and the reference hold them -/
def OBS (h : PH) (sc : Nat) (wh af : Nat → Nat) (vl : Nat → Int32) : Prop := sc ≤ 6 ∧ h.1 0 14 = nI sc ∧ h.1 110 19 = nI sc ∧ ∀ k, k < sc → (h.1 5 k = nI (wh k) ∧ h.1 6 k = nI (af k) ∧ h.1 7 k = vl k) ∧ (h.1 119 k = nI (wh k) ∧ h.1 120 k = nI (af k) ∧ h.1 121 k = vl k) ∧ wh k ≤ 2 ∧ af k ≤ 20
theorem x_agrees (O : OBS h sc wh af vl) {t : Nat} (ht : t ≤ 20) (T : SS) : ∀ (n k : Nat), k ≤ sc → sc < k + n → f_X4_agreesAfter_b2 n (nI t) (nI k) (put h 25 T) = some (b01 (agF wh af vl t T (sc - k) k), put h 25 T) := by
  obtain ⟨o1, o2, -, o4⟩ := O
  intro n
  induction n with
  | zero => intro k h1 h2; omega
  | succ n ih =>
    intro k h1 h2
    unfold f_X4_agreesAfter_b2
    rw [put_out _ _ _ (by omega), o2]
    by_cases h3 : k = sc
    · subst h3
      rw [if_pos (nI_le (Nat.le_refl _) (by omega)), Nat.sub_self]
      rfl
    · obtain ⟨⟨a5, a6, a7⟩, -, w2, f20⟩ := o4 k (by omega)
      rw [if_neg (nI_ge (by omega) (by omega)), rd_at k rfl (by show k < 6; omega) (by decide), put_out _ _ _ (by omega), a6]
      have e : sc - k = (sc - (k + 1)) + 1 := by omega
      rw [e]
      unfold agF
      by_cases h4 : af k = t
      · rw [if_pos (by rw [h4]), if_pos h4, rd_at k rfl (by show k < 6; omega) (by decide), put_out _ _ _ (by omega), a5]
        have eo : f_X3_observed 25 (nI (wh k)) (put h 25 T) = some (ov T (wh k), put h 25 T) := by
          unfold f_X3_observed ov
          rw [gd_at kd_25, put_0]
          rcases (show wh k = 0 ∨ wh k = 1 ∨ wh k = 2 by omega) with z | z | z <;> rw [z] <;> rfl
        rw [eo, bd_at, rd_at k rfl (by show k < 6; omega) (by decide), put_out _ _ _ (by omega), a7]
        by_cases h5 : ov T (wh k) = vl k
        · rw [if_pos h5, nI_1, ih (k + 1) (by omega) (by omega), decide_eq_true h5, Bool.true_and]
        · rw [if_neg h5, decide_eq_false h5, Bool.false_and]
          rfl
      · rw [if_neg (by rw [nI_eq (by omega) (by omega)]; exact h4), if_neg h4, nI_1, ih (k + 1) (by omega) (by omega), Bool.true_and]
theorem ag_cg {T M : SS} {t : Nat} (q : ∀ w, ov T w = ov M w) : ∀ n k, agF wh af vl t T n k = agF wh af vl t M n k := by
  intro n
  induction n with
  | zero => intro k; rfl
  | succ n ih =>
    intro k
    unfold agF
    rw [q, ih]
theorem x_agSlip (z0 : I0 h pn dr) (O : OBS h sc wh af vl) (hB : B < 2 ^ 27) {i : Nat} (hi : i < 10) : ∀ (n t : Nat) (T M : SS) (r : RW), t ≤ 21 → 21 < t + n → RO pn (B + t) T r → RO pn (B + t) M r → ∃ S' : SS, f_X4_agreesWithSlipAfter_b13 n (nI i) (nI t) (put h 25 T) = some (b01 (okF pn dr wh af vl sc i (21 - t) t M), put h 25 S') := by
  have xc := xc_trial z0
  intro n
  induction n with
  | zero => intro t T M r h1 h2; omega
  | succ n ih =>
    intro t T M r h1 h2 q1 q2
    unfold f_X4_agreesWithSlipAfter_b13
    by_cases h3 : t = 21
    · subst h3
      exact ⟨T, by rw [if_pos (by decide)]; rfl⟩
    · have a1 := x_agrees O (t := t) (by omega) T 200 0 (by omega) (by have := O.1; omega)
      rw [Nat.sub_zero, ag_cg (M := M) (fun w => (ov_eq q1 w).trans (ov_eq q2 w).symm)] at a1
      have e : 21 - t = (21 - (t + 1)) + 1 := by omega
      rw [if_neg (by rw [L20]; exact nI_nlt (by omega) (by omega)), e]
      unfold f_X4_agreesAfter okF
      rw [L0, a1, bd_at]
      cases hA : agF wh af vl t M sc 0 with
      | false => exact ⟨T, by rw [if_pos (show b01 false = nI 0 from rfl)]; rfl⟩
      | true =>
        rw [if_neg (show ¬ b01 true = nI 0 by decide), Bool.true_and]
        have w1 := RO_st (dr := dr) z0.1 i t (by omega) q1
        have w2 := RO_st (dr := dr) z0.1 i t (by omega) q2
        obtain ⟨S', fin⟩ := ih (t + 1) _ _ _ (by omega) (by omega) w1 w2
        refine ⟨S', Eq.trans ?_ fin⟩
        unfold f_X4_agreesWithSlipAfter_b41 stS
        by_cases h4 : t = i
        · rw [if_pos (by rw [h4]), if_pos h4, x_moveMarks xc, bd_at, L1, x_adv_t z0 (B := B + t) (by omega) (by omega) (r := mSl pn r) ⟨R_slip z0.1 q1.1, q1.2⟩, bd_at, ← L1, nI_1]
        · rw [if_neg (by rw [nI_eq (by omega) (by omega)]; exact h4), if_neg h4, L1, x_adv_t z0 (B := B + t) (by omega) (by omega) q1, bd_at, ← L1, nI_1]
end
