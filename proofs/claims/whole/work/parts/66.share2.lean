-- share: the small numbers
def hd0 : PH := (fun _ _ => 0, fun _ => 0)
theorem irr {f : PH → Option (Int32 × PH)} {v : Int32} {h : PH} (q : f h = (f hd0).map (fun r => (r.1, h))) (e : (f hd0).map (·.1) = some v) : f h = some (v, h) := by
  rw [q]
  cases z : f hd0 with
  | none => rw [z] at e; cases e
  | some r =>
    rw [z] at e
    have e : some r.1 = some v := e
    cases e
    rfl
def pc (i : Nat) : Nat := i % 2 + i / 2 % 2 + i / 4 % 2 + i / 8 % 2 + i / 16 % 2 + i / 32 % 2
def fc (k : Nat) : Nat := if k = 0 then 1 else if k = 1 then 1 else if k = 2 then 2 else if k = 3 then 6 else if k = 4 then 24 else 0
theorem bc_t : ∀ i, i < 16 → (f_J6_bitCount_0f7a4 (nI i) hd0).map (·.1) = some (nI (pc i)) := by decide +kernel
theorem bc_eq {i : Nat} (hi : i < 16) (h : PH) : f_J6_bitCount_0f7a4 (nI i) h = some (nI (pc i), h) := irr rfl (bc_t i hi)
theorem on_irr (h : PH) : ∀ (n : Nat) (a b c : Int32), f_X5_ones_b4 n a b c h = (f_X5_ones_b4 n a b c hd0).map (fun r => (r.1, h)) := by
  intro n
  induction n with
  | zero => intro a b c; rfl
  | succ n ih =>
    intro a b c
    unfold f_X5_ones_b4
    split
    · rfl
    · exact ih _ _ _
theorem on_t : ∀ i, i < 64 → (f_X5_ones (nI i) hd0).map (·.1) = some (nI (pc i)) := by decide +kernel
theorem on_eq {i : Nat} (hi : i < 64) (h : PH) : f_X5_ones (nI i) h = some (nI (pc i), h) := irr (on_irr h _ _ _ _) (on_t i hi)
theorem cf_irr (h : PH) : ∀ (n : Nat) (a b c : Int32), f_X4_factorial_b4 n a b c h = (f_X4_factorial_b4 n a b c hd0).map (fun r => (r.1, h)) := by
  intro n
  induction n with
  | zero => intro a b c; rfl
  | succ n ih =>
    intro a b c
    unfold f_X4_factorial_b4
    split
    · rfl
    · split
      · rfl
      · exact ih _ _ _
theorem cf_t : ∀ i, i < 5 → (f_X4_factorial (nI i) hd0).map (·.1) = some (nI (fc i)) := by decide +kernel
theorem cf_eq {i : Nat} (hi : i < 5) (h : PH) : f_X4_factorial (nI i) h = some (nI (fc i), h) := irr (cf_irr h _ _ _ _) (cf_t i hi)
theorem cf_t2 : ∀ V, V < 5 → ∀ i, i < 16 → (f_X4_factorial (nI V - 1 - nI (pc i)) hd0).map (·.1) = some (nI (fc (V - 1 - pc i))) := by decide +kernel
theorem cf_eq2 {V i : Nat} (hV : V < 5) (hi : i < 16) (h : PH) : f_X4_factorial (nI V - 1 - nI (pc i)) h = some (nI (fc (V - 1 - pc i)), h) := irr (cf_irr h _ _ _ _) (cf_t2 V hV i hi)
theorem mf_irr (h : PH) : ∀ (n : Nat) (a b c : Int32), f_X5_factorial_b4 n a b c h = (f_X5_factorial_b4 n a b c hd0).map (fun r => (r.1, h)) := by
  intro n
  induction n with
  | zero => intro a b c; rfl
  | succ n ih =>
    intro a b c
    unfold f_X5_factorial_b4
    split
    · rfl
    · exact ih _ _ _
theorem mf_t : ∀ i, i < 5 → (f_X5_factorial (nI i) hd0).map (·.1) = some (nI (fc i)) := by decide +kernel
theorem mf_eq {i : Nat} (hi : i < 5) (h : PH) : f_X5_factorial (nI i) h = some (nI (fc i), h) := irr (mf_irr h _ _ _ _) (mf_t i hi)
theorem mf_t2 : ∀ V, V < 5 → ∀ i, i < 16 → (f_X5_factorial (nI V - 1 - nI (pc i)) hd0).map (·.1) = some (nI (fc (V - 1 - pc i))) := by decide +kernel
theorem mf_eq2 {V i : Nat} (hV : V < 5) (hi : i < 16) (h : PH) : f_X5_factorial (nI V - 1 - nI (pc i)) h = some (nI (fc (V - 1 - pc i)), h) := irr (mf_irr h _ _ _ _) (mf_t2 V hV i hi)
theorem all_t : ∀ V, V < 5 → ((1 : Int32) <<< (nI V &&& 31)) - 1 = nI (2 ^ V - 1) ∧ ((1 : Int32) <<< (nI V &&& 31)) = nI (2 ^ V) := by decide +kernel
theorem bit_t : ∀ v, v < 4 → ∀ i, i < 16 → ((nI i &&& ((1 : Int32) <<< (nI v &&& 31))) = 0 ↔ onM (nI i) v = 0) ∧ nI i ||| ((1 : Int32) <<< (nI v &&& 31)) = nI (i ||| 2 ^ v) := by decide +kernel
theorem off_t : ∀ V, V < 5 → ∀ i, i < 16 → i < 2 ^ V → ∀ u, u < V → (offI (fun _ _ => nI (2 ^ V - 1) &&& (nI i ^^^ (-1 : Int32))) u = 0 ↔ ¬ onM (nI i) u = 0) := by decide +kernel
theorem or_t : ∀ V, V < 5 → ∀ v, v < V → ∀ i, i < 16 → i < 2 ^ V → i ||| 2 ^ v < 2 ^ V := by decide +kernel
theorem p_le {V : Nat} (hV : V < 5) : 2 ^ V ≤ 16 := by
  have : ∀ V, V < 5 → 2 ^ V ≤ 16 := by decide +kernel
  exact this V hV
theorem pc_le (i : Nat) : pc i ≤ 6 := by unfold pc; omega
theorem pc_16 : ∀ i, i < 16 → pc i ≤ 4 := by decide +kernel
theorem fc_le : ∀ k, fc k ≤ 24 := by
  intro k
  unfold fc
  repeat' split
  all_goals omega
/-- the sum over the sets without the valve -/
def shS (W : Nat → Int32) (V v : Nat) : Nat → Nat → Int32 → Int32
  | 0, _, s => s
  | n + 1, i, s => if onM (nI i) v = 0 then shS W V v n (i + 1) (s + (nI (fc (pc i)) * nI (fc (V - 1 - pc i))) * (W (i ||| 2 ^ v) - W i)) else shS W V v n (i + 1) s
theorem nI_oi (a : Nat) : nI a = Int32.ofInt (a : Int) := Int32.ofInt_eq_ofNat.symm
theorem shS_bd {W : Nat → Int32} {c : Int32} {V v : Nat} (hW : ∀ s, s < 2 ^ V → ∃ d : Nat, d ≤ 30 ∧ W s = c + nI d) (hV : V < 5) (hv : v < V) : ∀ (n i : Nat) (z : Int), i + n ≤ 2 ^ V → ∃ y : Int, shS W V v n i (Int32.ofInt z) = Int32.ofInt y ∧ y ≤ z + n * 20000 ∧ z ≤ y + n * 20000 := by
  have hp := p_le hV
  intro n
  induction n with
  | zero => intro i z _; exact ⟨z, rfl, by omega, by omega⟩
  | succ n ih =>
    intro i z hi
    unfold shS
    split
    · obtain ⟨d1, h1, e1⟩ := hW (i ||| 2 ^ v) (or_t V hV v hv i (by omega) (by omega))
      obtain ⟨d2, h2, e2⟩ := hW i (by omega)
      have e3 : (c + nI d1) - (c + nI d2) = nI d1 - nI d2 := by
        rw [Int32.sub_eq_add_neg, Int32.neg_add, Int32.sub_eq_add_neg, Int32.sub_eq_add_neg, Int32.add_assoc, ← Int32.add_assoc (nI d1), Int32.add_comm (nI d1) (-c), Int32.add_assoc (-c), ← Int32.add_assoc c, Int32.add_right_neg, Int32.zero_add]
      rw [e1, e2, e3, nI_oi (fc (pc i)), nI_oi (fc (V - 1 - pc i)), nI_oi d1, nI_oi d2, ← Int32.ofInt_mul, ← Int32.ofInt_sub, ← Int32.ofInt_mul, ← Int32.ofInt_add]
      obtain ⟨y, y1, y2, y3⟩ := ih (i + 1) (z + (fc (pc i) : Int) * (fc (V - 1 - pc i) : Int) * ((d1 : Int) - (d2 : Int))) (by omega)
      have f1 := fc_le (pc i)
      have f2 := fc_le (V - 1 - pc i)
      have f3 : fc (pc i) * fc (V - 1 - pc i) ≤ 576 := Nat.le_trans (Nat.mul_le_mul f1 f2) (by decide)
      have f4 : fc (pc i) * fc (V - 1 - pc i) * d1 ≤ 17280 := Nat.le_trans (Nat.mul_le_mul f3 h1) (by decide)
      have f5 : fc (pc i) * fc (V - 1 - pc i) * d2 ≤ 17280 := Nat.le_trans (Nat.mul_le_mul f3 h2) (by decide)
      have f6 : (fc (pc i) : Int) * (fc (V - 1 - pc i) : Int) * ((d1 : Int) - (d2 : Int)) = ((fc (pc i) * fc (V - 1 - pc i) * d1 : Nat) : Int) - ((fc (pc i) * fc (V - 1 - pc i) * d2 : Nat) : Int) := by
        rw [Int.mul_sub]
        simp only [Int.natCast_mul]
      rw [f6] at y2 y3
      refine ⟨y, by rw [f6]; rw [f6] at y1; exact y1, by omega, by omega⟩
    · obtain ⟨y, y1, y2, y3⟩ := ih (i + 1) z (by omega)
      exact ⟨y, y1, by omega, by omega⟩
theorem iab_of {z : Int} (h1 : -1000000 ≤ z) (h2 : z ≤ 1000000) : ∃ A : Nat, A < 2 ^ 31 ∧ iab (Int32.ofInt z) = nI A := by
  have e : (Int32.ofInt z).toInt = z := Int32.toInt_ofInt_of_le (by omega) (by omega)
  have e0 : (0 : Int32).toInt = 0 := rfl
  unfold iab
  by_cases q : 0 ≤ z
  · refine ⟨z.toNat, by omega, ?_⟩
    rw [if_pos (by rw [Int32.le_iff_toInt_le, e, e0]; exact q), nI_oi]
    congr 1
    omega
  · refine ⟨(-z).toNat, by omega, ?_⟩
    rw [if_neg (by rw [Int32.le_iff_toInt_le, e, e0]; exact q), nI_oi, Int32.zero_sub, ← Int32.ofInt_neg]
    congr 1
    omega
