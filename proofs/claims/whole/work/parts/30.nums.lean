-- numbers, reads and writes at a known index, bottles as numbers
theorem lit_nI (n : Nat) : (OfNat.ofNat n : Int32) = nI n := rfl
theorem nI_subI {a b : Nat} (h : b ≤ a) : nI a - nI b = nI (a - b) := by
  have h1 : nI (a - b) + nI b = nI a := by rw [nI_add]; congr 1; omega
  rw [← h1]
  exact Int32.add_sub_cancel _ _
theorem rd_at {β : Type} {h : PH} {k : Nat} {i : Int32} {f : Int32 → Option β} (j : Nat) (hi : i = nI j) (hj : j < al k) (hb : al k ≤ 2000) : rd h k i f = f (h.1 k j) := by
  subst hi
  unfold rd
  rw [if_neg (nI_in hj (by omega)), nI_clamp (by omega)]
theorem rq_at {β : Type} {k : Nat} {i : Int32} {f : Nat → Option β} (j : Nat) (hi : i = nI j) (hj : j < al k) (hb : al k ≤ 2000) : rq k i f = f (sta k j) := by
  subst hi
  unfold rq
  rw [if_neg (nI_in hj (by omega)), nI_clamp (by omega)]
theorem wr_at {β : Type} {h : PH} {k : Nat} {i v : Int32} {f : PH → Option β} (j : Nat) (hi : i = nI j) (hj : j < al k) (hb : al k ≤ 2000) : wr h k i v f = f (si h k j v) := by
  subst hi
  unfold wr
  rw [if_neg (nI_in hj (by omega)), nI_clamp (by omega)]
theorem cp_at {β : Type} {h : PH} {k0 k1 : Nat} {sp dp n : Int32} {f : PH → Option β} (a b c : Nat) (ha : sp = nI a) (hb : dp = nI b) (hc : n = nI c) (h0 : a + c ≤ al k0) (h1 : b + c ≤ al k1) (h2 : al k0 ≤ 2000) (h3 : al k1 ≤ 2000) : cp h k0 sp k1 dp n f = f (sa h k1 (va_cpy (h.1 k0) (h.1 k1) a b c)) := by
  subst ha; subst hb; subst hc
  unfold cp
  rw [if_neg, nI_clamp (by omega), nI_clamp (by omega), nI_clamp (by omega)]
  rw [nI_clamp (by omega), nI_clamp (by omega), nI_clamp (by omega)]
  intro q
  rcases q with q | q | q | q | q
  · exact nI_pos (by omega) q
  · exact nI_pos (by omega) q
  · exact nI_pos (by omega) q
  · omega
  · omega
theorem gd_at {β : Type} {k i : Nat} {f : Option β} (h : kd k = i) : gd k i f = f := by
  unfold gd
  rw [if_pos h]
theorem bz_at {β : Type} {v : Int32} {f : Option β} (h : v = 0 ∨ v = 1) : bz v f = f := by
  unfold bz
  rw [if_pos h]
theorem nz_at {β : Type} {y : Int32} {f : Option β} (h : ¬ y = 0) : nz y f = f := by
  unfold nz
  rw [if_neg h]
theorem bd_at {α β : Type} {x : α} {h : PH} {f : α → PH → Option β} : bd (some (x, h)) f = f x h := rfl
theorem st_at {β : Type} {h : PH} {k i : Nat} {v : Int32} {f : PH → Option β} : st h k i v f = f (si h k i v) := rfl
theorem irm_nI {a b : Nat} (ha : a < 2 ^ 31) (hb0 : 0 < b) (hb : b < 2 ^ 31) : irm (nI a) (nI b) = nI (a % b) := pk_rem ha hb0 hb
def isw (a b c : Int32) : Int32 := if a < b then 0 else if c < a then 0 else 1
theorem isWithin_eq (a b c : Int32) (h : PH) : f_X4_isWithin a b c h = some (isw a b c, h) := by
  unfold f_X4_isWithin isw
  split
  · rfl
  · split <;> rfl
theorem in_eq (a b c : Int32) (h : PH) : f_X5_in a b c h = some (isw a b c, h) := by
  unfold f_X5_in isw
  split
  · rfl
  · split <;> rfl
theorem isw_01 (a b c : Int32) : isw a b c = 0 ∨ isw a b c = 1 := by
  unfold isw
  split
  · exact Or.inl rfl
  · split
    · exact Or.inl rfl
    · exact Or.inr rfl
theorem isw_0 {a : Int32} {m : Int} {b c : Int32} (h : isw a b c = 0) : a < b ∨ c < a := by
  unfold isw at h
  split at h
  · exact Or.inl ‹_›
  · split at h
    · exact Or.inr ‹_›
    · exact absurd h (by decide)
theorem isw_nat {a : Int32} {b c : Nat} (hc : c < 2 ^ 31) (hb : b < 2 ^ 31) (h : ¬ isw a (nI b) (nI c) = 0) : ∃ n : Nat, b ≤ n ∧ n ≤ c ∧ a = nI n := by
  unfold isw at h
  split at h
  · exact absurd rfl h
  · split at h
    · exact absurd rfl h
    · rename_i h1 h2
      have h0 : ¬ a < 0 := fun q => h1 (by
        rw [Int32.lt_iff_toInt_lt] at q ⊢
        rw [nI_toInt hb]
        have : (0 : Int32).toInt = 0 := rfl
        omega)
      obtain ⟨j, hj, rfl⟩ := nI_of h0
      rw [nI_ltI hj hb] at h1
      rw [nI_ltI hc hj] at h2
      exact ⟨j, by omega, by omega, rfl⟩
theorem isw_yes {n b c : Nat} (hc : c < 2 ^ 31) (h1 : b ≤ n) (h2 : n ≤ c) : isw (nI n) (nI b) (nI c) = 1 := by
  unfold isw
  rw [if_neg, if_neg]
  · rw [nI_ltI hc (by omega)]; omega
  · rw [nI_ltI (by omega) (by omega)]; omega
-- a bottle: f its fill, v its valve's number plus 1 (0: none), t cap + 2 label + 4 leak
def bt (f v t : Nat) : Int32 := nI (8192 + 1024 * t + 128 * v + f)
def vlv (v : Nat) : Int32 := if v = 0 then -9 else nI (v - 1)
def vlf (b : Int32) : Int32 := if 0 ≤ (((b >>> ((7 : Int32) &&& 31)) &&& (7 : Int32)) - (1 : Int32)) then (((b >>> ((7 : Int32) &&& 31)) &&& (7 : Int32)) - (1 : Int32)) else (-9 : Int32)
theorem bt_chk : ∀ f, f < 100 → ∀ v, v < 5 → ∀ t, t < 8 → (decide ((bt f v t &&& 127) = nI f) && decide (vlf (bt f v t) = vlv v) && decide ((bt f v t &&& 1024) = nI (t % 2 * 1024)) && decide ((bt f v t &&& 2048) = nI (t / 2 % 2 * 2048)) && decide ((bt f v t &&& 4096) = nI (t / 4 * 4096)) && decide ((bt f v t ||| 1024) = bt f v (t / 2 * 2 + 1)) && decide ((bt f v t ||| 2048) = bt f v (t / 4 * 4 + 2 + t % 2)) && decide ((bt f v t &&& (-1024)) = nI (8192 + 1024 * t)) && !(decide (bt f v t = 0))) = true := by decide +kernel
theorem bf_chk : ∀ f, f < 100 → ∀ v, v < 4 → ∀ t, t < 8 → decide (((nI (8192 + 1024 * t) ||| nI f) ||| ((nI v + (1 : Int32)) <<< ((7 : Int32) &&& 31))) = bt f (v + 1) t) = true := by decide +kernel
section
variable {f v t : Nat}
theorem bt_all (hf : f ≤ 99) (hv : v ≤ 4) (ht : t < 8) : (bt f v t &&& 127) = nI f ∧ vlf (bt f v t) = vlv v ∧ (bt f v t &&& 1024) = nI (t % 2 * 1024) ∧ (bt f v t &&& 2048) = nI (t / 2 % 2 * 2048) ∧ (bt f v t &&& 4096) = nI (t / 4 * 4096) ∧ (bt f v t ||| 1024) = bt f v (t / 2 * 2 + 1) ∧ (bt f v t ||| 2048) = bt f v (t / 4 * 4 + 2 + t % 2) ∧ (bt f v t &&& (-1024)) = nI (8192 + 1024 * t) ∧ ¬ bt f v t = 0 := by
  have h := bt_chk f (by omega) v (by omega) t ht
  simp only [Bool.and_eq_true, decide_eq_true_eq, Bool.not_eq_true', decide_eq_false_iff_not] at h
  obtain ⟨⟨⟨⟨⟨⟨⟨⟨h1, h2⟩, h3⟩, h4⟩, h5⟩, h6⟩, h7⟩, h8⟩, h9⟩ := h
  exact ⟨h1, h2, h3, h4, h5, h6, h7, h8, h9⟩
theorem bt_filled {f' : Nat} {w : Nat} (hf : f ≤ 99) (hv : v ≤ 4) (ht : t < 8) (hf' : f' ≤ 99) (hw : w < 4) (h : PH) : f_X0_filled (bt f v t) (nI w) (nI f') h = some (bt f' (w + 1) t, h) := by
  unfold f_X0_filled
  rw [(bt_all hf hv ht).2.2.2.2.2.2.2.1]
  have := bf_chk f' (by omega) w hw t ht
  rw [decide_eq_true_eq] at this
  rw [this]
theorem bt_leaked (hf : f ≤ 99) (h0 : 0 < f) : bt f v t - 1 = bt (f - 1) v t := by
  unfold bt
  have : 8192 + 1024 * t + 128 * v + f = (8192 + 1024 * t + 128 * v + (f - 1)) + 1 := by omega
  rw [this, nI_pred]
end
theorem valveOf_eq (b : Int32) (h : PH) : f_X0_valveOf b h = some (vlf b, h) := by
  unfold f_X0_valveOf vlf
  split <;> rfl
theorem fillOf_eq (b : Int32) (h : PH) : f_X0_fillOf b h = some (b &&& 127, h) := rfl
def hasf (b p : Int32) : Int32 := if (b &&& p) = 0 then 0 else 1
theorem has0_eq (b p : Int32) (h : PH) : f_X0_has b p h = some (hasf b p, h) := by
  unfold f_X0_has hasf
  split <;> rfl
def lmt (x : Int32) : Int32 := if x < 0 then 0 else if 99 < x then 99 else x
theorem limited_eq (x : Int32) (h : PH) : f_X4_limited x h = some (lmt x, h) := by
  unfold f_X4_limited imx imn lmt
  congr 2
  have e0 : (0 : Int32).toInt = 0 := rfl
  have e9 : (99 : Int32).toInt = 99 := rfl
  by_cases h1 : x < 99
  · rw [if_pos h1]
    by_cases h2 : x < 0
    · rw [if_pos h2]
      rw [if_neg]
      rw [Int32.lt_iff_toInt_lt] at *; omega
    · rw [if_neg h2]
      have h3 : ¬ (99 : Int32) < x := by rw [Int32.lt_iff_toInt_lt] at *; omega
      rw [if_neg h3]
      by_cases h4 : (0 : Int32) < x
      · rw [if_pos h4]
      · rw [if_neg h4]
        apply Int32.toInt_inj.mp
        rw [Int32.lt_iff_toInt_lt] at *; omega
  · rw [if_neg h1]
    have h2 : ¬ x < 0 := by rw [Int32.lt_iff_toInt_lt] at *; omega
    rw [if_neg h2]
    have h3 : (0 : Int32) < 99 := by decide
    rw [if_pos h3]
    by_cases h4 : (99 : Int32) < x
    · rw [if_pos h4]
    · rw [if_neg h4]
      apply Int32.toInt_inj.mp
      rw [Int32.lt_iff_toInt_lt] at *; omega
theorem held_eq (x : Int32) (h : PH) : f_X5_held x h = some (lmt x, h) := by
  unfold f_X5_held lmt
  have e0 : (0 : Int32).toInt = 0 := rfl
  have e9 : (99 : Int32).toInt = 99 := rfl
  repeat' split
  all_goals first
    | rfl
    | (exfalso; simp only [Int32.lt_iff_toInt_lt, Int32.le_iff_toInt_le, e0, e9] at *; omega)
    | (congr 2; apply Int32.toInt_inj.mp; simp only [Int32.lt_iff_toInt_lt, Int32.le_iff_toInt_le, e0, e9] at *; omega)
theorem lmt_nat (x : Int32) : ∃ n : Nat, n ≤ 99 ∧ lmt x = nI n := by
  unfold lmt
  split
  · exact ⟨0, by omega, rfl⟩
  · split
    · exact ⟨99, by omega, rfl⟩
    · rename_i h1 h2
      obtain ⟨j, hj, rfl⟩ := nI_of h1
      refine ⟨j, ?_, rfl⟩
      have h3 : ¬ nI 99 < nI j := h2
      rw [nI_ltI (by omega) hj] at h3
      omega
