theorem nI_xor (a b : Nat) : nI a ^^^ nI b = nI (a ^^^ b) := by
  apply Int32.toBitVec_inj.1
  show BitVec.ofNat 32 a ^^^ BitVec.ofNat 32 b = BitVec.ofNat 32 (a ^^^ b)
  apply BitVec.eq_of_getLsbD_eq
  intro i hi
  simp [hi]
theorem floorMod_eq {a b : Nat} (ha : a < 2 ^ 31) (hb0 : 0 < b) (hb : b < 2 ^ 31) (h : PH) : f_J9_floorMod_7cf53 (nI a) (nI b) h = some (nI (a % b), h) := by
  unfold f_J9_floorMod_7cf53
  rw [nz_at (nI_ne0 hb0 hb), nI_xor, if_pos (nI_pos' (Nat.xor_lt_two_pow ha hb)), irm_nI ha hb0 hb]
def offI (S : SS) (v : Nat) : Int32 := if ((S 0 4 >>> (nI v &&& 31)) &&& 1) = 0 then 0 else 1
def fld (b : Int32) (v : Nat) (a : Int32) : Int32 := ((b &&& (-1024 : Int32)) ||| a) ||| ((nI v + (1 : Int32)) <<< ((7 : Int32) &&& 31))
section
variable {h : PH} {o : Nat} {pn : Nat → Nat} {dr : Nat → Int32}
theorem x_nextValve (X : XC h o pn dr) (S : SS) {s : Nat} (hs : S 0 9 = nI s) (hs2 : s < 2 ^ 31) : f_X3_nextValve o (put h o S) = some (if pn 9 = 0 then -9 else nI (s % pn 9), put h o S) := by
  have hv := X.2.2.2.2.2.2.2
  unfold f_X3_nextValve
  rw [gd_at (so_kd X.1), so_pl X.1, X.valves, put_0, hs]
  by_cases h1 : pn 9 = 0
  · rw [h1, if_pos (show nI 0 = 0 from rfl), if_pos rfl]
  · rw [if_neg (nI_ne0 (by omega) (by omega)), if_neg h1, floorMod_eq hs2 (by omega) (by omega), bd_at]
theorem x_hasValve (X : XC h o pn dr) (S : SS) (a : Int32) : f_X1_hasValve 12 a (put h o S) = some (isw a 0 (nI (pn 9) - 1), put h o S) := by
  unfold f_X1_hasValve
  rw [gd_at kd_12, X.valves, isWithin_eq, bd_at, bz_at (isw_01 _ _ _)]
theorem isw_valve {V v : Nat} (hv : v < V) (hV : V ≤ 4) : isw (nI v) 0 (nI V - 1) = 1 := by
  rw [nI_sub1 (by omega)]
  exact isw_yes (b := 0) (by omega) (by omega) (by omega)
theorem isw_m9 (x : Int32) : isw (-9) 0 x = 0 := by
  unfold isw
  rw [if_pos (by decide)]
theorem x_isOff (X : XC h o pn dr) (S : SS) (v : Nat) : f_X3_isOff o (nI v) (put h o S) = some (offI S v, put h o S) := by
  unfold f_X3_isOff offI
  rw [gd_at (so_kd X.1), put_0]
  split <;> rfl
def cFl (pn : Nat → Nat) (dr : Nat → Int32) (s : Nat) (S : SS) : SS := if S 1 0 = 0 then S else if pn 9 = 0 then S else u2 S 1 0 (fld (S 1 0) (s % pn 9) (if offI S (s % pn 9) = 0 then lmt (S 3 (s % pn 9) + dr (s % pn 9)) else 0))
theorem x_fill_b (X : XC h o pn dr) (S : SS) (v : Nat) (a : Int32) : f_X3_fill_b57 o (nI v) a (put h o S) = some ((), put h o (u2 S 1 0 (fld (S 1 0) v a))) := by
  unfold f_X3_fill_b57
  rw [X.r1 _ 0 L0 (by decide)]
  have e : ∀ q : PH, f_X0_filled (S 1 0) (nI v) a q = some (fld (S 1 0) v a, q) := fun q => rfl
  rw [e, bd_at, X.w1 _ 0 L0 (by decide)]
theorem x_fill (X : XC h o pn dr) (S : SS) {s : Nat} (hs : S 0 9 = nI s) (hs2 : s < 2 ^ 31) : f_X3_fill o (put h o S) = some ((), put h o (cFl pn dr s S)) := by
  have hv := X.2.2.2.2.2.2.2
  unfold f_X3_fill cFl
  rw [gd_at (so_kd X.1), so_pl X.1, x_nextValve X S hs hs2, bd_at, X.r1 _ 0 L0 (by decide)]
  by_cases h1 : S 1 0 = 0
  · rw [if_pos h1, if_pos h1]
  · rw [if_neg h1, if_neg h1, x_hasValve X, bd_at]
    by_cases h2 : pn 9 = 0
    · rw [if_pos h2, if_pos h2, isw_m9, if_pos rfl]
    · have hlt : s % pn 9 < pn 9 := Nat.mod_lt _ (by omega)
      rw [if_neg h2, if_neg h2, isw_valve hlt hv, if_neg (by decide), x_isOff X, bd_at]
      by_cases h3 : offI S (s % pn 9) = 0
      · rw [if_pos h3, if_pos h3, X.r3 _ (s % pn 9) rfl (by omega), rd_at (s % pn 9) rfl (by show _ < al 14; show _ < 4; omega) (by decide), X.drift _ hlt, limited_eq, bd_at, x_fill_b X]
      · rw [if_neg h3, if_neg h3, x_fill_b X]
def cWg (pn : Nat → Nat) (v : Nat) (S : SS) : SS := if v = 0 then S else if offI S (v - 1) = 0 then u2 S 3 (v - 1) (lmt (S 3 (v - 1) + (nI (pn 6) - (S 1 (pn 1) &&& 127)) / 2)) else S
theorem x_weigh (X : XC h o pn dr) (S : SS) {v : Nat} (hv : vlf (S 1 (pn 1)) = vlv v) (hv2 : v ≤ pn 9) : f_X3_weigh o (put h o S) = some ((), put h o (cWg pn v S)) := by
  have hV := X.2.2.2.2.2.2.2
  have hst := X.2.2.2.1
  have hcl := X.2.2.1
  unfold f_X3_weigh cWg
  rw [gd_at (so_kd X.1), so_pl X.1, X.station _ 0 L0 (by decide), X.r1 _ (pn 1) rfl (by omega), valveOf_eq, bd_at, x_hasValve X, bd_at, hv]
  unfold vlv
  by_cases h1 : v = 0
  · rw [if_pos h1, if_pos h1, isw_m9, if_pos rfl]
  · rw [if_neg h1, if_neg h1, isw_valve (by omega) hV, if_neg (by decide), x_isOff X, bd_at]
    by_cases h2 : offI S (v - 1) = 0
    · rw [if_pos h2, if_pos h2, fillOf_eq, bd_at, X.r3 _ (v - 1) rfl (by omega), limited_eq, bd_at, X.target, X.w3 _ (v - 1) rfl (by omega)]
    · rw [if_neg h2, if_neg h2]
def cE1 (pn : Nat → Nat) (S : SS) : SS := if S 1 (pn 2) = 0 then S else if S 0 7 ≤ 0 then S else u2 (u2 S 1 (pn 2) (S 1 (pn 2) ||| 1024)) 0 7 (S 0 7 - 1)
def cE2 (pn : Nat → Nat) (S : SS) : SS := if S 1 (pn 3) = 0 then S else if S 0 8 ≤ 0 then S else u2 (u2 S 1 (pn 3) (S 1 (pn 3) ||| 2048)) 0 8 (S 0 8 - 1)
theorem x_equip2 (X : XC h o pn dr) (S : SS) : f_X3_equip_b48 o (put h o S) = some ((), put h o (cE2 pn S)) := by
  have hst := X.2.2.2.1
  have hcl := X.2.2.1
  unfold f_X3_equip_b48 cE2
  rw [so_pl X.1, X.station _ 2 L2 (by decide), X.r1 _ (pn 3) rfl (by omega)]
  by_cases h1 : S 1 (pn 3) = 0
  · rw [if_pos h1, if_pos h1]
  · rw [if_neg h1, if_neg h1, put_0]
    by_cases h2 : S 0 8 ≤ 0
    · rw [if_pos h2, if_pos h2]
    · rw [if_neg h2, if_neg h2, X.r1 _ (pn 3) rfl (by omega), X.w1 _ (pn 3) rfl (by omega), XC.s0, put_0]
      rfl
theorem x_equip (X : XC h o pn dr) (S : SS) : f_X3_equip o (put h o S) = some ((), put h o (cE2 pn (cE1 pn S))) := by
  have hst := X.2.2.2.1
  have hcl := X.2.2.1
  unfold f_X3_equip
  rw [gd_at (so_kd X.1), so_pl X.1, X.station _ 1 L1 (by decide), X.r1 _ (pn 2) rfl (by omega)]
  by_cases h1 : S 1 (pn 2) = 0
  · have e : cE1 pn S = S := by unfold cE1; rw [if_pos h1]
    rw [if_pos h1, x_equip2 X, e]
  · rw [if_neg h1, put_0]
    by_cases h2 : S 0 7 ≤ 0
    · have e : cE1 pn S = S := by unfold cE1; rw [if_neg h1, if_pos h2]
      rw [if_pos h2, x_equip2 X, e]
    · have e : cE1 pn S = u2 (u2 S 1 (pn 2) (S 1 (pn 2) ||| 1024)) 0 7 (S 0 7 - 1) := by unfold cE1; rw [if_neg h1, if_neg h2]
      rw [if_neg h2, X.r1 _ (pn 2) rfl (by omega), X.w1 _ (pn 2) rfl (by omega), XC.s0, put_0, e, ← x_equip2 X]
      rfl
def cCk (pn : Nat → Nat) (S : SS) : SS := if S 1 (pn 4) = 0 then S else if gI pn (S 1 (pn 4)) = 0 then u2 S 2 (pn 4) 1 else if S 2 (pn 4) = 0 then (if pn 8 = 0 then u2 S 0 17 (S 0 17 + 1) else if irm (S 0 17 + 1) (nI (pn 8)) = 0 then u2 (u2 S 0 17 (S 0 17 + 1)) 2 (pn 4) 2 else u2 S 0 17 (S 0 17 + 1)) else S
theorem x_check (X : XC h o pn dr) (S : SS) : f_X3_check o (put h o S) = some ((), put h o (cCk pn S)) := by
  have hst := X.2.2.2.1
  have hcl := X.2.2.1
  have he := X.2.2.2.2.2.2.1
  unfold f_X3_check cCk
  rw [gd_at (so_kd X.1), so_pl X.1, X.station _ 3 L3 (by decide), X.r1 _ (pn 4) rfl (by omega)]
  show _ = some ((), put h o (if S 1 (pn 4) = 0 then _ else _))
  by_cases h1 : S 1 (pn 4) = 0
  · rw [if_pos h1, if_pos h1]
  · rw [if_neg h1, if_neg h1, X.r1 _ (pn 4) rfl (by omega), x_isGood X, bd_at]
    by_cases h2 : gI pn (S 1 (pn 4)) = 0
    · rw [if_pos h2, if_pos h2, X.w2 _ (pn 4) rfl (by omega)]
    · rw [if_neg h2, if_neg h2, X.r2 _ (pn 4) rfl (by omega)]
      by_cases h3 : S 2 (pn 4) = 0
      · rw [if_pos h3, if_pos h3, XC.s0, put_0, X.each]
        by_cases h4 : pn 8 = 0
        · rw [h4, if_pos (show nI 0 = 0 from rfl), if_pos rfl]
        · have h5 : ¬ nI (pn 8) = 0 := nI_ne0 (by omega) (by omega)
          rw [if_neg h5, if_neg h4, nz_at h5, put_0]
          have e : u2 S 0 17 (S 0 17 + 1) 0 17 = S 0 17 + 1 := rfl
          rw [e]
          by_cases h6 : irm (S 0 17 + 1) (nI (pn 8)) = 0
          · rw [if_pos h6, if_pos h6, X.w2 _ (pn 4) rfl (by omega)]
          · rw [if_neg h6, if_neg h6]
      · rw [if_neg h3, if_neg h3]
def cPs (pn : Nat → Nat) (S : SS) : SS := if S 2 (pn 5) = 0 then S else if S 1 (pn 5) = 0 then u2 S 0 10 1 else if S 0 11 = 0 then u2 (u2 (if S 2 (pn 5) = 1 then u2 S 0 14 (S 0 14 + 1) else u2 S 0 15 (S 0 15 + 1)) 1 (pn 5) 0) 2 (pn 5) 0 else u2 S 0 10 1
theorem x_push (X : XC h o pn dr) (S : SS) : f_X3_push o (put h o S) = some ((), put h o (cPs pn S)) := by
  have hst := X.2.2.2.1
  have hcl := X.2.2.1
  unfold f_X3_push cPs
  rw [gd_at (so_kd X.1), so_pl X.1, X.station _ 4 L4 (by decide), X.r2 _ (pn 5) rfl (by omega)]
  show _ = some ((), put h o (if S 2 (pn 5) = 0 then _ else _))
  by_cases h1 : S 2 (pn 5) = 0
  · rw [if_pos h1, if_pos h1]
  · rw [if_neg h1, if_neg h1, X.r1 _ (pn 5) rfl (by omega)]
    by_cases h2 : S 1 (pn 5) = 0
    · rw [if_pos h2, if_pos h2, XC.s0]
    · rw [if_neg h2, if_neg h2, put_0]
      by_cases h3 : S 0 11 = 0
      · rw [if_pos h3, if_pos h3, X.r2 _ (pn 5) rfl (by omega)]
        by_cases h4 : S 2 (pn 5) = 1
        · rw [if_pos h4, if_pos h4, XC.s0]
          unfold f_X3_push_b75
          rw [X.w1 _ (pn 5) rfl (by omega), X.w2 _ (pn 5) rfl (by omega)]
        · rw [if_neg h4, if_neg h4, XC.s0]
          unfold f_X3_push_b75
          rw [X.w1 _ (pn 5) rfl (by omega), X.w2 _ (pn 5) rfl (by omega)]
      · rw [if_neg h3, if_neg h3, XC.s0]
end
