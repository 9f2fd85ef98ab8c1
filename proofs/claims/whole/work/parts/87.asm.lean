-- the cells of both objects, as the world of all calls
def ixs : List Nat := [0, 1, 24, 25, 26, 27, 28, 29, 2, 3, 4, 5, 11, 12, 13, 6, 7, 8, 9, 10, 14, 15, 16, 17, 18, 19, 20, 21, 22, 23]
def jxs : List Nat := [0, 1, 8, 9, 10, 11, 15, 16, 17, 18, 19, 12, 13, 14, 20, 21, 22, 23, 24, 25, 26, 27, 28, 29, 2, 3, 4, 5, 6, 7]
def ix (k : Nat) : Nat := if k < 30 then ixs.getD k 0 else k
def jx (k : Nat) : Nat := if k < 30 then jxs.getD k 0 else k
theorem jx_ix : ∀ k, k < 128 → jx (ix k) = k := by decide +kernel
def gL (L : List (Nat → Nat)) (j : Nat) : Nat → Nat := L.getD j (fun _ => 0)
def adr (u : S4) (v : S5) (k : Nat) : Nat := if k < 30 then adl [u.1 0, u.1 1, u.1 3, u.1 4, u.1 5, u.1 6, u.1 7, u.1 8, u.1 2, u.2.1.1 0, u.2.1.1 1, u.2.1.1 2, u.2.2.1.1 0, u.2.2.1.1 1, u.2.2.1.1 2, u.2.1.2.2 0, u.2.1.2.2 1, u.2.1.2.2 2, u.2.1.2.2 3, u.2.1.2.2 4, u.2.2.2.1 0, u.2.2.2.1 1, u.2.2.2.1 2, u.2.2.2.1 3, u.2.2.2.1 4, u.2.2.2.2.1 0, u.2.2.2.2.1 1, u.2.2.2.2.1 2, u.2.2.2.2.1 3, u.2.2.2.2.1 4] k else if k < 100 then gL u.2.2.2.2.2.1 ((k - 30) / 5) ((k - 30) % 5) else if k < 110 then gL u.2.2.2.2.2.2 ((k - 100) / 5) ((k - 100) % 5) else v.1 (k - 110)
def c6 : Nat → Int32 := fun b => if b = 0 then 6 else 0
def m00 : Nat → Int32 := fun b => if b = 2 then 6 else if b = 21 then 15 else if b = 22 then -9 else 0
def hr0 (f1 f2 f5 g5 : Nat → Int32) (a : Nat) : Nat → Int32 := if a = 9 then c6 else if a = 12 then c6 else if a = 10 then f1 else if a = 13 then f2 else if a = 110 then m00 else if a = 112 then f5 else if a = 114 then g5 else z0
def h00 (u : S4) (v : S5) : PH := (hr0 u.2.1.2.1 u.2.2.1.2 v.2.1 v.2.2, fun _ => 0)
def G00 (K : CK) (u : S4) (v : S5) : GG := (K.1, K.2.1, K.2.2.1, K.2.2.2, adr u v)
theorem hr_z {u : S4} {v : S5} {a : Nat} (h : ¬ (a = 9 ∨ a = 12 ∨ a = 10 ∨ a = 13 ∨ a = 110 ∨ a = 112 ∨ a = 114)) : (h00 u v).1 a = z0 := by
  show hr0 _ _ _ _ a = z0
  unfold hr0
  rw [if_neg (by omega), if_neg (by omega), if_neg (by omega), if_neg (by omega), if_neg (by omega), if_neg (by omega), if_neg (by omega)]
theorem blk_len (K : CK) (pa : Nat) (L : List (Nat → Nat)) : (blk K pa L).length = 5 * L.length := by
  induction L with
  | nil => rfl
  | cons a L ih =>
    have e : blk K pa (a :: L) = stW K pa a ++ blk K pa L := rfl
    rw [e, List.length_append, ih, List.length_cons]
    show 5 + 5 * L.length = _
    omega
theorem blk_at (K : CK) (pa : Nat) : ∀ (L : List (Nat → Nat)) (j i : Nat), j < L.length → i < 5 → (blk K pa L)[5 * j + i]? = (stW K pa (gL L j))[i]? := by
  intro L
  induction L with
  | nil => intro j i h; exact absurd h (Nat.not_lt_zero _)
  | cons a L ih =>
    intro j i hj hi
    have e : blk K pa (a :: L) = stW K pa a ++ blk K pa L := rfl
    have l5 : (stW K pa a).length = 5 := rfl
    rw [e]
    cases j with
    | zero =>
      rw [Nat.mul_zero, Nat.zero_add, List.getElem?_append_left (by omega)]
      rfl
    | succ j =>
      rw [List.getElem?_append_right (by omega), l5, show 5 * (j + 1) + i - 5 = 5 * j + i by omega]
      exact ih j i (by rw [List.length_cons] at hj; omega) hi
theorem arrV_cg {c : ClassId} {n : Nat} {f g : Nat → Value} (h : ∀ j, j < n → f j = g j) : arrV c n f = arrV c n g := by
  unfold arrV
  congr 1
  apply Array.ext
  · simp
  · intro j h1 h2
    simp only [Array.getElem_ofFn]
    exact h j (by simpa using h1)
/-- place k of the world is cell ix k of the list -/
def AtP (K : CK) (u : S4) (v : S5) (k : Nat) : Prop := ∃ e : va_E, (w4 K u ++ w5 K v)[ix k]? = some (adr u v k, e) ∧ ∀ H : Heap, va_at K.1 vwCl (adr u v k, e) H → va_at K.1 vwCl (adr u v k, ce (G00 K u v) (h00 u v) k) H
section
variable {K : CK} {u : S4} {v : S5}
theorem at_q (q : Nat) (n : Nat) (f : Nat → Option Nat) (g : Nat → Option Nat) (h : ∀ j, j < n → f j = g j) (H : Heap) (z : va_at K.1 vwCl (q, arQ K n f) H) : va_at K.1 vwCl (q, arQ K n g) H := by
  have z1 : H[q]? = some (arrV K.2.2.2 n (fun j => va_rf (f j))) := z
  show H[q]? = some (arrV K.2.2.2 n (fun j => va_rf (g j)))
  rw [z1, arrV_cg (fun j hj => by rw [h j hj])]
theorem rfL_at (L : List (Nat → Nat)) {j : Nat} (h : j < L.length) : rfL L j = some (gL L j 0) := by
  unfold rfL gL
  rw [List.getElem?_eq_getElem h, List.getD_eq_getElem?_getD, List.getElem?_eq_getElem h]
  rfl
theorem adr_1 {j i : Nat} (hj : j < 14) (hi : i < 5) : adr u v (30 + 5 * j + i) = gL u.2.2.2.2.2.1 j i := by
  unfold adr
  rw [if_neg (by omega), if_pos (by omega), show (30 + 5 * j + i - 30) / 5 = j by omega, show (30 + 5 * j + i - 30) % 5 = i by omega]
theorem adr_2 {j i : Nat} (hj : j < 2) (hi : i < 5) : adr u v (100 + 5 * j + i) = gL u.2.2.2.2.2.2 j i := by
  unfold adr
  rw [if_neg (by omega), if_neg (by omega), if_pos (by omega), show (100 + 5 * j + i - 100) / 5 = j by omega, show (100 + 5 * j + i - 100) % 5 = i by omega]
theorem ix_hi {k : Nat} (h : 30 ≤ k) : ix k = k := by
  unfold ix
  rw [if_neg (by omega)]
theorem at_st {k i : Nat} {a : Nat → Nat} (hk : kd k = 2) (hk2 : 30 ≤ k) (hk3 : k ≤ 105) (hi : i < 5) (hu : ∀ i, i < 5 → adr u v (k + i) = a i) (hw : (w4 K u ++ w5 K v)[k + i]? = (stW K (u.2.2.1.1 0) a)[i]?) : AtP K u v (k + i) := by
  have h0 : ∀ i, i < 5 → (h00 u v).1 (k + i) = z0 := fun i hi => hr_z (by omega)
  have hpl : pl_of k = 12 := by
    unfold pl_of
    rw [if_neg (by omega)]
  obtain ⟨l1, l2, l3, l4, -⟩ := al_st hk
  unfold AtP
  rw [ix_hi (by omega), hw, hu i hi]
  have key : i = 0 ∨ i = 1 ∨ i = 2 ∨ i = 3 ∨ i = 4 := by omega
  rcases key with rfl | rfl | rfl | rfl | rfl
  · refine ⟨_, rfl, fun H z => ?_⟩
    have e0 : (h00 u v).1 k = z0 := h0 0 (by omega)
    show va_at K.1 vwCl (a 0, ce (G00 K u v) (h00 u v) k) H
    rw [ce_2 hk, e0, hpl]
    have a1 : (G00 K u v).2.2.2.2 (k + 1) = a 1 := hu 1 (by omega)
    have a2 : (G00 K u v).2.2.2.2 (k + 2) = a 2 := hu 2 (by omega)
    have a3 : (G00 K u v).2.2.2.2 (k + 3) = a 3 := hu 3 (by omega)
    have a4 : (G00 K u v).2.2.2.2 (k + 4) = a 4 := hu 4 (by omega)
    rw [a1, a2, a3, a4]
    exact z
  · refine ⟨_, rfl, fun H z => ?_⟩
    rw [ce_5 (kd_s1 hk), h0 1 (by omega), l1]
    exact z
  · refine ⟨_, rfl, fun H z => ?_⟩
    rw [ce_5 (kd_s2 hk), h0 2 (by omega), l2]
    exact z
  · refine ⟨_, rfl, fun H z => ?_⟩
    rw [ce_5 (kd_s3 hk), h0 3 (by omega), l3]
    exact z
  · refine ⟨_, rfl, fun H z => ?_⟩
    rw [ce_5 (kd_s4 hk), h0 4 (by omega), l4]
    exact z
theorem w4_len (h1 : u.2.2.2.2.2.1.length = 14) (h2 : u.2.2.2.2.2.2.length = 2) : (w4 K u).length = 110 := by
  unfold w4
  rw [List.length_append, List.length_append, blk_len, blk_len, h1, h2]
  rfl
theorem at_past (h1 : u.2.2.2.2.2.1.length = 14) {j i : Nat} (hj : j < 14) (hi : i < 5) : AtP K u v (30 + 5 * j + i) := by
  have ek : kd (30 + 5 * j) = 2 := kd_sta2' j hj
  refine at_st (a := gL u.2.2.2.2.2.1 j) ek (by omega) (by omega) hi (fun i hi => adr_1 hj hi) ?_
  have l30 : (bw K u.1 u.2.1 u.2.2.1 u.2.2.2.1 u.2.2.2.2.1 (rfL u.2.2.2.2.2.1) (rfL u.2.2.2.2.2.2)).length = 30 := rfl
  have hb := blk_len K (u.2.2.1.1 0) u.2.2.2.2.2.1
  unfold w4
  rw [List.append_assoc, List.getElem?_append_right (by omega), l30, show 30 + 5 * j + i - 30 = 5 * j + i by omega, List.append_assoc, List.getElem?_append_left (by omega)]
  exact blk_at K _ _ j i (by omega) hi
theorem at_slot (h1 : u.2.2.2.2.2.1.length = 14) (h2 : u.2.2.2.2.2.2.length = 2) {j i : Nat} (hj : j < 2) (hi : i < 5) : AtP K u v (100 + 5 * j + i) := by
  have ek : kd (100 + 5 * j) = 2 := kd_sta3' j hj
  refine at_st (a := gL u.2.2.2.2.2.2 j) ek (by omega) (by omega) hi (fun i hi => adr_2 hj hi) ?_
  have l30 : (bw K u.1 u.2.1 u.2.2.1 u.2.2.2.1 u.2.2.2.2.1 (rfL u.2.2.2.2.2.1) (rfL u.2.2.2.2.2.2)).length = 30 := rfl
  have hb := blk_len K (u.2.2.1.1 0) u.2.2.2.2.2.1
  have hb2 := blk_len K (u.2.2.1.1 0) u.2.2.2.2.2.2
  unfold w4
  rw [List.append_assoc, List.getElem?_append_right (by omega), l30, List.append_assoc, List.getElem?_append_right (by omega), hb, h1, show 100 + 5 * j + i - 30 - 5 * 14 = 5 * j + i by omega, List.getElem?_append_left (by omega)]
  exact blk_at K _ _ j i (by omega) hi
set_option maxHeartbeats 8000000 in
set_option maxRecDepth 100000 in
theorem at_low (h1 : u.2.2.2.2.2.1.length = 14) (h2 : u.2.2.2.2.2.2.length = 2) {k : Nat} (hk : k < 30) : AtP K u v k := by
  have key : k = 0 ∨ k = 1 ∨ k = 2 ∨ k = 3 ∨ k = 4 ∨ k = 5 ∨ k = 6 ∨ k = 7 ∨ k = 8 ∨ k = 9 ∨ k = 10 ∨ k = 11 ∨ k = 12 ∨ k = 13 ∨ k = 14 ∨ k = 15 ∨ k = 16 ∨ k = 17 ∨ k = 18 ∨ k = 19 ∨ k = 20 ∨ k = 21 ∨ k = 22 ∨ k = 23 ∨ k = 24 ∨ k = 25 ∨ k = 26 ∨ k = 27 ∨ k = 28 ∨ k = 29 := by omega
  rcases key with rfl | rfl | rfl | rfl | rfl | rfl | rfl | rfl | rfl | rfl | rfl | rfl | rfl | rfl | rfl | rfl | rfl | rfl | rfl | rfl | rfl | rfl | rfl | rfl | rfl | rfl | rfl | rfl | rfl | rfl
  · exact ⟨_, rfl, fun H z => z⟩
  · exact ⟨_, rfl, fun H z => z⟩
  · refine ⟨arQ K 14 (rfL u.2.2.2.2.2.1), rfl, fun H z => ?_⟩
    rw [ce_7 kd_2]
    refine at_q _ 14 _ (fun j => some (adr u v (sta 2 j))) (fun j hj => ?_) H z
    rw [rfL_at _ (by omega)]
    have e : sta 2 j = 30 + 5 * j + 0 := rfl
    rw [e, adr_1 hj (by omega)]
  · refine ⟨arQ K 2 (rfL u.2.2.2.2.2.2), rfl, fun H z => ?_⟩
    rw [ce_7 kd_3]
    refine at_q _ 2 _ (fun j => some (adr u v (sta 3 j))) (fun j hj => ?_) H z
    rw [rfL_at _ (by omega)]
    have e : sta 3 j = 100 + 5 * j + 0 := rfl
    rw [e, adr_2 hj (by omega)]
  · exact ⟨_, rfl, fun H z => z⟩
  · exact ⟨_, rfl, fun H z => z⟩
  · exact ⟨_, rfl, fun H z => z⟩
  · exact ⟨_, rfl, fun H z => z⟩
  · exact ⟨_, rfl, fun H z => z⟩
  · exact ⟨_, rfl, fun H z => z⟩
  · exact ⟨_, rfl, fun H z => z⟩
  · exact ⟨_, rfl, fun H z => z⟩
  · exact ⟨_, rfl, fun H z => z⟩
  · exact ⟨_, rfl, fun H z => z⟩
  · exact ⟨_, rfl, fun H z => z⟩
  · exact ⟨_, rfl, fun H z => z⟩
  · exact ⟨_, rfl, fun H z => z⟩
  · exact ⟨_, rfl, fun H z => z⟩
  · exact ⟨_, rfl, fun H z => z⟩
  · exact ⟨_, rfl, fun H z => z⟩
  · exact ⟨_, rfl, fun H z => z⟩
  · exact ⟨_, rfl, fun H z => z⟩
  · exact ⟨_, rfl, fun H z => z⟩
  · exact ⟨_, rfl, fun H z => z⟩
  · exact ⟨_, rfl, fun H z => z⟩
  · exact ⟨_, rfl, fun H z => z⟩
  · exact ⟨_, rfl, fun H z => z⟩
  · exact ⟨_, rfl, fun H z => z⟩
  · exact ⟨_, rfl, fun H z => z⟩
  · exact ⟨_, rfl, fun H z => z⟩
set_option maxHeartbeats 8000000 in
set_option maxRecDepth 100000 in
theorem at_model (h1 : u.2.2.2.2.2.1.length = 14) (h2 : u.2.2.2.2.2.2.length = 2) {k : Nat} (hk : k < 18) : AtP K u v (110 + k) := by
  unfold AtP
  rw [ix_hi (by omega), List.getElem?_append_right (by rw [w4_len h1 h2]; omega), w4_len h1 h2, Nat.add_sub_cancel_left]
  have key : k = 0 ∨ k = 1 ∨ k = 2 ∨ k = 3 ∨ k = 4 ∨ k = 5 ∨ k = 6 ∨ k = 7 ∨ k = 8 ∨ k = 9 ∨ k = 10 ∨ k = 11 ∨ k = 12 ∨ k = 13 ∨ k = 14 ∨ k = 15 ∨ k = 16 ∨ k = 17 := by omega
  rcases key with rfl | rfl | rfl | rfl | rfl | rfl | rfl | rfl | rfl | rfl | rfl | rfl | rfl | rfl | rfl | rfl | rfl | rfl
  · exact ⟨_, rfl, fun H z => z⟩
  · exact ⟨_, rfl, fun H z => z⟩
  · exact ⟨_, rfl, fun H z => z⟩
  · exact ⟨_, rfl, fun H z => z⟩
  · exact ⟨_, rfl, fun H z => z⟩
  · exact ⟨_, rfl, fun H z => z⟩
  · exact ⟨_, rfl, fun H z => z⟩
  · exact ⟨_, rfl, fun H z => z⟩
  · exact ⟨_, rfl, fun H z => z⟩
  · exact ⟨_, rfl, fun H z => z⟩
  · exact ⟨_, rfl, fun H z => z⟩
  · exact ⟨_, rfl, fun H z => z⟩
  · exact ⟨_, rfl, fun H z => z⟩
  · exact ⟨_, rfl, fun H z => z⟩
  · exact ⟨_, rfl, fun H z => z⟩
  · exact ⟨_, rfl, fun H z => z⟩
  · exact ⟨_, rfl, fun H z => z⟩
  · exact ⟨_, rfl, fun H z => z⟩
theorem at_all (h1 : u.2.2.2.2.2.1.length = 14) (h2 : u.2.2.2.2.2.2.length = 2) {k : Nat} (hk : k < 128) : AtP K u v k := by
  by_cases c1 : k < 30
  · exact at_low h1 h2 c1
  · by_cases c2 : k < 100
    · have e : k = 30 + 5 * ((k - 30) / 5) + (k - 30) % 5 := by omega
      rw [e]
      exact at_past h1 (by omega) (by omega)
    · by_cases c3 : k < 110
      · have e : k = 100 + 5 * ((k - 100) / 5) + (k - 100) % 5 := by omega
        rw [e]
        exact at_slot h1 h2 (by omega) (by omega)
      · have e : k = 110 + (k - 110) := by omega
        rw [e]
        exact at_model h1 h2 (by omega)
theorem world_all (h1 : u.2.2.2.2.2.1.length = 14) (h2 : u.2.2.2.2.2.2.length = 2) {A : Nat → Prop} {H : Heap} (hP : va_P K.1 vwCl (w4 K u ++ w5 K v) H) (hD : va_D A (w4 K u ++ w5 K v)) : va_P (G00 K u v).1 vwCl (wd (G00 K u v) (h00 u v)) H ∧ injG (G00 K u v) ∧ ∀ q, Ar (G00 K u v) q → A q := by
  refine ⟨fun k q hq => ?_, fun i j hi hj hij => ?_, fun q hq => ?_⟩
  · have hk : k < 128 := by
      have := (List.getElem?_eq_some_iff.mp hq).1
      simpa [wd] using this
    rw [wd_at hk] at hq
    rw [← Option.some.inj hq]
    obtain ⟨e, e1, e2⟩ := at_all (K := K) (v := v) h1 h2 hk
    exact e2 H (hP _ _ e1)
  · obtain ⟨e, e1, -⟩ := at_all (K := K) (v := v) h1 h2 hi
    obtain ⟨f, f1, -⟩ := at_all (K := K) (v := v) h1 h2 hj
    have e3 := hD.1 _ _ _ _ e1 f1 hij
    rw [← jx_ix i hi, ← jx_ix j hj, e3]
  · obtain ⟨k, hk, rfl⟩ := hq
    obtain ⟨e, e1, -⟩ := at_all (K := K) (v := v) h1 h2 hk
    exact hD.2 _ _ e1
end
