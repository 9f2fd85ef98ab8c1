-- the relation between a State of the class and a row of the reference
def crel (V : Nat) (b : Int32) (r : RW) (c : Nat) : Prop := (b = 0 ∧ r c = 0 ∧ r (9 + c) = 0 ∧ r (18 + c) = -9 ∧ r (27 + c) = 0 ∧ r (36 + c) = 0 ∧ r (45 + c) = 0) ∨ ∃ f v t : Nat, f ≤ 99 ∧ v ≤ V ∧ t < 8 ∧ b = bt f v t ∧ r c = 1 ∧ r (9 + c) = nI f ∧ r (18 + c) = vlv v ∧ r (27 + c) = nI (t % 2) ∧ r (36 + c) = nI (t / 2 % 2) ∧ r (45 + c) = nI (t / 4)
def eq6 (r' : RW) (c' : Nat) (r : RW) (c : Nat) : Prop := r' c' = r c ∧ r' (9 + c') = r (9 + c) ∧ r' (18 + c') = r (18 + c) ∧ r' (27 + c') = r (27 + c) ∧ r' (36 + c') = r (36 + c) ∧ r' (45 + c') = r (45 + c)
theorem crel_mv {V : Nat} {b : Int32} {r r' : RW} {c c' : Nat} (e : eq6 r' c' r c) (h : crel V b r c) : crel V b r' c' := by
  obtain ⟨e0, e1, e2, e3, e4, e5⟩ := e
  unfold crel
  rw [e0, e1, e2, e3, e4, e5]
  exact h
def RC (x : Nat) (pn : Nat → Nat) (S : SS) (r : RW) : Prop := ∀ c, c < 9 → c ≠ x → crel (pn 9) (S 1 c) r c
def mk3 (x : Int32) : Prop := x = 0 ∨ x = 1 ∨ x = 2
def RM (S : SS) (r : RW) : Prop := ∀ c, c < 9 → S 2 c = r (54 + c) ∧ mk3 (r (54 + c))
def RT (pn : Nat → Nat) (S : SS) (r : RW) : Prop := ∀ v, v < pn 9 → S 3 v = r (63 + v) ∧ ∃ n : Nat, n ≤ 99 ∧ r (63 + v) = nI n
def RK (B : Nat) (S : SS) (r : RW) : Prop := (S 0 7 = r 67 ∧ S 0 8 = r 68 ∧ S 0 11 = r 69 ∧ S 0 10 = r 70 ∧ S 0 9 = r 71 ∧ S 0 12 = r 72 ∧ S 0 13 = r 73 ∧ S 0 14 = r 74 ∧ S 0 15 = r 75 ∧ S 0 16 = r 76 ∧ S 0 17 = r 77) ∧ (∃ a : Nat, a ≤ 99 ∧ r 67 = nI a) ∧ (∃ a : Nat, a ≤ 99 ∧ r 68 = nI a) ∧ (r 69 = 0 ∨ r 69 = 1) ∧ (r 70 = 0 ∨ r 70 = 1) ∧ (∃ a : Nat, a ≤ B ∧ r 71 = nI a) ∧ (∃ a : Nat, a ≤ B ∧ r 74 = nI a) ∧ ∃ a : Nat, a ≤ B ∧ r 75 = nI a
def RQ (S : SS) (r : RW) : Prop := ∃ m : Nat, m ≤ 24 ∧ S 0 6 = nI m ∧ r 78 = nI m ∧ ∀ i, i < m → S 4 i = r (79 + i) ∧ mk3 (r (79 + i))
def RR (x : Nat) (pn : Nat → Nat) (B : Nat) (S : SS) (r : RW) : Prop := RC x pn S r ∧ RM S r ∧ RT pn S r ∧ RK B S r ∧ RQ S r
def OC (pn : Nat → Nat) (cm : Int32) (S : SS) : Prop := ∀ v, v < pn 9 → (offI S v = 0 ↔ ¬ onM cm v = 0)
theorem OC_of {pn : Nat → Nat} {cm : Int32} {S S' : SS} (h : OC pn cm S) (e : S' 0 4 = S 0 4) : OC pn cm S' := by
  intro v hv
  unfold offI
  rw [e]
  exact h v hv
theorem mE_ge (r : RW) (c : Nat) {i : Nat} (h : 54 ≤ i) : mE r c i = r i := by
  unfold mE
  rw [if_neg (by omega)]
theorem upd_ne (r : RW) {i j : Nat} (v : Int32) (h : ¬ i = j) : upd r j v i = r i := by
  unfold upd
  rw [if_neg h]
theorem upd_at (r : RW) (j : Nat) (v : Int32) : upd r j v j = v := by
  unfold upd
  rw [if_pos rfl]
theorem mE_ne (r : RW) {c i : Nat} (h : ¬ i % 9 = c) : mE r c i = r i := by
  unfold mE
  rw [if_neg (fun q => h q.2)]
theorem RK_mono {B B' : Nat} {S : SS} {r : RW} (hB : B ≤ B') (h : RK B S r) : RK B' S r := by
  obtain ⟨h1, h2, h3, h4, h5, ⟨a, ha, ha2⟩, ⟨b, hb, hb2⟩, ⟨c, hc, hc2⟩⟩ := h
  exact ⟨h1, h2, h3, h4, h5, ⟨a, by omega, ha2⟩, ⟨b, by omega, hb2⟩, ⟨c, by omega, hc2⟩⟩
theorem RR_mono {x : Nat} {pn : Nat → Nat} {B B' : Nat} {S : SS} {r : RW} (hB : B ≤ B') (h : RR x pn B S r) : RR x pn B' S r := ⟨h.1, h.2.1, h.2.2.1, RK_mono hB h.2.2.2.1, h.2.2.2.2⟩
/-- the scalars when only some change -/
theorem RK_congr {B : Nat} {S S' : SS} {r r' : RW} (h : RK B S r) (hS : ∀ i, 7 ≤ i → i ≤ 17 → S' 0 i = S 0 i) (hr : ∀ i, 67 ≤ i → i ≤ 77 → r' i = r i) : RK B S' r' := by
  unfold RK
  rw [hS 7 (by omega) (by omega), hS 8 (by omega) (by omega), hS 11 (by omega) (by omega), hS 10 (by omega) (by omega), hS 9 (by omega) (by omega), hS 12 (by omega) (by omega), hS 13 (by omega) (by omega), hS 14 (by omega) (by omega), hS 15 (by omega) (by omega), hS 16 (by omega) (by omega), hS 17 (by omega) (by omega), hr 67 (by omega) (by omega), hr 68 (by omega) (by omega), hr 69 (by omega) (by omega), hr 70 (by omega) (by omega), hr 71 (by omega) (by omega), hr 72 (by omega) (by omega), hr 73 (by omega) (by omega), hr 74 (by omega) (by omega), hr 75 (by omega) (by omega), hr 76 (by omega) (by omega), hr 77 (by omega) (by omega)]
  exact h
theorem good_eq {pn : Nat → Nat} {b : Int32} {r : RW} {c : Nat} (hV : pn 9 ≤ 4) (h : crel (pn 9) b r c) : gI pn b = gM pn r c := by
  rcases h with ⟨h0, h1, -⟩ | ⟨f, v, t, hf, hv, ht, hb, h0, h1, -, h3, h4, -⟩
  · unfold gI gM
    rw [h0, h1, if_pos (by decide), if_neg (by decide)]
  · obtain ⟨q1, -, q3, q4, -⟩ := bt_all hf (Nat.le_trans hv hV) ht
    unfold gI gM
    rw [hb, q1, q3, q4, h0, h1, h3, h4, if_pos rfl]
    have e1 : nI (t % 2 * 1024) = 0 ↔ t % 2 = 0 := by rw [L0, nI_eq (by omega) (by omega)]; omega
    have e2 : nI (t / 2 % 2 * 2048) = 0 ↔ t / 2 % 2 = 0 := by rw [L0, nI_eq (by omega) (by omega)]; omega
    have e3 : nI (t % 2) = 1 ↔ t % 2 = 1 := by rw [L1, nI_eq (by omega) (by omega)]
    have e4 : nI (t / 2 % 2) = 1 ↔ t / 2 % 2 = 1 := by rw [L1, nI_eq (by omega) (by omega)]
    simp only [e1, e2, e3, e4]
    by_cases c1 : t % 2 = 0
    · rw [if_pos c1, if_neg (show ¬ t % 2 = 1 by omega)]
      split <;> rfl
    · rw [if_neg c1, if_pos (show t % 2 = 1 by omega)]
      by_cases c2 : t / 2 % 2 = 0
      · rw [if_pos c2, if_neg (show ¬ t / 2 % 2 = 1 by omega)]
        split <;> rfl
      · rw [if_neg c2, if_pos (show t / 2 % 2 = 1 by omega)]
theorem crel_0 {V : Nat} {b : Int32} {r : RW} {c : Nat} (hV : V ≤ 4) (h : crel V b r c) : (b = 0 ↔ r c = 0) ∧ (¬ b = 0 ↔ r c = 1) := by
  rcases h with ⟨h0, h1, -⟩ | ⟨f, v, t, hf, hv, ht, hb, h0, -⟩
  · rw [h0, h1]; decide
  · rw [h0]
    have := (bt_all hf (Nat.le_trans hv hV) ht).2.2.2.2.2.2.2.2
    rw [← hb] at this
    exact ⟨⟨fun q => absurd q this, fun q => absurd q (by decide)⟩, ⟨fun _ => rfl, fun _ => this⟩⟩
section
variable {pn : Nat → Nat} {B : Nat} {S : SS} {r : RW}
theorem R_leave (hN : PN pn) (h : RR 9 pn B S r) : RR (pn 0 - 1) pn B (cLv pn S) (mLv pn r) := by
  obtain ⟨hC, hM, hT, hK, hQ⟩ := h
  have hcl := hN.1
  have hV := hN.2.2.2.2.2
  have hc := hC (pn 0 - 1) (by omega) (by omega)
  have hz := crel_0 hV hc
  have hg := good_eq (pn := pn) hV hc
  unfold cLv mLv
  by_cases h1 : S 1 (pn 0 - 1) = 0
  · rw [if_pos h1, if_pos (hz.1.mp h1)]
    exact ⟨fun c h2 _ => hC c h2 (by omega), hM, hT, hK, hQ⟩
  · rw [if_neg h1, if_neg (fun q => h1 (hz.1.mpr q)), hg]
    obtain ⟨⟨k1, k2, k3, k4, k5, k6, k7, k8, k9, k10, k11⟩, K⟩ := hK
    obtain ⟨m, hm, m1, m2, m3⟩ := hQ
    have cells : ∀ (a : Nat) (va : Int32) (b : Nat) (vb : Int32), 54 ≤ b → RC (pn 0 - 1) pn (u2 S 0 a va) (mE (upd r b vb) (pn 0 - 1)) := by
      intro a va b vb hb c h2 h3
      have e1 : u2 S 0 a va 1 c = S 1 c := rfl
      rw [e1]
      refine crel_mv ⟨?_, ?_, ?_, ?_, ?_, ?_⟩ (hC c h2 (by omega)) <;> rw [mE_ne _ (by omega), upd_ne _ _ (by omega)]
    have big : ∀ (b : Nat) (vb : Int32) (i : Nat), 54 ≤ i → ¬ i = b → mE (upd r b vb) (pn 0 - 1) i = r i := by
      intro b vb i h2 h3
      rw [mE_ge _ _ h2, upd_ne _ _ h3]
    by_cases h2 : gM pn r (pn 0 - 1) = 0
    · rw [if_pos h2, if_pos h2]
      refine ⟨cells _ _ _ _ (by omega), fun c h3 => ?_, fun v h3 => ?_, ?_, m, hm, m1, ?_, fun i hi => ?_⟩
      · rw [big _ _ _ (by omega) (by omega)]; exact hM c h3
      · rw [big _ _ _ (by omega) (by omega)]; exact hT v h3
      · unfold RK
        rw [big 73 _ 67 (by omega) (by omega), big 73 _ 68 (by omega) (by omega), big 73 _ 69 (by omega) (by omega), big 73 _ 70 (by omega) (by omega), big 73 _ 71 (by omega) (by omega), big 73 _ 72 (by omega) (by omega), big 73 _ 74 (by omega) (by omega), big 73 _ 75 (by omega) (by omega), big 73 _ 76 (by omega) (by omega), big 73 _ 77 (by omega) (by omega), mE_ge _ _ (by omega), upd_at]
        refine ⟨⟨k1, k2, k3, k4, k5, k6, ?_, k8, k9, k10, k11⟩, K⟩
        show S 0 13 + 1 = _
        rw [k7]
      · rw [big _ _ _ (by omega) (by omega)]; exact m2
      · rw [big _ _ _ (by omega) (by omega)]; exact m3 i hi
    · rw [if_neg h2, if_neg h2]
      refine ⟨cells _ _ _ _ (by omega), fun c h3 => ?_, fun v h3 => ?_, ?_, m, hm, m1, ?_, fun i hi => ?_⟩
      · rw [big _ _ _ (by omega) (by omega)]; exact hM c h3
      · rw [big _ _ _ (by omega) (by omega)]; exact hT v h3
      · unfold RK
        rw [big 72 _ 67 (by omega) (by omega), big 72 _ 68 (by omega) (by omega), big 72 _ 69 (by omega) (by omega), big 72 _ 70 (by omega) (by omega), big 72 _ 71 (by omega) (by omega), big 72 _ 73 (by omega) (by omega), big 72 _ 74 (by omega) (by omega), big 72 _ 75 (by omega) (by omega), big 72 _ 76 (by omega) (by omega), big 72 _ 77 (by omega) (by omega), mE_ge _ _ (by omega), upd_at]
        refine ⟨⟨k1, k2, k3, k4, k5, ?_, k7, k8, k9, k10, k11⟩, K⟩
        show S 0 12 + 1 = _
        rw [k6]
      · rw [big _ _ _ (by omega) (by omega)]; exact m2
      · rw [big _ _ _ (by omega) (by omega)]; exact m3 i hi
theorem mM0_big (hcl : pn 0 ≤ 9) {i : Nat} (h : 63 ≤ i) : mM0 pn r i = r i := by
  simp only [mM0, mE, mSl, mSh]
  rw [if_neg (by omega), if_neg (by omega), if_neg (by omega)]
theorem mM0_mark {c : Nat} : mM0 pn r (54 + c) = if c < pn 0 then (if c = 0 then 0 else r (54 + c - 1)) else r (54 + c) := by
  simp only [mM0, mE, mSl, mSh]
  rw [if_neg (show ¬ (54 + c < 54 ∧ (54 + c) % 9 = 0) by omega)]
  by_cases h1 : c < pn 0
  · rw [if_pos h1, if_pos (show 54 ≤ 54 + c ∧ 54 + c < 54 + pn 0 by omega)]
    by_cases h2 : c = 0
    · rw [if_pos h2, if_pos (by omega)]
    · rw [if_neg h2, if_neg (by omega), if_neg (by omega)]
  · rw [if_neg h1, if_neg (by omega), if_neg (by omega)]
theorem mM0_cell {i : Nat} (hi : i < 54) (h0 : 0 < i % 9) : mM0 pn r i = if i % 9 < pn 0 then r (i - 1) else r i := by
  simp only [mM0, mE, mSl, mSh]
  rw [if_neg (show ¬ (i < 54 ∧ i % 9 = 0) by omega), if_neg (show ¬ (54 ≤ i ∧ i < 54 + pn 0) by omega)]
  by_cases h1 : i % 9 < pn 0
  · rw [if_pos h1, if_pos ⟨hi, h0, h1⟩]
  · rw [if_neg h1, if_neg (by omega)]
theorem mQu_ne {m : Nat} (h1 : ¬ m = 0) {i : Nat} (h : i ≠ 0 ∧ i ≠ 45 ∧ i ≠ 78 ∧ ¬ (79 ≤ i ∧ i < 79 + (m - 1))) : mQu m r i = r i := by
  unfold mQu
  rw [if_neg h1]
  show (if i = 0 then _ else if i = 45 then _ else if i = 78 then _ else if 79 ≤ i ∧ i < 79 + (m - 1) then r (i + 1) else r i) = r i
  rw [if_neg h.1, if_neg h.2.1, if_neg h.2.2.1, if_neg h.2.2.2]
theorem mQu_q {m : Nat} (h1 : ¬ m = 0) {i : Nat} (h : i < m - 1) : mQu m r (79 + i) = r (79 + i + 1) := by
  unfold mQu
  rw [if_neg h1]
  show (if 79 + i = 0 then _ else if 79 + i = 45 then _ else if 79 + i = 78 then _ else if 79 ≤ 79 + i ∧ 79 + i < 79 + (m - 1) then r (79 + i + 1) else r (79 + i)) = r (79 + i + 1)
  rw [if_neg (by omega), if_neg (by omega), if_neg (by omega), if_pos (by omega)]
theorem R_move (hN : PN pn) {m : Nat} (hm0 : r 78 = nI m) (hm24 : m ≤ 24) (h : RR (pn 0 - 1) pn B S r) : RR 9 pn B (cMv pn m S) (mQu m (mM0 pn r)) := by
  obtain ⟨hC, hM, hT, hK, m', hm', m1, m2, m3⟩ := h
  have hcl := hN.1
  have hV := hN.2.2.2.2.2
  have : m' = m := by
    rw [m2] at hm0
    exact (nI_eq (by omega) (by omega)).mp hm0
  subst this
  -- cells but the first
  have cells : ∀ (S' : SS) (r' : RW), (∀ c, 0 < c → S' 1 c = cM0 pn S 1 c) → (∀ i, i < 54 → 0 < i % 9 → r' i = mM0 pn r i) → ∀ c, c < 9 → 0 < c → crel (pn 9) (S' 1 c) r' c := by
    intro S' r' hS' hr' c h1 h2
    rw [hS' c h2]
    have e1 : cM0 pn S 1 c = if c < pn 0 then S 1 (c - 1) else S 1 c := by
      show (if c = 0 then 0 else if c < pn 0 then S 1 (c - 1) else S 1 c) = _
      rw [if_neg (by omega)]
    rw [e1]
    have e6 : ∀ j, j < 6 → r' (9 * j + c) = if c < pn 0 then r (9 * j + (c - 1)) else r (9 * j + c) := by
      intro j hj
      rw [hr' _ (by omega) (by omega), mM0_cell (by omega) (by omega)]
      have : (9 * j + c) % 9 = c := by omega
      rw [this]
      by_cases q : c < pn 0
      · rw [if_pos q, if_pos q]
        congr 1
        omega
      · rw [if_neg q, if_neg q]
    have f0 := e6 0 (by omega)
    have f1 := e6 1 (by omega)
    have f2 := e6 2 (by omega)
    have f3 := e6 3 (by omega)
    have f4 := e6 4 (by omega)
    have f5 := e6 5 (by omega)
    simp only [Nat.mul_zero, Nat.zero_add, Nat.mul_one, Nat.reduceMul] at f0 f1 f2 f3 f4 f5
    by_cases q : c < pn 0
    · simp only [if_pos q] at f0 f1 f2 f3 f4 f5 ⊢
      exact crel_mv ⟨f0, f1, f2, f3, f4, f5⟩ (hC (c - 1) (by omega) (by omega))
    · simp only [if_neg q] at f0 f1 f2 f3 f4 f5 ⊢
      exact crel_mv ⟨f0, f1, f2, f3, f4, f5⟩ (hC c h1 (by omega))
  have marks : ∀ c, c < 9 → cM0 pn S 2 c = mM0 pn r (54 + c) ∧ mk3 (mM0 pn r (54 + c)) := by
    intro c h1
    have e1 : cM0 pn S 2 c = if c < pn 0 then (if c = 0 then 0 else S 2 (c - 1)) else S 2 c := by
      show (if c = 0 then 0 else if c < pn 0 then S 2 (c - 1) else S 2 c) = _
      by_cases q : c = 0
      · rw [if_pos q, if_pos (by omega), if_pos q]
      · rw [if_neg q]
        by_cases q2 : c < pn 0
        · rw [if_pos q2, if_pos q2, if_neg q]
        · rw [if_neg q2, if_neg q2]
    rw [e1, mM0_mark]
    by_cases q2 : c < pn 0
    · rw [if_pos q2, if_pos q2]
      by_cases q : c = 0
      · rw [if_pos q, if_pos q]
        exact ⟨rfl, Or.inl rfl⟩
      · rw [if_neg q, if_neg q]
        have := hM (c - 1) (by omega)
        have e2 : 54 + (c - 1) = 54 + c - 1 := by omega
        rw [e2] at this
        exact this
    · rw [if_neg q2, if_neg q2]
      exact hM c h1
  unfold cMv
  by_cases h1 : m' = 0
  · have e0 : mQu m' (mM0 pn r) = mM0 pn r := by unfold mQu; rw [if_pos h1]
    rw [if_pos h1, e0]
    refine ⟨fun c h2 _ => ?_, marks, fun v h2 => ?_, RK_congr hK (fun i _ _ => rfl) (fun i _ _ => mM0_big hcl.2 (by omega)), m', hm', m1, ?_, fun i hi => ?_⟩
    · by_cases q : c = 0
      · subst q
        left
        refine ⟨rfl, ?_, ?_, ?_, ?_, ?_, ?_⟩ <;> rfl
      · exact cells _ _ (fun _ _ => rfl) (fun _ _ _ => rfl) c h2 (by omega)
    · rw [mM0_big hcl.2 (by omega)]; exact hT v h2
    · rw [mM0_big hcl.2 (by omega)]; exact m2
    · rw [mM0_big hcl.2 (by omega)]; exact m3 i hi
  · rw [if_neg h1]
    have q79 : mM0 pn r 79 = r 79 := mM0_big hcl.2 (by omega)
    refine ⟨fun c h2 _ => ?_, fun c h2 => ?_, fun v h2 => ?_, RK_congr hK (fun i q1 q2 => ?_) (fun i q1 q2 => ?_), m' - 1, by omega, rfl, ?_, fun i hi => ?_⟩
    · by_cases q : c = 0
      · subst q
        have e0 := m3 0 (by omega)
        have e1 : (u1 (u2 (u2 (cM0 pn S) 1 0 (ofE (S 4 0))) 0 6 (nI (m' - 1))) 4 (fun i => if i < m' - 1 then S 4 (i + 1) else S 4 i)) 1 0 = ofE (r 79) := by
          show ofE (S 4 0) = ofE (r 79)
          rw [e0.1]
        rw [e1]
        have f0 : mQu m' (mM0 pn r) 0 = if r 79 ≤ 0 then 0 else 1 := by
          unfold mQu
          rw [if_neg h1, q79]
          rfl
        have f5 : mQu m' (mM0 pn r) (45 + 0) = if r 79 = 2 then 1 else 0 := by
          unfold mQu
          rw [if_neg h1, q79]
          rfl
        have g9 : mQu m' (mM0 pn r) (9 + 0) = 0 := by rw [mQu_ne h1 (by omega)]; rfl
        have g18 : mQu m' (mM0 pn r) (18 + 0) = -9 := by rw [mQu_ne h1 (by omega)]; rfl
        have g27 : mQu m' (mM0 pn r) (27 + 0) = 0 := by rw [mQu_ne h1 (by omega)]; rfl
        have g36 : mQu m' (mM0 pn r) (36 + 0) = 0 := by rw [mQu_ne h1 (by omega)]; rfl
        rcases e0.2 with e2 | e2 | e2
        · have e2' : r 79 = 0 := e2
          left
          rw [e2'] at f0 f5 ⊢
          exact ⟨rfl, f0, g9, g18, g27, g36, f5⟩
        · have e2' : r 79 = 1 := e2
          right
          rw [e2'] at f0 f5 ⊢
          exact ⟨0, 0, 0, by omega, by omega, by omega, rfl, f0, g9, g18, g27, g36, f5⟩
        · have e2' : r 79 = 2 := e2
          right
          rw [e2'] at f0 f5 ⊢
          exact ⟨0, 0, 4, by omega, by omega, by omega, rfl, f0, g9, g18, g27, g36, f5⟩
      · refine cells _ _ (fun c' hc' => ?_) (fun i i1 i2 => ?_) c h2 (by omega)
        · show (if 1 = 1 ∧ c' = 0 then _ else cM0 pn S 1 c') = _
          rw [if_neg (by omega)]
        · exact mQu_ne h1 (by omega)
    · rw [mQu_ne h1 (by omega)]
      exact marks c h2
    · rw [mQu_ne h1 (by omega), mM0_big hcl.2 (by omega)]
      exact hT v h2
    · show (if 0 = 0 ∧ i = 6 then _ else _) = S 0 i
      rw [if_neg (by omega)]
      rfl
    · rw [mQu_ne h1 (by omega), mM0_big hcl.2 (by omega)]
    · unfold mQu
      rw [if_neg h1]
      rfl
    · rw [mQu_q h1 hi, mM0_big hcl.2 (by omega)]
      have := m3 (i + 1) (by omega)
      have e2 : 79 + (i + 1) = 79 + i + 1 := by omega
      rw [e2] at this
      refine ⟨?_, this.2⟩
      show (if i < m' - 1 then S 4 (i + 1) else S 4 i) = _
      rw [if_pos hi]
      exact this.1
end
