section
variable {pn : Nat → Nat} {B : Nat} {S : SS} {r : RW} {dr : Nat → Int32} {cm : Int32}
/-- only cell c0 changes -/
theorem R_cell {S' : SS} {r' : RW} {c0 : Nat} (h : RR 9 pn B S r) (hS1 : ∀ c, c ≠ c0 → S' 1 c = S 1 c) (hS : ∀ a, a ≠ 1 → S' a = S a) (hr : ∀ i, ¬ (i < 54 ∧ i % 9 = c0) → r' i = r i) (hc : c0 < 9) (hn : crel (pn 9) (S' 1 c0) r' c0) : RR 9 pn B S' r' := by
  obtain ⟨hC, hM, hT, hK, m, hm, m1, m2, m3⟩ := h
  refine ⟨fun c h1 _ => ?_, fun c h1 => ?_, fun v h1 => ?_, RK_congr hK (fun i _ _ => by rw [hS 0 (by decide)]) (fun i _ _ => hr i (by omega)), m, hm, by rw [hS 0 (by decide)]; exact m1, by rw [hr 78 (by omega)]; exact m2, fun i hi => ?_⟩
  · by_cases q : c = c0
    · subst q; exact hn
    · rw [hS1 c q]
      refine crel_mv ⟨?_, ?_, ?_, ?_, ?_, ?_⟩ (hC c h1 (by omega)) <;> exact hr _ (by omega)
  · rw [hS 2 (by decide), hr _ (by omega)]; exact hM c h1
  · by_cases q : v < 4
    · rw [hS 3 (by decide), hr _ (by omega)]; exact hT v h1
    · rw [hS 3 (by decide), hr _ (by omega)]; exact hT v h1
  · rw [hS 4 (by decide), hr _ (by omega)]; exact m3 i hi
theorem R_leak (hN : PN pn) (h : RR 9 pn B S r) : RR 9 pn B (cLk pn S) (mLk pn r) := by
  obtain ⟨hC, hM, hT, hK, m, hm, m1, m2, m3⟩ := h
  have hcl := hN.1
  have hV := hN.2.2.2.2.2
  have big : ∀ i, 18 ≤ i ∨ i < 9 → mLk pn r i = r i := by
    intro i hi
    show (if 9 ≤ i ∧ i < 9 + pn 0 then _ else r i) = r i
    rw [if_neg (by omega)]
  refine ⟨fun c h1 _ => ?_, fun c h1 => ?_, fun v h1 => ?_, RK_congr hK (fun i _ _ => rfl) (fun i _ _ => big i (by omega)), m, hm, m1, by rw [big 78 (by omega)]; exact m2, fun i hi => ?_⟩
  · have hc := hC c h1 (by omega)
    have e1 : cLk pn S 1 c = if c < pn 0 then lkb (S 1 c) else S 1 c := rfl
    have e2 : mLk pn r (9 + c) = if c < pn 0 then lkM r c else r (9 + c) := by
      show (if 9 ≤ 9 + c ∧ 9 + c < 9 + pn 0 then lkM r (9 + c - 9) else r (9 + c)) = _
      by_cases q : c < pn 0
      · rw [if_pos (by omega), if_pos q, Nat.add_sub_cancel_left]
      · rw [if_neg (by omega), if_neg q]
    by_cases q : c < pn 0
    · rw [e1, if_pos q]
      rw [if_pos q] at e2
      unfold crel
      rw [big c (by omega), big (18 + c) (by omega), big (27 + c) (by omega), big (36 + c) (by omega), big (45 + c) (by omega), e2]
      rcases hc with ⟨c0, c1, c2, c3, c4, c5, c6⟩ | ⟨f, v, t, hf, hv, ht, hb, c1, c2, c3, c4, c5, c6⟩
      · left
        refine ⟨?_, c1, ?_, c3, c4, c5, c6⟩
        · rw [c0]; decide
        · unfold lkM
          rw [c6, if_neg (by decide), c2]
      · right
        obtain ⟨q1, -, -, -, q5, -⟩ := bt_all hf (Nat.le_trans hv hV) ht
        unfold lkb lkM
        rw [hb, q5, q1, c6, c2]
        by_cases t4 : t / 4 = 0
        · rw [if_pos (by rw [t4]; rfl), if_neg (by rw [t4]; decide)]
          exact ⟨f, v, t, hf, hv, ht, rfl, c1, rfl, c3, c4, c5, by rw [t4]⟩
        · have t41 : t / 4 = 1 := by omega
          have z1 : ¬ nI (t / 4 * 4096) = 0 := by rw [t41]; decide
          have z2 : nI (t / 4) = 1 := by rw [t41]; rfl
          rw [if_neg z1, if_pos z2]
          by_cases f0 : f = 0
          · subst f0
            have z3 : nI 0 ≤ 0 := by decide
            rw [if_pos z3, if_pos z3]
            exact ⟨0, v, t, hf, hv, ht, rfl, c1, rfl, c3, c4, c5, rfl⟩
          · have z3 : ¬ nI f ≤ 0 := nI_nle (by omega) (by omega)
            rw [if_neg z3, if_neg z3, nI_sub1 (by omega), bt_leaked hf (by omega)]
            exact ⟨f - 1, v, t, by omega, hv, ht, rfl, c1, rfl, c3, c4, c5, rfl⟩
    · rw [e1, if_neg q]
      rw [if_neg q] at e2
      exact crel_mv ⟨big _ (by omega), e2, big _ (by omega), big _ (by omega), big _ (by omega), big _ (by omega)⟩ hc
  · rw [big _ (by omega)]; exact hM c h1
  · rw [big _ (by omega)]; exact hT v h1
  · rw [big _ (by omega)]; exact m3 i hi
theorem u2_same (S : SS) (a i : Nat) (v : Int32) : u2 S a i v a i = v := by
  unfold u2
  rw [if_pos ⟨rfl, rfl⟩]
theorem u2_a (S : SS) {a a' : Nat} (i : Nat) (v : Int32) (h : a' ≠ a) : u2 S a i v a' = S a' := by
  funext j
  unfold u2
  rw [if_neg (fun q => h q.1)]
theorem u2_i (S : SS) (a : Nat) {i i' : Nat} (v : Int32) (h : i' ≠ i) : u2 S a i v a i' = S a i' := by
  unfold u2
  rw [if_neg (fun q => h q.2)]
theorem R_fill (hN : PN pn) (hO : OC pn cm S) {s : Nat} (h : RR 9 pn B S r) : RR 9 pn B (cFl pn dr s S) (mFl pn dr cm s r) := by
  have hcl := hN.1
  have hV := hN.2.2.2.2.2
  have hc := h.1 0 (by omega) (by omega)
  have hz := crel_0 hV hc
  unfold cFl mFl
  by_cases h1 : S 1 0 = 0
  · rw [if_pos h1, if_neg (by rw [hz.1.mp h1]; decide)]
    exact h
  · rw [if_neg h1, if_pos (hz.2.mp h1)]
    by_cases h2 : pn 9 = 0
    · rw [if_pos h2, if_pos h2]
      exact h
    · rw [if_neg h2, if_neg h2]
      have hlt : s % pn 9 < pn 9 := Nat.mod_lt _ (by omega)
      have hst := h.2.2.1 _ hlt
      have ho := hO _ hlt
      have e1 : (if offI S (s % pn 9) = 0 then lmt (S 3 (s % pn 9) + dr (s % pn 9)) else 0) = (if onM cm (s % pn 9) = 0 then 0 else lmt (r (63 + s % pn 9) + dr (s % pn 9))) := by
        by_cases q : onM cm (s % pn 9) = 0
        · rw [if_pos q, if_neg (fun z => (ho.mp z) q)]
        · rw [if_neg q, if_pos (ho.mpr q), hst.1]
      rw [e1]
      have e2 : ∃ n : Nat, n ≤ 99 ∧ (if onM cm (s % pn 9) = 0 then 0 else lmt (r (63 + s % pn 9) + dr (s % pn 9))) = nI n := by
        by_cases q : onM cm (s % pn 9) = 0
        · rw [if_pos q]; exact ⟨0, by omega, rfl⟩
        · rw [if_neg q]; exact lmt_nat _
      obtain ⟨n, hn, e2⟩ := e2
      rw [e2]
      refine R_cell (c0 := 0) h (fun c q => u2_i S 1 _ q) (fun a q => u2_a S _ _ q) (fun i q => ?_) (by omega) ?_
      · rw [upd_ne _ _ (by omega), upd_ne _ _ (by omega)]
      · rw [u2_same]
        rcases hc with ⟨c0, -⟩ | ⟨f, v, t, hf, hv, ht, hb, c1, c2, c3, c4, c5, c6⟩
        · exact absurd c0 h1
        · right
          have q9 := bt_filled (f := f) (v := v) (t := t) (f' := n) (w := s % pn 9) hf (Nat.le_trans hv hV) ht hn (by omega) (fun _ _ => 0, fun _ => 0)
          have q8 : fld (bt f v t) (s % pn 9) (nI n) = bt n (s % pn 9 + 1) t := by
            have := Option.some.inj q9
            exact (Prod.mk.injEq _ _ _ _ ▸ this).1
          refine ⟨n, s % pn 9 + 1, t, hn, by omega, ht, ?_, c1, rfl, ?_, c4, c5, c6⟩
          · rw [hb]; exact q8
          · show nI (s % pn 9) = _
            unfold vlv
            rw [if_neg (by omega)]
            rfl
/-- only setting v0 changes -/
theorem R_set (hN : PN pn) {v0 : Nat} {x : Int32} (hv : v0 < pn 9) (hx : ∃ n : Nat, n ≤ 99 ∧ x = nI n) (h : RR 9 pn B S r) : RR 9 pn B (u2 S 3 v0 x) (upd r (63 + v0) x) := by
  obtain ⟨hC, hM, hT, hK, m, hm, m1, m2, m3⟩ := h
  have hV := hN.2.2.2.2.2
  have big : ∀ i, ¬ i = 63 + v0 → upd r (63 + v0) x i = r i := fun i hi => upd_ne _ _ hi
  refine ⟨fun c h1 _ => ?_, fun c h1 => ?_, fun v h1 => ?_, RK_congr hK (fun i _ _ => rfl) (fun i _ _ => big i (by omega)), m, hm, m1, by rw [big 78 (by omega)]; exact m2, fun i hi => ?_⟩
  · refine crel_mv ⟨?_, ?_, ?_, ?_, ?_, ?_⟩ (hC c h1 (by omega)) <;> exact big _ (by omega)
  · rw [big _ (by omega)]; exact hM c h1
  · by_cases q : v = v0
    · subst q
      rw [upd_at, u2_same]
      exact ⟨rfl, hx⟩
    · rw [big _ (by omega), u2_i _ _ _ q]; exact hT v h1
  · rw [big _ (by omega)]; exact m3 i hi
/-- what the scale sees of the bottle there -/
theorem R_see (hN : PN pn) (h : RR 9 pn B S r) {c : Nat} (hc : c < 9) : ∃ v : Nat, v ≤ pn 9 ∧ vlf (S 1 c) = vlv v ∧ r (18 + c) = vlv v ∧ ((v = 0 ∨ r c = 1 ∧ (S 1 c &&& 127) = r (9 + c))) := by
  have hV := hN.2.2.2.2.2
  rcases h.1 c hc (by omega) with ⟨c0, c1, c2, c3, -⟩ | ⟨f, v, t, hf, hv, ht, hb, c1, c2, c3, -⟩
  · exact ⟨0, by omega, by rw [c0]; decide, by rw [c3]; rfl, Or.inl rfl⟩
  · obtain ⟨q1, q2, -⟩ := bt_all hf (Nat.le_trans hv hV) ht
    exact ⟨v, hv, by rw [hb]; exact q2, c3, Or.inr ⟨c1, by rw [hb, q1, c2]⟩⟩
theorem R_weigh (hN : PN pn) (hO : OC pn cm S) {v : Nat} (hv : v ≤ pn 9) (hv2 : v = 0 ∨ r (pn 1) = 1 ∧ (S 1 (pn 1) &&& 127) = r (9 + pn 1)) (h : RR 9 pn B S r) : RR 9 pn B (cWg pn v S) (mWg pn cm v r) := by
  unfold cWg mWg
  by_cases h1 : v = 0
  · rw [if_pos h1, if_pos h1]
    split <;> exact h
  · rcases hv2 with q | ⟨q1, q2⟩
    · exact absurd q h1
    · rw [if_neg h1, if_neg h1, if_pos q1]
      have ho := hO (v - 1) (by omega)
      by_cases h2 : onM cm (v - 1) = 0
      · rw [if_neg (fun z => (ho.mp z) h2), if_pos h2]
        exact h
      · rw [if_pos (ho.mpr h2), if_neg h2, q2, (h.2.2.1 (v - 1) (by omega)).1]
        exact R_set hN (by omega) (lmt_nat _) h
theorem R_dress (hN : PN pn) (h : RR 9 pn B S r) : RR 9 pn B (cE2 pn (cE1 pn S)) (mDr (pn 3) 36 68 (mDr (pn 2) 27 67 r)) := by
  have hcl := hN.1
  have hst := hN.2.1
  have hV := hN.2.2.2.2.2
  have one : RR 9 pn B (cE1 pn S) (mDr (pn 2) 27 67 r) := by
    have hc := h.1 (pn 2) (by omega) (by omega)
    have hz := crel_0 hV hc
    have hk := h.2.2.2.1
    unfold cE1 mDr
    by_cases h1 : S 1 (pn 2) = 0
    · rw [if_pos h1, if_neg (by rw [hz.1.mp h1]; decide)]
      exact h
    · rw [if_neg h1, if_pos (hz.2.mp h1), hk.1.1]
      by_cases h2 : r 67 ≤ 0
      · rw [if_pos h2, if_pos h2]; exact h
      · rw [if_neg h2, if_neg h2]
        have hh : RR 9 pn B (u2 S 1 (pn 2) (S 1 (pn 2) ||| 1024)) (upd r (27 + pn 2) 1) := by
          refine R_cell (c0 := pn 2) h (fun c q => u2_i S 1 _ q) (fun a q => u2_a S _ _ q) (fun i q => upd_ne _ _ (by omega)) (by omega) ?_
          rw [u2_same]
          rcases hc with ⟨c0, -⟩ | ⟨f, v, t, hf, hv, ht, hb, c1, c2, c3, c4, c5, c6⟩
          · exact absurd c0 h1
          · right
            obtain ⟨-, -, -, -, -, q6, -⟩ := bt_all hf (Nat.le_trans hv hV) ht
            refine ⟨f, v, t / 2 * 2 + 1, hf, hv, by omega, by rw [hb]; exact q6, ?_, ?_, ?_, ?_, ?_, ?_⟩
            · rw [upd_ne _ _ (by omega)]; exact c1
            · rw [upd_ne _ _ (by omega)]; exact c2
            · rw [upd_ne _ _ (by omega)]; exact c3
            · rw [upd_at]
              have : (t / 2 * 2 + 1) % 2 = 1 := by omega
              rw [this]; rfl
            · rw [upd_ne _ _ (by omega), c5]; congr 1; omega
            · rw [upd_ne _ _ (by omega), c6]; congr 1; omega
        obtain ⟨hC, hM, hT, ⟨⟨k1, k2, k3, k4, k5, k6, k7, k8, k9, k10, k11⟩, ⟨a, ha, ha2⟩, K⟩, m, hm, m1, m2, m3⟩ := hh
        have e67 : upd r (27 + pn 2) 1 67 = r 67 := upd_ne _ _ (by omega)
        rw [e67] at k1 ha2
        have big : ∀ i, ¬ i = 67 → upd (upd r (27 + pn 2) 1) 67 (r 67 - 1) i = upd r (27 + pn 2) 1 i := fun i hi => upd_ne _ _ hi
        refine ⟨fun c q1 q2 => ?_, fun c q1 => ?_, fun v q1 => ?_, ⟨⟨?_, ?_, ?_, ?_, ?_, ?_, ?_, ?_, ?_, ?_, ?_⟩, ⟨a - 1, by omega, ?_⟩, ?_⟩, m, hm, m1, ?_, fun i hi => ?_⟩
        · refine crel_mv ⟨?_, ?_, ?_, ?_, ?_, ?_⟩ (hC c q1 q2) <;> exact big _ (by omega)
        · rw [big _ (by omega)]; exact hM c q1
        · rw [big _ (by omega)]; exact hT v q1
        · rw [upd_at]; rfl
        · rw [big _ (by decide)]; exact k2
        · rw [big _ (by decide)]; exact k3
        · rw [big _ (by decide)]; exact k4
        · rw [big _ (by decide)]; exact k5
        · rw [big _ (by decide)]; exact k6
        · rw [big _ (by decide)]; exact k7
        · rw [big _ (by decide)]; exact k8
        · rw [big _ (by decide)]; exact k9
        · rw [big _ (by decide)]; exact k10
        · rw [big _ (by decide)]; exact k11
        · rw [upd_at, ha2, nI_sub1]
          rcases Nat.eq_zero_or_pos a with z | z
          · subst z; rw [ha2] at h2; exact absurd (show nI 0 ≤ 0 by decide) h2
          · exact z
        · rw [big _ (by decide), big _ (by decide), big _ (by decide), big _ (by decide), big _ (by decide), big _ (by decide)]; exact K
        · rw [big _ (by decide)]; exact m2
        · rw [big _ (by omega)]; exact m3 i hi
  have h := one
  clear one
  generalize cE1 pn S = S at h ⊢
  generalize mDr (pn 2) 27 67 r = r at h ⊢
  have hc := h.1 (pn 3) (by omega) (by omega)
  have hz := crel_0 hV hc
  have hk := h.2.2.2.1
  unfold cE2 mDr
  by_cases h1 : S 1 (pn 3) = 0
  · rw [if_pos h1, if_neg (by rw [hz.1.mp h1]; decide)]
    exact h
  · rw [if_neg h1, if_pos (hz.2.mp h1), hk.1.2.1]
    by_cases h2 : r 68 ≤ 0
    · rw [if_pos h2, if_pos h2]; exact h
    · rw [if_neg h2, if_neg h2]
      have hh : RR 9 pn B (u2 S 1 (pn 3) (S 1 (pn 3) ||| 2048)) (upd r (36 + pn 3) 1) := by
        refine R_cell (c0 := pn 3) h (fun c q => u2_i S 1 _ q) (fun a q => u2_a S _ _ q) (fun i q => upd_ne _ _ (by omega)) (by omega) ?_
        rw [u2_same]
        rcases hc with ⟨c0, -⟩ | ⟨f, v, t, hf, hv, ht, hb, c1, c2, c3, c4, c5, c6⟩
        · exact absurd c0 h1
        · right
          obtain ⟨-, -, -, -, -, -, q7, -⟩ := bt_all hf (Nat.le_trans hv hV) ht
          refine ⟨f, v, t / 4 * 4 + 2 + t % 2, hf, hv, by omega, by rw [hb]; exact q7, ?_, ?_, ?_, ?_, ?_, ?_⟩
          · rw [upd_ne _ _ (by omega)]; exact c1
          · rw [upd_ne _ _ (by omega)]; exact c2
          · rw [upd_ne _ _ (by omega)]; exact c3
          · rw [upd_ne _ _ (by omega), c4]; congr 1; omega
          · rw [upd_at]
            have : (t / 4 * 4 + 2 + t % 2) / 2 % 2 = 1 := by omega
            rw [this]; rfl
          · rw [upd_ne _ _ (by omega), c6]; congr 1; omega
      obtain ⟨hC, hM, hT, ⟨⟨k1, k2, k3, k4, k5, k6, k7, k8, k9, k10, k11⟩, k67, ⟨a, ha, ha2⟩, K⟩, m, hm, m1, m2, m3⟩ := hh
      have e68 : upd r (36 + pn 3) 1 68 = r 68 := upd_ne _ _ (by omega)
      rw [e68] at k2 ha2
      have big : ∀ i, ¬ i = 68 → upd (upd r (36 + pn 3) 1) 68 (r 68 - 1) i = upd r (36 + pn 3) 1 i := fun i hi => upd_ne _ _ hi
      refine ⟨fun c q1 q2 => ?_, fun c q1 => ?_, fun v q1 => ?_, ⟨⟨?_, ?_, ?_, ?_, ?_, ?_, ?_, ?_, ?_, ?_, ?_⟩, ?_, ⟨a - 1, by omega, ?_⟩, ?_⟩, m, hm, m1, ?_, fun i hi => ?_⟩
      · refine crel_mv ⟨?_, ?_, ?_, ?_, ?_, ?_⟩ (hC c q1 q2) <;> exact big _ (by omega)
      · rw [big _ (by omega)]; exact hM c q1
      · rw [big _ (by omega)]; exact hT v q1
      · rw [big _ (by decide)]; exact k1
      · rw [upd_at]; rfl
      · rw [big _ (by decide)]; exact k3
      · rw [big _ (by decide)]; exact k4
      · rw [big _ (by decide)]; exact k5
      · rw [big _ (by decide)]; exact k6
      · rw [big _ (by decide)]; exact k7
      · rw [big _ (by decide)]; exact k8
      · rw [big _ (by decide)]; exact k9
      · rw [big _ (by decide)]; exact k10
      · rw [big _ (by decide)]; exact k11
      · rw [big _ (by decide)]; exact k67
      · rw [upd_at, ha2, nI_sub1]
        rcases Nat.eq_zero_or_pos a with z | z
        · subst z; rw [ha2] at h2; exact absurd (show nI 0 ≤ 0 by decide) h2
        · exact z
      · rw [big _ (by decide), big _ (by decide), big _ (by decide), big _ (by decide), big _ (by decide)]; exact K
      · rw [big _ (by decide)]; exact m2
      · rw [big _ (by omega)]; exact m3 i hi
end
