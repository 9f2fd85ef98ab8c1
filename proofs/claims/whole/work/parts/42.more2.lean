section
variable {pn : Nat → Nat} {B : Nat} {S : SS} {r : RW} {dr : Nat → Int32} {cm : Int32} {h : PH} {o k : Nat}
-- clear
def cEA (pn : Nat → Nat) (S : SS) : SS := u2 (u2 (if S 1 (pn 5) = 0 then S else u2 (u2 S 1 (pn 5) 0) 0 16 (S 0 16 + 1)) 2 (pn 5) 0) 0 10 0
theorem x_endAlarm (X : XC h o pn dr) (S : SS) : f_X3_endAlarm o (put h o S) = some (if S 1 (pn 5) = 0 then 0 else 1, put h o (cEA pn S)) := by
  have hst := X.2.2.2.1
  have hcl := X.2.2.1
  have e46 : ∀ (T : SS) (v : Int32), (v = 0 ∨ v = 1) → f_X3_endAlarm_b46 o (nI (pn 5)) v (put h o T) = some (v, put h o (u2 (u2 T 2 (pn 5) 0) 0 10 0)) := by
    intro T v hv
    unfold f_X3_endAlarm_b46
    rw [X.w2 _ (pn 5) rfl (by omega), XC.s0, bz_at hv]
  unfold f_X3_endAlarm cEA
  rw [gd_at (so_kd X.1), so_pl X.1, X.station _ 4 L4 (by decide)]
  show rd _ (o + 1) (nI (pn 5)) _ = _
  rw [X.r1 _ (pn 5) rfl (by omega)]
  show (if S 1 (pn 5) = 0 then f_X3_endAlarm_b24 o (nI (pn 5)) 0 _ else f_X3_endAlarm_b24 o (nI (pn 5)) 1 _) = _
  by_cases h1 : S 1 (pn 5) = 0
  · rw [if_pos h1, if_pos h1, if_pos h1]
    unfold f_X3_endAlarm_b24
    rw [if_pos rfl, e46 _ _ (Or.inl rfl)]
  · rw [if_neg h1, if_neg h1, if_neg h1]
    unfold f_X3_endAlarm_b24
    rw [if_neg (by decide), X.w1 _ (pn 5) rfl (by omega), XC.s0, put_0, e46 _ _ (Or.inr rfl)]
    rfl
def mCl (pn : Nat → Nat) (r : RW) : RW := upd (upd (mE (upd r 76 (r 76 + r (pn 5))) (pn 5)) (54 + pn 5) 0) 70 0
theorem m_clearOn (X : MC h k pn dr cm) (r : RW) (w g : Int32) : f_X5_clearOn k (mst h k r w g) = some (r (pn 5), mst h k (mCl pn r) w g) := by
  have hst := X.2.2.1.2.1
  have hcl := X.2.2.1.1
  unfold f_X5_clearOn mCl
  rw [gd_at (ko_kd X.1), X.pl r w g 4 L4 (by decide)]
  show rd _ k (0 + nI (pn 5)) _ = _
  rw [X.r _ _ _ (pn 5) (A0 _) (by omega), X.r _ _ _ 76 L76 (by decide), X.w _ _ _ 76 L76 (by decide)]
  show bd (f_X5_empty k (nI (pn 5)) _) _ = _
  rw [m_empty X _ _ _ (by omega), bd_at]
  show wr _ k (54 + nI (pn 5)) _ _ = _
  rw [X.w _ _ _ (54 + pn 5) (A54 _) (by omega), X.w _ _ _ 70 L70 (by decide)]
theorem u2_comm (S : SS) {a b : Nat} (i j : Nat) (v w : Int32) (hab : a ≠ b) : u2 (u2 S a i v) b j w = u2 (u2 S b j w) a i v := by
  funext x y
  unfold u2
  by_cases h1 : x = b ∧ y = j
  · rw [if_pos h1, if_neg (by omega), if_pos h1]
  · rw [if_neg h1]
    by_cases h2 : x = a ∧ y = i
    · rw [if_pos h2, if_pos h2]
    · rw [if_neg h2, if_neg h2, if_neg h1]
theorem R_hand (hN : PN pn) {v : Int32} (hR : RR 9 pn B S r) : RR 9 pn B (u2 S 0 16 v) (upd r 76 v) := by
  refine R_sc (by omega) (by omega) hR hN ?_
  obtain ⟨⟨k1, k2, k3, k4, k5, k6, k7, k8, k9, k10, k11⟩, K⟩ := hR.2.2.2.1
  exact ⟨⟨k1, k2, k3, k4, k5, k6, k7, k8, k9, rfl, k11⟩, K⟩
theorem R_alarm0 (hN : PN pn) (hR : RR 9 pn B S r) : RR 9 pn B (u2 S 0 10 0) (upd r 70 0) := by
  refine R_sc (by omega) (by omega) hR hN ?_
  obtain ⟨⟨k1, k2, k3, k4, k5, k6, k7, k8, k9, k10, k11⟩, K1, K2, K3, K4, K5⟩ := hR.2.2.2.1
  exact ⟨⟨k1, k2, k3, rfl, k5, k6, k7, k8, k9, k10, k11⟩, K1, K2, K3, Or.inl rfl, K5⟩
theorem R_jam (hN : PN pn) {v : Int32} (hv : v = 0 ∨ v = 1) (hR : RR 9 pn B S r) : RR 9 pn B (u2 S 0 11 v) (upd r 69 v) := by
  refine R_sc (by omega) (by omega) hR hN ?_
  obtain ⟨⟨k1, k2, k3, k4, k5, k6, k7, k8, k9, k10, k11⟩, K1, K2, K3, K4, K5⟩ := hR.2.2.2.1
  exact ⟨⟨k1, k2, rfl, k4, k5, k6, k7, k8, k9, k10, k11⟩, K1, K2, hv, K4, K5⟩
theorem R_caps (hN : PN pn) {n : Nat} (hn : n ≤ 99) (hR : RR 9 pn B S r) : RR 9 pn B (u2 S 0 7 (nI n)) (upd r 67 (nI n)) := by
  refine R_sc (by omega) (by omega) hR hN ?_
  obtain ⟨⟨k1, k2, k3, k4, k5, k6, k7, k8, k9, k10, k11⟩, K1, K⟩ := hR.2.2.2.1
  exact ⟨⟨rfl, k2, k3, k4, k5, k6, k7, k8, k9, k10, k11⟩, ⟨n, hn, rfl⟩, K⟩
theorem R_labels (hN : PN pn) {n : Nat} (hn : n ≤ 99) (hR : RR 9 pn B S r) : RR 9 pn B (u2 S 0 8 (nI n)) (upd r 68 (nI n)) := by
  refine R_sc (by omega) (by omega) hR hN ?_
  obtain ⟨⟨k1, k2, k3, k4, k5, k6, k7, k8, k9, k10, k11⟩, K1, K2, K⟩ := hR.2.2.2.1
  exact ⟨⟨k1, rfl, k3, k4, k5, k6, k7, k8, k9, k10, k11⟩, K1, ⟨n, hn, rfl⟩, K⟩
theorem R_clear (hN : PN pn) (hR : RR 9 pn B S r) : RR 9 pn B (cEA pn S) (mCl pn r) ∧ (if S 1 (pn 5) = 0 then (0 : Int32) else 1) = r (pn 5) := by
  have hcl := hN.1
  have hst := hN.2.1
  have hV := hN.2.2.2.2.2
  have hz := crel_0 hV (hR.1 (pn 5) (by omega) (by omega))
  have k10 := hR.2.2.2.1.1.2.2.2.2.2.2.2.2.2.1
  unfold cEA mCl
  by_cases h1 : S 1 (pn 5) = 0
  · rw [if_pos h1, if_pos h1, hz.1.mp h1]
    refine ⟨?_, rfl⟩
    have e1 : r 76 + 0 = r 76 := Int32.add_zero _
    rw [e1, upd_id]
    refine R_alarm0 hN ?_
    have e2 : u2 S 1 (pn 5) 0 = S := by
      have := u2_id S 1 (pn 5)
      rw [h1] at this
      exact this
    have := R_empty hN (c := pn 5) (by omega) hR
    rw [e2] at this
    exact this
  · rw [if_neg h1, if_neg h1, hz.2.mp h1]
    refine ⟨?_, rfl⟩
    refine R_alarm0 hN ?_
    rw [u2_comm S (a := 1) (b := 0) _ _ _ _ (by decide), k10]
    exact R_empty hN (by omega) (R_hand hN hR)
theorem cEA_4 (S : SS) : cEA pn S 0 4 = S 0 4 := by
  unfold cEA
  split <;> rfl
-- restart
def cRs (pn : Nat → Nat) (S : SS) : SS := u1 S 2 (fun i => if i ≤ pn 1 ∧ ¬ S 1 i = 0 then 1 else S 2 i)
theorem x_restart_b2 (X : XC h o pn dr) (S : SS) : ∀ (n i : Nat), i ≤ pn 1 + 1 → pn 1 + 1 < i + n → f_X3_markBeforeScale_b2 o n (nI i) (put h o (u1 S 2 (fun j => if j < i ∧ ¬ S 1 j = 0 then 1 else S 2 j))) = some ((), put h o (cRs pn S)) := by
  have hcl := X.2.2.1
  have hst := X.2.2.2.1
  intro n
  induction n with
  | zero => intro i h1 h2; omega
  | succ n ih =>
    intro i h1 h2
    unfold f_X3_markBeforeScale_b2
    rw [so_pl X.1, X.station _ 0 L0 (by decide)]
    show (if nI (pn 1) < nI i then _ else _) = _
    by_cases h3 : i = pn 1 + 1
    · rw [if_pos (nI_lt (by omega) (by omega))]
      have e : (fun j => if j < i ∧ ¬ S 1 j = 0 then (1 : Int32) else S 2 j) = (fun j => if j ≤ pn 1 ∧ ¬ S 1 j = 0 then 1 else S 2 j) := by
        funext j
        by_cases q : j < i ∧ ¬ S 1 j = 0
        · rw [if_pos q, if_pos ⟨by omega, q.2⟩]
        · rw [if_neg q, if_neg (fun z => q ⟨by omega, z.2⟩)]
      rw [e]
      rfl
    · rw [if_neg (nI_nlt (by omega) (by omega)), X.r1 _ i rfl (by omega)]
      show (if S 1 i = 0 then _ else _) = _
      by_cases h4 : S 1 i = 0
      · rw [if_pos h4, nI_1]
        have e : (fun j => if j < i ∧ ¬ S 1 j = 0 then (1 : Int32) else S 2 j) = (fun j => if j < i + 1 ∧ ¬ S 1 j = 0 then 1 else S 2 j) := by
          funext j
          by_cases q : j < i ∧ ¬ S 1 j = 0
          · rw [if_pos q, if_pos ⟨by omega, q.2⟩]
          · rw [if_neg q, if_neg (fun z => by
              rcases Nat.lt_or_ge j i with y | y
              · exact q ⟨y, z.2⟩
              · have : j = i := by omega
                subst this
                exact z.2 h4)]
        rw [e]
        exact ih (i + 1) (by omega) (by omega)
      · rw [if_neg h4, X.w2 _ i rfl (by omega), u2_u1, nI_1]
        have e : upd (fun j => if j < i ∧ ¬ S 1 j = 0 then (1 : Int32) else S 2 j) i 1 = (fun j => if j < i + 1 ∧ ¬ S 1 j = 0 then 1 else S 2 j) := by
          funext j
          unfold upd
          by_cases q0 : j = i
          · rw [if_pos q0, if_pos ⟨by omega, by rw [q0]; exact h4⟩]
          · rw [if_neg q0]
            show (if j < i ∧ ¬ S 1 j = 0 then (1 : Int32) else S 2 j) = _
            by_cases q : j < i ∧ ¬ S 1 j = 0
            · rw [if_pos q, if_pos ⟨by omega, q.2⟩]
            · rw [if_neg q, if_neg (fun z => q ⟨by omega, z.2⟩)]
        rw [e]
        exact ih (i + 1) (by omega) (by omega)
theorem x_restart (X : XC h o pn dr) (S : SS) : f_X3_markBeforeScale o (put h o S) = some ((), put h o (cRs pn S)) := by
  have hcl := X.2.2.1
  have hst := X.2.2.2.1
  unfold f_X3_markBeforeScale
  rw [gd_at (so_kd X.1)]
  have h1 := x_restart_b2 X S 200 0 (by omega) (by omega)
  have e : u1 S 2 (fun j => if j < 0 ∧ ¬ S 1 j = 0 then 1 else S 2 j) = S := by
    have : (fun j => if j < 0 ∧ ¬ S 1 j = 0 then (1 : Int32) else S 2 j) = S 2 := by
      funext j
      rw [if_neg (by omega)]
    rw [this, u1_id]
  rw [e] at h1
  exact h1
def mRs (pn : Nat → Nat) (r : RW) : RW := fun x => if (54 ≤ x ∧ x ≤ 54 + pn 1) ∧ r (x - 54) = 1 then 1 else r x
theorem m_restart_b2 (X : MC h k pn dr cm) (r : RW) (w g : Int32) : ∀ (n i : Nat), i ≤ pn 1 + 1 → pn 1 + 1 < i + n → f_X5_restartOn_b2 k n (nI i) (mst h k (fun x => if (54 ≤ x ∧ x < 54 + i) ∧ r (x - 54) = 1 then 1 else r x) w g) = some ((), mst h k (mRs pn r) w g) := by
  have hcl := X.2.2.1.1
  have hst := X.2.2.1.2.1
  intro n
  induction n with
  | zero => intro i h1 h2; omega
  | succ n ih =>
    intro i h1 h2
    unfold f_X5_restartOn_b2
    rw [X.pl _ w g 0 L0 (by decide)]
    show (if nI (pn 1) < nI i then _ else _) = _
    by_cases h3 : i = pn 1 + 1
    · rw [if_pos (nI_lt (by omega) (by omega))]
      have e : (fun x => if (54 ≤ x ∧ x < 54 + i) ∧ r (x - 54) = 1 then (1 : Int32) else r x) = mRs pn r := by
        funext x
        unfold mRs
        by_cases q : (54 ≤ x ∧ x < 54 + i) ∧ r (x - 54) = 1
        · rw [if_pos q, if_pos ⟨by omega, q.2⟩]
        · rw [if_neg q, if_neg (fun z => q ⟨by omega, z.2⟩)]
      rw [e]
    · rw [if_neg (nI_nlt (by omega) (by omega)), X.r _ w g i (A0 i) (by omega)]
      have e0 : (if (54 ≤ i ∧ i < 54 + i) ∧ r (i - 54) = 1 then (1 : Int32) else r i) = r i := if_neg (by omega)
      rw [e0]
      have key : ∀ v : Int32, v = (if r i = 1 then 1 else r (54 + i)) → upd (fun x => if (54 ≤ x ∧ x < 54 + i) ∧ r (x - 54) = 1 then (1 : Int32) else r x) (54 + i) v = (fun x => if (54 ≤ x ∧ x < 54 + (i + 1)) ∧ r (x - 54) = 1 then (1 : Int32) else r x) := by
        intro v hv
        funext x
        unfold upd
        by_cases q0 : x = 54 + i
        · rw [if_pos q0, hv, q0, Nat.add_sub_cancel_left]
          by_cases q1 : r i = 1
          · rw [if_pos q1, if_pos ⟨by omega, q1⟩]
          · rw [if_neg q1, if_neg (fun z => q1 z.2)]
        · rw [if_neg q0]
          show (if (54 ≤ x ∧ x < 54 + i) ∧ r (x - 54) = 1 then (1 : Int32) else r x) = _
          by_cases q : (54 ≤ x ∧ x < 54 + i) ∧ r (x - 54) = 1
          · rw [if_pos q, if_pos ⟨by omega, q.2⟩]
          · rw [if_neg q, if_neg (fun z => q ⟨by omega, z.2⟩)]
      by_cases h4 : r i = 1
      · rw [if_pos h4, X.w _ w g (54 + i) (A54 i) (by omega), nI_1, key _ (by rw [if_pos h4])]
        exact ih (i + 1) (by omega) (by omega)
      · rw [if_neg h4, X.r _ w g (54 + i) (A54 i) (by omega), X.w _ w g (54 + i) (A54 i) (by omega), nI_1]
        have e1 : (if (54 ≤ 54 + i ∧ 54 + i < 54 + i) ∧ r (54 + i - 54) = 1 then (1 : Int32) else r (54 + i)) = r (54 + i) := if_neg (by omega)
        rw [e1, key _ (by rw [if_neg h4])]
        exact ih (i + 1) (by omega) (by omega)
theorem m_restart (X : MC h k pn dr cm) (r : RW) (w g : Int32) : f_X5_restartOn k (mst h k r w g) = some ((), mst h k (mRs pn r) w g) := by
  have hcl := X.2.2.1.1
  have hst := X.2.2.1.2.1
  unfold f_X5_restartOn
  rw [gd_at (ko_kd X.1)]
  have h1 := m_restart_b2 X r w g 200 0 (by omega) (by omega)
  have e : (fun x => if (54 ≤ x ∧ x < 54 + 0) ∧ r (x - 54) = 1 then (1 : Int32) else r x) = r := by
    funext x
    rw [if_neg (by omega)]
  rw [e] at h1
  exact h1
theorem R_restart (hN : PN pn) (hR : RR 9 pn B S r) : RR 9 pn B (cRs pn S) (mRs pn r) := by
  obtain ⟨hC, hM, hT, hK, m, hm, m1, m2, m3⟩ := hR
  have hcl := hN.1
  have hst := hN.2.1
  have hV := hN.2.2.2.2.2
  have big : ∀ i, i < 54 ∨ 63 ≤ i → mRs pn r i = r i := by
    intro i hi
    unfold mRs
    rw [if_neg (by omega)]
  refine ⟨fun c q1 q2 => ?_, fun c q1 => ?_, fun v q1 => ?_, RK_congr hK (fun i _ _ => rfl) (fun i _ _ => big i (by omega)), m, hm, m1, by rw [big 78 (by omega)]; exact m2, fun i hi => ?_⟩
  · refine crel_mv ⟨?_, ?_, ?_, ?_, ?_, ?_⟩ (hC c q1 q2) <;> exact big _ (by omega)
  · have hz := crel_0 hV (hC c q1 (by omega))
    show (if c ≤ pn 1 ∧ ¬ S 1 c = 0 then 1 else S 2 c) = _ ∧ _
    unfold mRs
    rw [Nat.add_sub_cancel_left]
    by_cases q : c ≤ pn 1 ∧ ¬ S 1 c = 0
    · rw [if_pos q, if_pos ⟨by omega, hz.2.mp q.2⟩]
      exact ⟨rfl, Or.inr (Or.inl rfl)⟩
    · rw [if_neg q, if_neg (fun z => q ⟨by omega, hz.2.mpr z.2⟩)]
      exact hM c q1
  · rw [big _ (by omega)]; exact hT v q1
  · rw [big _ (by omega)]; exact m3 i hi
end
