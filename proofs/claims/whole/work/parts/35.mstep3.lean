section
variable {h : PH} {k : Nat} {pn : Nat → Nat} {dr : Nat → Int32} {cm : Int32}
def onM (cm : Int32) (v : Nat) : Int32 := if ((cm >>> (nI v &&& 31)) &&& 1) = 1 then 1 else 0
theorem has5_eq (a : Int32) (v : Nat) (h : PH) : f_X5_has a (nI v) h = some (onM a v, h) := by
  unfold f_X5_has onM
  split <;> rfl
def mWg (pn : Nat → Nat) (cm : Int32) (v : Nat) (r : RW) : RW := if r (pn 1) = 1 then (if v = 0 then r else if onM cm (v - 1) = 0 then r else upd r (63 + (v - 1)) (lmt (r (63 + (v - 1)) + (nI (pn 6) - r (9 + pn 1)) / 2))) else r
theorem m_fill_b109 (X : MC h k pn dr cm) (r : RW) (w g : Int32) {v : Nat} (hv : r (18 + pn 1) = vlv v) (hv2 : v ≤ pn 9) : f_X5_fillOn_b109 k (mst h k r w g) = some ((), mst h k (mWg pn cm v r) w g) := by
  have hcl := X.2.2.1.1
  have hst := X.2.2.1.2.1
  have hV := X.2.2.1.2.2.2.2.2
  unfold f_X5_fillOn_b109 mWg
  rw [X.pl r w g 0 L0 (by decide), X.r r w g (18 + pn 1) (A18 _) (by omega), X.r r w g (pn 1) (A0 _) (by omega), hv]
  by_cases h1 : r (pn 1) = 1
  · rw [if_pos h1, if_pos h1]
    unfold vlv
    by_cases h2 : v = 0
    · rw [if_pos h2, if_pos h2, if_pos rfl]
    · have e : ¬ nI (v - 1) = -9 := by
        intro q
        have := nI_pos (n := v - 1) (by omega)
        rw [q] at this
        exact this (by decide)
      rw [if_neg h2, if_neg h2, if_neg e, X.come, has5_eq, bd_at]
      by_cases h3 : onM cm (v - 1) = 0
      · rw [if_pos h3, if_pos h3]
      · rw [if_neg h3, if_neg h3, X.r r w g (63 + (v - 1)) (A63 _) (by omega), X.r r w g (9 + pn 1) (A9 _) (by omega), held_eq, bd_at, X.target, X.w r w g (63 + (v - 1)) (A63 _) (by omega)]
  · rw [if_neg h1, if_neg h1]
def lkM (r : RW) (c : Nat) : Int32 := if r (45 + c) = 1 then (if r (9 + c) ≤ 0 then r (9 + c) else r (9 + c) - 1) else r (9 + c)
def mLk (pn : Nat → Nat) (r : RW) : RW := fun x => if 9 ≤ x ∧ x < 9 + pn 0 then lkM r (x - 9) else r x
def mFl (pn : Nat → Nat) (dr : Nat → Int32) (cm : Int32) (s : Nat) (r : RW) : RW := if r 0 = 1 then (if pn 9 = 0 then r else upd (upd r 9 (if onM cm (s % pn 9) = 0 then 0 else lmt (r (63 + s % pn 9) + dr (s % pn 9)))) 18 (nI (s % pn 9))) else r
theorem m_fill_b2 (X : MC h k pn dr cm) (r : RW) (w g : Int32) {s v : Nat} (hs : r 71 = nI s) (hs2 : s < 2 ^ 31) (hv : mFl pn dr cm s (mLk pn r) (18 + pn 1) = vlv v) (hv2 : v ≤ pn 9) : ∀ (n i : Nat), i ≤ pn 0 → pn 0 < i + n → f_X5_fillOn_b2 k n (nI i) (mst h k (fun x => if 9 ≤ x ∧ x < 9 + i then lkM r (x - 9) else r x) w g) = some ((), mst h k (mWg pn cm v (mFl pn dr cm s (mLk pn r))) w g) := by
  have hcl := X.2.2.1.1
  have hV := X.2.2.1.2.2.2.2.2
  intro n
  induction n with
  | zero => intro i h1 h2; omega
  | succ n ih =>
    intro i h1 h2
    unfold f_X5_fillOn_b2
    rw [X.cells]
    by_cases h3 : pn 0 ≤ i
    · have : i = pn 0 := by omega
      subst this
      rw [if_pos (nI_le (Nat.le_refl _) (by omega))]
      have e : (fun x => if 9 ≤ x ∧ x < 9 + pn 0 then lkM r (x - 9) else r x) = mLk pn r := rfl
      rw [e, X.r _ w g 0 L0 (by decide)]
      rw [← m_fill_b109 X (mFl pn dr cm s (mLk pn r)) w g hv hv2]
      unfold mFl
      by_cases h4 : mLk pn r 0 = 1
      · rw [if_pos h4, if_pos h4, X.valves]
        by_cases h5 : pn 9 = 0
        · rw [h5, if_pos (by decide), if_pos rfl]
        · have hlt : s % pn 9 < pn 9 := Nat.mod_lt _ (by omega)
          have e71 : mLk pn r 71 = nI s := by
            show (if 9 ≤ 71 ∧ 71 < 9 + pn 0 then _ else r 71) = nI s
            rw [if_neg (by omega), hs]
          rw [if_neg (nI_nle (by omega) (by omega)), if_neg h5, X.r _ w g 71 L71 (by decide), e71, nz_at (nI_ne0 (by omega) (by omega)), irm_nI hs2 (by omega) (by omega), X.come, has5_eq, bd_at]
          by_cases h6 : onM cm (s % pn 9) = 0
          · rw [if_pos h6, if_pos h6, X.w _ w g 9 L9 (by decide), X.w _ w g 18 L18 (by decide)]
          · rw [if_neg h6, if_neg h6, X.r _ w g (63 + s % pn 9) (A63 _) (by omega), X.dri _ w g (s % pn 9) rfl hlt, held_eq, bd_at, X.w _ w g 9 L9 (by decide), X.w _ w g 18 L18 (by decide)]
      · rw [if_neg h4, if_neg h4]
    · have e9 : (fun x => if 9 ≤ x ∧ x < 9 + i then lkM r (x - 9) else r x) (9 + i) = r (9 + i) := by
        show (if 9 ≤ 9 + i ∧ 9 + i < 9 + i then _ else r (9 + i)) = r (9 + i)
        rw [if_neg (by omega)]
      have e45 : (fun x => if 9 ≤ x ∧ x < 9 + i then lkM r (x - 9) else r x) (45 + i) = r (45 + i) := by
        show (if 9 ≤ 45 + i ∧ 45 + i < 9 + i then _ else r (45 + i)) = r (45 + i)
        rw [if_neg (by omega)]
      generalize hrr : (fun x => if 9 ≤ x ∧ x < 9 + i then lkM r (x - 9) else r x) = rr at e9 e45 ⊢
      rw [if_neg (nI_ge (by omega) (by omega)), X.r rr w g (45 + i) (A45 _) (by omega), e45]
      have key : ∀ b : Int32, b = lkM r i → upd rr (9 + i) b = (fun x => if 9 ≤ x ∧ x < 9 + (i + 1) then lkM r (x - 9) else r x) := by
        intro b hb
        rw [← hrr]
        funext x
        unfold upd
        by_cases h4 : x = 9 + i
        · rw [if_pos h4, if_pos (show 9 ≤ x ∧ x < 9 + (i + 1) by omega), hb, h4, Nat.add_sub_cancel_left]
        · rw [if_neg h4]
          show (if 9 ≤ x ∧ x < 9 + i then lkM r (x - 9) else r x) = _
          by_cases h5 : 9 ≤ x ∧ x < 9 + i
          · rw [if_pos h5, if_pos (by omega)]
          · rw [if_neg h5, if_neg (by omega)]
      have same : lkM r i = r (9 + i) → rr = (fun x => if 9 ≤ x ∧ x < 9 + (i + 1) then lkM r (x - 9) else r x) := by
        intro hsm
        rw [← key _ rfl, hsm]
        funext x
        unfold upd
        by_cases h4 : x = 9 + i
        · rw [if_pos h4, h4, e9]
        · rw [if_neg h4]
      by_cases h4 : r (45 + i) = 1
      · rw [if_pos h4, X.r rr w g (9 + i) (A9 _) (by omega), e9]
        by_cases h5 : r (9 + i) ≤ 0
        · rw [if_pos h5, same (by unfold lkM; rw [if_pos h4, if_pos h5]), nI_1]
          exact ih (i + 1) (by omega) (by omega)
        · rw [if_neg h5, X.r rr w g (9 + i) (A9 _) (by omega), e9, X.w rr w g (9 + i) (A9 _) (by omega), key _ (by unfold lkM; rw [if_pos h4, if_neg h5]), nI_1]
          exact ih (i + 1) (by omega) (by omega)
      · rw [if_neg h4, same (by unfold lkM; rw [if_neg h4]), nI_1]
        exact ih (i + 1) (by omega) (by omega)
theorem m_fill (X : MC h k pn dr cm) (r : RW) (w g : Int32) {s v : Nat} (hs : r 71 = nI s) (hs2 : s < 2 ^ 31) (hv : mFl pn dr cm s (mLk pn r) (18 + pn 1) = vlv v) (hv2 : v ≤ pn 9) : f_X5_fillOn k (mst h k r w g) = some ((), mst h k (mWg pn cm v (mFl pn dr cm s (mLk pn r))) w g) := by
  have hcl := X.2.2.1.1
  unfold f_X5_fillOn
  rw [gd_at (ko_kd X.1)]
  have h1 := m_fill_b2 X r w g hs hs2 hv hv2 200 0 (by omega) (by omega)
  have e : (fun x => if 9 ≤ x ∧ x < 9 + 0 then lkM r (x - 9) else r x) = r := by
    funext x
    rw [if_neg (by omega)]
  rw [e] at h1
  exact h1
def mDr (c what sk : Nat) (r : RW) : RW := if r c = 1 then (if r sk ≤ 0 then r else upd (upd r (what + c) 1) sk (r sk - 1)) else r
theorem m_dress (X : MC h k pn dr cm) (r : RW) (w g : Int32) {c what sk : Nat} {a b : Int32} (ha : a = nI what) (hb : b = nI sk) (hc : c < 9) (hw : what ≤ 36) (hk : 60 ≤ sk) (hk2 : sk < 103) : f_X5_dress k (nI c) a b (mst h k r w g) = some ((), mst h k (mDr c what sk r) w g) := by
  unfold f_X5_dress mDr
  rw [gd_at (ko_kd X.1), X.r r w g c (A0 _) (by omega)]
  by_cases h1 : r c = 1
  · rw [if_pos h1, if_pos h1, X.r r w g sk hb hk2]
    by_cases h2 : r sk ≤ 0
    · rw [if_pos h2, if_pos h2]
    · rw [if_neg h2, if_neg h2, X.w r w g (what + c) (by rw [ha, nI_add]) (by omega), X.r _ w g sk hb hk2]
      have e : upd r (what + c) 1 sk = r sk := by
        unfold upd
        rw [if_neg (by omega)]
      rw [e, X.w _ w g sk hb hk2]
  · rw [if_neg h1, if_neg h1]
def mCk (pn : Nat → Nat) (r : RW) : RW := if r (pn 4) = 0 then r else if gM pn r (pn 4) = 0 then upd r (54 + pn 4) 1 else if r (54 + pn 4) = 0 then upd (upd r 77 (r 77 + 1)) (54 + pn 4) (if pn 8 = 0 then 0 else if irm (r 77 + 1) (nI (pn 8)) = 0 then 2 else 0) else r
theorem m_check (X : MC h k pn dr cm) (r : RW) (w g : Int32) : f_X5_check k (mst h k r w g) = some ((), mst h k (mCk pn r) w g) := by
  have hcl := X.2.2.1.1
  have hst := X.2.2.1.2.1
  have he := X.2.2.1.2.2.2.2.1
  unfold f_X5_check mCk
  rw [gd_at (ko_kd X.1), X.pl r w g 3 L3 (by decide)]
  show rd (mst h k r w g) k (0 + nI (pn 4)) _ = _
  rw [X.r r w g (pn 4) (A0 _) (by omega)]
  by_cases h1 : r (pn 4) = 0
  · rw [if_pos h1, if_pos h1]
  · rw [if_neg h1, if_neg h1]
    show bd (f_X5_isGood k (nI (pn 4)) _) _ = _
    rw [m_isGood X r w g (by omega), bd_at]
    by_cases h2 : gM pn r (pn 4) = 0
    · rw [if_pos h2, if_pos h2]
      show wr _ k (54 + nI (pn 4)) _ _ = _
      rw [X.w r w g (54 + pn 4) (A54 _) (by omega)]
    · rw [if_neg h2, if_neg h2]
      show rd _ k (54 + nI (pn 4)) _ = _
      rw [X.r r w g (54 + pn 4) (A54 _) (by omega)]
      by_cases h3 : r (54 + pn 4) = 0
      · rw [if_pos h3, if_pos h3, X.r r w g 77 L77 (by decide), X.w r w g 77 L77 (by decide), X.each]
        by_cases h4 : pn 8 = 0
        · rw [h4, if_pos (by decide), if_pos rfl]
          show wr _ k (54 + nI (pn 4)) _ _ = _
          rw [X.w _ w g (54 + pn 4) (A54 _) (by omega)]
        · rw [if_neg (nI_nle (by omega) (by omega)), if_neg h4, X.r _ w g 77 L77 (by decide), nz_at (nI_ne0 (by omega) (by omega))]
          have e : upd r 77 (r 77 + 1) 77 = r 77 + 1 := rfl
          rw [e]
          by_cases h6 : irm (r 77 + 1) (nI (pn 8)) = 0
          · rw [if_pos h6, if_pos h6]
            show wr _ k (54 + nI (pn 4)) _ _ = _
            rw [X.w _ w g (54 + pn 4) (A54 _) (by omega)]
          · rw [if_neg h6, if_neg h6]
            show wr _ k (54 + nI (pn 4)) _ _ = _
            rw [X.w _ w g (54 + pn 4) (A54 _) (by omega)]
      · rw [if_neg h3, if_neg h3]
-- push
def goesM (pn : Nat → Nat) (j : Int32) (r : RW) : Prop := ¬ r (54 + pn 5) = 0 ∧ ¬ r (pn 5) = 0 ∧ j = 0
def mPs (pn : Nat → Nat) (j : Int32) (r : RW) : RW := if r (54 + pn 5) = 0 then r else if r (pn 5) = 0 then upd r 70 1 else if j = 0 then upd (mE (if r (54 + pn 5) = 1 then upd r 74 (r 74 + 1) else upd r 75 (r 75 + 1)) (pn 5)) (54 + pn 5) 0 else upd r 70 1
def wPs (pn : Nat → Nat) (j : Int32) (r : RW) (w : Int32) : Int32 := if r (54 + pn 5) = 0 then w else if r (pn 5) = 0 then w else if j = 0 then (if w = nI (pn 5) then -9 else w) else w
def gPs (pn : Nat → Nat) (j : Int32) (r : RW) (w g : Int32) : Int32 := if r (54 + pn 5) = 0 then g else if r (pn 5) = 0 then g else if j = 0 then (if w = nI (pn 5) then (if r (54 + pn 5) = 1 then 3 else 4) else g) else g
theorem m_push (X : MC h k pn dr cm) (r : RW) (w g : Int32) (j : Int32) : f_X5_push k j (mst h k r w g) = some ((), mst h k (mPs pn j r) (wPs pn j r w) (gPs pn j r w g)) := by
  have hcl := X.2.2.1.1
  have hst := X.2.2.1.2.1
  have e87 : ∀ (r : RW) (w g : Int32), f_X5_push_b87 k (nI (pn 5)) (mst h k r w g) = some ((), mst h k (upd (mE r (pn 5)) (54 + pn 5) 0) w g) := by
    intro r w g
    unfold f_X5_push_b87
    rw [m_empty X r w g (by omega), bd_at, X.w _ w g (54 + pn 5) (A54 _) (by omega)]
  have e53 : ∀ (v : Int32) (q : Nat), q < 103 → f_X5_push_b53 k (nI (pn 5)) v (nI q) (mst h k r w g) = some ((), mst h k (upd (mE (upd r q (r q + 1)) (pn 5)) (54 + pn 5) 0) (if w = nI (pn 5) then -9 else w) (if w = nI (pn 5) then (if v = 1 then 3 else 4) else g)) := by
    intro v q hq
    unfold f_X5_push_b53
    rw [X.r r w g q rfl hq, X.w r w g q rfl hq, X.fw]
    by_cases h1 : w = nI (pn 5)
    · rw [if_pos h1, if_pos h1, if_pos h1]
      by_cases h2 : v = 1
      · rw [if_pos h2, if_pos h2, X.sg, X.sw, e87]
      · rw [if_neg h2, if_neg h2, X.sg, X.sw, e87]
    · rw [if_neg h1, if_neg h1, if_neg h1, e87]
  unfold f_X5_push mPs wPs gPs
  rw [gd_at (ko_kd X.1), X.pl r w g 4 L4 (by decide)]
  show rd (mst h k r w g) k (54 + nI (pn 5)) _ = _
  rw [X.r r w g (54 + pn 5) (A54 _) (by omega)]
  by_cases h1 : r (54 + pn 5) = 0
  · rw [if_pos h1, if_pos h1, if_pos h1, if_pos h1]
  · rw [if_neg h1, if_neg h1, if_neg h1, if_neg h1]
    show rd _ k (0 + nI (pn 5)) _ = _
    rw [X.r r w g (pn 5) (A0 _) (by omega)]
    by_cases h2 : r (pn 5) = 0
    · rw [if_pos h2, if_pos h2, if_pos h2, if_pos h2, X.w r w g 70 L70 (by decide)]
    · rw [if_neg h2, if_neg h2, if_neg h2, if_neg h2]
      by_cases h3 : j = 0
      · rw [if_pos h3, if_pos h3, if_pos h3, if_pos h3]
        by_cases h4 : r (54 + pn 5) = 1
        · rw [if_pos h4, if_pos h4, if_pos h4, L74]
          have := e53 (r (54 + pn 5)) 74 (by decide)
          rw [if_pos h4] at this
          exact this
        · rw [if_neg h4, if_neg h4, if_neg h4, L75]
          have := e53 (r (54 + pn 5)) 75 (by decide)
          rw [if_neg h4] at this
          exact this
      · rw [if_neg h3, if_neg h3, if_neg h3, if_neg h3, X.w r w g 70 L70 (by decide)]
end
