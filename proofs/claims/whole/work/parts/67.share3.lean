-- share: the two loops
theorem bd_id {o : Option (Int32 × PH)} : bd o (fun r h => some (r, h)) = o := by
  cases o with
  | none => rfl
  | some x => rfl
section
variable {h : PH} {pn : Nat → Nat} {dr : Nat → Int32} {B : Nat}
def wSh (pn : Nat → Nat) (dr : Nat → Int32) (r : RW) (s : Nat) : Int32 := mAdv pn dr (nI s) 30 r 72
theorem oc_sh (hN : PN pn) {i : Nat} (hi : i < 2 ^ pn 9) : OC pn (nI i) (fun _ _ => nI (2 ^ pn 9 - 1) &&& (nI i ^^^ (-1 : Int32))) := by
  have hV : pn 9 < 5 := by have := hN.2.2.2.2.2; omega
  have := p_le hV
  intro v hv
  exact off_t (pn 9) hV i (by omega) hi v hv
theorem x_share (z0 : I0 h pn dr) (z1 : INow B h pn) (hB : B < 2 ^ 27) {v : Nat} (hv : v < pn 9) (up : Int32) : ∀ (n i : Nat) (s : Int32) (S0 : SS), i ≤ 2 ^ pn 9 → 2 ^ pn 9 < i + n → ∃ S' : SS, f_X4_share_b47 n up (nI (pn 9) - 1) ((1 : Int32) <<< (nI v &&& 31)) (nI (2 ^ pn 9 - 1)) s (nI i) (put h 25 S0) = f_X4_partOf (shS (wSh pn dr (h.1 114)) (pn 9) v (2 ^ pn 9 - i) i s) (nI (fc (pn 9))) up (put h 25 S') := by
  have hV : pn 9 < 5 := by have := z0.1.2.2.2.2.2; omega
  have hp := p_le hV
  have hp0 : 0 < 2 ^ pn 9 := Nat.two_pow_pos _
  intro n
  induction n with
  | zero => intro i s S0 h1 h2; omega
  | succ n ih =>
    intro i s S0 h1 h2
    unfold f_X4_share_b47
    by_cases h3 : i = 2 ^ pn 9
    · subst h3
      refine ⟨S0, ?_⟩
      rw [if_pos (nI_lt (by omega) (by omega)), (xc_trial z0).valves, cf_eq hV, bd_at, Nat.sub_self]
      exact bd_id
    · have hb := bit_t v (by omega) i (by omega)
      have e2 : 2 ^ pn 9 - i = (2 ^ pn 9 - (i + 1)) + 1 := by omega
      rw [if_neg (nI_nlt (by omega) (by omega)), e2]
      unfold shS
      by_cases h4 : onM (nI i) v = 0
      · obtain ⟨S1, q1⟩ := x_off (cm := nI (i ||| 2 ^ v)) z0 z1 hB _ (oc_sh z0.1 (or_t (pn 9) hV v hv i (by omega) (by omega))) S0
        obtain ⟨S2, q2⟩ := x_off (cm := nI i) z0 z1 hB _ (oc_sh z0.1 (i := i) (by omega)) S1
        obtain ⟨S', q3⟩ := ih (i + 1) (s + (nI (fc (pc i)) * nI (fc (pn 9 - 1 - pc i))) * (wSh pn dr (h.1 114) (i ||| 2 ^ v) - wSh pn dr (h.1 114) i)) S2 (by omega) (by omega)
        refine ⟨S', ?_⟩
        have hpc := pc_16 i (by omega)
        rw [if_pos (hb.1.mpr h4), if_pos h4, bc_eq (by omega), bd_at, cf_eq (by omega), bd_at, cf_eq2 hV (by omega), bd_at, hb.2, q1, bd_at, q2, bd_at, nI_1]
        exact q3
      · obtain ⟨S', q3⟩ := ih (i + 1) s S0 (by omega) (by omega)
        refine ⟨S', ?_⟩
        rw [if_neg (fun q => h4 (hb.1.mp q)), if_neg h4, nI_1]
        exact q3
def FrS (h h' : PH) : Prop := (∀ a b, ¬ (a = 115 ∨ a = 122 ∨ (a = 110 ∧ b = 23)) → h'.1 a b = h.1 a b) ∧ h'.2 = h.2
theorem FrS_i0 {h' : PH} (q : FrS h h') (z : I0 h pn dr) : I0 h' pn dr := I0_cg (fun a b c => q.1 a b (by omega)) z
theorem FrS_now {h' : PH} (q : FrS h h') (z : INow B h pn) : INow B h' pn := INow_cg (fun a b c => q.1 a b (by omega)) z
theorem FrS_misc {h' : PH} (q : FrS h h') (z : IMisc h) : IMisc h' := IMisc_cg (fun b c => q.1 110 b (by omega)) q.2 z
theorem m_share1 (z0 : I0 h pn dr) (z1 : INow B h pn) (z6 : IMisc h) (hB : B < 2 ^ 27) (v up : Int32) : ∀ (n i : Nat) (h1 : PH), i ≤ 2 ^ pn 9 → 2 ^ pn 9 < i + n → FrS h h1 → (∀ s, s < i → h1.1 122 s = wSh pn dr (h.1 114) s) → ∃ h2 : PH, f_X5_share_b12 n v up (nI i) h1 = f_X5_share_b44 200 v up 0 0 h2 ∧ FrS h h2 ∧ ∀ s, s < 2 ^ pn 9 → h2.1 122 s = wSh pn dr (h.1 114) s := by
  have hV : pn 9 < 5 := by have := z0.1.2.2.2.2.2; omega
  have hp := p_le hV
  intro n
  induction n with
  | zero => intro i h1 q1 q2; omega
  | succ n ih =>
    intro i h1 q1 q2 fr q3
    have y0 := FrS_i0 fr z0
    unfold f_X5_share_b12
    have ev : h1.1 110 7 = nI (pn 9) := y0.2.2.2.2.2.2.2.1
    rw [ev, (all_t (pn 9) hV).2]
    by_cases c : i = 2 ^ pn 9
    · subst c
      rw [if_pos (nI_le (Nat.le_refl _) (by omega))]
      exact ⟨h1, rfl, fr, q3⟩
    · rw [if_neg (nI_ge (by omega) (by omega))]
      obtain ⟨h', m1, m2, m3⟩ := m_out (cm := nI i) y0 (FrS_now fr z1) (FrS_misc fr z6) hB _ (oc_sh z0.1 (i := i) (by omega))
      have e114 : h1.1 114 = h.1 114 := funext fun b => fr.1 114 b (by omega)
      rw [e114] at m1
      rw [m1, bd_at, wr_at i rfl (by show i < 16; omega) (by decide), nI_1]
      refine ih (i + 1) _ (by omega) (by omega) ⟨fun a b q => ?_, ?_⟩ (fun s hs => ?_)
      · rw [si_at' _ _ (by omega), m2 a b (by omega)]
        exact fr.1 a b q
      · exact m3.trans fr.2
      · by_cases c2 : s = i
        · subst c2
          rw [si_slf]
          rfl
        · rw [si_oth _ _ _ c2, m2 122 s (by omega)]
          exact q3 s (by omega)
theorem m_share2 (z0 : I0 h pn dr) {W : Nat → Int32} (hW : ∀ s, s < 2 ^ pn 9 → h.1 122 s = W s) {v : Nat} (hv : v < pn 9) (up : Int32) : ∀ (n i : Nat) (s : Int32), i ≤ 2 ^ pn 9 → 2 ^ pn 9 < i + n → f_X5_share_b44 n (nI v) up s (nI i) h = f_X5_fraction (shS W (pn 9) v (2 ^ pn 9 - i) i s) (nI (fc (pn 9))) up h := by
  have hV : pn 9 < 5 := by have := z0.1.2.2.2.2.2; omega
  have hp := p_le hV
  have ev : h.1 110 7 = nI (pn 9) := z0.2.2.2.2.2.2.2.1
  intro n
  induction n with
  | zero => intro i s q1 q2; omega
  | succ n ih =>
    intro i s q1 q2
    unfold f_X5_share_b44
    rw [ev, (all_t (pn 9) hV).2]
    by_cases c : i = 2 ^ pn 9
    · subst c
      rw [if_pos (nI_le (Nat.le_refl _) (by omega)), mf_eq hV, bd_at, Nat.sub_self]
      exact bd_id
    · have hb := bit_t v (by omega) i (by omega)
      have ho := or_t (pn 9) hV v hv i (by omega) (by omega)
      have e2 : 2 ^ pn 9 - i = (2 ^ pn 9 - (i + 1)) + 1 := by omega
      have hpc := pc_16 i (by omega)
      rw [if_neg (nI_ge (by omega) (by omega)), has5_eq, bd_at, e2]
      unfold shS
      by_cases h4 : onM (nI i) v = 0
      · rw [if_pos h4, if_pos h4, on_eq (by omega), bd_at, mf_eq (by omega), bd_at, ev, mf_eq2 hV (by omega), bd_at, hb.2, rd_at (i ||| 2 ^ v) rfl (by show i ||| 2 ^ v < 16; omega) (by decide), rd_at i rfl (by show i < 16; omega) (by decide), hW _ ho, hW _ (by omega), nI_1]
        exact ih (i + 1) _ (by omega) (by omega)
      · rw [if_neg h4, if_neg h4, nI_1]
        exact ih (i + 1) _ (by omega) (by omega)
end
theorem op_share (a up : Int32) : OP (f_X4_share a up) (f_X5_share a up) := by
  intro B h hB hI
  have hI0 := hI
  obtain ⟨pn, dr, z0, z1, z2, z3, z4, z5, z6, z7⟩ := hI
  have hV : pn 9 < 5 := by have := z0.1.2.2.2.2.2; omega
  have hp := p_le hV
  unfold f_X4_share f_X5_share
  rw [hasValve_eq z0, bd_at]
  by_cases h1 : isw a 0 (nI (pn 9) - 1) = 0
  · refine ⟨-1, h, h, by rw [if_pos h1], ?_, INV_mono (by omega) hI0⟩
    rw [isValve_eq z0, bd_at, if_pos h1]
  · obtain ⟨v, hv, rfl⟩ := isw_nv (by omega) h1
    have ev : h.1 12 5 = nI (pn 9) := z0.2.1.2.2.2.2.2.1
    obtain ⟨S', x1⟩ := x_share z0 z1 hB hv up 200 0 0 (vw h 25) (Nat.zero_le _) (by omega)
    rw [put_vw] at x1
    have y0 := xc_put z0 S'
    have y6 := misc_put z6 S'
    have y1 : INow B (put h 25 S') pn := INow_cg (fun a b q => by rw [put_out _ _ _ (by omega)]) z1
    have e114 : (put h 25 S').1 114 = h.1 114 := put_out _ _ _ (by omega)
    obtain ⟨h2, m1, fr, m2⟩ := m_share1 y0 y1 y6 hB (nI v) up 200 0 (put h 25 S') (Nat.zero_le _) (by omega) ⟨fun _ _ _ => rfl, rfl⟩ (fun s hs => by omega)
    rw [e114] at m2
    have m3 := m_share2 (FrS_i0 fr y0) m2 hv up 200 0 0 (Nat.zero_le _) (by omega)
    have hW : ∀ s, s < 2 ^ pn 9 → ∃ d : Nat, d ≤ 30 ∧ wSh pn dr (h.1 114) s = h.1 114 72 + nI d := fun s hs =>
      adv_72 (cm := nI s) z0.1 30 B (u2 (vw h 20) 0 4 _) (h.1 114) (OC_of (oc_sh z0.1 hs) rfl) (RR_off _ z1.1) (by omega)
    obtain ⟨y, y2, y3, y4⟩ := shS_bd hW hV hv (2 ^ pn 9) 0 0 (by omega)
    have e0 : Int32.ofInt 0 = 0 := rfl
    obtain ⟨A, hA, eA⟩ := iab_of (z := y) (by omega) (by omega)
    rw [← y2, e0] at eA
    have hf : ∀ V, V < 5 → 0 < fc V ∧ fc V < 2 ^ 20 := by decide +kernel
    refine ⟨frE (shS (wSh pn dr (h.1 114)) (pn 9) v (2 ^ pn 9) 0 0) A (fc (pn 9)) up, put h 25 S', h2, ?_, ?_, ?_⟩
    · rw [if_neg h1, ev, (all_t (pn 9) hV).1]
      refine x1.trans ?_
      rw [Nat.sub_zero]
      exact partOf_eq eA hA (hf _ hV).1 (hf _ hV).2 up _
    · rw [isValve_eq y0, bd_at, if_neg h1]
      refine m1.trans (m3.trans ?_)
      rw [Nat.sub_zero]
      exact fraction_eq eA hA (hf _ hV).1 (hf _ hV).2 up _
    · refine INV_mono (B := B) (by omega) (INV_try hI0 (fun a b q => ?_) ?_)
      · rw [fr.1 a b (by omega), put_out _ _ _ (by omega)]
      · rw [fr.2]
        exact z6.1
