-- the class's reader, a letter at a time
theorem bz_0 {β : Type} {f : Option β} : bz 0 f = f := bz_at (Or.inl rfl)
theorem bz_1 {β : Type} {f : Option β} : bz 1 f = f := bz_at (Or.inr rfl)
def TK (f : Option (Int32 × PH)) (h : PH) (s : BS) (o : Option BS) : Prop := ∃ (b : Int32) (h' : PH), f = some (b, h') ∧ FrC h h' ∧ (o = none ∧ b = 0 ∨ ∃ s', o = some s' ∧ b = 1 ∧ HC h' s')
theorem FrC_rfl (h : PH) : FrC h h := ⟨fun _ _ _ => rfl, rfl⟩
theorem FrC_tr {h h1 h2 : PH} (q : FrC h h1) (q2 : FrC h1 h2) : FrC h h2 := ⟨fun a b z => (q2.1 a b z).trans (q.1 a b z), q2.2.trans q.2⟩
section
variable {h : PH} {s : BS}
theorem x_ent (w : HC h s) (ws : WS s) (e : Nat) : TK (f_X2_takesEntry (nI e) h) h s (if s.m < 24 then some (mkB s.V s.ca s.la (s.m + 1) s.p s.d s.nu s.se (un s.en s.m e) s.dr) else none) := by
  have hm := ws.m
  unfold f_X2_takesEntry f_X2_takesEntry_b17 f_X3_addEntry
  rw [gd_at kd_15, w.m]
  by_cases q : s.m < 24
  · have n : ¬ (24 : Int32) ≤ nI s.m := by rw [L24]; exact nI_ge q (by omega)
    rw [if_neg n, if_neg n, wr_at s.m rfl (by show s.m < 24; omega) (by decide), st_at, bd_at, bz_1, if_pos q]
    refine ⟨1, _, rfl, ⟨fun a b z => ?_, rfl⟩, Or.inr ⟨_, rfl, rfl, w.t, w.p, w.d, w.V, w.se, w.ca, w.la, ?_, fun i hi => ?_⟩⟩
    · rw [rsi, if_neg (by omega), rsi, if_neg (by omega)]
    · show h.1 15 6 + 1 = nI (s.m + 1)
      rw [w.m, nI_1]
    · have hi : i < s.m + 1 := hi
      show (si h 19 s.m (nI e)).1 19 i = nI (un s.en s.m e i)
      by_cases z : i = s.m
      · subst z
        rw [si_slf, un_at]
      · rw [si_oth _ _ _ z, un_ne _ _ z]
        exact w.en i (by omega)
  · have n : (24 : Int32) ≤ nI s.m := by rw [L24]; exact nI_le (by omega) (by omega)
    rw [if_pos n, if_pos n, bd_at, bz_0, if_neg q]
    exact ⟨0, h, rfl, FrC_rfl h, Or.inl ⟨rfl, rfl⟩⟩
theorem x_opn (w : HC h s) (c : Nat) (hc : c ≠ 0) (b : Nat) (hb : b ≤ 1) : TK (f_X2_opensPart (nI c) (nI b) h) h s (if b = 1 then some (mkB s.V s.ca s.la s.m c 0 0 s.se s.en s.dr) else none) := by
  unfold f_X2_opensPart
  have hb2 : b = 0 ∨ b = 1 := by omega
  rw [st_at, st_at, st_at]
  rcases hb2 with rfl | rfl
  · rw [bz_at (v := nI 0) (Or.inl rfl)]
    exact ⟨nI 0, _, rfl, ⟨fun a b z => by rw [rsi, if_neg (by omega), rsi, if_neg (by omega), rsi, if_neg (by omega)], rfl⟩, Or.inl ⟨rfl, rfl⟩⟩
  · rw [bz_at (v := nI 1) (Or.inr rfl)]
    exact ⟨nI 1, _, rfl, ⟨fun a b z => by rw [rsi, if_neg (by omega), rsi, if_neg (by omega), rsi, if_neg (by omega)], rfl⟩, Or.inr ⟨_, rfl, rfl, w.t, rfl, fun _ => ⟨rfl, rfl⟩, w.V, w.se, w.ca, w.la, w.m, w.en⟩⟩
theorem TK_cg {f g : Option (Int32 × PH)} {o : Option BS} (e : g = f) (q : TK f h s o) : TK g h s o := e ▸ q
theorem TK_bz {f : Option (Int32 × PH)} {o : Option BS} (q : TK f h s o) : TK (bd f (fun r h => bz r (some (r, h)))) h s o := by
  obtain ⟨b, h', e, q2, q3⟩ := q
  refine ⟨b, h', ?_, q2, q3⟩
  rw [e, bd_at]
  rcases q3 with z | ⟨_, _, z, _⟩
  · rw [z.2, bz_0]
  · rw [z, bz_1]
theorem x_part (w : HC h s) (ws : WS s) (hp : s.p = 0) {c : Nat} (hc : c ≤ 255) : TK (f_X2_takesPart (nI c) h) h s (stp s c) := by
  have hm := ws.m
  have hca := ws.ca
  have hla := ws.la
  have hV := ws.V
  have cq : ∀ k : Nat, k ≤ 255 → nI c = nI k → c = k := fun k hk z => (nI_eq (by omega) (by omega)).mp z
  unfold f_X2_takesPart stp
  rw [if_pos hp]
  by_cases c1 : c = 45
  · subst c1
    rw [if_pos rfl, if_pos (c := nI 45 = 45) rfl]
    have := x_ent w ws 0
    exact TK_bz this
  have n1 : ¬ nI c = 45 := fun z => c1 (cq 45 (by omega) (z.trans L45))
  rw [if_neg n1, if_neg c1]
  by_cases c2 : c = 98
  · subst c2
    rw [if_pos rfl, if_pos (c := nI 98 = 98) rfl]
    have := x_ent w ws 1
    exact TK_bz this
  have n2 : ¬ nI c = 98 := fun z => c2 (cq 98 (by omega) (z.trans L98))
  rw [if_neg n2, if_neg c2]
  by_cases c3 : c = 99
  · subst c3
    rw [if_pos rfl, if_pos (c := nI 99 = 99) rfl, w.ca]
    by_cases q : s.ca < 99
    · rw [if_neg (by rw [L99]; exact nI_ge q (by omega)), if_pos q]
      exact TK_bz (x_opn w 99 (by omega) 1 (by omega))
    · rw [if_pos (by rw [L99]; exact nI_le (by omega) (by omega)), if_neg q]
      exact TK_bz (x_opn w 99 (by omega) 0 (by omega))
  have n3 : ¬ nI c = 99 := fun z => c3 (cq 99 (by omega) (z.trans L99))
  rw [if_neg n3, if_neg c3]
  by_cases c4 : c = 108
  · subst c4
    rw [if_pos rfl, if_pos (c := nI 108 = 108) rfl, w.la]
    by_cases q : s.la < 99
    · rw [if_neg (by rw [L99]; exact nI_ge q (by omega)), if_pos q]
      exact TK_bz (x_opn w 108 (by omega) 1 (by omega))
    · rw [if_pos (by rw [L99]; exact nI_le (by omega) (by omega)), if_neg q]
      exact TK_bz (x_opn w 108 (by omega) 0 (by omega))
  have n4 : ¬ nI c = 108 := fun z => c4 (cq 108 (by omega) z)
  rw [if_neg n4, if_neg c4]
  by_cases c5 : c = 118
  · subst c5
    rw [if_pos rfl, if_pos (c := nI 118 = 118) rfl, w.V]
    by_cases q : s.V < 4
    · rw [if_neg (by rw [L4]; exact nI_ge q (by omega)), if_pos q]
      exact TK_bz (x_opn w 118 (by omega) 1 (by omega))
    · rw [if_pos (by rw [L4]; exact nI_le (by omega) (by omega)), if_neg q]
      exact TK_bz (x_opn w 118 (by omega) 0 (by omega))
  have n5 : ¬ nI c = 118 := fun z => c5 (cq 118 (by omega) z)
  rw [if_neg n5, if_neg c5]
  by_cases c6 : c = 120
  · subst c6
    rw [if_pos rfl, if_pos (c := nI 120 = 120) rfl]
    exact TK_bz (x_ent w ws 2)
  have n6 : ¬ nI c = 120 := fun z => c6 (cq 120 (by omega) z)
  rw [if_neg n6, if_neg c6]
  exact ⟨0, h, rfl, FrC_rfl h, Or.inl ⟨rfl, rfl⟩⟩
theorem x_dig (w : HC h s) (ws : WS s) (hp : ¬ s.p = 0) {c : Nat} (hc : c ≤ 255) : TK (f_X2_takesDigit (nI c) h) h s (stp s c) := by
  have hca := ws.ca
  have hla := ws.la
  have hV := ws.V
  obtain ⟨wd, wn⟩ := w.d hp
  have hd : s.d ≤ 2 ∧ s.nu ≤ 99 := by rcases ws.p with q | q | q <;> omega
  unfold f_X2_takesDigit stp
  rw [if_neg hp, isDigit2_eq hc, bd_at]
  by_cases c1 : c < 48 ∨ 57 < c
  · rw [if_pos c1, if_pos rfl, if_pos c1]
    exact ⟨0, h, rfl, FrC_rfl h, Or.inl ⟨rfl, rfl⟩⟩
  rw [if_neg c1, if_neg (by decide), if_neg c1, st_at, st_at, wd]
  have e5 : (si h 8 4 (nI s.d + 1)).1 8 5 = h.1 8 5 := rfl
  have en : nI s.nu * 10 + nI c - 48 = nI (s.nu * 10 + (c - 48)) := by
    rw [L10, nI_mul, nI_add, L48, nI_subI (by omega)]
    congr 1
    omega
  rw [e5, wn, en, nI_1]
  generalize hH : si (si h 8 4 (nI (s.d + 1))) 8 5 (nI (s.nu * 10 + (c - 48))) = H
  have f0 : ∀ a b, ¬ (a = 8) → H.1 a b = h.1 a b := fun a b z => by
    rw [← hH, rsi, if_neg (by omega), rsi, if_neg (by omega)]
  have f2 : H.2 = h.2 := by rw [← hH]; rfl
  have g3 : H.1 8 3 = nI s.p := by rw [← hH]; exact w.p
  have g2 : H.1 8 2 = nI 11 := by rw [← hH]; exact w.t
  have g4 : H.1 8 4 = nI (s.d + 1) := by rw [← hH]; rfl
  have g5 : H.1 8 5 = nI (s.nu * 10 + (c - 48)) := by rw [← hH]; rfl
  have gV : H.1 9 5 = nI s.V := (f0 _ _ (by omega)).trans w.V
  have gca : H.1 15 7 = nI s.ca := (f0 _ _ (by omega)).trans w.ca
  have gla : H.1 15 8 = nI s.la := (f0 _ _ (by omega)).trans w.la
  have gm : H.1 15 6 = nI s.m := (f0 _ _ (by omega)).trans w.m
  have gse : ∀ v, v < s.V → H.1 18 v = nI (s.se v) ∧ H.1 11 v = s.dr v := fun v hv => ⟨(f0 _ _ (by omega)).trans (w.se v hv).1, (f0 _ _ (by omega)).trans (w.se v hv).2⟩
  have gen : ∀ i, i < s.m → H.1 19 i = nI (s.en i) := fun i hi => (f0 _ _ (by omega)).trans (w.en i hi)
  have fH : FrC h H := ⟨fun a b z => f0 a b (by omega), f2⟩
  rw [g3]
  by_cases c2 : s.p = 118
  · have e118 : nI s.p = 118 := by rw [c2]; rfl
    obtain ⟨hV4, hdd⟩ : s.V < 4 ∧ (s.d = 0 ∧ s.nu = 0 ∨ s.d = 1 ∧ s.nu ≤ 9 ∨ s.d = 2 ∧ s.nu ≤ 99) := by
      rcases ws.p with q | q | q
      · omega
      · exact q.2
      · omega
    rw [if_pos e118, if_pos c2]
    refine TK_bz ?_
    unfold f_X2_takesValve
    rw [g4]
    by_cases c3 : s.d = 2
    · have e3 : nI (s.d + 1) = 3 := by rw [c3]; rfl
      rw [if_pos e3, if_pos c3, gV, if_neg (by rw [L4]; exact nI_ge hV4 (by omega)), wr_at s.V rfl (by show s.V < 4; omega) (by decide), g5]
      have k5 : ∀ x, (si H (15 + 3) s.V x).1 9 5 = nI s.V := fun x => gV
      have k85 : ∀ x, (si H (15 + 3) s.V x).1 8 5 = nI (s.nu * 10 + (c - 48)) := fun x => g5
      rw [k5, k85, wr_at s.V rfl (by show s.V < 4; omega) (by decide), st_at, st_at]
      have d1 : nI (s.nu * 10 + (c - 48)) / 10 = nI s.nu := by
        rw [L10, pk_div (by omega) (by omega) (by omega)]
        congr 1
        omega
      have d2 : irm (nI (s.nu * 10 + (c - 48))) 10 = nI (c - 48) := by
        rw [L10, irm_nI (by omega) (by omega) (by omega)]
        congr 1
        omega
      rw [d1, d2]
      refine ⟨1, _, rfl, ⟨fun a b z => ?_, f2⟩, Or.inr ⟨_, rfl, rfl, g2, rfl, fun z => absurd rfl z, ?_, fun v hv => ?_, gca, gla, gm, gen⟩⟩
      · rw [rsi, if_neg (by omega), rsi, if_neg (by omega), rsi, if_neg (by omega), rsi, if_neg (by omega)]
        exact f0 a b (by omega)
      · show H.1 9 5 + 1 = nI (s.V + 1)
        rw [gV, nI_1]
      · have hv : v < s.V + 1 := hv
        show (si H 18 s.V (nI s.nu)).1 18 v = nI (un s.se s.V s.nu v) ∧ (si (si H 18 s.V (nI s.nu)) 11 s.V (nI (c - 48) - 4)).1 11 v = upd s.dr s.V (nI (c - 48) - 4) v
        by_cases z : v = s.V
        · subst z
          rw [si_slf, si_slf, un_at, upd_at]
          exact ⟨rfl, rfl⟩
        · rw [si_oth _ _ _ z, si_oth _ _ _ z, un_ne _ _ z, upd_ne _ _ z, si_ne _ _ _ _ (by omega)]
          exact gse v (by omega)
    · have e3 : ¬ nI (s.d + 1) = 3 := fun z => by
        have := (nI_eq (by omega) (by omega)).mp (z.trans L3)
        omega
      rw [if_neg e3, if_neg c3]
      exact ⟨1, H, rfl, fH, Or.inr ⟨_, rfl, rfl, g2, g3, fun _ => ⟨g4, g5⟩, gV, gse, gca, gla, gm, gen⟩⟩
  · have n118 : ¬ nI s.p = 118 := fun z => c2 ((nI_eq (a := s.p) (b := 118) (by rcases ws.p with q | q | q <;> omega) (by omega)).mp z)
    obtain ⟨h1, h2⟩ : (s.p = 99 ∧ s.ca < 99 ∨ s.p = 108 ∧ s.la < 99) ∧ (s.d = 0 ∧ s.nu = 0 ∨ s.d = 1 ∧ s.nu ≤ 9) := by
      rcases ws.p with q | q | q
      · omega
      · omega
      · exact q
    rw [if_neg n118, if_neg c2]
    -- which stock
    have key : ∀ (l k : Nat), l ≤ 1 → (l = 1 ↔ s.p = 108) → k ≤ 99 → k = (if s.p = 108 then s.la else s.ca) → TK (f_X2_takesStock (nI l) H) h s (if s.d = 0 then (if (c - 48) * 10 + k ≤ 99 then some (mkB s.V s.ca s.la s.m s.p 1 (c - 48) s.se s.en s.dr) else none) else if 1 ≤ s.nu * 10 + (c - 48) ∧ s.nu * 10 + (c - 48) + k ≤ 99 then (if s.p = 108 then some (mkB s.V s.ca (s.la + (s.nu * 10 + (c - 48))) s.m 0 s.d s.nu s.se s.en s.dr) else some (mkB s.V (s.ca + (s.nu * 10 + (c - 48))) s.la s.m 0 s.d s.nu s.se s.en s.dr)) else none) := by
      intro l k hl hl2 hk ek
      have es : f_X3_stock 15 (nI l) H = some (nI k, H) := by
        unfold f_X3_stock
        rw [gd_at kd_15]
        by_cases q : s.p = 108
        · rw [if_pos q] at ek
          have : l = 1 := hl2.mpr q
          subst this
          rw [if_neg (by decide), gla, ek]
        · rw [if_neg q] at ek
          have : l = 0 := by have : ¬ l = 1 := fun z => q (hl2.mp z); omega
          subst this
          rw [if_pos (c := nI 0 = 0) rfl, gca, ek]
      unfold f_X2_takesStock
      rw [es, bd_at, g4, g5]
      have e9 : (99 : Int32) - nI k = nI (99 - k) := by rw [L99, nI_subI hk]
      rw [e9]
      by_cases c3 : s.d = 0
      · have e1 : nI (s.d + 1) = 1 := by rw [c3]; rfl
        have hn : s.nu = 0 := by omega
        rw [if_pos e1, if_pos c3, L10, nI_mul]
        by_cases q : (c - 48) * 10 + k ≤ 99
        · rw [if_neg (nI_nlt (by omega) (by omega)), if_pos q]
          refine ⟨1, H, rfl, fH, Or.inr ⟨_, rfl, rfl, g2, g3, fun _ => ⟨?_, ?_⟩, gV, gse, gca, gla, gm, gen⟩⟩
          · rw [g4, c3]; rfl
          · rw [g5, hn]
            show nI (0 * 10 + (c - 48)) = nI (c - 48)
            congr 1
            omega
        · rw [if_pos (nI_lt (by omega) (by omega)), if_neg q]
          exact ⟨0, H, rfl, fH, Or.inl ⟨rfl, rfl⟩⟩
      · have e1 : ¬ nI (s.d + 1) = 1 := fun z => by
          have := (nI_eq (by omega) (by omega)).mp (z.trans L1)
          omega
        rw [if_neg e1, if_neg c3, isWithin_eq, bd_at]
        by_cases q : 1 ≤ s.nu * 10 + (c - 48) ∧ s.nu * 10 + (c - 48) + k ≤ 99
        · have iw : isw (nI (s.nu * 10 + (c - 48))) 1 (nI (99 - k)) = 1 := by
            unfold isw
            rw [L1, if_neg (nI_nlt (by omega) (by omega)), if_neg (nI_nlt (by omega) (by omega))]
          rw [iw, if_neg (by decide), if_pos q]
          unfold f_X3_addStock
          rw [gd_at kd_15, g5]
          by_cases q2 : s.p = 108
          · rw [if_pos q2] at ek
            have : l = 1 := hl2.mpr q2
            subst this
            have em : imn 99 (nI s.la + nI (s.nu * 10 + (c - 48))) = nI (s.la + (s.nu * 10 + (c - 48))) := by
              unfold imn
              rw [nI_add]
              by_cases z : s.la + (s.nu * 10 + (c - 48)) = 99
              · rw [z]; rfl
              · rw [if_pos]
                rw [L99]
                exact nI_lt (by omega) (by omega)
            rw [if_neg (by decide), st_at, bd_at, st_at, if_pos q2, gla, em]
            refine ⟨1, _, rfl, ⟨fun a b z => ?_, f2⟩, Or.inr ⟨_, rfl, rfl, g2, rfl, fun z => absurd rfl z, gV, gse, gca, rfl, gm, gen⟩⟩
            rw [rsi, if_neg (by omega), rsi, if_neg (by omega)]
            exact f0 a b (by omega)
          · rw [if_neg q2] at ek
            have : l = 0 := by have : ¬ l = 1 := fun z => q2 (hl2.mp z); omega
            subst this
            have em : imn 99 (nI s.ca + nI (s.nu * 10 + (c - 48))) = nI (s.ca + (s.nu * 10 + (c - 48))) := by
              unfold imn
              rw [nI_add]
              by_cases z : s.ca + (s.nu * 10 + (c - 48)) = 99
              · rw [z]; rfl
              · rw [if_pos]
                rw [L99]
                exact nI_lt (by omega) (by omega)
            rw [if_pos (c := nI 0 = 0) rfl, st_at, bd_at, st_at, if_neg q2, gca, em]
            refine ⟨1, _, rfl, ⟨fun a b z => ?_, f2⟩, Or.inr ⟨_, rfl, rfl, g2, rfl, fun z => absurd rfl z, gV, gse, rfl, gla, gm, gen⟩⟩
            rw [rsi, if_neg (by omega), rsi, if_neg (by omega)]
            exact f0 a b (by omega)
        · have iw : isw (nI (s.nu * 10 + (c - 48))) 1 (nI (99 - k)) = 0 := by
            unfold isw
            rw [L1]
            by_cases z : s.nu * 10 + (c - 48) < 1
            · rw [if_pos (nI_lt z (by omega))]
            · rw [if_neg (nI_nlt (by omega) (by omega)), if_pos (nI_lt (by omega) (by omega))]
          rw [iw, if_pos rfl, if_neg q]
          exact ⟨0, H, rfl, fH, Or.inl ⟨rfl, rfl⟩⟩
    by_cases q : s.p = 108
    · have e108 : nI s.p = 108 := by rw [q]; rfl
      rw [if_pos e108]
      have := key 1 s.la (by omega) ⟨fun _ => q, fun _ => rfl⟩ hla (by rw [if_pos q])
      have e : (if s.p = 108 then s.la else s.ca) = s.la := if_pos q
      rw [e]
      exact TK_bz this
    · have n108 : ¬ nI s.p = 108 := fun z => q ((nI_eq (a := s.p) (b := 108) (by omega) (by omega)).mp z)
      rw [if_neg n108]
      have := key 0 s.ca (by omega) ⟨fun z => by omega, fun z => absurd z q⟩ hca (by rw [if_neg q])
      have e : (if s.p = 108 then s.la else s.ca) = s.ca := if_neg q
      rw [e]
      exact TK_bz this
theorem x_take (w : HC h s) (ws : WS s) {c : Nat} (hc : c ≤ 255) : TK (f_X2_takes (nI c) h) h s (stp s c) := by
  unfold f_X2_takes
  rw [w.t, if_pos (by decide), w.p]
  by_cases hp : s.p = 0
  · rw [if_pos (by rw [hp]; rfl)]
    exact TK_bz (x_part w ws hp hc)
  · have n : ¬ nI s.p = 0 := nI_nz (by omega) (by rcases ws.p with q | q | q <;> omega)
    rw [if_neg n]
    exact TK_bz (x_dig w ws hp hc)
end
