-- the reference's reader, a letter at a time
def HM (h : PH) (s : BS) : Prop := h.1 110 35 = nI s.p ∧ (s.p ≠ 0 → h.1 110 36 = nI (s.d + 1) ∧ (s.d = 1 → h.1 110 37 = nI s.nu) ∧ (s.d = 2 → h.1 124 s.V = nI s.nu)) ∧ h.1 110 29 = nI s.V ∧ (∀ v, v < s.V → h.1 124 v = nI (s.se v) ∧ h.1 125 v = s.dr v) ∧ h.1 126 0 = nI s.ca ∧ h.1 126 1 = nI s.la ∧ h.1 110 33 = nI s.m ∧ ∀ i, i < s.m → h.1 127 i = nI (s.en i)
theorem HM.p {h : PH} {s : BS} (w : HM h s) : h.1 110 35 = nI s.p := w.1
theorem HM.d {h : PH} {s : BS} (w : HM h s) : s.p ≠ 0 → h.1 110 36 = nI (s.d + 1) ∧ (s.d = 1 → h.1 110 37 = nI s.nu) ∧ (s.d = 2 → h.1 124 s.V = nI s.nu) := w.2.1
theorem HM.V {h : PH} {s : BS} (w : HM h s) : h.1 110 29 = nI s.V := w.2.2.1
theorem HM.se {h : PH} {s : BS} (w : HM h s) : ∀ v, v < s.V → h.1 124 v = nI (s.se v) ∧ h.1 125 v = s.dr v := w.2.2.2.1
theorem HM.ca {h : PH} {s : BS} (w : HM h s) : h.1 126 0 = nI s.ca := w.2.2.2.2.1
theorem HM.la {h : PH} {s : BS} (w : HM h s) : h.1 126 1 = nI s.la := w.2.2.2.2.2.1
theorem HM.m {h : PH} {s : BS} (w : HM h s) : h.1 110 33 = nI s.m := w.2.2.2.2.2.2.1
theorem HM.en {h : PH} {s : BS} (w : HM h s) : ∀ i, i < s.m → h.1 127 i = nI (s.en i) := w.2.2.2.2.2.2.2
def FrM (h h' : PH) : Prop := (∀ a b, ¬ ((124 ≤ a ∧ a ≤ 127) ∨ (a = 110 ∧ (b = 29 ∨ b = 33 ∨ (35 ≤ b ∧ b ≤ 37)))) → h'.1 a b = h.1 a b) ∧ h'.2 = h.2
theorem FrM_rfl (h : PH) : FrM h h := ⟨fun _ _ _ => rfl, rfl⟩
theorem FrM_tr {h h1 h2 : PH} (q : FrM h h1) (q2 : FrM h1 h2) : FrM h h2 := ⟨fun a b z => (q2.1 a b z).trans (q.1 a b z), q2.2.trans q.2⟩
def TM (f : Option (Int32 × PH)) (h : PH) (o : Option BS) : Prop := ∃ (b : Int32) (h' : PH), f = some (b, h') ∧ FrM h h' ∧ (o = none ∧ b = 0 ∨ ∃ s', o = some s' ∧ b = 1 ∧ HM h' s')
theorem TM_bz {h : PH} {f : Option (Int32 × PH)} {o : Option BS} (q : TM f h o) : TM (bd f (fun r h => bz r (some (r, h)))) h o := by
  obtain ⟨b, h', e, q2, q3⟩ := q
  refine ⟨b, h', ?_, q2, q3⟩
  rw [e, bd_at]
  rcases q3 with z | ⟨_, _, z, _⟩
  · rw [z.2, bz_0]
  · rw [z, bz_1]
theorem TM_fr {h h1 : PH} {f : Option (Int32 × PH)} {o : Option BS} (q : FrM h h1) (t : TM f h1 o) : TM f h o := by
  obtain ⟨b, h', e, q2, q3⟩ := t
  exact ⟨b, h', e, FrM_tr q q2, q3⟩
theorem dgm_t : ∀ c, c < 256 → isw (nI c - 48) 0 9 = if c < 48 ∨ 57 < c then 0 else 1 := by decide +kernel
section
variable {h : PH} {s : BS}
theorem m_ent (w : HM h s) (ws : WS s) (e : Nat) : TM (f_X5_queueUp (nI e) h) h (if s.m < 24 then some (mkB s.V s.ca s.la (s.m + 1) s.p s.d s.nu s.se (un s.en s.m e) s.dr) else none) := by
  have hm := ws.m
  unfold f_X5_queueUp
  rw [w.m]
  by_cases q : s.m < 24
  · have n : ¬ nI s.m = 24 := fun z => by
      have := (nI_eq (by omega) (by omega)).mp (z.trans L24)
      omega
    rw [if_neg n, wr_at s.m rfl (by show s.m < 24; omega) (by decide), st_at, if_pos q]
    refine ⟨1, _, rfl, ⟨fun a b z => ?_, rfl⟩, Or.inr ⟨_, rfl, rfl, w.p, w.d, w.V, w.se, w.ca, w.la, ?_, fun i hi => ?_⟩⟩
    · rw [rsi, if_neg (by omega), rsi, if_neg (by omega)]
    · show h.1 110 33 + 1 = nI (s.m + 1)
      rw [w.m, nI_1]
    · have hi : i < s.m + 1 := hi
      show (si h 127 s.m (nI e)).1 127 i = nI (un s.en s.m e i)
      by_cases z : i = s.m
      · subst z
        rw [si_slf, un_at]
      · rw [si_oth _ _ _ z, un_ne _ _ z]
        exact w.en i (by omega)
  · have n : nI s.m = 24 := by
      have : s.m = 24 := by omega
      rw [this]; rfl
    rw [if_pos n, if_neg q]
    exact ⟨0, h, rfl, FrM_rfl h, Or.inl ⟨rfl, rfl⟩⟩
theorem m_sign (w : HM h s) (ws : WS s) (hp : s.p = 0) {c : Nat} (hc : c ≤ 255) : TM (f_X5_takeSign (nI c) h) h (stp s c) := by
  have hm := ws.m
  have hca := ws.ca
  have hla := ws.la
  have hV := ws.V
  have cq : ∀ k : Nat, k ≤ 255 → nI c = nI k → c = k := fun k hk z => (nI_eq (by omega) (by omega)).mp z
  have fr : FrM h (si (si h 110 35 (nI c)) 110 36 1) := ⟨fun a b z => by rw [rsi, if_neg (by omega), rsi, if_neg (by omega)], rfl⟩
  have fr2 : FrM h (si (si (si h 110 35 (nI c)) 110 36 1) 110 35 0) := ⟨fun a b z => by rw [rsi, if_neg (by omega), rsi, if_neg (by omega), rsi, if_neg (by omega)], rfl⟩
  have w2 : HM (si (si (si h 110 35 (nI c)) 110 36 1) 110 35 0) s := ⟨by rw [hp]; rfl, fun z => absurd hp z, w.V, w.se, w.ca, w.la, w.m, w.en⟩
  have o1 : ∀ {k : Nat}, c = k → k ≠ 0 → HM (si (si h 110 35 (nI c)) 110 36 1) (mkB s.V s.ca s.la s.m k 0 0 s.se s.en s.dr) := fun {k} hk _ => ⟨by rw [hk]; rfl, fun _ => ⟨rfl, fun z => absurd z (by show ¬ 0 = 1; omega), fun z => absurd z (by show ¬ 0 = 2; omega)⟩, w.V, w.se, w.ca, w.la, w.m, w.en⟩
  unfold f_X5_takeSign stp
  rw [if_pos hp, st_at, st_at]
  by_cases c1 : c = 45
  · have e : nI c = 45 := by rw [c1]; rfl
    rw [if_pos c1, if_pos e, st_at]
    exact TM_fr fr2 (TM_bz (m_ent w2 ws 0))
  have n1 : ¬ nI c = 45 := fun z => c1 (cq 45 (by omega) (z.trans L45))
  rw [if_neg n1, if_neg c1]
  by_cases c2 : c = 98
  · have e : nI c = 98 := by rw [c2]; rfl
    rw [if_pos c2, if_pos e, st_at]
    exact TM_fr fr2 (TM_bz (m_ent w2 ws 1))
  have n2 : ¬ nI c = 98 := fun z => c2 (cq 98 (by omega) (z.trans L98))
  rw [if_neg n2, if_neg c2]
  by_cases c3 : c = 99
  · have e : nI c = 99 := by rw [c3]; rfl
    have ex : (si (si h 110 35 (nI c)) 110 36 1).1 126 0 = nI s.ca := w.ca
    rw [if_pos c3, if_pos e, rd_at 0 L0 (by decide) (by decide), ex]
    by_cases q : s.ca < 99
    · rw [if_neg (by rw [L99]; exact nI_ge q (by omega)), if_pos q]
      exact ⟨1, _, rfl, fr, Or.inr ⟨_, rfl, rfl, o1 c3 (by omega)⟩⟩
    · rw [if_pos (by rw [L99]; exact nI_le (by omega) (by omega)), if_neg q]
      exact ⟨0, _, rfl, fr, Or.inl ⟨rfl, rfl⟩⟩
  have n3 : ¬ nI c = 99 := fun z => c3 (cq 99 (by omega) (z.trans L99))
  rw [if_neg n3, if_neg c3]
  by_cases c4 : c = 108
  · have e : nI c = 108 := by rw [c4]; rfl
    have ex : (si (si h 110 35 (nI c)) 110 36 1).1 126 1 = nI s.la := w.la
    rw [if_pos c4, if_pos e, rd_at 1 L1 (by decide) (by decide), ex]
    by_cases q : s.la < 99
    · rw [if_neg (by rw [L99]; exact nI_ge q (by omega)), if_pos q]
      exact ⟨1, _, rfl, fr, Or.inr ⟨_, rfl, rfl, o1 c4 (by omega)⟩⟩
    · rw [if_pos (by rw [L99]; exact nI_le (by omega) (by omega)), if_neg q]
      exact ⟨0, _, rfl, fr, Or.inl ⟨rfl, rfl⟩⟩
  have n4 : ¬ nI c = 108 := fun z => c4 (cq 108 (by omega) z)
  rw [if_neg n4, if_neg c4]
  by_cases c5 : c = 118
  · have e : nI c = 118 := by rw [c5]; rfl
    have ex : (si (si h 110 35 (nI c)) 110 36 1).1 110 29 = nI s.V := w.V
    rw [if_pos c5, if_pos e, ex]
    by_cases q : s.V < 4
    · rw [if_neg (by rw [L4]; exact nI_ge q (by omega)), if_pos q]
      exact ⟨1, _, rfl, fr, Or.inr ⟨_, rfl, rfl, o1 c5 (by omega)⟩⟩
    · rw [if_pos (by rw [L4]; exact nI_le (by omega) (by omega)), if_neg q]
      exact ⟨0, _, rfl, fr, Or.inl ⟨rfl, rfl⟩⟩
  have n5 : ¬ nI c = 118 := fun z => c5 (cq 118 (by omega) z)
  rw [if_neg n5, if_neg c5]
  by_cases c6 : c = 120
  · have e : nI c = 120 := by rw [c6]; rfl
    rw [if_pos c6, if_pos e, st_at]
    exact TM_fr fr2 (TM_bz (m_ent w2 ws 2))
  have n6 : ¬ nI c = 120 := fun z => c6 (cq 120 (by omega) z)
  rw [if_neg n6, if_neg c6]
  exact ⟨0, _, rfl, fr, Or.inl ⟨rfl, rfl⟩⟩
theorem m_valve (w : HM h s) (ws : WS s) (hp : s.p = 118) {c : Nat} (hc : c ≤ 255) : TM (f_X5_takeOfValve (nI c - 48) h) h (stp s c) := by
  have hp0 : ¬ s.p = 0 := by omega
  obtain ⟨hV4, hdd⟩ : s.V < 4 ∧ (s.d = 0 ∧ s.nu = 0 ∨ s.d = 1 ∧ s.nu ≤ 9 ∨ s.d = 2 ∧ s.nu ≤ 99) := by
    rcases ws.p with q | q | q
    · omega
    · exact q.2
    · omega
  obtain ⟨wd, wf, wv⟩ := w.d hp0
  unfold f_X5_takeOfValve stp
  rw [if_neg hp0, in_eq, bd_at, dgm_t c (by omega)]
  by_cases c1 : c < 48 ∨ 57 < c
  · rw [if_pos c1, if_pos rfl, if_pos c1]
    exact ⟨0, h, rfl, FrM_rfl h, Or.inl ⟨rfl, rfl⟩⟩
  have ec : nI c - 48 = nI (c - 48) := by rw [L48, nI_subI (by omega)]
  rw [if_neg c1, if_neg (by decide), if_neg c1, if_pos hp, wd, ec, w.V]
  rcases hdd with ⟨d1, d2⟩ | ⟨d1, d2⟩ | ⟨d1, d2⟩
  · have e1 : nI (s.d + 1) = 1 := by rw [d1]; rfl
    have n2 : ¬ s.d = 2 := by omega
    rw [if_pos e1, if_neg n2, st_at, st_at]
    refine ⟨1, _, rfl, ⟨fun a b z => by rw [rsi, if_neg (by omega), rsi, if_neg (by omega)], rfl⟩, Or.inr ⟨_, rfl, rfl, w.p, fun _ => ⟨?_, fun _ => ?_, fun z => ?_⟩, w.V, w.se, w.ca, w.la, w.m, w.en⟩⟩
    · show (2 : Int32) = nI (s.d + 1 + 1)
      rw [d1]; rfl
    · show nI (c - 48) = nI (s.nu * 10 + (c - 48))
      rw [d2]
      congr 1
      omega
    · have z : s.d + 1 = 2 := z
      omega
  · have e1 : ¬ nI (s.d + 1) = 1 := by rw [d1]; decide
    have e2 : nI (s.d + 1) = 2 := by rw [d1]; rfl
    have n2 : ¬ s.d = 2 := by omega
    have ev : (10 : Int32) * nI s.nu + nI (c - 48) = nI (s.nu * 10 + (c - 48)) := by
      rw [L10, nI_mul, nI_add]
      congr 1
      omega
    rw [if_neg e1, if_pos e2, if_neg n2, wf d1, ev, wr_at s.V rfl (by show s.V < 4; omega) (by decide), st_at]
    refine ⟨1, _, rfl, ⟨fun a b z => by rw [rsi, if_neg (by omega), rsi, if_neg (by omega)], rfl⟩, Or.inr ⟨_, rfl, rfl, w.p, fun _ => ⟨?_, fun z => ?_, fun z => ?_⟩, w.V, fun v hv => ⟨?_, (w.se v hv).2⟩, w.ca, w.la, w.m, w.en⟩⟩
    · show (3 : Int32) = nI (s.d + 1 + 1)
      rw [d1]; rfl
    · have z : s.d + 1 = 1 := z
      omega
    · exact si_slf _ _ _ _
    · have hv : v < s.V := hv
      show (si h 124 s.V _).1 124 v = _
      rw [si_oth _ _ _ (by omega)]
      exact (w.se v hv).1
  · have e1 : ¬ nI (s.d + 1) = 1 := by rw [d1]; decide
    have e2 : ¬ nI (s.d + 1) = 2 := by rw [d1]; decide
    rw [if_neg e1, if_neg e2, if_pos d1, wr_at s.V rfl (by show s.V < 4; omega) (by decide), st_at, st_at]
    refine ⟨1, _, rfl, ⟨fun a b z => by rw [rsi, if_neg (by omega), rsi, if_neg (by omega), rsi, if_neg (by omega)], rfl⟩, Or.inr ⟨_, rfl, rfl, rfl, fun z => absurd rfl z, ?_, fun v hv => ?_, w.ca, w.la, w.m, w.en⟩⟩
    · show h.1 110 29 + 1 = nI (s.V + 1)
      rw [w.V, nI_1]
    · have hv : v < s.V + 1 := hv
      show h.1 124 v = nI (un s.se s.V s.nu v) ∧ (si h 125 s.V (nI (c - 48) - 4)).1 125 v = upd s.dr s.V (nI (c - 48) - 4) v
      by_cases z : v = s.V
      · subst z
        rw [si_slf, un_at, upd_at]
        exact ⟨wv d1, rfl⟩
      · rw [si_oth _ _ _ z, un_ne _ _ z, upd_ne _ _ z]
        exact w.se v (by omega)
theorem m_stock (w : HM h s) (ws : WS s) (l k : Nat) (hl : l ≤ 1) (hl2 : l = 1 ↔ s.p = 108) (hl3 : l = 0 ↔ s.p = 99) (hk : k ≤ 99) (ek : k = (if s.p = 108 then s.la else s.ca)) {c : Nat} (hc : c ≤ 255) : TM (f_X5_takeOfStock (nI l) (nI c - 48) h) h (stp s c) := by
  have hp0 : ¬ s.p = 0 := by omega
  have hp1 : ¬ s.p = 118 := by omega
  obtain ⟨h1, h2⟩ : (s.p = 99 ∧ s.ca < 99 ∨ s.p = 108 ∧ s.la < 99) ∧ (s.d = 0 ∧ s.nu = 0 ∨ s.d = 1 ∧ s.nu ≤ 9) := by
    rcases ws.p with q | q | q
    · omega
    · omega
    · exact q
  have hk2 : k < 99 := by
    by_cases q : s.p = 108
    · rw [if_pos q] at ek; omega
    · rw [if_neg q] at ek; omega
  obtain ⟨wd, wf, -⟩ := w.d hp0
  have ex : h.1 126 l = nI k := by
    by_cases q : s.p = 108
    · rw [if_pos q] at ek
      have : l = 1 := hl2.mpr q
      subst this
      rw [w.la, ek]
    · rw [if_neg q] at ek
      have : l = 0 := by have : ¬ l = 1 := fun z => q (hl2.mp z); omega
      subst this
      rw [w.ca, ek]
  unfold f_X5_takeOfStock stp
  rw [if_neg hp0, if_neg hp1, ← ek, rd_at l rfl (by show l < 2; omega) (by decide), ex, wd]
  have e9 : (99 : Int32) - nI k = nI (99 - k) := by rw [L99, nI_subI hk]
  rw [e9]
  rcases h2 with ⟨d1, d2⟩ | ⟨d1, d2⟩
  · have e1 : nI (s.d + 1) = 1 := by rw [d1]; rfl
    have fr : ∀ x : Int32, FrM h (si (si h 110 37 x) 110 36 2) := fun x => ⟨fun a b z => by rw [rsi, if_neg (by omega), rsi, if_neg (by omega)], rfl⟩
    rw [if_pos e1, if_pos d1, st_at, st_at, in_eq, bd_at, dgm_t c (by omega)]
    by_cases c1 : c < 48 ∨ 57 < c
    · rw [if_pos c1, if_pos rfl, if_pos c1]
      exact ⟨0, _, rfl, fr _, Or.inl ⟨rfl, rfl⟩⟩
    have ec : nI c - 48 = nI (c - 48) := by rw [L48, nI_subI (by omega)]
    rw [if_neg c1, if_neg (by decide), if_neg c1, ec]
    have wn : HM (si (si h 110 37 (nI (c - 48))) 110 36 2) (mkB s.V s.ca s.la s.m s.p 1 (c - 48) s.se s.en s.dr) := ⟨w.p, fun _ => ⟨rfl, fun _ => rfl, fun z => absurd z (by show ¬ 1 = 2; omega)⟩, w.V, w.se, w.ca, w.la, w.m, w.en⟩
    unfold f_X5_takeOfStock_b50
    by_cases c2 : c = 48
    · have ez : nI (c - 48) = 0 := by rw [c2]; rfl
      have q : (c - 48) * 10 + k ≤ 99 := by omega
      rw [if_pos ez, if_neg (by rw [L1]; exact nI_nlt (by omega) (by omega)), if_pos q]
      exact ⟨1, _, rfl, fr _, Or.inr ⟨_, rfl, rfl, wn⟩⟩
    · rw [if_neg (nI_nz (by omega) (by omega)), L10, nI_mul]
      by_cases q : (c - 48) * 10 + k ≤ 99
      · rw [if_neg (nI_nlt (by omega) (by omega)), if_pos q]
        exact ⟨1, _, rfl, fr _, Or.inr ⟨_, rfl, rfl, wn⟩⟩
      · rw [if_pos (nI_lt (by omega) (by omega)), if_neg q]
        exact ⟨0, _, rfl, fr _, Or.inl ⟨rfl, rfl⟩⟩
  · have e1 : ¬ nI (s.d + 1) = 1 := by rw [d1]; decide
    have n0 : ¬ s.d = 0 := by omega
    have fr : FrM h (si h 110 35 0) := ⟨fun a b z => by rw [rsi, if_neg (by omega)], rfl⟩
    rw [if_neg e1, if_neg n0, st_at, in_eq, bd_at, dgm_t c (by omega)]
    by_cases c1 : c < 48 ∨ 57 < c
    · rw [if_pos c1, if_pos rfl, if_pos c1]
      exact ⟨0, _, rfl, fr, Or.inl ⟨rfl, rfl⟩⟩
    have ec : nI c - 48 = nI (c - 48) := by rw [L48, nI_subI (by omega)]
    have ev : (10 : Int32) * nI s.nu + nI (c - 48) = nI (s.nu * 10 + (c - 48)) := by
      rw [L10, nI_mul, nI_add]
      congr 1
      omega
    rw [if_neg c1, if_neg (by decide), if_neg c1, ec, wf d1, ev, in_eq, bd_at]
    by_cases q : 1 ≤ s.nu * 10 + (c - 48) ∧ s.nu * 10 + (c - 48) + k ≤ 99
    · have iw : isw (nI (s.nu * 10 + (c - 48))) 1 (nI (99 - k)) = 1 := by
        unfold isw
        rw [L1, if_neg (nI_nlt (by omega) (by omega)), if_neg (nI_nlt (by omega) (by omega))]
      have ex2 : (si h 110 35 0).1 126 l = nI k := ex
      rw [iw, if_neg (by decide), if_pos q, rd_at l rfl (by show l < 2; omega) (by decide), wr_at l rfl (by show l < 2; omega) (by decide), ex2, nI_add]
      have fr2 : FrM h (si (si h 110 35 0) 126 l (nI (k + (s.nu * 10 + (c - 48))))) := ⟨fun a b z => by rw [rsi, if_neg (by omega), rsi, if_neg (by omega)], rfl⟩
      by_cases q2 : s.p = 108
      · rw [if_pos q2] at ek
        have : l = 1 := hl2.mpr q2
        subst this
        rw [if_pos q2]
        refine ⟨1, _, rfl, fr2, Or.inr ⟨_, rfl, rfl, rfl, fun z => absurd rfl z, w.V, w.se, w.ca, ?_, w.m, w.en⟩⟩
        show nI (k + (s.nu * 10 + (c - 48))) = nI (s.la + (s.nu * 10 + (c - 48)))
        rw [ek]
      · rw [if_neg q2] at ek
        have : l = 0 := by have : ¬ l = 1 := fun z => q2 (hl2.mp z); omega
        subst this
        rw [if_neg q2]
        refine ⟨1, _, rfl, fr2, Or.inr ⟨_, rfl, rfl, rfl, fun z => absurd rfl z, w.V, w.se, ?_, w.la, w.m, w.en⟩⟩
        show nI (k + (s.nu * 10 + (c - 48))) = nI (s.ca + (s.nu * 10 + (c - 48)))
        rw [ek]
    · have iw : isw (nI (s.nu * 10 + (c - 48))) 1 (nI (99 - k)) = 0 := by
        unfold isw
        rw [L1]
        by_cases z : s.nu * 10 + (c - 48) < 1
        · rw [if_pos (nI_lt z (by omega))]
        · rw [if_neg (nI_nlt (by omega) (by omega)), if_pos (nI_lt (by omega) (by omega))]
      rw [iw, if_pos rfl, if_neg q]
      exact ⟨0, _, rfl, fr, Or.inl ⟨rfl, rfl⟩⟩
theorem m_take (w : HM h s) (ws : WS s) {c : Nat} (hc : c ≤ 255) : TM (f_X5_take (nI c) h) h (stp s c) := by
  have hca := ws.ca
  have hla := ws.la
  have hp4 : s.p = 0 ∨ s.p = 118 ∨ s.p = 99 ∨ s.p = 108 := by rcases ws.p with q | q | q <;> omega
  unfold f_X5_take
  rw [w.p]
  rcases hp4 with q | q | q | q
  · rw [if_pos (by rw [q]; rfl)]
    exact TM_bz (m_sign w ws q hc)
  · rw [if_neg (by rw [q]; decide), if_neg (by rw [q]; decide), if_pos (by rw [q]; rfl)]
    exact TM_bz (m_valve w ws q hc)
  · rw [if_neg (by rw [q]; decide), if_neg (by rw [q]; decide), if_neg (by rw [q]; decide), if_pos (by rw [q]; rfl)]
    exact TM_bz (m_stock w ws 0 s.ca (by omega) (by omega) (by omega) hca (by rw [if_neg (by omega)]) hc)
  · rw [if_neg (by rw [q]; decide), if_neg (by rw [q]; decide), if_neg (by rw [q]; decide), if_neg (by rw [q]; decide)]
    exact TM_bz (m_stock w ws 1 s.la (by omega) (by omega) (by omega) hla (by rw [if_pos q]) hc)
end
