section
variable {p : Program} {l : Launch} {e : Env} {s : State} {m : MethodId} {below : List Frame} {meth : Method} {c : Code} {Q : State → Prop} {G : GG} {h : PH} {b L : Nat} {xs : Nat → Int32} {ls : Array Slot}
set_option maxHeartbeats 8000000 in
/-- a call of the script -/
theorem lk_all (C : lc p s m meth c b L xs G) {i B : Nat} (hi : i + 4 ≤ L) (hL : L ≤ 2048) (hB : B < 2 ^ 27) (hI : INV B h) (hl : lv_has ls 4 [(3, .int (nI i)), (0, .ref b), (1, .ref (G.2.2.2.2 0)), (2, .ref (G.2.2.2.2 110))]) (nxt : ∀ h2 : PH, INV (B + 99) h2 → WL p l e s m b below meth c G h2 Q (F0 m 1027 ls [])) : WL p l e s m b below meth c G h Q (F0 m 26 ls []) := by
  refine l_aload C dL_law_26 rfl (lv_at hl 1 rfl) ?_
  refine l_iload C dL_law_27 rfl (lv_at hl 0 rfl) ?_
  refine l_sld C (by omega) hL dL_law_28 ?_
  refine l_bipush (v := 31) C dL_law_29 (by decide) ?_
  refine l_iand C dL_law_31 ?_
  obtain ⟨n, hn, e31⟩ := and31 (xs i)
  have key : n = 0 ∨ n = 1 ∨ n = 2 ∨ n = 3 ∨ n = 4 ∨ n = 5 ∨ n = 6 ∨ n = 7 ∨ n = 8 ∨ n = 9 ∨ n = 10 ∨ n = 11 ∨ n = 12 ∨ n = 13 ∨ n = 14 ∨ n = 15 ∨ n = 16 ∨ n = 17 ∨ n = 18 ∨ n = 19 ∨ n = 20 ∨ n = 21 ∨ n = 22 ∨ n = 23 ∨ n = 24 ∨ n = 25 ∨ n = 26 ∨ n = 27 ∨ n = 28 ∨ n = 29 ∨ n = 30 ∨ n = 31 := by omega
  rcases key with rfl | rfl | rfl | rfl | rfl | rfl | rfl | rfl | rfl | rfl | rfl | rfl | rfl | rfl | rfl | rfl | rfl | rfl | rfl | rfl | rfl | rfl | rfl | rfl | rfl | rfl | rfl | rfl | rfl | rfl | rfl | rfl
  · exact l_ts (tgt := 176) (off := 144) C 0 e31 dL_law_32 (by decide +kernel) (by decide) (lk_0 C hi hL hB hI hl nxt)
  · exact l_ts (tgt := 199) (off := 167) C 1 e31 dL_law_32 (by decide +kernel) (by decide) (lk_1 C hi hL hB hI hl nxt)
  · exact l_ts (tgt := 212) (off := 180) C 2 e31 dL_law_32 (by decide +kernel) (by decide) (lk_2 C hi hL hB hI hl nxt)
  · exact l_ts (tgt := 225) (off := 193) C 3 e31 dL_law_32 (by decide +kernel) (by decide) (lk_3 C hi hL hB hI hl nxt)
  · exact l_ts (tgt := 238) (off := 206) C 4 e31 dL_law_32 (by decide +kernel) (by decide) (lk_4 C hi hL hB hI hl nxt)
  · exact l_ts (tgt := 261) (off := 229) C 5 e31 dL_law_32 (by decide +kernel) (by decide) (lk_5 C hi hL hB hI hl nxt)
  · exact l_ts (tgt := 284) (off := 252) C 6 e31 dL_law_32 (by decide +kernel) (by decide) (lk_6 C hi hL hB hI hl nxt)
  · exact l_ts (tgt := 317) (off := 285) C 7 e31 dL_law_32 (by decide +kernel) (by decide) (lk_7 C hi hL hB hI hl nxt)
  · exact l_ts (tgt := 350) (off := 318) C 8 e31 dL_law_32 (by decide +kernel) (by decide) (lk_8 C hi hL hB hI hl nxt)
  · exact l_ts (tgt := 373) (off := 341) C 9 e31 dL_law_32 (by decide +kernel) (by decide) (lk_9 C hi hL hB hI hl nxt)
  · exact l_ts (tgt := 396) (off := 364) C 10 e31 dL_law_32 (by decide +kernel) (by decide) (lk_10 C hi hL hB hI hl nxt)
  · exact l_ts (tgt := 409) (off := 377) C 11 e31 dL_law_32 (by decide +kernel) (by decide) (lk_11 C hi hL hB hI hl nxt)
  · exact l_ts (tgt := 422) (off := 390) C 12 e31 dL_law_32 (by decide +kernel) (by decide) (lk_12 C hi hL hB hI hl nxt)
  · exact l_ts (tgt := 435) (off := 403) C 13 e31 dL_law_32 (by decide +kernel) (by decide) (lk_13 C hi hL hB hI hl nxt)
  · exact l_ts (tgt := 448) (off := 416) C 14 e31 dL_law_32 (by decide +kernel) (by decide) (lk_14 C hi hL hB hI hl nxt)
  · exact l_ts (tgt := 497) (off := 465) C 15 e31 dL_law_32 (by decide +kernel) (by decide) (lk_15 C hi hL hB hI hl nxt)
  · exact l_ts (tgt := 530) (off := 498) C 16 e31 dL_law_32 (by decide +kernel) (by decide) (lk_16 C hi hL hB hI hl nxt)
  · exact l_ts (tgt := 553) (off := 521) C 17 e31 dL_law_32 (by decide +kernel) (by decide) (lk_17 C hi hL hB hI hl nxt)
  · exact l_ts (tgt := 566) (off := 534) C 18 e31 dL_law_32 (by decide +kernel) (by decide) (lk_18 C hi hL hB hI hl nxt)
  · exact l_ts (tgt := 599) (off := 567) C 19 e31 dL_law_32 (by decide +kernel) (by decide) (lk_19 C hi hL hB hI hl nxt)
  · exact l_ts (tgt := 632) (off := 600) C 20 e31 dL_law_32 (by decide +kernel) (by decide) (lk_20 C hi hL hB hI hl nxt)
  · exact l_ts (tgt := 655) (off := 623) C 21 e31 dL_law_32 (by decide +kernel) (by decide) (lk_21 C hi hL hB hI hl nxt)
  · exact l_ts (tgt := 694) (off := 662) C 22 e31 dL_law_32 (by decide +kernel) (by decide) (lk_22 C hi hL hB hI hl nxt)
  · exact l_ts (tgt := 727) (off := 695) C 23 e31 dL_law_32 (by decide +kernel) (by decide) (lk_23 C hi hL hB hI hl nxt)
  · exact l_ts (tgt := 770) (off := 738) C 24 e31 dL_law_32 (by decide +kernel) (by decide) (lk_24 C hi hL hB hI hl nxt)
  · exact l_ts (tgt := 783) (off := 751) C 25 e31 dL_law_32 (by decide +kernel) (by decide) (lk_25 C hi hL hB hI hl nxt)
  · exact l_ts (tgt := 796) (off := 764) C 26 e31 dL_law_32 (by decide +kernel) (by decide) (lk_26 C hi hL hB hI hl nxt)
  · exact l_ts (tgt := 845) (off := 813) C 27 e31 dL_law_32 (by decide +kernel) (by decide) (lk_27 C hi hL hB hI hl nxt)
  · exact l_ts (tgt := 904) (off := 872) C 28 e31 dL_law_32 (by decide +kernel) (by decide) (lk_28 C hi hL hB hI hl nxt)
  · exact l_ts (tgt := 958) (off := 926) C 29 e31 dL_law_32 (by decide +kernel) (by decide) (lk_29 C hi hL hB hI hl nxt)
  · exact l_ts (tgt := 981) (off := 949) C 30 e31 dL_law_32 (by decide +kernel) (by decide) (lk_30 C hi hL hB hI hl nxt)
  · exact l_ts (tgt := 1004) (off := 972) C 31 e31 dL_law_32 (by decide +kernel) (by decide) (lk_31 C hi hL hB hI hl nxt)
set_option maxHeartbeats 4000000 in
theorem law_loop (C : lc p s m meth c b L xs G) (hL : L ≤ 2048) : ∀ (t i : Nat) (h : PH) (ls : Array Slot), L < i + t → i ≤ 2052 → INV (99 * i) h → lv_has ls 4 [(3, .int (nI i)), (0, .ref b), (1, .ref (G.2.2.2.2 0)), (2, .ref (G.2.2.2.2 110))] → WL p l e s m b below meth c G h (lw_Z below #[Value.ref b] s) (F0 m 18 ls []) := by
  intro t
  induction t with
  | zero =>
    intro i h ls h1 h2 hI hl
    refine l_iload C dL_law_18 rfl (lv_at hl 0 rfl) ?_
    refine l_aload C dL_law_19 rfl (lv_at hl 1 rfl) ?_
    refine l_slen C dL_law_20 ?_
    refine l_iconst (v := 4) C dL_law_21 (by decide) ?_
    refine l_isub C dL_law_22 ?_
    refine l_icgt (tgt := 1033) C dL_law_23 (by decide) (fun z => ?_) (fun z => absurd ((law_gt hL (by omega)).mpr (by omega)) z)
    refine l_iconst (v := 1) C dL_law_1033 (by decide) ?_
    exact l_retn C dL_law_1034
  | succ t ih =>
    intro i h ls h1 h2 hI hl
    refine l_iload C dL_law_18 rfl (lv_at hl 0 rfl) ?_
    refine l_aload C dL_law_19 rfl (lv_at hl 1 rfl) ?_
    refine l_slen C dL_law_20 ?_
    refine l_iconst (v := 4) C dL_law_21 (by decide) ?_
    refine l_isub C dL_law_22 ?_
    refine l_icgt (tgt := 1033) C dL_law_23 (by decide) (fun z => ?_) (fun z => ?_)
    · refine l_iconst (v := 1) C dL_law_1033 (by decide) ?_
      exact l_retn C dL_law_1034
    · have hi : i + 4 ≤ L := Nat.le_of_not_lt fun q => z ((law_gt hL (by omega)).mpr q)
      refine lk_all C hi hL (by omega) hI hl (fun h2 hI2 => ?_)
      refine l_iinc (v := nI (i + 4)) (lv2 := [(3, .int (nI (i + 4))), (0, .ref b), (1, .ref (G.2.2.2.2 0)), (2, .ref (G.2.2.2.2 110))]) C dL_law_1027 hl (j := 0) rfl (nI_add i 4) (by decide) rfl (fun ls hl => ?_)
      refine l_goto (tgt := 18) C dL_law_1030 (by decide) ?_
      exact ih (i + 4) h2 ls (by omega) (by omega) (INV_mono (by omega) hI2) hl
end
