section
-- ===== PART A: goes FIRST, ahead of the names: the tables' words, and 'selects' of the private methods out of them =====
/-- a private method of a class that the tables say can be made, by its rows of tables_1 -/
def lw_okq (q : MethodName × Nat) : Prop := (q.1.cls ≠ "java/lang/invoke/MethodHandle" ∧ q.1.cls ≠ "java/lang/invoke/VarHandle") ∧ Cond.instantiable q.1.cls q.2 ∈ tables_1 ∧ Cond.privateMethod q.1 ∈ tables_1 ∧ Cond.instanceMethod q.1 ∈ tables_1
theorem lw_p0 : lw_okq (⟨"BottleLine", "readText", "()I"⟩, 16) := ⟨⟨by decide +kernel, by decide +kernel⟩, List.mem_of_getElem? (i := 11) (by decide +kernel), List.mem_of_getElem? (i := 243) (by decide +kernel), List.mem_of_getElem? (i := 244) (by decide +kernel)⟩
theorem lw_p1 : lw_okq (⟨"BottleLine$Reader", "takesInHead", "(I)Z"⟩, 6) := ⟨⟨by decide +kernel, by decide +kernel⟩, List.mem_of_getElem? (i := 19) (by decide +kernel), List.mem_of_getElem? (i := 255) (by decide +kernel), List.mem_of_getElem? (i := 256) (by decide +kernel)⟩
theorem lw_p2 : lw_okq (⟨"BottleLine$Reader", "takesStation", "(II)Z"⟩, 6) := ⟨⟨by decide +kernel, by decide +kernel⟩, List.mem_of_getElem? (i := 19) (by decide +kernel), List.mem_of_getElem? (i := 263) (by decide +kernel), List.mem_of_getElem? (i := 264) (by decide +kernel)⟩
theorem lw_p3 : lw_okq (⟨"BottleLine$Reader", "takesPart", "(I)Z"⟩, 6) := ⟨⟨by decide +kernel, by decide +kernel⟩, List.mem_of_getElem? (i := 19) (by decide +kernel), List.mem_of_getElem? (i := 267) (by decide +kernel), List.mem_of_getElem? (i := 268) (by decide +kernel)⟩
theorem lw_p4 : lw_okq (⟨"BottleLine$Reader", "opensPart", "(IZ)Z"⟩, 6) := ⟨⟨by decide +kernel, by decide +kernel⟩, List.mem_of_getElem? (i := 19) (by decide +kernel), List.mem_of_getElem? (i := 271) (by decide +kernel), List.mem_of_getElem? (i := 272) (by decide +kernel)⟩
theorem lw_p5 : lw_okq (⟨"BottleLine$Reader", "takesEntry", "(I)Z"⟩, 6) := ⟨⟨by decide +kernel, by decide +kernel⟩, List.mem_of_getElem? (i := 19) (by decide +kernel), List.mem_of_getElem? (i := 275) (by decide +kernel), List.mem_of_getElem? (i := 276) (by decide +kernel)⟩
theorem lw_p6 : lw_okq (⟨"BottleLine$Reader", "takesDigit", "(I)Z"⟩, 6) := ⟨⟨by decide +kernel, by decide +kernel⟩, List.mem_of_getElem? (i := 19) (by decide +kernel), List.mem_of_getElem? (i := 283) (by decide +kernel), List.mem_of_getElem? (i := 284) (by decide +kernel)⟩
theorem lw_p7 : lw_okq (⟨"BottleLine$Reader", "takesValve", "()Z"⟩, 6) := ⟨⟨by decide +kernel, by decide +kernel⟩, List.mem_of_getElem? (i := 19) (by decide +kernel), List.mem_of_getElem? (i := 287) (by decide +kernel), List.mem_of_getElem? (i := 288) (by decide +kernel)⟩
theorem lw_p8 : lw_okq (⟨"BottleLine$Reader", "takesStock", "(Z)Z"⟩, 6) := ⟨⟨by decide +kernel, by decide +kernel⟩, List.mem_of_getElem? (i := 19) (by decide +kernel), List.mem_of_getElem? (i := 291) (by decide +kernel), List.mem_of_getElem? (i := 292) (by decide +kernel)⟩
theorem lw_p9 : lw_okq (⟨"BottleLine", "forgetActs", "()V"⟩, 16) := ⟨⟨by decide +kernel, by decide +kernel⟩, List.mem_of_getElem? (i := 11) (by decide +kernel), List.mem_of_getElem? (i := 326) (by decide +kernel), List.mem_of_getElem? (i := 327) (by decide +kernel)⟩
theorem lw_p10 : lw_okq (⟨"BottleLine$State", "bottleSet", "()I"⟩, 18) := ⟨⟨by decide +kernel, by decide +kernel⟩, List.mem_of_getElem? (i := 74) (by decide +kernel), List.mem_of_getElem? (i := 341) (by decide +kernel), List.mem_of_getElem? (i := 342) (by decide +kernel)⟩
theorem lw_p11 : lw_okq (⟨"BottleLine", "rememberAct", "()V"⟩, 16) := ⟨⟨by decide +kernel, by decide +kernel⟩, List.mem_of_getElem? (i := 11) (by decide +kernel), List.mem_of_getElem? (i := 393) (by decide +kernel), List.mem_of_getElem? (i := 394) (by decide +kernel)⟩
theorem lw_p12 : lw_okq (⟨"BottleLine$State", "leave", "()V"⟩, 18) := ⟨⟨by decide +kernel, by decide +kernel⟩, List.mem_of_getElem? (i := 74) (by decide +kernel), List.mem_of_getElem? (i := 402) (by decide +kernel), List.mem_of_getElem? (i := 403) (by decide +kernel)⟩
theorem lw_p13 : lw_okq (⟨"BottleLine$State", "moveOn", "()V"⟩, 18) := ⟨⟨by decide +kernel, by decide +kernel⟩, List.mem_of_getElem? (i := 74) (by decide +kernel), List.mem_of_getElem? (i := 407) (by decide +kernel), List.mem_of_getElem? (i := 408) (by decide +kernel)⟩
theorem lw_p14 : lw_okq (⟨"BottleLine$State", "leak", "()V"⟩, 18) := ⟨⟨by decide +kernel, by decide +kernel⟩, List.mem_of_getElem? (i := 74) (by decide +kernel), List.mem_of_getElem? (i := 418) (by decide +kernel), List.mem_of_getElem? (i := 419) (by decide +kernel)⟩
theorem lw_p15 : lw_okq (⟨"BottleLine$State", "fill", "()V"⟩, 18) := ⟨⟨by decide +kernel, by decide +kernel⟩, List.mem_of_getElem? (i := 74) (by decide +kernel), List.mem_of_getElem? (i := 427) (by decide +kernel), List.mem_of_getElem? (i := 428) (by decide +kernel)⟩
def lw_privs_1 : List (MethodName × Nat) := [(⟨"BottleLine", "readText", "()I"⟩, 16), (⟨"BottleLine$Reader", "takesInHead", "(I)Z"⟩, 6), (⟨"BottleLine$Reader", "takesStation", "(II)Z"⟩, 6), (⟨"BottleLine$Reader", "takesPart", "(I)Z"⟩, 6), (⟨"BottleLine$Reader", "opensPart", "(IZ)Z"⟩, 6), (⟨"BottleLine$Reader", "takesEntry", "(I)Z"⟩, 6), (⟨"BottleLine$Reader", "takesDigit", "(I)Z"⟩, 6), (⟨"BottleLine$Reader", "takesValve", "()Z"⟩, 6), (⟨"BottleLine$Reader", "takesStock", "(Z)Z"⟩, 6), (⟨"BottleLine", "forgetActs", "()V"⟩, 16), (⟨"BottleLine$State", "bottleSet", "()I"⟩, 18), (⟨"BottleLine", "rememberAct", "()V"⟩, 16), (⟨"BottleLine$State", "leave", "()V"⟩, 18), (⟨"BottleLine$State", "moveOn", "()V"⟩, 18), (⟨"BottleLine$State", "leak", "()V"⟩, 18), (⟨"BottleLine$State", "fill", "()V"⟩, 18)]
theorem lw_r1 : ∀ q ∈ lw_privs_1, lw_okq q := List.forall_mem_cons.mpr ⟨lw_p0, List.forall_mem_cons.mpr ⟨lw_p1, List.forall_mem_cons.mpr ⟨lw_p2, List.forall_mem_cons.mpr ⟨lw_p3, List.forall_mem_cons.mpr ⟨lw_p4, List.forall_mem_cons.mpr ⟨lw_p5, List.forall_mem_cons.mpr ⟨lw_p6, List.forall_mem_cons.mpr ⟨lw_p7, List.forall_mem_cons.mpr ⟨lw_p8, List.forall_mem_cons.mpr ⟨lw_p9, List.forall_mem_cons.mpr ⟨lw_p10, List.forall_mem_cons.mpr ⟨lw_p11, List.forall_mem_cons.mpr ⟨lw_p12, List.forall_mem_cons.mpr ⟨lw_p13, List.forall_mem_cons.mpr ⟨lw_p14, List.forall_mem_cons.mpr ⟨lw_p15, fun _ h => absurd h List.not_mem_nil⟩⟩⟩⟩⟩⟩⟩⟩⟩⟩⟩⟩⟩⟩⟩⟩
theorem lw_p16 : lw_okq (⟨"BottleLine$State", "isOff", "(I)Z"⟩, 18) := ⟨⟨by decide +kernel, by decide +kernel⟩, List.mem_of_getElem? (i := 74) (by decide +kernel), List.mem_of_getElem? (i := 439) (by decide +kernel), List.mem_of_getElem? (i := 440) (by decide +kernel)⟩
theorem lw_p17 : lw_okq (⟨"BottleLine$State", "weigh", "()V"⟩, 18) := ⟨⟨by decide +kernel, by decide +kernel⟩, List.mem_of_getElem? (i := 74) (by decide +kernel), List.mem_of_getElem? (i := 452) (by decide +kernel), List.mem_of_getElem? (i := 453) (by decide +kernel)⟩
theorem lw_p18 : lw_okq (⟨"BottleLine$State", "equip", "()V"⟩, 18) := ⟨⟨by decide +kernel, by decide +kernel⟩, List.mem_of_getElem? (i := 74) (by decide +kernel), List.mem_of_getElem? (i := 457) (by decide +kernel), List.mem_of_getElem? (i := 458) (by decide +kernel)⟩
theorem lw_p19 : lw_okq (⟨"BottleLine$State", "check", "()V"⟩, 18) := ⟨⟨by decide +kernel, by decide +kernel⟩, List.mem_of_getElem? (i := 74) (by decide +kernel), List.mem_of_getElem? (i := 461) (by decide +kernel), List.mem_of_getElem? (i := 462) (by decide +kernel)⟩
theorem lw_p20 : lw_okq (⟨"BottleLine$State", "push", "()V"⟩, 18) := ⟨⟨by decide +kernel, by decide +kernel⟩, List.mem_of_getElem? (i := 74) (by decide +kernel), List.mem_of_getElem? (i := 465) (by decide +kernel), List.mem_of_getElem? (i := 466) (by decide +kernel)⟩
theorem lw_p21 : lw_okq (⟨"BottleLine", "wayInNextStep", "(I)I"⟩, 16) := ⟨⟨by decide +kernel, by decide +kernel⟩, List.mem_of_getElem? (i := 11) (by decide +kernel), List.mem_of_getElem? (i := 525) (by decide +kernel), List.mem_of_getElem? (i := 526) (by decide +kernel)⟩
theorem lw_p22 : lw_okq (⟨"BottleLine", "outWithMore", "(ZI)I"⟩, 16) := ⟨⟨by decide +kernel, by decide +kernel⟩, List.mem_of_getElem? (i := 11) (by decide +kernel), List.mem_of_getElem? (i := 537) (by decide +kernel), List.mem_of_getElem? (i := 538) (by decide +kernel)⟩
theorem lw_p23 : lw_okq (⟨"BottleLine", "obeys", "(I)Z"⟩, 16) := ⟨⟨by decide +kernel, by decide +kernel⟩, List.mem_of_getElem? (i := 11) (by decide +kernel), List.mem_of_getElem? (i := 545) (by decide +kernel), List.mem_of_getElem? (i := 546) (by decide +kernel)⟩
theorem lw_p24 : lw_okq (⟨"BottleLine", "intervenes", "(I)Z"⟩, 16) := ⟨⟨by decide +kernel, by decide +kernel⟩, List.mem_of_getElem? (i := 11) (by decide +kernel), List.mem_of_getElem? (i := 549) (by decide +kernel), List.mem_of_getElem? (i := 550) (by decide +kernel)⟩
theorem lw_p25 : lw_okq (⟨"BottleLine", "agreesWithSlipAfter", "(I)Z"⟩, 16) := ⟨⟨by decide +kernel, by decide +kernel⟩, List.mem_of_getElem? (i := 11) (by decide +kernel), List.mem_of_getElem? (i := 566) (by decide +kernel), List.mem_of_getElem? (i := 567) (by decide +kernel)⟩
theorem lw_p26 : lw_okq (⟨"BottleLine", "agreesAfter", "(I)Z"⟩, 16) := ⟨⟨by decide +kernel, by decide +kernel⟩, List.mem_of_getElem? (i := 11) (by decide +kernel), List.mem_of_getElem? (i := 570) (by decide +kernel), List.mem_of_getElem? (i := 571) (by decide +kernel)⟩
theorem lw_p27 : lw_okq (⟨"BottleLine", "outWithOff", "(I)I"⟩, 16) := ⟨⟨by decide +kernel, by decide +kernel⟩, List.mem_of_getElem? (i := 11) (by decide +kernel), List.mem_of_getElem? (i := 591) (by decide +kernel), List.mem_of_getElem? (i := 592) (by decide +kernel)⟩
theorem lw_p28 : lw_okq (⟨"BottleLine", "happen", "(I)V"⟩, 16) := ⟨⟨by decide +kernel, by decide +kernel⟩, List.mem_of_getElem? (i := 11) (by decide +kernel), List.mem_of_getElem? (i := 616) (by decide +kernel), List.mem_of_getElem? (i := 617) (by decide +kernel)⟩
theorem lw_p29 : lw_okq (⟨"BottleLineModel", "readText", "()I"⟩, 38) := ⟨⟨by decide +kernel, by decide +kernel⟩, List.mem_of_getElem? (i := 628) (by decide +kernel), List.mem_of_getElem? (i := 764) (by decide +kernel), List.mem_of_getElem? (i := 765) (by decide +kernel)⟩
theorem lw_p30 : lw_okq (⟨"BottleLineModel", "take", "(I)Z"⟩, 38) := ⟨⟨by decide +kernel, by decide +kernel⟩, List.mem_of_getElem? (i := 628) (by decide +kernel), List.mem_of_getElem? (i := 768) (by decide +kernel), List.mem_of_getElem? (i := 769) (by decide +kernel)⟩
theorem lw_p31 : lw_okq (⟨"BottleLineModel", "takeSign", "(I)Z"⟩, 38) := ⟨⟨by decide +kernel, by decide +kernel⟩, List.mem_of_getElem? (i := 628) (by decide +kernel), List.mem_of_getElem? (i := 772) (by decide +kernel), List.mem_of_getElem? (i := 773) (by decide +kernel)⟩
def lw_privs_2 : List (MethodName × Nat) := [(⟨"BottleLine$State", "isOff", "(I)Z"⟩, 18), (⟨"BottleLine$State", "weigh", "()V"⟩, 18), (⟨"BottleLine$State", "equip", "()V"⟩, 18), (⟨"BottleLine$State", "check", "()V"⟩, 18), (⟨"BottleLine$State", "push", "()V"⟩, 18), (⟨"BottleLine", "wayInNextStep", "(I)I"⟩, 16), (⟨"BottleLine", "outWithMore", "(ZI)I"⟩, 16), (⟨"BottleLine", "obeys", "(I)Z"⟩, 16), (⟨"BottleLine", "intervenes", "(I)Z"⟩, 16), (⟨"BottleLine", "agreesWithSlipAfter", "(I)Z"⟩, 16), (⟨"BottleLine", "agreesAfter", "(I)Z"⟩, 16), (⟨"BottleLine", "outWithOff", "(I)I"⟩, 16), (⟨"BottleLine", "happen", "(I)V"⟩, 16), (⟨"BottleLineModel", "readText", "()I"⟩, 38), (⟨"BottleLineModel", "take", "(I)Z"⟩, 38), (⟨"BottleLineModel", "takeSign", "(I)Z"⟩, 38)]
theorem lw_r2 : ∀ q ∈ lw_privs_2, lw_okq q := List.forall_mem_cons.mpr ⟨lw_p16, List.forall_mem_cons.mpr ⟨lw_p17, List.forall_mem_cons.mpr ⟨lw_p18, List.forall_mem_cons.mpr ⟨lw_p19, List.forall_mem_cons.mpr ⟨lw_p20, List.forall_mem_cons.mpr ⟨lw_p21, List.forall_mem_cons.mpr ⟨lw_p22, List.forall_mem_cons.mpr ⟨lw_p23, List.forall_mem_cons.mpr ⟨lw_p24, List.forall_mem_cons.mpr ⟨lw_p25, List.forall_mem_cons.mpr ⟨lw_p26, List.forall_mem_cons.mpr ⟨lw_p27, List.forall_mem_cons.mpr ⟨lw_p28, List.forall_mem_cons.mpr ⟨lw_p29, List.forall_mem_cons.mpr ⟨lw_p30, List.forall_mem_cons.mpr ⟨lw_p31, fun _ h => absurd h List.not_mem_nil⟩⟩⟩⟩⟩⟩⟩⟩⟩⟩⟩⟩⟩⟩⟩⟩
theorem lw_p32 : lw_okq (⟨"BottleLineModel", "queueUp", "(I)Z"⟩, 38) := ⟨⟨by decide +kernel, by decide +kernel⟩, List.mem_of_getElem? (i := 628) (by decide +kernel), List.mem_of_getElem? (i := 776) (by decide +kernel), List.mem_of_getElem? (i := 777) (by decide +kernel)⟩
theorem lw_p33 : lw_okq (⟨"BottleLineModel", "takeHead", "(I)Z"⟩, 38) := ⟨⟨by decide +kernel, by decide +kernel⟩, List.mem_of_getElem? (i := 628) (by decide +kernel), List.mem_of_getElem? (i := 780) (by decide +kernel), List.mem_of_getElem? (i := 781) (by decide +kernel)⟩
theorem lw_p34 : lw_okq (⟨"BottleLineModel", "takeOfValve", "(I)Z"⟩, 38) := ⟨⟨by decide +kernel, by decide +kernel⟩, List.mem_of_getElem? (i := 628) (by decide +kernel), List.mem_of_getElem? (i := 784) (by decide +kernel), List.mem_of_getElem? (i := 785) (by decide +kernel)⟩
theorem lw_p35 : lw_okq (⟨"BottleLineModel", "takeOfStock", "(II)Z"⟩, 38) := ⟨⟨by decide +kernel, by decide +kernel⟩, List.mem_of_getElem? (i := 628) (by decide +kernel), List.mem_of_getElem? (i := 788) (by decide +kernel), List.mem_of_getElem? (i := 789) (by decide +kernel)⟩
theorem lw_p36 : lw_okq (⟨"BottleLineModel", "tell", "([II)I"⟩, 38) := ⟨⟨by decide +kernel, by decide +kernel⟩, List.mem_of_getElem? (i := 628) (by decide +kernel), List.mem_of_getElem? (i := 800) (by decide +kernel), List.mem_of_getElem? (i := 801) (by decide +kernel)⟩
theorem lw_p37 : lw_okq (⟨"BottleLineModel", "bottles", "([I)I"⟩, 38) := ⟨⟨by decide +kernel, by decide +kernel⟩, List.mem_of_getElem? (i := 628) (by decide +kernel), List.mem_of_getElem? (i := 804) (by decide +kernel), List.mem_of_getElem? (i := 805) (by decide +kernel)⟩
theorem lw_p38 : lw_okq (⟨"BottleLineModel", "isCell", "(I)Z"⟩, 38) := ⟨⟨by decide +kernel, by decide +kernel⟩, List.mem_of_getElem? (i := 628) (by decide +kernel), List.mem_of_getElem? (i := 816) (by decide +kernel), List.mem_of_getElem? (i := 817) (by decide +kernel)⟩
theorem lw_p39 : lw_okq (⟨"BottleLineModel", "isGood", "([II)Z"⟩, 38) := ⟨⟨by decide +kernel, by decide +kernel⟩, List.mem_of_getElem? (i := 628) (by decide +kernel), List.mem_of_getElem? (i := 820) (by decide +kernel), List.mem_of_getElem? (i := 821) (by decide +kernel)⟩
theorem lw_p40 : lw_okq (⟨"BottleLineModel", "isValve", "(I)Z"⟩, 38) := ⟨⟨by decide +kernel, by decide +kernel⟩, List.mem_of_getElem? (i := 628) (by decide +kernel), List.mem_of_getElem? (i := 828) (by decide +kernel), List.mem_of_getElem? (i := 829) (by decide +kernel)⟩
theorem lw_p41 : lw_okq (⟨"BottleLineModel", "note", "()V"⟩, 38) := ⟨⟨by decide +kernel, by decide +kernel⟩, List.mem_of_getElem? (i := 628) (by decide +kernel), List.mem_of_getElem? (i := 840) (by decide +kernel), List.mem_of_getElem? (i := 841) (by decide +kernel)⟩
theorem lw_p42 : lw_okq (⟨"BottleLineModel", "goOn", "([II)I"⟩, 38) := ⟨⟨by decide +kernel, by decide +kernel⟩, List.mem_of_getElem? (i := 628) (by decide +kernel), List.mem_of_getElem? (i := 844) (by decide +kernel), List.mem_of_getElem? (i := 845) (by decide +kernel)⟩
theorem lw_p43 : lw_okq (⟨"BottleLineModel", "stepBy", "([IZ)V"⟩, 38) := ⟨⟨by decide +kernel, by decide +kernel⟩, List.mem_of_getElem? (i := 628) (by decide +kernel), List.mem_of_getElem? (i := 848) (by decide +kernel), List.mem_of_getElem? (i := 849) (by decide +kernel)⟩
theorem lw_p44 : lw_okq (⟨"BottleLineModel", "leave", "([I)V"⟩, 38) := ⟨⟨by decide +kernel, by decide +kernel⟩, List.mem_of_getElem? (i := 628) (by decide +kernel), List.mem_of_getElem? (i := 852) (by decide +kernel), List.mem_of_getElem? (i := 853) (by decide +kernel)⟩
theorem lw_p45 : lw_okq (⟨"BottleLineModel", "empty", "([II)V"⟩, 38) := ⟨⟨by decide +kernel, by decide +kernel⟩, List.mem_of_getElem? (i := 628) (by decide +kernel), List.mem_of_getElem? (i := 856) (by decide +kernel), List.mem_of_getElem? (i := 857) (by decide +kernel)⟩
theorem lw_p46 : lw_okq (⟨"BottleLineModel", "moveOn", "([I)V"⟩, 38) := ⟨⟨by decide +kernel, by decide +kernel⟩, List.mem_of_getElem? (i := 628) (by decide +kernel), List.mem_of_getElem? (i := 860) (by decide +kernel), List.mem_of_getElem? (i := 861) (by decide +kernel)⟩
theorem lw_p47 : lw_okq (⟨"BottleLineModel", "slipOn", "([I)V"⟩, 38) := ⟨⟨by decide +kernel, by decide +kernel⟩, List.mem_of_getElem? (i := 628) (by decide +kernel), List.mem_of_getElem? (i := 864) (by decide +kernel), List.mem_of_getElem? (i := 865) (by decide +kernel)⟩
def lw_privs_3 : List (MethodName × Nat) := [(⟨"BottleLineModel", "queueUp", "(I)Z"⟩, 38), (⟨"BottleLineModel", "takeHead", "(I)Z"⟩, 38), (⟨"BottleLineModel", "takeOfValve", "(I)Z"⟩, 38), (⟨"BottleLineModel", "takeOfStock", "(II)Z"⟩, 38), (⟨"BottleLineModel", "tell", "([II)I"⟩, 38), (⟨"BottleLineModel", "bottles", "([I)I"⟩, 38), (⟨"BottleLineModel", "isCell", "(I)Z"⟩, 38), (⟨"BottleLineModel", "isGood", "([II)Z"⟩, 38), (⟨"BottleLineModel", "isValve", "(I)Z"⟩, 38), (⟨"BottleLineModel", "note", "()V"⟩, 38), (⟨"BottleLineModel", "goOn", "([II)I"⟩, 38), (⟨"BottleLineModel", "stepBy", "([IZ)V"⟩, 38), (⟨"BottleLineModel", "leave", "([I)V"⟩, 38), (⟨"BottleLineModel", "empty", "([II)V"⟩, 38), (⟨"BottleLineModel", "moveOn", "([I)V"⟩, 38), (⟨"BottleLineModel", "slipOn", "([I)V"⟩, 38)]
theorem lw_r3 : ∀ q ∈ lw_privs_3, lw_okq q := List.forall_mem_cons.mpr ⟨lw_p32, List.forall_mem_cons.mpr ⟨lw_p33, List.forall_mem_cons.mpr ⟨lw_p34, List.forall_mem_cons.mpr ⟨lw_p35, List.forall_mem_cons.mpr ⟨lw_p36, List.forall_mem_cons.mpr ⟨lw_p37, List.forall_mem_cons.mpr ⟨lw_p38, List.forall_mem_cons.mpr ⟨lw_p39, List.forall_mem_cons.mpr ⟨lw_p40, List.forall_mem_cons.mpr ⟨lw_p41, List.forall_mem_cons.mpr ⟨lw_p42, List.forall_mem_cons.mpr ⟨lw_p43, List.forall_mem_cons.mpr ⟨lw_p44, List.forall_mem_cons.mpr ⟨lw_p45, List.forall_mem_cons.mpr ⟨lw_p46, List.forall_mem_cons.mpr ⟨lw_p47, fun _ h => absurd h List.not_mem_nil⟩⟩⟩⟩⟩⟩⟩⟩⟩⟩⟩⟩⟩⟩⟩⟩
theorem lw_p48 : lw_okq (⟨"BottleLineModel", "fillOn", "([I)V"⟩, 38) := ⟨⟨by decide +kernel, by decide +kernel⟩, List.mem_of_getElem? (i := 628) (by decide +kernel), List.mem_of_getElem? (i := 868) (by decide +kernel), List.mem_of_getElem? (i := 869) (by decide +kernel)⟩
theorem lw_p49 : lw_okq (⟨"BottleLineModel", "dress", "([IIII)V"⟩, 38) := ⟨⟨by decide +kernel, by decide +kernel⟩, List.mem_of_getElem? (i := 628) (by decide +kernel), List.mem_of_getElem? (i := 878) (by decide +kernel), List.mem_of_getElem? (i := 879) (by decide +kernel)⟩
theorem lw_p50 : lw_okq (⟨"BottleLineModel", "check", "([I)V"⟩, 38) := ⟨⟨by decide +kernel, by decide +kernel⟩, List.mem_of_getElem? (i := 628) (by decide +kernel), List.mem_of_getElem? (i := 882) (by decide +kernel), List.mem_of_getElem? (i := 883) (by decide +kernel)⟩
theorem lw_p51 : lw_okq (⟨"BottleLineModel", "push", "([IZ)V"⟩, 38) := ⟨⟨by decide +kernel, by decide +kernel⟩, List.mem_of_getElem? (i := 628) (by decide +kernel), List.mem_of_getElem? (i := 886) (by decide +kernel), List.mem_of_getElem? (i := 887) (by decide +kernel)⟩
theorem lw_p52 : lw_okq (⟨"BottleLineModel", "marks", "([I)I"⟩, 38) := ⟨⟨by decide +kernel, by decide +kernel⟩, List.mem_of_getElem? (i := 628) (by decide +kernel), List.mem_of_getElem? (i := 894) (by decide +kernel), List.mem_of_getElem? (i := 895) (by decide +kernel)⟩
theorem lw_p53 : lw_okq (⟨"BottleLineModel", "clearOn", "([I)I"⟩, 38) := ⟨⟨by decide +kernel, by decide +kernel⟩, List.mem_of_getElem? (i := 628) (by decide +kernel), List.mem_of_getElem? (i := 906) (by decide +kernel), List.mem_of_getElem? (i := 907) (by decide +kernel)⟩
theorem lw_p54 : lw_okq (⟨"BottleLineModel", "restartOn", "([I)V"⟩, 38) := ⟨⟨by decide +kernel, by decide +kernel⟩, List.mem_of_getElem? (i := 628) (by decide +kernel), List.mem_of_getElem? (i := 914) (by decide +kernel), List.mem_of_getElem? (i := 915) (by decide +kernel)⟩
theorem lw_p55 : lw_okq (⟨"BottleLineModel", "outWith", "(II)I"⟩, 38) := ⟨⟨by decide +kernel, by decide +kernel⟩, List.mem_of_getElem? (i := 628) (by decide +kernel), List.mem_of_getElem? (i := 953) (by decide +kernel), List.mem_of_getElem? (i := 954) (by decide +kernel)⟩
theorem lw_p56 : lw_okq (⟨"BottleLineModel", "judged", "(III)Z"⟩, 38) := ⟨⟨by decide +kernel, by decide +kernel⟩, List.mem_of_getElem? (i := 628) (by decide +kernel), List.mem_of_getElem? (i := 964) (by decide +kernel), List.mem_of_getElem? (i := 965) (by decide +kernel)⟩
theorem lw_p57 : lw_okq (⟨"BottleLineModel", "isSoBy", "(II)Z"⟩, 38) := ⟨⟨by decide +kernel, by decide +kernel⟩, List.mem_of_getElem? (i := 628) (by decide +kernel), List.mem_of_getElem? (i := 980) (by decide +kernel), List.mem_of_getElem? (i := 981) (by decide +kernel)⟩
theorem lw_p58 : lw_okq (⟨"BottleLineModel", "outBy", "(I)I"⟩, 38) := ⟨⟨by decide +kernel, by decide +kernel⟩, List.mem_of_getElem? (i := 628) (by decide +kernel), List.mem_of_getElem? (i := 988) (by decide +kernel), List.mem_of_getElem? (i := 989) (by decide +kernel)⟩
def lw_privs_4 : List (MethodName × Nat) := [(⟨"BottleLineModel", "fillOn", "([I)V"⟩, 38), (⟨"BottleLineModel", "dress", "([IIII)V"⟩, 38), (⟨"BottleLineModel", "check", "([I)V"⟩, 38), (⟨"BottleLineModel", "push", "([IZ)V"⟩, 38), (⟨"BottleLineModel", "marks", "([I)I"⟩, 38), (⟨"BottleLineModel", "clearOn", "([I)I"⟩, 38), (⟨"BottleLineModel", "restartOn", "([I)V"⟩, 38), (⟨"BottleLineModel", "outWith", "(II)I"⟩, 38), (⟨"BottleLineModel", "judged", "(III)Z"⟩, 38), (⟨"BottleLineModel", "isSoBy", "(II)Z"⟩, 38), (⟨"BottleLineModel", "outBy", "(I)I"⟩, 38)]
theorem lw_r4 : ∀ q ∈ lw_privs_4, lw_okq q := List.forall_mem_cons.mpr ⟨lw_p48, List.forall_mem_cons.mpr ⟨lw_p49, List.forall_mem_cons.mpr ⟨lw_p50, List.forall_mem_cons.mpr ⟨lw_p51, List.forall_mem_cons.mpr ⟨lw_p52, List.forall_mem_cons.mpr ⟨lw_p53, List.forall_mem_cons.mpr ⟨lw_p54, List.forall_mem_cons.mpr ⟨lw_p55, List.forall_mem_cons.mpr ⟨lw_p56, List.forall_mem_cons.mpr ⟨lw_p57, List.forall_mem_cons.mpr ⟨lw_p58, fun _ h => absurd h List.not_mem_nil⟩⟩⟩⟩⟩⟩⟩⟩⟩⟩⟩
def lw_privs : List (MethodName × Nat) := lw_privs_1 ++ (lw_privs_2 ++ (lw_privs_3 ++ (lw_privs_4)))
def lw_tbl : List Cond := k2_sels lw_privs ++ tables_1
theorem lw_privs_ok : ∀ q ∈ lw_privs, lw_okq q := by
  show ∀ q ∈ lw_privs_1 ++ (lw_privs_2 ++ (lw_privs_3 ++ (lw_privs_4))), lw_okq q
  exact List.forall_mem_append.mpr ⟨lw_r1, List.forall_mem_append.mpr ⟨lw_r2, List.forall_mem_append.mpr ⟨lw_r3, lw_r4⟩⟩⟩
end
section
def RX0 : String := "BottleLine$Bottle"
def TX0 : u_T := fun k => match k with
  | _ => ("", "", "", false)
def tyX0 : Nat → FieldType := fun k => match k with
  | _ => .int
abbrev wsX00 : List Cond := u_ws RX0 TX0 0
theorem nmX0 : ∀ a, a < 0 → ∀ b, b < 0 → a ≠ b → (TX0 a).2.1 ≠ (TX0 b).2.1 := by decide +kernel
theorem tyX0_ok : ∀ k, k < 0 → parseFieldDescriptor (TX0 k).2.2.1 = some (tyX0 k) := by decide +kernel
abbrev cX0_has : ByteArray := prog_2_method_2_code
def yX0_has : MethodName := ⟨RX0, "has", "(II)Z"⟩
abbrev cX0_fillOf : ByteArray := prog_2_method_3_code
def yX0_fillOf : MethodName := ⟨RX0, "fillOf", "(I)I"⟩
abbrev cX0_valveOf : ByteArray := prog_2_method_4_code
def yX0_valveOf : MethodName := ⟨RX0, "valveOf", "(I)I"⟩
abbrev cX0_ofEntry : ByteArray := prog_2_method_5_code
def yX0_ofEntry : MethodName := ⟨RX0, "ofEntry", "(I)I"⟩
abbrev cX0_filled : ByteArray := prog_2_method_6_code
def yX0_filled : MethodName := ⟨RX0, "filled", "(III)I"⟩
abbrev cX0_leaked : ByteArray := prog_2_method_7_code
def yX0_leaked : MethodName := ⟨RX0, "leaked", "(I)I"⟩
def RX1 : String := "BottleLine$Plan"
def TX1 : u_T := fun k => match k with
  | 0 => ("BottleLine$Plan", "cells", "I", false)
  | 1 => ("BottleLine$Plan", "stations", "[I", true)
  | 2 => ("BottleLine$Plan", "target", "I", false)
  | 3 => ("BottleLine$Plan", "tolerance", "I", false)
  | 4 => ("BottleLine$Plan", "each", "I", false)
  | 5 => ("BottleLine$Plan", "valves", "I", false)
  | _ => ("BottleLine$Plan", "drifts", "[I", true)
def tyX1 : Nat → FieldType := fun k => match k with
  | 0 => .int
  | 1 => .array .int
  | 2 => .int
  | 3 => .int
  | 4 => .int
  | 5 => .int
  | _ => .array .int
abbrev wsX10 : List Cond := u_ws RX1 TX1 7
theorem nmX1 : ∀ a, a < 7 → ∀ b, b < 7 → a ≠ b → (TX1 a).2.1 ≠ (TX1 b).2.1 := by decide +kernel
theorem tyX1_ok : ∀ k, k < 7 → parseFieldDescriptor (TX1 k).2.2.1 = some (tyX1 k) := by decide +kernel
abbrev cX1_init : ByteArray := prog_3_method_1_code
def yX1_init : MethodName := ⟨RX1, "<init>", "()V"⟩
abbrev cX1_copyFrom : ByteArray := prog_3_method_2_code
def yX1_copyFrom : MethodName := ⟨RX1, "copyFrom", "(LBottleLine$Plan;)V"⟩
abbrev cX1_hasCell : ByteArray := prog_3_method_3_code
def yX1_hasCell : MethodName := ⟨RX1, "hasCell", "(I)Z"⟩
abbrev cX1_hasValve : ByteArray := prog_3_method_4_code
def yX1_hasValve : MethodName := ⟨RX1, "hasValve", "(I)Z"⟩
abbrev cX1_isGood : ByteArray := prog_3_method_5_code
def yX1_isGood : MethodName := ⟨RX1, "isGood", "(I)Z"⟩
def RX2 : String := "BottleLine$Reader"
def TX2 : u_T := fun k => match k with
  | 0 => ("BottleLine$Reader", "plan", "LBottleLine$Plan;", true)
  | 1 => ("BottleLine$Reader", "start", "LBottleLine$State;", true)
  | 2 => ("BottleLine$Reader", "headTaken", "I", false)
  | 3 => ("BottleLine$Reader", "part", "I", false)
  | 4 => ("BottleLine$Reader", "partDigits", "I", false)
  | _ => ("BottleLine$Reader", "partNumber", "I", false)
def tyX2 : Nat → FieldType := fun k => match k with
  | 0 => .object "BottleLine$Plan"
  | 1 => .object "BottleLine$State"
  | 2 => .int
  | 3 => .int
  | 4 => .int
  | _ => .int
abbrev wsX20 : List Cond := u_ws RX2 TX2 6
theorem nmX2 : ∀ a, a < 6 → ∀ b, b < 6 → a ≠ b → (TX2 a).2.1 ≠ (TX2 b).2.1 := by decide +kernel
theorem tyX2_ok : ∀ k, k < 6 → parseFieldDescriptor (TX2 k).2.2.1 = some (tyX2 k) := by decide +kernel
abbrev cX2_init : ByteArray := prog_4_method_1_code
def yX2_init : MethodName := ⟨RX2, "<init>", "()V"⟩
abbrev cX2_begin : ByteArray := prog_4_method_2_code
def yX2_begin : MethodName := ⟨RX2, "begin", "()V"⟩
abbrev cX2_isComplete : ByteArray := prog_4_method_3_code
def yX2_isComplete : MethodName := ⟨RX2, "isComplete", "()Z"⟩
abbrev cX2_takes : ByteArray := prog_4_method_4_code
def yX2_takes : MethodName := ⟨RX2, "takes", "(I)Z"⟩
abbrev cX2_isDigit : ByteArray := prog_4_method_5_code
def yX2_isDigit : MethodName := ⟨RX2, "isDigit", "(I)Z"⟩
abbrev cX2_takesInHead : ByteArray := prog_4_method_6_code
def yX2_takesInHead : MethodName := ⟨RX2, "takesInHead", "(I)Z"⟩
abbrev cX2_takesStation : ByteArray := prog_4_method_7_code
def yX2_takesStation : MethodName := ⟨RX2, "takesStation", "(II)Z"⟩
abbrev cX2_takesPart : ByteArray := prog_4_method_8_code
def yX2_takesPart : MethodName := ⟨RX2, "takesPart", "(I)Z"⟩
abbrev cX2_opensPart : ByteArray := prog_4_method_9_code
def yX2_opensPart : MethodName := ⟨RX2, "opensPart", "(IZ)Z"⟩
abbrev cX2_takesEntry : ByteArray := prog_4_method_10_code
def yX2_takesEntry : MethodName := ⟨RX2, "takesEntry", "(I)Z"⟩
abbrev cX2_takesDigit : ByteArray := prog_4_method_11_code
def yX2_takesDigit : MethodName := ⟨RX2, "takesDigit", "(I)Z"⟩
abbrev cX2_takesValve : ByteArray := prog_4_method_12_code
def yX2_takesValve : MethodName := ⟨RX2, "takesValve", "()Z"⟩
abbrev cX2_takesStock : ByteArray := prog_4_method_13_code
def yX2_takesStock : MethodName := ⟨RX2, "takesStock", "(Z)Z"⟩
def RX3 : String := "BottleLine$State"
def TX3 : u_T := fun k => match k with
  | 0 => ("BottleLine$State", "plan", "LBottleLine$Plan;", true)
  | 1 => ("BottleLine$State", "bottles", "[I", true)
  | 2 => ("BottleLine$State", "marks", "[I", true)
  | 3 => ("BottleLine$State", "settings", "[I", true)
  | 4 => ("BottleLine$State", "off", "I", false)
  | 5 => ("BottleLine$State", "entries", "[I", true)
  | 6 => ("BottleLine$State", "entryCount", "I", false)
  | 7 => ("BottleLine$State", "caps", "I", false)
  | 8 => ("BottleLine$State", "labels", "I", false)
  | 9 => ("BottleLine$State", "steps", "I", false)
  | 10 => ("BottleLine$State", "alarm", "Z", false)
  | 11 => ("BottleLine$State", "jammed", "Z", false)
  | 12 => ("BottleLine$State", "out", "I", false)
  | 13 => ("BottleLine$State", "escaped", "I", false)
  | 14 => ("BottleLine$State", "rejected", "I", false)
  | 15 => ("BottleLine$State", "sampled", "I", false)
  | 16 => ("BottleLine$State", "byHand", "I", false)
  | _ => ("BottleLine$State", "passed", "I", false)
def tyX3 : Nat → FieldType := fun k => match k with
  | 0 => .object "BottleLine$Plan"
  | 1 => .array .int
  | 2 => .array .int
  | 3 => .array .int
  | 4 => .int
  | 5 => .array .int
  | 6 => .int
  | 7 => .int
  | 8 => .int
  | 9 => .int
  | 10 => .boolean
  | 11 => .boolean
  | 12 => .int
  | 13 => .int
  | 14 => .int
  | 15 => .int
  | 16 => .int
  | _ => .int
abbrev wsX30 : List Cond := u_ws RX3 TX3 18
theorem nmX3 : ∀ a, a < 18 → ∀ b, b < 18 → a ≠ b → (TX3 a).2.1 ≠ (TX3 b).2.1 := by decide +kernel
theorem tyX3_ok : ∀ k, k < 18 → parseFieldDescriptor (TX3 k).2.2.1 = some (tyX3 k) := by decide +kernel
abbrev cX3_init : ByteArray := prog_5_method_1_code
def yX3_init : MethodName := ⟨RX3, "<init>", "(LBottleLine$Plan;)V"⟩
abbrev cX3_copyFrom : ByteArray := prog_5_method_2_code
def yX3_copyFrom : MethodName := ⟨RX3, "copyFrom", "(LBottleLine$State;)V"⟩
abbrev cX3_number : ByteArray := prog_5_method_3_code
def yX3_number : MethodName := ⟨RX3, "number", "(I)I"⟩
abbrev cX3_observed : ByteArray := prog_5_method_4_code
def yX3_observed : MethodName := ⟨RX3, "observed", "(I)I"⟩
abbrev cX3_bottleSet : ByteArray := prog_5_method_5_code
def yX3_bottleSet : MethodName := ⟨RX3, "bottleSet", "()I"⟩
abbrev cX3_countMarks : ByteArray := prog_5_method_6_code
def yX3_countMarks : MethodName := ⟨RX3, "countMarks", "()I"⟩
abbrev cX3_stock : ByteArray := prog_5_method_7_code
def yX3_stock : MethodName := ⟨RX3, "stock", "(Z)I"⟩
abbrev cX3_addStock : ByteArray := prog_5_method_8_code
def yX3_addStock : MethodName := ⟨RX3, "addStock", "(ZI)V"⟩
abbrev cX3_addEntry : ByteArray := prog_5_method_9_code
def yX3_addEntry : MethodName := ⟨RX3, "addEntry", "(I)V"⟩
abbrev cX3_nextValve : ByteArray := prog_5_method_10_code
def yX3_nextValve : MethodName := ⟨RX3, "nextValve", "()I"⟩
abbrev cX3_moveMarks : ByteArray := prog_5_method_11_code
def yX3_moveMarks : MethodName := ⟨RX3, "moveMarks", "()V"⟩
abbrev cX3_endAlarm : ByteArray := prog_5_method_12_code
def yX3_endAlarm : MethodName := ⟨RX3, "endAlarm", "()Z"⟩
abbrev cX3_markBeforeScale : ByteArray := prog_5_method_13_code
def yX3_markBeforeScale : MethodName := ⟨RX3, "markBeforeScale", "()V"⟩
abbrev cX3_advance : ByteArray := prog_5_method_14_code
def yX3_advance : MethodName := ⟨RX3, "advance", "(I)I"⟩
abbrev cX3_leave : ByteArray := prog_5_method_15_code
def yX3_leave : MethodName := ⟨RX3, "leave", "()V"⟩
abbrev cX3_moveOn : ByteArray := prog_5_method_16_code
def yX3_moveOn : MethodName := ⟨RX3, "moveOn", "()V"⟩
abbrev cX3_leak : ByteArray := prog_5_method_17_code
def yX3_leak : MethodName := ⟨RX3, "leak", "()V"⟩
abbrev cX3_fill : ByteArray := prog_5_method_18_code
def yX3_fill : MethodName := ⟨RX3, "fill", "()V"⟩
abbrev cX3_isOff : ByteArray := prog_5_method_19_code
def yX3_isOff : MethodName := ⟨RX3, "isOff", "(I)Z"⟩
abbrev cX3_weigh : ByteArray := prog_5_method_20_code
def yX3_weigh : MethodName := ⟨RX3, "weigh", "()V"⟩
abbrev cX3_equip : ByteArray := prog_5_method_21_code
def yX3_equip : MethodName := ⟨RX3, "equip", "()V"⟩
abbrev cX3_check : ByteArray := prog_5_method_22_code
def yX3_check : MethodName := ⟨RX3, "check", "()V"⟩
abbrev cX3_push : ByteArray := prog_5_method_23_code
def yX3_push : MethodName := ⟨RX3, "push", "()V"⟩
def RX4 : String := "BottleLine"
def TX4 : u_T := fun k => match k with
  | 0 => ("BottleLine", "text", "[I", true)
  | 1 => ("BottleLine", "textLength", "I", false)
  | 2 => ("BottleLine", "reader", "LBottleLine$Reader;", true)
  | 3 => ("BottleLine", "plan", "LBottleLine$Plan;", true)
  | 4 => ("BottleLine", "now", "LBottleLine$State;", true)
  | 5 => ("BottleLine", "trial", "LBottleLine$State;", true)
  | 6 => ("BottleLine", "past", "[LBottleLine$State;", true)
  | 7 => ("BottleLine", "pastCount", "I", false)
  | 8 => ("BottleLine", "nextPast", "I", false)
  | 9 => ("BottleLine", "slots", "[LBottleLine$State;", true)
  | 10 => ("BottleLine", "isKept", "[Z", true)
  | 11 => ("BottleLine", "seenWhat", "[I", true)
  | 12 => ("BottleLine", "seenAfter", "[I", true)
  | 13 => ("BottleLine", "seenValue", "[I", true)
  | 14 => ("BottleLine", "seenCount", "I", false)
  | _ => ("BottleLine", "random", "J", false)
def tyX4 : Nat → FieldType := fun k => match k with
  | 0 => .array .int
  | 1 => .int
  | 2 => .object "BottleLine$Reader"
  | 3 => .object "BottleLine$Plan"
  | 4 => .object "BottleLine$State"
  | 5 => .object "BottleLine$State"
  | 6 => .array (.object "BottleLine$State")
  | 7 => .int
  | 8 => .int
  | 9 => .array (.object "BottleLine$State")
  | 10 => .array .boolean
  | 11 => .array .int
  | 12 => .array .int
  | 13 => .array .int
  | 14 => .int
  | _ => .long
abbrev wsX40 : List Cond := u_ws RX4 TX4 16
theorem nmX4 : ∀ a, a < 16 → ∀ b, b < 16 → a ≠ b → (TX4 a).2.1 ≠ (TX4 b).2.1 := by decide +kernel
theorem tyX4_ok : ∀ k, k < 16 → parseFieldDescriptor (TX4 k).2.2.1 = some (tyX4 k) := by decide +kernel
abbrev cX4_init : ByteArray := prog_1_method_1_code
def yX4_init : MethodName := ⟨RX4, "<init>", "()V"⟩
abbrev cX4_write : ByteArray := prog_1_method_2_code
def yX4_write : MethodName := ⟨RX4, "write", "(I)I"⟩
abbrev cX4_wipe : ByteArray := prog_1_method_3_code
def yX4_wipe : MethodName := ⟨RX4, "wipe", "()I"⟩
abbrev cX4_fault : ByteArray := prog_1_method_4_code
def yX4_fault : MethodName := ⟨RX4, "fault", "()I"⟩
abbrev cX4_line : ByteArray := prog_1_method_5_code
def yX4_line : MethodName := ⟨RX4, "line", "()I"⟩
abbrev cX4_about : ByteArray := prog_1_method_6_code
def yX4_about : MethodName := ⟨RX4, "about", "(I)I"⟩
abbrev cX4_place : ByteArray := prog_1_method_7_code
def yX4_place : MethodName := ⟨RX4, "place", "(I)I"⟩
abbrev cX4_cell : ByteArray := prog_1_method_8_code
def yX4_cell : MethodName := ⟨RX4, "cell", "(II)I"⟩
abbrev cX4_valve : ByteArray := prog_1_method_9_code
def yX4_valve : MethodName := ⟨RX4, "valve", "(II)I"⟩
abbrev cX4_queue : ByteArray := prog_1_method_10_code
def yX4_queue : MethodName := ⟨RX4, "queue", "(I)I"⟩
abbrev cX4_step : ByteArray := prog_1_method_11_code
def yX4_step : MethodName := ⟨RX4, "step", "(I)I"⟩
abbrev cX4_slip : ByteArray := prog_1_method_12_code
def yX4_slip : MethodName := ⟨RX4, "slip", "()I"⟩
abbrev cX4_jam : ByteArray := prog_1_method_13_code
def yX4_jam : MethodName := ⟨RX4, "jam", "()I"⟩
abbrev cX4_clear : ByteArray := prog_1_method_14_code
def yX4_clear : MethodName := ⟨RX4, "clear", "()I"⟩
abbrev cX4_restart : ByteArray := prog_1_method_15_code
def yX4_restart : MethodName := ⟨RX4, "restart", "()I"⟩
abbrev cX4_lay : ByteArray := prog_1_method_16_code
def yX4_lay : MethodName := ⟨RX4, "lay", "(ZI)I"⟩
abbrev cX4_set : ByteArray := prog_1_method_17_code
def yX4_set : MethodName := ⟨RX4, "set", "(II)I"⟩
abbrev cX4_come : ByteArray := prog_1_method_18_code
def yX4_come : MethodName := ⟨RX4, "come", "(I)I"⟩
abbrev cX4_undo : ByteArray := prog_1_method_19_code
def yX4_undo : MethodName := ⟨RX4, "undo", "()I"⟩
abbrev cX4_ahead : ByteArray := prog_1_method_20_code
def yX4_ahead : MethodName := ⟨RX4, "ahead", "(II)I"⟩
abbrev cX4_goes : ByteArray := prog_1_method_21_code
def yX4_goes : MethodName := ⟨RX4, "goes", "(II)I"⟩
abbrev cX4_best : ByteArray := prog_1_method_22_code
def yX4_best : MethodName := ⟨RX4, "best", "(I)I"⟩
abbrev cX4_needs : ByteArray := prog_1_method_23_code
def yX4_needs : MethodName := ⟨RX4, "needs", "(Z)I"⟩
abbrev cX4_judge : ByteArray := prog_1_method_24_code
def yX4_judge : MethodName := ⟨RX4, "judge", "(II)I"⟩
abbrev cX4_see : ByteArray := prog_1_method_25_code
def yX4_see : MethodName := ⟨RX4, "see", "(III)I"⟩
abbrev cX4_unsee : ByteArray := prog_1_method_26_code
def yX4_unsee : MethodName := ⟨RX4, "unsee", "()I"⟩
abbrev cX4_which : ByteArray := prog_1_method_27_code
def yX4_which : MethodName := ⟨RX4, "which", "()I"⟩
abbrev cX4_share : ByteArray := prog_1_method_28_code
def yX4_share : MethodName := ⟨RX4, "share", "(IZ)I"⟩
abbrev cX4_chance : ByteArray := prog_1_method_29_code
def yX4_chance : MethodName := ⟨RX4, "chance", "(IIZ)I"⟩
abbrev cX4_seed : ByteArray := prog_1_method_30_code
def yX4_seed : MethodName := ⟨RX4, "seed", "(J)J"⟩
abbrev cX4_drawn : ByteArray := prog_1_method_31_code
def yX4_drawn : MethodName := ⟨RX4, "drawn", "(I)I"⟩
abbrev cX4_keep : ByteArray := prog_1_method_32_code
def yX4_keep : MethodName := ⟨RX4, "keep", "(I)I"⟩
abbrev cX4_again : ByteArray := prog_1_method_33_code
def yX4_again : MethodName := ⟨RX4, "again", "(I)I"⟩
abbrev cX4_isWithin : ByteArray := prog_1_method_34_code
def yX4_isWithin : MethodName := ⟨RX4, "isWithin", "(III)Z"⟩
abbrev cX4_asNumber : ByteArray := prog_1_method_35_code
def yX4_asNumber : MethodName := ⟨RX4, "asNumber", "(Z)I"⟩
abbrev cX4_limited : ByteArray := prog_1_method_36_code
def yX4_limited : MethodName := ⟨RX4, "limited", "(I)I"⟩
abbrev cX4_factorial : ByteArray := prog_1_method_37_code
def yX4_factorial : MethodName := ⟨RX4, "factorial", "(I)I"⟩
abbrev cX4_partOf : ByteArray := prog_1_method_38_code
def yX4_partOf : MethodName := ⟨RX4, "partOf", "(IIZ)I"⟩
abbrev cX4_commonDivisor : ByteArray := prog_1_method_39_code
def yX4_commonDivisor : MethodName := ⟨RX4, "commonDivisor", "(II)I"⟩
abbrev cX4_readText : ByteArray := prog_1_method_40_code
def yX4_readText : MethodName := ⟨RX4, "readText", "()I"⟩
abbrev cX4_rememberAct : ByteArray := prog_1_method_41_code
def yX4_rememberAct : MethodName := ⟨RX4, "rememberAct", "()V"⟩
abbrev cX4_forgetActs : ByteArray := prog_1_method_42_code
def yX4_forgetActs : MethodName := ⟨RX4, "forgetActs", "()V"⟩
abbrev cX4_wayInNextStep : ByteArray := prog_1_method_43_code
def yX4_wayInNextStep : MethodName := ⟨RX4, "wayInNextStep", "(I)I"⟩
abbrev cX4_outWithMore : ByteArray := prog_1_method_44_code
def yX4_outWithMore : MethodName := ⟨RX4, "outWithMore", "(ZI)I"⟩
abbrev cX4_outWithOff : ByteArray := prog_1_method_45_code
def yX4_outWithOff : MethodName := ⟨RX4, "outWithOff", "(I)I"⟩
abbrev cX4_obeys : ByteArray := prog_1_method_46_code
def yX4_obeys : MethodName := ⟨RX4, "obeys", "(I)Z"⟩
abbrev cX4_intervenes : ByteArray := prog_1_method_47_code
def yX4_intervenes : MethodName := ⟨RX4, "intervenes", "(I)Z"⟩
abbrev cX4_agreesWithSlipAfter : ByteArray := prog_1_method_48_code
def yX4_agreesWithSlipAfter : MethodName := ⟨RX4, "agreesWithSlipAfter", "(I)Z"⟩
abbrev cX4_agreesAfter : ByteArray := prog_1_method_49_code
def yX4_agreesAfter : MethodName := ⟨RX4, "agreesAfter", "(I)Z"⟩
abbrev cX4_happen : ByteArray := prog_1_method_50_code
def yX4_happen : MethodName := ⟨RX4, "happen", "(I)V"⟩
def RX5 : String := "BottleLineModel"
def TX5 : u_T := fun k => match k with
  | 0 => ("BottleLineModel", "text", "[I", true)
  | 1 => ("BottleLineModel", "length", "I", false)
  | 2 => ("BottleLineModel", "cells", "I", false)
  | 3 => ("BottleLineModel", "places", "[I", true)
  | 4 => ("BottleLineModel", "target", "I", false)
  | 5 => ("BottleLineModel", "tolerance", "I", false)
  | 6 => ("BottleLineModel", "each", "I", false)
  | 7 => ("BottleLineModel", "valves", "I", false)
  | 8 => ("BottleLineModel", "drift", "[I", true)
  | 9 => ("BottleLineModel", "now", "[I", true)
  | 10 => ("BottleLineModel", "trial", "[I", true)
  | 11 => ("BottleLineModel", "diary", "[I", true)
  | 12 => ("BottleLineModel", "acts", "I", false)
  | 13 => ("BottleLineModel", "next", "I", false)
  | 14 => ("BottleLineModel", "kept", "[I", true)
  | 15 => ("BottleLineModel", "isKept", "[Z", true)
  | 16 => ("BottleLineModel", "seenWhat", "[I", true)
  | 17 => ("BottleLineModel", "seenBehind", "[I", true)
  | 18 => ("BottleLineModel", "seenIs", "[I", true)
  | 19 => ("BottleLineModel", "seen", "I", false)
  | 20 => ("BottleLineModel", "seed", "J", false)
  | 21 => ("BottleLineModel", "come", "I", false)
  | 22 => ("BottleLineModel", "watched", "I", false)
  | 23 => ("BottleLineModel", "went", "I", false)
  | 24 => ("BottleLineModel", "worth", "[I", true)
  | 25 => ("BottleLineModel", "head", "[I", true)
  | 26 => ("BottleLineModel", "readTarget", "I", false)
  | 27 => ("BottleLineModel", "readTolerance", "I", false)
  | 28 => ("BottleLineModel", "readEach", "I", false)
  | 29 => ("BottleLineModel", "readValves", "I", false)
  | 30 => ("BottleLineModel", "readSetting", "[I", true)
  | 31 => ("BottleLineModel", "readDrift", "[I", true)
  | 32 => ("BottleLineModel", "readStock", "[I", true)
  | 33 => ("BottleLineModel", "readMany", "I", false)
  | 34 => ("BottleLineModel", "readQueue", "[I", true)
  | 35 => ("BottleLineModel", "part", "I", false)
  | 36 => ("BottleLineModel", "place", "I", false)
  | _ => ("BottleLineModel", "figures", "I", false)
def tyX5 : Nat → FieldType := fun k => match k with
  | 0 => .array .int
  | 1 => .int
  | 2 => .int
  | 3 => .array .int
  | 4 => .int
  | 5 => .int
  | 6 => .int
  | 7 => .int
  | 8 => .array .int
  | 9 => .array .int
  | 10 => .array .int
  | 11 => .array .int
  | 12 => .int
  | 13 => .int
  | 14 => .array .int
  | 15 => .array .boolean
  | 16 => .array .int
  | 17 => .array .int
  | 18 => .array .int
  | 19 => .int
  | 20 => .long
  | 21 => .int
  | 22 => .int
  | 23 => .int
  | 24 => .array .int
  | 25 => .array .int
  | 26 => .int
  | 27 => .int
  | 28 => .int
  | 29 => .int
  | 30 => .array .int
  | 31 => .array .int
  | 32 => .array .int
  | 33 => .int
  | 34 => .array .int
  | 35 => .int
  | 36 => .int
  | _ => .int
abbrev wsX50 : List Cond := u_ws RX5 TX5 38
theorem nmX5 : ∀ a, a < 38 → ∀ b, b < 38 → a ≠ b → (TX5 a).2.1 ≠ (TX5 b).2.1 := by decide +kernel
theorem tyX5_ok : ∀ k, k < 38 → parseFieldDescriptor (TX5 k).2.2.1 = some (tyX5 k) := by decide +kernel
abbrev cX5_init : ByteArray := prog_7_method_1_code
def yX5_init : MethodName := ⟨RX5, "<init>", "()V"⟩
abbrev cX5_copy : ByteArray := prog_7_method_3_code
def yX5_copy : MethodName := ⟨RX5, "copy", "([I[I)V"⟩
abbrev cX5_in : ByteArray := prog_7_method_4_code
def yX5_in : MethodName := ⟨RX5, "in", "(III)Z"⟩
abbrev cX5_has : ByteArray := prog_7_method_5_code
def yX5_has : MethodName := ⟨RX5, "has", "(II)Z"⟩
abbrev cX5_ones : ByteArray := prog_7_method_6_code
def yX5_ones : MethodName := ⟨RX5, "ones", "(I)I"⟩
abbrev cX5_power : ByteArray := prog_7_method_7_code
def yX5_power : MethodName := ⟨RX5, "power", "(II)I"⟩
abbrev cX5_factorial : ByteArray := prog_7_method_8_code
def yX5_factorial : MethodName := ⟨RX5, "factorial", "(I)I"⟩
abbrev cX5_held : ByteArray := prog_7_method_9_code
def yX5_held : MethodName := ⟨RX5, "held", "(I)I"⟩
abbrev cX5_fraction : ByteArray := prog_7_method_10_code
def yX5_fraction : MethodName := ⟨RX5, "fraction", "(IIZ)I"⟩
abbrev cX5_isCell : ByteArray := prog_7_method_11_code
def yX5_isCell : MethodName := ⟨RX5, "isCell", "(I)Z"⟩
abbrev cX5_isValve : ByteArray := prog_7_method_12_code
def yX5_isValve : MethodName := ⟨RX5, "isValve", "(I)Z"⟩
abbrev cX5_write : ByteArray := prog_7_method_13_code
def yX5_write : MethodName := ⟨RX5, "write", "(I)I"⟩
abbrev cX5_wipe : ByteArray := prog_7_method_14_code
def yX5_wipe : MethodName := ⟨RX5, "wipe", "()I"⟩
abbrev cX5_takeHead : ByteArray := prog_7_method_15_code
def yX5_takeHead : MethodName := ⟨RX5, "takeHead", "(I)Z"⟩
abbrev cX5_queueUp : ByteArray := prog_7_method_16_code
def yX5_queueUp : MethodName := ⟨RX5, "queueUp", "(I)Z"⟩
abbrev cX5_takeSign : ByteArray := prog_7_method_17_code
def yX5_takeSign : MethodName := ⟨RX5, "takeSign", "(I)Z"⟩
abbrev cX5_takeOfValve : ByteArray := prog_7_method_18_code
def yX5_takeOfValve : MethodName := ⟨RX5, "takeOfValve", "(I)Z"⟩
abbrev cX5_takeOfStock : ByteArray := prog_7_method_19_code
def yX5_takeOfStock : MethodName := ⟨RX5, "takeOfStock", "(II)Z"⟩
abbrev cX5_take : ByteArray := prog_7_method_20_code
def yX5_take : MethodName := ⟨RX5, "take", "(I)Z"⟩
abbrev cX5_readText : ByteArray := prog_7_method_21_code
def yX5_readText : MethodName := ⟨RX5, "readText", "()I"⟩
abbrev cX5_fault : ByteArray := prog_7_method_22_code
def yX5_fault : MethodName := ⟨RX5, "fault", "()I"⟩
abbrev cX5_line : ByteArray := prog_7_method_23_code
def yX5_line : MethodName := ⟨RX5, "line", "()I"⟩
abbrev cX5_isGood : ByteArray := prog_7_method_24_code
def yX5_isGood : MethodName := ⟨RX5, "isGood", "([II)Z"⟩
abbrev cX5_empty : ByteArray := prog_7_method_25_code
def yX5_empty : MethodName := ⟨RX5, "empty", "([II)V"⟩
abbrev cX5_leave : ByteArray := prog_7_method_26_code
def yX5_leave : MethodName := ⟨RX5, "leave", "([I)V"⟩
abbrev cX5_slipOn : ByteArray := prog_7_method_27_code
def yX5_slipOn : MethodName := ⟨RX5, "slipOn", "([I)V"⟩
abbrev cX5_moveOn : ByteArray := prog_7_method_28_code
def yX5_moveOn : MethodName := ⟨RX5, "moveOn", "([I)V"⟩
abbrev cX5_fillOn : ByteArray := prog_7_method_29_code
def yX5_fillOn : MethodName := ⟨RX5, "fillOn", "([I)V"⟩
abbrev cX5_dress : ByteArray := prog_7_method_30_code
def yX5_dress : MethodName := ⟨RX5, "dress", "([IIII)V"⟩
abbrev cX5_check : ByteArray := prog_7_method_31_code
def yX5_check : MethodName := ⟨RX5, "check", "([I)V"⟩
abbrev cX5_push : ByteArray := prog_7_method_32_code
def yX5_push : MethodName := ⟨RX5, "push", "([IZ)V"⟩
abbrev cX5_stepBy : ByteArray := prog_7_method_33_code
def yX5_stepBy : MethodName := ⟨RX5, "stepBy", "([IZ)V"⟩
abbrev cX5_goOn : ByteArray := prog_7_method_34_code
def yX5_goOn : MethodName := ⟨RX5, "goOn", "([II)I"⟩
abbrev cX5_bottles : ByteArray := prog_7_method_35_code
def yX5_bottles : MethodName := ⟨RX5, "bottles", "([I)I"⟩
abbrev cX5_marks : ByteArray := prog_7_method_36_code
def yX5_marks : MethodName := ⟨RX5, "marks", "([I)I"⟩
abbrev cX5_tell : ByteArray := prog_7_method_37_code
def yX5_tell : MethodName := ⟨RX5, "tell", "([II)I"⟩
abbrev cX5_about : ByteArray := prog_7_method_38_code
def yX5_about : MethodName := ⟨RX5, "about", "(I)I"⟩
abbrev cX5_place : ByteArray := prog_7_method_39_code
def yX5_place : MethodName := ⟨RX5, "place", "(I)I"⟩
abbrev cX5_cell : ByteArray := prog_7_method_40_code
def yX5_cell : MethodName := ⟨RX5, "cell", "(II)I"⟩
abbrev cX5_valve : ByteArray := prog_7_method_41_code
def yX5_valve : MethodName := ⟨RX5, "valve", "(II)I"⟩
abbrev cX5_queue : ByteArray := prog_7_method_42_code
def yX5_queue : MethodName := ⟨RX5, "queue", "(I)I"⟩
abbrev cX5_note : ByteArray := prog_7_method_43_code
def yX5_note : MethodName := ⟨RX5, "note", "()V"⟩
abbrev cX5_step : ByteArray := prog_7_method_44_code
def yX5_step : MethodName := ⟨RX5, "step", "(I)I"⟩
abbrev cX5_slip : ByteArray := prog_7_method_45_code
def yX5_slip : MethodName := ⟨RX5, "slip", "()I"⟩
abbrev cX5_jam : ByteArray := prog_7_method_46_code
def yX5_jam : MethodName := ⟨RX5, "jam", "()I"⟩
abbrev cX5_clearOn : ByteArray := prog_7_method_47_code
def yX5_clearOn : MethodName := ⟨RX5, "clearOn", "([I)I"⟩
abbrev cX5_clear : ByteArray := prog_7_method_48_code
def yX5_clear : MethodName := ⟨RX5, "clear", "()I"⟩
abbrev cX5_restartOn : ByteArray := prog_7_method_49_code
def yX5_restartOn : MethodName := ⟨RX5, "restartOn", "([I)V"⟩
abbrev cX5_restart : ByteArray := prog_7_method_50_code
def yX5_restart : MethodName := ⟨RX5, "restart", "()I"⟩
abbrev cX5_lay : ByteArray := prog_7_method_51_code
def yX5_lay : MethodName := ⟨RX5, "lay", "(ZI)I"⟩
abbrev cX5_set : ByteArray := prog_7_method_52_code
def yX5_set : MethodName := ⟨RX5, "set", "(II)I"⟩
abbrev cX5_come : ByteArray := prog_7_method_53_code
def yX5_come : MethodName := ⟨RX5, "come", "(I)I"⟩
abbrev cX5_undo : ByteArray := prog_7_method_54_code
def yX5_undo : MethodName := ⟨RX5, "undo", "()I"⟩
abbrev cX5_ahead : ByteArray := prog_7_method_55_code
def yX5_ahead : MethodName := ⟨RX5, "ahead", "(II)I"⟩
abbrev cX5_goes : ByteArray := prog_7_method_56_code
def yX5_goes : MethodName := ⟨RX5, "goes", "(II)I"⟩
abbrev cX5_best : ByteArray := prog_7_method_57_code
def yX5_best : MethodName := ⟨RX5, "best", "(I)I"⟩
abbrev cX5_outWith : ByteArray := prog_7_method_58_code
def yX5_outWith : MethodName := ⟨RX5, "outWith", "(II)I"⟩
abbrev cX5_needs : ByteArray := prog_7_method_59_code
def yX5_needs : MethodName := ⟨RX5, "needs", "(Z)I"⟩
abbrev cX5_judged : ByteArray := prog_7_method_60_code
def yX5_judged : MethodName := ⟨RX5, "judged", "(III)Z"⟩
abbrev cX5_judge : ByteArray := prog_7_method_61_code
def yX5_judge : MethodName := ⟨RX5, "judge", "(II)I"⟩
abbrev cX5_see : ByteArray := prog_7_method_62_code
def yX5_see : MethodName := ⟨RX5, "see", "(III)I"⟩
abbrev cX5_unsee : ByteArray := prog_7_method_63_code
def yX5_unsee : MethodName := ⟨RX5, "unsee", "()I"⟩
abbrev cX5_isSoBy : ByteArray := prog_7_method_64_code
def yX5_isSoBy : MethodName := ⟨RX5, "isSoBy", "(II)Z"⟩
abbrev cX5_which : ByteArray := prog_7_method_65_code
def yX5_which : MethodName := ⟨RX5, "which", "()I"⟩
abbrev cX5_outBy : ByteArray := prog_7_method_66_code
def yX5_outBy : MethodName := ⟨RX5, "outBy", "(I)I"⟩
abbrev cX5_share : ByteArray := prog_7_method_67_code
def yX5_share : MethodName := ⟨RX5, "share", "(IZ)I"⟩
abbrev cX5_chance : ByteArray := prog_7_method_68_code
def yX5_chance : MethodName := ⟨RX5, "chance", "(IIZ)I"⟩
abbrev cX5_seed : ByteArray := prog_7_method_69_code
def yX5_seed : MethodName := ⟨RX5, "seed", "(J)J"⟩
abbrev cX5_drawn : ByteArray := prog_7_method_70_code
def yX5_drawn : MethodName := ⟨RX5, "drawn", "(I)I"⟩
abbrev cX5_keep : ByteArray := prog_7_method_71_code
def yX5_keep : MethodName := ⟨RX5, "keep", "(I)I"⟩
abbrev cX5_again : ByteArray := prog_7_method_72_code
def yX5_again : MethodName := ⟨RX5, "again", "(I)I"⟩
def RJ6 : String := "java/lang/Integer"
def TJ6 : u_T := fun k => match k with
  | _ => ("", "", "", false)
def tyJ6 : Nat → FieldType := fun k => match k with
  | _ => .int
abbrev wsJ60 : List Cond := u_ws RJ6 TJ6 0
theorem nmJ6 : ∀ a, a < 0 → ∀ b, b < 0 → a ≠ b → (TJ6 a).2.1 ≠ (TJ6 b).2.1 := by decide +kernel
theorem tyJ6_ok : ∀ k, k < 0 → parseFieldDescriptor (TJ6 k).2.2.1 = some (tyJ6 k) := by decide +kernel
abbrev cJ6_bitCount_0f7a4 : ByteArray := prog_8_method_49_code
def yJ6_bitCount_0f7a4 : MethodName := ⟨RJ6, "bitCount", "(I)I"⟩
def RJ9 : String := "java/lang/Math"
def TJ9 : u_T := fun k => match k with
  | _ => ("", "", "", false)
def tyJ9 : Nat → FieldType := fun k => match k with
  | _ => .int
abbrev wsJ90 : List Cond := u_ws RJ9 TJ9 0
theorem nmJ9 : ∀ a, a < 0 → ∀ b, b < 0 → a ≠ b → (TJ9 a).2.1 ≠ (TJ9 b).2.1 := by decide +kernel
theorem tyJ9_ok : ∀ k, k < 0 → parseFieldDescriptor (TJ9 k).2.2.1 = some (tyJ9 k) := by decide +kernel
abbrev cJ9_floorMod_7cf53 : ByteArray := prog_9_method_50_code
def yJ9_floorMod_7cf53 : MethodName := ⟨RJ9, "floorMod", "(II)I"⟩
abbrev cJ9_abs_0f7a4 : ByteArray := prog_9_method_59_code
def yJ9_abs_0f7a4 : MethodName := ⟨RJ9, "abs", "(I)I"⟩
abbrev cJ9_max_7cf53 : ByteArray := prog_9_method_65_code
def yJ9_max_7cf53 : MethodName := ⟨RJ9, "max", "(II)I"⟩
abbrev cJ9_min_7cf53 : ByteArray := prog_9_method_69_code
def yJ9_min_7cf53 : MethodName := ⟨RJ9, "min", "(II)I"⟩
def RJ10 : String := "java/lang/System"
def TJ10 : u_T := fun k => match k with
  | _ => ("", "", "", false)
def tyJ10 : Nat → FieldType := fun k => match k with
  | _ => .int
abbrev wsJ100 : List Cond := u_ws RJ10 TJ10 0
theorem nmJ10 : ∀ a, a < 0 → ∀ b, b < 0 → a ≠ b → (TJ10 a).2.1 ≠ (TJ10 b).2.1 := by decide +kernel
theorem tyJ10_ok : ∀ k, k < 0 → parseFieldDescriptor (TJ10 k).2.2.1 = some (tyJ10 k) := by decide +kernel
def RL : String := "BottleLineLaw"
abbrev cL_law : ByteArray := code
def yL_law : MethodName := ⟨RL, "law", "([I)Z"⟩
abbrev vwCl : List vw_C := [(RX1, TX1, 7), (RX2, TX2, 6), (RX3, TX3, 18), (RX4, TX4, 16), (RX5, TX5, 38)]
end
section
theorem dX0_has_0 : decode cX0_has 0 = .ok (.iload_n 0, 1) := by decide +kernel
theorem dX0_has_1 : decode cX0_has 1 = .ok (.iload_n 1, 1) := by decide +kernel
theorem dX0_has_2 : decode cX0_has 2 = .ok (.iand, 1) := by decide +kernel
theorem dX0_has_3 : decode cX0_has 3 = .ok (.ifCond .eq 7, 3) := by decide +kernel
theorem dX0_has_6 : decode cX0_has 6 = .ok (.iconst 1, 1) := by decide +kernel
theorem dX0_has_7 : decode cX0_has 7 = .ok (.goto 4, 3) := by decide +kernel
theorem dX0_has_10 : decode cX0_has 10 = .ok (.iconst 0, 1) := by decide +kernel
theorem dX0_has_11 : decode cX0_has 11 = .ok (.ireturn, 1) := by decide +kernel
theorem dX0_fillOf_0 : decode cX0_fillOf 0 = .ok (.iload_n 0, 1) := by decide +kernel
theorem dX0_fillOf_1 : decode cX0_fillOf 1 = .ok (.bipush 127, 2) := by decide +kernel
theorem dX0_fillOf_3 : decode cX0_fillOf 3 = .ok (.iand, 1) := by decide +kernel
theorem dX0_fillOf_4 : decode cX0_fillOf 4 = .ok (.ireturn, 1) := by decide +kernel
theorem dX0_valveOf_0 : decode cX0_valveOf 0 = .ok (.iload_n 0, 1) := by decide +kernel
theorem dX0_valveOf_1 : decode cX0_valveOf 1 = .ok (.bipush 7, 2) := by decide +kernel
theorem dX0_valveOf_3 : decode cX0_valveOf 3 = .ok (.ishr, 1) := by decide +kernel
theorem dX0_valveOf_4 : decode cX0_valveOf 4 = .ok (.bipush 7, 2) := by decide +kernel
theorem dX0_valveOf_6 : decode cX0_valveOf 6 = .ok (.iand, 1) := by decide +kernel
theorem dX0_valveOf_7 : decode cX0_valveOf 7 = .ok (.iconst 1, 1) := by decide +kernel
theorem dX0_valveOf_8 : decode cX0_valveOf 8 = .ok (.isub, 1) := by decide +kernel
theorem dX0_valveOf_9 : decode cX0_valveOf 9 = .ok (.istore_n 1, 1) := by decide +kernel
theorem dX0_valveOf_10 : decode cX0_valveOf 10 = .ok (.iload_n 1, 1) := by decide +kernel
theorem dX0_valveOf_11 : decode cX0_valveOf 11 = .ok (.ifCond .ge 8, 3) := by decide +kernel
theorem dX0_valveOf_14 : decode cX0_valveOf 14 = .ok (.bipush (-9), 2) := by decide +kernel
theorem dX0_valveOf_16 : decode cX0_valveOf 16 = .ok (.goto 4, 3) := by decide +kernel
theorem dX0_valveOf_19 : decode cX0_valveOf 19 = .ok (.iload_n 1, 1) := by decide +kernel
theorem dX0_valveOf_20 : decode cX0_valveOf 20 = .ok (.ireturn, 1) := by decide +kernel
theorem dX0_ofEntry_0 : decode cX0_ofEntry 0 = .ok (.iload_n 0, 1) := by decide +kernel
theorem dX0_ofEntry_1 : decode cX0_ofEntry 1 = .ok (.lookupswitch 35 #[(1, 27), (2, 31)], 27) := by decide +kernel
theorem dX0_ofEntry_28 : decode cX0_ofEntry 28 = .ok (.sipush 8192, 3) := by decide +kernel
theorem dX0_ofEntry_31 : decode cX0_ofEntry 31 = .ok (.ireturn, 1) := by decide +kernel
theorem dX0_ofEntry_32 : decode cX0_ofEntry 32 = .ok (.sipush 12288, 3) := by decide +kernel
theorem dX0_ofEntry_35 : decode cX0_ofEntry 35 = .ok (.ireturn, 1) := by decide +kernel
theorem dX0_ofEntry_36 : decode cX0_ofEntry 36 = .ok (.iconst 0, 1) := by decide +kernel
theorem dX0_ofEntry_37 : decode cX0_ofEntry 37 = .ok (.ireturn, 1) := by decide +kernel
theorem dX0_filled_0 : decode cX0_filled 0 = .ok (.iload_n 0, 1) := by decide +kernel
theorem dX0_filled_1 : decode cX0_filled 1 = .ok (.sipush (-1024), 3) := by decide +kernel
theorem dX0_filled_4 : decode cX0_filled 4 = .ok (.iand, 1) := by decide +kernel
theorem dX0_filled_5 : decode cX0_filled 5 = .ok (.istore_n 3, 1) := by decide +kernel
theorem dX0_filled_6 : decode cX0_filled 6 = .ok (.iload_n 3, 1) := by decide +kernel
theorem dX0_filled_7 : decode cX0_filled 7 = .ok (.iload_n 2, 1) := by decide +kernel
theorem dX0_filled_8 : decode cX0_filled 8 = .ok (.ior, 1) := by decide +kernel
theorem dX0_filled_9 : decode cX0_filled 9 = .ok (.iload_n 1, 1) := by decide +kernel
theorem dX0_filled_10 : decode cX0_filled 10 = .ok (.iconst 1, 1) := by decide +kernel
theorem dX0_filled_11 : decode cX0_filled 11 = .ok (.iadd, 1) := by decide +kernel
theorem dX0_filled_12 : decode cX0_filled 12 = .ok (.bipush 7, 2) := by decide +kernel
theorem dX0_filled_14 : decode cX0_filled 14 = .ok (.ishl, 1) := by decide +kernel
theorem dX0_filled_15 : decode cX0_filled 15 = .ok (.ior, 1) := by decide +kernel
theorem dX0_filled_16 : decode cX0_filled 16 = .ok (.ireturn, 1) := by decide +kernel
theorem dX0_leaked_0 : decode cX0_leaked 0 = .ok (.iload_n 0, 1) := by decide +kernel
theorem dX0_leaked_1 : decode cX0_leaked 1 = .ok (.iconst 1, 1) := by decide +kernel
theorem dX0_leaked_2 : decode cX0_leaked 2 = .ok (.isub, 1) := by decide +kernel
theorem dX0_leaked_3 : decode cX0_leaked 3 = .ok (.ireturn, 1) := by decide +kernel
theorem dX1_init_0 : decode cX1_init 0 = .ok (.aload_n 0, 1) := by decide +kernel
theorem dX1_init_1 : decode cX1_init 1 = .ok (.invokespecial 3, 3) := by decide +kernel
theorem dX1_init_4 : decode cX1_init 4 = .ok (.aload_n 0, 1) := by decide +kernel
theorem dX1_init_5 : decode cX1_init 5 = .ok (.iconst 5, 1) := by decide +kernel
theorem dX1_init_6 : decode cX1_init 6 = .ok (.newarray .int, 2) := by decide +kernel
theorem dX1_init_8 : decode cX1_init 8 = .ok (.putfield 9, 3) := by decide +kernel
theorem dX1_init_11 : decode cX1_init 11 = .ok (.aload_n 0, 1) := by decide +kernel
theorem dX1_init_12 : decode cX1_init 12 = .ok (.iconst 4, 1) := by decide +kernel
theorem dX1_init_13 : decode cX1_init 13 = .ok (.newarray .int, 2) := by decide +kernel
theorem dX1_init_15 : decode cX1_init 15 = .ok (.putfield 15, 3) := by decide +kernel
theorem dX1_init_18 : decode cX1_init 18 = .ok (.aload_n 0, 1) := by decide +kernel
theorem dX1_init_19 : decode cX1_init 19 = .ok (.bipush 6, 2) := by decide +kernel
theorem dX1_init_21 : decode cX1_init 21 = .ok (.putfield 18, 3) := by decide +kernel
theorem dX1_init_24 : decode cX1_init 24 = .ok (.iconst 0, 1) := by decide +kernel
theorem dX1_init_25 : decode cX1_init 25 = .ok (.istore_n 1, 1) := by decide +kernel
theorem dX1_init_26 : decode cX1_init 26 = .ok (.iload_n 1, 1) := by decide +kernel
theorem dX1_init_27 : decode cX1_init 27 = .ok (.iconst 5, 1) := by decide +kernel
theorem dX1_init_28 : decode cX1_init 28 = .ok (.if_icmp .ge 18, 3) := by decide +kernel
theorem dX1_init_31 : decode cX1_init 31 = .ok (.aload_n 0, 1) := by decide +kernel
theorem dX1_init_32 : decode cX1_init 32 = .ok (.getfield 9, 3) := by decide +kernel
theorem dX1_init_35 : decode cX1_init 35 = .ok (.iload_n 1, 1) := by decide +kernel
theorem dX1_init_36 : decode cX1_init 36 = .ok (.iload_n 1, 1) := by decide +kernel
theorem dX1_init_37 : decode cX1_init 37 = .ok (.iconst 1, 1) := by decide +kernel
theorem dX1_init_38 : decode cX1_init 38 = .ok (.iadd, 1) := by decide +kernel
theorem dX1_init_39 : decode cX1_init 39 = .ok (.iastore, 1) := by decide +kernel
theorem dX1_init_40 : decode cX1_init 40 = .ok (.iinc 1 1, 3) := by decide +kernel
theorem dX1_init_43 : decode cX1_init 43 = .ok (.goto (-17), 3) := by decide +kernel
theorem dX1_init_46 : decode cX1_init 46 = .ok (.return_, 1) := by decide +kernel
theorem dX1_copyFrom_0 : decode cX1_copyFrom 0 = .ok (.aload_n 0, 1) := by decide +kernel
theorem dX1_copyFrom_1 : decode cX1_copyFrom 1 = .ok (.aload_n 1, 1) := by decide +kernel
theorem dX1_copyFrom_2 : decode cX1_copyFrom 2 = .ok (.getfield 18, 3) := by decide +kernel
theorem dX1_copyFrom_5 : decode cX1_copyFrom 5 = .ok (.putfield 18, 3) := by decide +kernel
theorem dX1_copyFrom_8 : decode cX1_copyFrom 8 = .ok (.aload_n 1, 1) := by decide +kernel
theorem dX1_copyFrom_9 : decode cX1_copyFrom 9 = .ok (.getfield 9, 3) := by decide +kernel
theorem dX1_copyFrom_12 : decode cX1_copyFrom 12 = .ok (.iconst 0, 1) := by decide +kernel
theorem dX1_copyFrom_13 : decode cX1_copyFrom 13 = .ok (.aload_n 0, 1) := by decide +kernel
theorem dX1_copyFrom_14 : decode cX1_copyFrom 14 = .ok (.getfield 9, 3) := by decide +kernel
theorem dX1_copyFrom_17 : decode cX1_copyFrom 17 = .ok (.iconst 0, 1) := by decide +kernel
theorem dX1_copyFrom_18 : decode cX1_copyFrom 18 = .ok (.iconst 5, 1) := by decide +kernel
theorem dX1_copyFrom_19 : decode cX1_copyFrom 19 = .ok (.invokestatic 22, 3) := by decide +kernel
theorem dX1_copyFrom_22 : decode cX1_copyFrom 22 = .ok (.aload_n 0, 1) := by decide +kernel
theorem dX1_copyFrom_23 : decode cX1_copyFrom 23 = .ok (.aload_n 1, 1) := by decide +kernel
theorem dX1_copyFrom_24 : decode cX1_copyFrom 24 = .ok (.getfield 28, 3) := by decide +kernel
theorem dX1_copyFrom_27 : decode cX1_copyFrom 27 = .ok (.putfield 28, 3) := by decide +kernel
theorem dX1_copyFrom_30 : decode cX1_copyFrom 30 = .ok (.aload_n 0, 1) := by decide +kernel
theorem dX1_copyFrom_31 : decode cX1_copyFrom 31 = .ok (.aload_n 1, 1) := by decide +kernel
theorem dX1_copyFrom_32 : decode cX1_copyFrom 32 = .ok (.getfield 31, 3) := by decide +kernel
theorem dX1_copyFrom_35 : decode cX1_copyFrom 35 = .ok (.putfield 31, 3) := by decide +kernel
theorem dX1_copyFrom_38 : decode cX1_copyFrom 38 = .ok (.aload_n 0, 1) := by decide +kernel
theorem dX1_copyFrom_39 : decode cX1_copyFrom 39 = .ok (.aload_n 1, 1) := by decide +kernel
theorem dX1_copyFrom_40 : decode cX1_copyFrom 40 = .ok (.getfield 34, 3) := by decide +kernel
theorem dX1_copyFrom_43 : decode cX1_copyFrom 43 = .ok (.putfield 34, 3) := by decide +kernel
theorem dX1_copyFrom_46 : decode cX1_copyFrom 46 = .ok (.aload_n 0, 1) := by decide +kernel
theorem dX1_copyFrom_47 : decode cX1_copyFrom 47 = .ok (.aload_n 1, 1) := by decide +kernel
theorem dX1_copyFrom_48 : decode cX1_copyFrom 48 = .ok (.getfield 37, 3) := by decide +kernel
theorem dX1_copyFrom_51 : decode cX1_copyFrom 51 = .ok (.putfield 37, 3) := by decide +kernel
theorem dX1_copyFrom_54 : decode cX1_copyFrom 54 = .ok (.aload_n 1, 1) := by decide +kernel
theorem dX1_copyFrom_55 : decode cX1_copyFrom 55 = .ok (.getfield 15, 3) := by decide +kernel
theorem dX1_copyFrom_58 : decode cX1_copyFrom 58 = .ok (.iconst 0, 1) := by decide +kernel
theorem dX1_copyFrom_59 : decode cX1_copyFrom 59 = .ok (.aload_n 0, 1) := by decide +kernel
theorem dX1_copyFrom_60 : decode cX1_copyFrom 60 = .ok (.getfield 15, 3) := by decide +kernel
theorem dX1_copyFrom_63 : decode cX1_copyFrom 63 = .ok (.iconst 0, 1) := by decide +kernel
theorem dX1_copyFrom_64 : decode cX1_copyFrom 64 = .ok (.iconst 4, 1) := by decide +kernel
theorem dX1_copyFrom_65 : decode cX1_copyFrom 65 = .ok (.invokestatic 22, 3) := by decide +kernel
theorem dX1_copyFrom_68 : decode cX1_copyFrom 68 = .ok (.return_, 1) := by decide +kernel
theorem dX1_hasCell_0 : decode cX1_hasCell 0 = .ok (.iload_n 1, 1) := by decide +kernel
theorem dX1_hasCell_1 : decode cX1_hasCell 1 = .ok (.iconst 0, 1) := by decide +kernel
theorem dX1_hasCell_2 : decode cX1_hasCell 2 = .ok (.aload_n 0, 1) := by decide +kernel
theorem dX1_hasCell_3 : decode cX1_hasCell 3 = .ok (.getfield 18, 3) := by decide +kernel
theorem dX1_hasCell_6 : decode cX1_hasCell 6 = .ok (.iconst 1, 1) := by decide +kernel
theorem dX1_hasCell_7 : decode cX1_hasCell 7 = .ok (.isub, 1) := by decide +kernel
theorem dX1_hasCell_8 : decode cX1_hasCell 8 = .ok (.invokestatic 40, 3) := by decide +kernel
theorem dX1_hasCell_11 : decode cX1_hasCell 11 = .ok (.ireturn, 1) := by decide +kernel
theorem dX1_hasValve_0 : decode cX1_hasValve 0 = .ok (.iload_n 1, 1) := by decide +kernel
theorem dX1_hasValve_1 : decode cX1_hasValve 1 = .ok (.iconst 0, 1) := by decide +kernel
theorem dX1_hasValve_2 : decode cX1_hasValve 2 = .ok (.aload_n 0, 1) := by decide +kernel
theorem dX1_hasValve_3 : decode cX1_hasValve 3 = .ok (.getfield 37, 3) := by decide +kernel
theorem dX1_hasValve_6 : decode cX1_hasValve 6 = .ok (.iconst 1, 1) := by decide +kernel
theorem dX1_hasValve_7 : decode cX1_hasValve 7 = .ok (.isub, 1) := by decide +kernel
theorem dX1_hasValve_8 : decode cX1_hasValve 8 = .ok (.invokestatic 40, 3) := by decide +kernel
theorem dX1_hasValve_11 : decode cX1_hasValve 11 = .ok (.ireturn, 1) := by decide +kernel
theorem dX1_isGood_0 : decode cX1_isGood 0 = .ok (.iload_n 1, 1) := by decide +kernel
theorem dX1_isGood_1 : decode cX1_isGood 1 = .ok (.sipush 1024, 3) := by decide +kernel
theorem dX1_isGood_4 : decode cX1_isGood 4 = .ok (.invokestatic 46, 3) := by decide +kernel
theorem dX1_isGood_7 : decode cX1_isGood 7 = .ok (.ifCond .eq 36, 3) := by decide +kernel
theorem dX1_isGood_10 : decode cX1_isGood 10 = .ok (.iload_n 1, 1) := by decide +kernel
theorem dX1_isGood_11 : decode cX1_isGood 11 = .ok (.sipush 2048, 3) := by decide +kernel
theorem dX1_isGood_14 : decode cX1_isGood 14 = .ok (.invokestatic 46, 3) := by decide +kernel
theorem dX1_isGood_17 : decode cX1_isGood 17 = .ok (.ifCond .eq 26, 3) := by decide +kernel
theorem dX1_isGood_20 : decode cX1_isGood 20 = .ok (.iload_n 1, 1) := by decide +kernel
theorem dX1_isGood_21 : decode cX1_isGood 21 = .ok (.invokestatic 50, 3) := by decide +kernel
theorem dX1_isGood_24 : decode cX1_isGood 24 = .ok (.aload_n 0, 1) := by decide +kernel
theorem dX1_isGood_25 : decode cX1_isGood 25 = .ok (.getfield 28, 3) := by decide +kernel
theorem dX1_isGood_28 : decode cX1_isGood 28 = .ok (.isub, 1) := by decide +kernel
theorem dX1_isGood_29 : decode cX1_isGood 29 = .ok (.invokestatic 54, 3) := by decide +kernel
theorem dX1_isGood_32 : decode cX1_isGood 32 = .ok (.aload_n 0, 1) := by decide +kernel
theorem dX1_isGood_33 : decode cX1_isGood 33 = .ok (.getfield 31, 3) := by decide +kernel
theorem dX1_isGood_36 : decode cX1_isGood 36 = .ok (.if_icmp .gt 7, 3) := by decide +kernel
theorem dX1_isGood_39 : decode cX1_isGood 39 = .ok (.iconst 1, 1) := by decide +kernel
theorem dX1_isGood_40 : decode cX1_isGood 40 = .ok (.goto 4, 3) := by decide +kernel
theorem dX1_isGood_43 : decode cX1_isGood 43 = .ok (.iconst 0, 1) := by decide +kernel
theorem dX1_isGood_44 : decode cX1_isGood 44 = .ok (.ireturn, 1) := by decide +kernel
theorem dX2_init_0 : decode cX2_init 0 = .ok (.aload_n 0, 1) := by decide +kernel
theorem dX2_init_1 : decode cX2_init 1 = .ok (.invokespecial 3, 3) := by decide +kernel
theorem dX2_init_4 : decode cX2_init 4 = .ok (.aload_n 0, 1) := by decide +kernel
theorem dX2_init_5 : decode cX2_init 5 = .ok (.new 9, 3) := by decide +kernel
theorem dX2_init_8 : decode cX2_init 8 = .ok (.dup, 1) := by decide +kernel
theorem dX2_init_9 : decode cX2_init 9 = .ok (.invokespecial 11, 3) := by decide +kernel
theorem dX2_init_12 : decode cX2_init 12 = .ok (.putfield 12, 3) := by decide +kernel
theorem dX2_init_15 : decode cX2_init 15 = .ok (.aload_n 0, 1) := by decide +kernel
theorem dX2_init_16 : decode cX2_init 16 = .ok (.new 18, 3) := by decide +kernel
theorem dX2_init_19 : decode cX2_init 19 = .ok (.dup, 1) := by decide +kernel
theorem dX2_init_20 : decode cX2_init 20 = .ok (.aload_n 0, 1) := by decide +kernel
theorem dX2_init_21 : decode cX2_init 21 = .ok (.getfield 12, 3) := by decide +kernel
theorem dX2_init_24 : decode cX2_init 24 = .ok (.invokespecial 20, 3) := by decide +kernel
theorem dX2_init_27 : decode cX2_init 27 = .ok (.putfield 23, 3) := by decide +kernel
theorem dX2_init_30 : decode cX2_init 30 = .ok (.return_, 1) := by decide +kernel
theorem dX2_begin_0 : decode cX2_begin 0 = .ok (.aload_n 0, 1) := by decide +kernel
theorem dX2_begin_1 : decode cX2_begin 1 = .ok (.iconst 0, 1) := by decide +kernel
theorem dX2_begin_2 : decode cX2_begin 2 = .ok (.putfield 27, 3) := by decide +kernel
theorem dX2_begin_5 : decode cX2_begin 5 = .ok (.aload_n 0, 1) := by decide +kernel
theorem dX2_begin_6 : decode cX2_begin 6 = .ok (.iconst 0, 1) := by decide +kernel
theorem dX2_begin_7 : decode cX2_begin 7 = .ok (.putfield 31, 3) := by decide +kernel
theorem dX2_begin_10 : decode cX2_begin 10 = .ok (.aload_n 0, 1) := by decide +kernel
theorem dX2_begin_11 : decode cX2_begin 11 = .ok (.getfield 12, 3) := by decide +kernel
theorem dX2_begin_14 : decode cX2_begin 14 = .ok (.iconst 0, 1) := by decide +kernel
theorem dX2_begin_15 : decode cX2_begin 15 = .ok (.putfield 34, 3) := by decide +kernel
theorem dX2_begin_18 : decode cX2_begin 18 = .ok (.aload_n 0, 1) := by decide +kernel
theorem dX2_begin_19 : decode cX2_begin 19 = .ok (.getfield 23, 3) := by decide +kernel
theorem dX2_begin_22 : decode cX2_begin 22 = .ok (.iconst 0, 1) := by decide +kernel
theorem dX2_begin_23 : decode cX2_begin 23 = .ok (.putfield 37, 3) := by decide +kernel
theorem dX2_begin_26 : decode cX2_begin 26 = .ok (.aload_n 0, 1) := by decide +kernel
theorem dX2_begin_27 : decode cX2_begin 27 = .ok (.getfield 23, 3) := by decide +kernel
theorem dX2_begin_30 : decode cX2_begin 30 = .ok (.iconst 0, 1) := by decide +kernel
theorem dX2_begin_31 : decode cX2_begin 31 = .ok (.putfield 40, 3) := by decide +kernel
theorem dX2_begin_34 : decode cX2_begin 34 = .ok (.aload_n 0, 1) := by decide +kernel
theorem dX2_begin_35 : decode cX2_begin 35 = .ok (.getfield 23, 3) := by decide +kernel
theorem dX2_begin_38 : decode cX2_begin 38 = .ok (.iconst 0, 1) := by decide +kernel
theorem dX2_begin_39 : decode cX2_begin 39 = .ok (.putfield 43, 3) := by decide +kernel
theorem dX2_begin_42 : decode cX2_begin 42 = .ok (.return_, 1) := by decide +kernel
theorem dX2_isComplete_0 : decode cX2_isComplete 0 = .ok (.aload_n 0, 1) := by decide +kernel
theorem dX2_isComplete_1 : decode cX2_isComplete 1 = .ok (.getfield 27, 3) := by decide +kernel
theorem dX2_isComplete_4 : decode cX2_isComplete 4 = .ok (.bipush 11, 2) := by decide +kernel
theorem dX2_isComplete_6 : decode cX2_isComplete 6 = .ok (.if_icmp .ne 14, 3) := by decide +kernel
theorem dX2_isComplete_9 : decode cX2_isComplete 9 = .ok (.aload_n 0, 1) := by decide +kernel
theorem dX2_isComplete_10 : decode cX2_isComplete 10 = .ok (.getfield 31, 3) := by decide +kernel
theorem dX2_isComplete_13 : decode cX2_isComplete 13 = .ok (.ifCond .ne 7, 3) := by decide +kernel
theorem dX2_isComplete_16 : decode cX2_isComplete 16 = .ok (.iconst 1, 1) := by decide +kernel
theorem dX2_isComplete_17 : decode cX2_isComplete 17 = .ok (.goto 4, 3) := by decide +kernel
theorem dX2_isComplete_20 : decode cX2_isComplete 20 = .ok (.iconst 0, 1) := by decide +kernel
theorem dX2_isComplete_21 : decode cX2_isComplete 21 = .ok (.ireturn, 1) := by decide +kernel
theorem dX2_takes_0 : decode cX2_takes 0 = .ok (.aload_n 0, 1) := by decide +kernel
theorem dX2_takes_1 : decode cX2_takes 1 = .ok (.getfield 27, 3) := by decide +kernel
theorem dX2_takes_4 : decode cX2_takes 4 = .ok (.bipush 11, 2) := by decide +kernel
theorem dX2_takes_6 : decode cX2_takes 6 = .ok (.if_icmp .ge 21, 3) := by decide +kernel
theorem dX2_takes_9 : decode cX2_takes 9 = .ok (.aload_n 0, 1) := by decide +kernel
theorem dX2_takes_10 : decode cX2_takes 10 = .ok (.iload_n 1, 1) := by decide +kernel
theorem dX2_takes_11 : decode cX2_takes 11 = .ok (.invokevirtual 46, 3) := by decide +kernel
theorem dX2_takes_14 : decode cX2_takes 14 = .ok (.istore_n 2, 1) := by decide +kernel
theorem dX2_takes_15 : decode cX2_takes 15 = .ok (.aload_n 0, 1) := by decide +kernel
theorem dX2_takes_16 : decode cX2_takes 16 = .ok (.dup, 1) := by decide +kernel
theorem dX2_takes_17 : decode cX2_takes 17 = .ok (.getfield 27, 3) := by decide +kernel
theorem dX2_takes_20 : decode cX2_takes 20 = .ok (.iconst 1, 1) := by decide +kernel
theorem dX2_takes_21 : decode cX2_takes 21 = .ok (.iadd, 1) := by decide +kernel
theorem dX2_takes_22 : decode cX2_takes 22 = .ok (.putfield 27, 3) := by decide +kernel
theorem dX2_takes_25 : decode cX2_takes 25 = .ok (.iload_n 2, 1) := by decide +kernel
theorem dX2_takes_26 : decode cX2_takes 26 = .ok (.ireturn, 1) := by decide +kernel
theorem dX2_takes_27 : decode cX2_takes 27 = .ok (.aload_n 0, 1) := by decide +kernel
theorem dX2_takes_28 : decode cX2_takes 28 = .ok (.getfield 31, 3) := by decide +kernel
theorem dX2_takes_31 : decode cX2_takes 31 = .ok (.ifCond .ne 11, 3) := by decide +kernel
theorem dX2_takes_34 : decode cX2_takes 34 = .ok (.aload_n 0, 1) := by decide +kernel
theorem dX2_takes_35 : decode cX2_takes 35 = .ok (.iload_n 1, 1) := by decide +kernel
theorem dX2_takes_36 : decode cX2_takes 36 = .ok (.invokevirtual 50, 3) := by decide +kernel
theorem dX2_takes_39 : decode cX2_takes 39 = .ok (.goto 8, 3) := by decide +kernel
theorem dX2_takes_42 : decode cX2_takes 42 = .ok (.aload_n 0, 1) := by decide +kernel
theorem dX2_takes_43 : decode cX2_takes 43 = .ok (.iload_n 1, 1) := by decide +kernel
theorem dX2_takes_44 : decode cX2_takes 44 = .ok (.invokevirtual 53, 3) := by decide +kernel
theorem dX2_takes_47 : decode cX2_takes 47 = .ok (.ireturn, 1) := by decide +kernel
theorem dX2_isDigit_0 : decode cX2_isDigit 0 = .ok (.iload_n 0, 1) := by decide +kernel
theorem dX2_isDigit_1 : decode cX2_isDigit 1 = .ok (.bipush 48, 2) := by decide +kernel
theorem dX2_isDigit_3 : decode cX2_isDigit 3 = .ok (.bipush 57, 2) := by decide +kernel
theorem dX2_isDigit_5 : decode cX2_isDigit 5 = .ok (.invokestatic 56, 3) := by decide +kernel
theorem dX2_isDigit_8 : decode cX2_isDigit 8 = .ok (.ireturn, 1) := by decide +kernel
theorem dX2_takesInHead_0 : decode cX2_takesInHead 0 = .ok (.aload_n 0, 1) := by decide +kernel
theorem dX2_takesInHead_1 : decode cX2_takesInHead 1 = .ok (.getfield 27, 3) := by decide +kernel
theorem dX2_takesInHead_4 : decode cX2_takesInHead 4 = .ok (.ifCond .ne 15, 3) := by decide +kernel
theorem dX2_takesInHead_7 : decode cX2_takesInHead 7 = .ok (.iload_n 1, 1) := by decide +kernel
theorem dX2_takesInHead_8 : decode cX2_takesInHead 8 = .ok (.bipush 66, 2) := by decide +kernel
theorem dX2_takesInHead_10 : decode cX2_takesInHead 10 = .ok (.if_icmp .ne 7, 3) := by decide +kernel
theorem dX2_takesInHead_13 : decode cX2_takesInHead 13 = .ok (.iconst 1, 1) := by decide +kernel
theorem dX2_takesInHead_14 : decode cX2_takesInHead 14 = .ok (.goto 4, 3) := by decide +kernel
theorem dX2_takesInHead_17 : decode cX2_takesInHead 17 = .ok (.iconst 0, 1) := by decide +kernel
theorem dX2_takesInHead_18 : decode cX2_takesInHead 18 = .ok (.ireturn, 1) := by decide +kernel
theorem dX2_takesInHead_19 : decode cX2_takesInHead 19 = .ok (.iload_n 1, 1) := by decide +kernel
theorem dX2_takesInHead_20 : decode cX2_takesInHead 20 = .ok (.invokestatic 60, 3) := by decide +kernel
theorem dX2_takesInHead_23 : decode cX2_takesInHead 23 = .ok (.ifCond .ne 5, 3) := by decide +kernel
theorem dX2_takesInHead_26 : decode cX2_takesInHead 26 = .ok (.iconst 0, 1) := by decide +kernel
theorem dX2_takesInHead_27 : decode cX2_takesInHead 27 = .ok (.ireturn, 1) := by decide +kernel
theorem dX2_takesInHead_28 : decode cX2_takesInHead 28 = .ok (.iload_n 1, 1) := by decide +kernel
theorem dX2_takesInHead_29 : decode cX2_takesInHead 29 = .ok (.bipush 48, 2) := by decide +kernel
theorem dX2_takesInHead_31 : decode cX2_takesInHead 31 = .ok (.isub, 1) := by decide +kernel
theorem dX2_takesInHead_32 : decode cX2_takesInHead 32 = .ok (.istore_n 2, 1) := by decide +kernel
theorem dX2_takesInHead_33 : decode cX2_takesInHead 33 = .ok (.aload_n 0, 1) := by decide +kernel
theorem dX2_takesInHead_34 : decode cX2_takesInHead 34 = .ok (.getfield 27, 3) := by decide +kernel
theorem dX2_takesInHead_37 : decode cX2_takesInHead 37 = .ok (.tableswitch 123 1 10 #[55, 123, 123, 123, 123, 123, 75, 88, 103, 113], 55) := by decide +kernel
theorem dX2_takesInHead_92 : decode cX2_takesInHead 92 = .ok (.aload_n 0, 1) := by decide +kernel
theorem dX2_takesInHead_93 : decode cX2_takesInHead 93 = .ok (.getfield 12, 3) := by decide +kernel
theorem dX2_takesInHead_96 : decode cX2_takesInHead 96 = .ok (.iload_n 2, 1) := by decide +kernel
theorem dX2_takesInHead_97 : decode cX2_takesInHead 97 = .ok (.putfield 63, 3) := by decide +kernel
theorem dX2_takesInHead_100 : decode cX2_takesInHead 100 = .ok (.iload_n 2, 1) := by decide +kernel
theorem dX2_takesInHead_101 : decode cX2_takesInHead 101 = .ok (.bipush 6, 2) := by decide +kernel
theorem dX2_takesInHead_103 : decode cX2_takesInHead 103 = .ok (.if_icmp .lt 7, 3) := by decide +kernel
theorem dX2_takesInHead_106 : decode cX2_takesInHead 106 = .ok (.iconst 1, 1) := by decide +kernel
theorem dX2_takesInHead_107 : decode cX2_takesInHead 107 = .ok (.goto 4, 3) := by decide +kernel
theorem dX2_takesInHead_110 : decode cX2_takesInHead 110 = .ok (.iconst 0, 1) := by decide +kernel
theorem dX2_takesInHead_111 : decode cX2_takesInHead 111 = .ok (.ireturn, 1) := by decide +kernel
theorem dX2_takesInHead_112 : decode cX2_takesInHead 112 = .ok (.aload_n 0, 1) := by decide +kernel
theorem dX2_takesInHead_113 : decode cX2_takesInHead 113 = .ok (.getfield 12, 3) := by decide +kernel
theorem dX2_takesInHead_116 : decode cX2_takesInHead 116 = .ok (.iload_n 2, 1) := by decide +kernel
theorem dX2_takesInHead_117 : decode cX2_takesInHead 117 = .ok (.bipush 10, 2) := by decide +kernel
theorem dX2_takesInHead_119 : decode cX2_takesInHead 119 = .ok (.imul, 1) := by decide +kernel
theorem dX2_takesInHead_120 : decode cX2_takesInHead 120 = .ok (.putfield 66, 3) := by decide +kernel
theorem dX2_takesInHead_123 : decode cX2_takesInHead 123 = .ok (.iconst 1, 1) := by decide +kernel
theorem dX2_takesInHead_124 : decode cX2_takesInHead 124 = .ok (.ireturn, 1) := by decide +kernel
theorem dX2_takesInHead_125 : decode cX2_takesInHead 125 = .ok (.aload_n 0, 1) := by decide +kernel
theorem dX2_takesInHead_126 : decode cX2_takesInHead 126 = .ok (.getfield 12, 3) := by decide +kernel
theorem dX2_takesInHead_129 : decode cX2_takesInHead 129 = .ok (.dup, 1) := by decide +kernel
theorem dX2_takesInHead_130 : decode cX2_takesInHead 130 = .ok (.getfield 66, 3) := by decide +kernel
theorem dX2_takesInHead_133 : decode cX2_takesInHead 133 = .ok (.iload_n 2, 1) := by decide +kernel
theorem dX2_takesInHead_134 : decode cX2_takesInHead 134 = .ok (.iadd, 1) := by decide +kernel
theorem dX2_takesInHead_135 : decode cX2_takesInHead 135 = .ok (.putfield 66, 3) := by decide +kernel
theorem dX2_takesInHead_138 : decode cX2_takesInHead 138 = .ok (.iconst 1, 1) := by decide +kernel
theorem dX2_takesInHead_139 : decode cX2_takesInHead 139 = .ok (.ireturn, 1) := by decide +kernel
theorem dX2_takesInHead_140 : decode cX2_takesInHead 140 = .ok (.aload_n 0, 1) := by decide +kernel
theorem dX2_takesInHead_141 : decode cX2_takesInHead 141 = .ok (.getfield 12, 3) := by decide +kernel
theorem dX2_takesInHead_144 : decode cX2_takesInHead 144 = .ok (.iload_n 2, 1) := by decide +kernel
theorem dX2_takesInHead_145 : decode cX2_takesInHead 145 = .ok (.putfield 69, 3) := by decide +kernel
theorem dX2_takesInHead_148 : decode cX2_takesInHead 148 = .ok (.iconst 1, 1) := by decide +kernel
theorem dX2_takesInHead_149 : decode cX2_takesInHead 149 = .ok (.ireturn, 1) := by decide +kernel
theorem dX2_takesInHead_150 : decode cX2_takesInHead 150 = .ok (.aload_n 0, 1) := by decide +kernel
theorem dX2_takesInHead_151 : decode cX2_takesInHead 151 = .ok (.getfield 12, 3) := by decide +kernel
theorem dX2_takesInHead_154 : decode cX2_takesInHead 154 = .ok (.iload_n 2, 1) := by decide +kernel
theorem dX2_takesInHead_155 : decode cX2_takesInHead 155 = .ok (.putfield 72, 3) := by decide +kernel
theorem dX2_takesInHead_158 : decode cX2_takesInHead 158 = .ok (.iconst 1, 1) := by decide +kernel
theorem dX2_takesInHead_159 : decode cX2_takesInHead 159 = .ok (.ireturn, 1) := by decide +kernel
theorem dX2_takesInHead_160 : decode cX2_takesInHead 160 = .ok (.aload_n 0, 1) := by decide +kernel
theorem dX2_takesInHead_161 : decode cX2_takesInHead 161 = .ok (.aload_n 0, 1) := by decide +kernel
theorem dX2_takesInHead_162 : decode cX2_takesInHead 162 = .ok (.getfield 27, 3) := by decide +kernel
theorem dX2_takesInHead_165 : decode cX2_takesInHead 165 = .ok (.iconst 2, 1) := by decide +kernel
theorem dX2_takesInHead_166 : decode cX2_takesInHead 166 = .ok (.isub, 1) := by decide +kernel
theorem dX2_takesInHead_167 : decode cX2_takesInHead 167 = .ok (.iload_n 2, 1) := by decide +kernel
theorem dX2_takesInHead_168 : decode cX2_takesInHead 168 = .ok (.invokevirtual 75, 3) := by decide +kernel
theorem dX2_takesInHead_171 : decode cX2_takesInHead 171 = .ok (.ireturn, 1) := by decide +kernel
theorem dX2_takesStation_0 : decode cX2_takesStation 0 = .ok (.iload_n 1, 1) := by decide +kernel
theorem dX2_takesStation_1 : decode cX2_takesStation 1 = .ok (.ifCond .ne 7, 3) := by decide +kernel
theorem dX2_takesStation_4 : decode cX2_takesStation 4 = .ok (.iconst 1, 1) := by decide +kernel
theorem dX2_takesStation_5 : decode cX2_takesStation 5 = .ok (.goto 16, 3) := by decide +kernel
theorem dX2_takesStation_8 : decode cX2_takesStation 8 = .ok (.aload_n 0, 1) := by decide +kernel
theorem dX2_takesStation_9 : decode cX2_takesStation 9 = .ok (.getfield 12, 3) := by decide +kernel
theorem dX2_takesStation_12 : decode cX2_takesStation 12 = .ok (.getfield 79, 3) := by decide +kernel
theorem dX2_takesStation_15 : decode cX2_takesStation 15 = .ok (.iload_n 1, 1) := by decide +kernel
theorem dX2_takesStation_16 : decode cX2_takesStation 16 = .ok (.iconst 1, 1) := by decide +kernel
theorem dX2_takesStation_17 : decode cX2_takesStation 17 = .ok (.isub, 1) := by decide +kernel
theorem dX2_takesStation_18 : decode cX2_takesStation 18 = .ok (.iaload, 1) := by decide +kernel
theorem dX2_takesStation_19 : decode cX2_takesStation 19 = .ok (.iconst 1, 1) := by decide +kernel
theorem dX2_takesStation_20 : decode cX2_takesStation 20 = .ok (.iadd, 1) := by decide +kernel
theorem dX2_takesStation_21 : decode cX2_takesStation 21 = .ok (.istore_n 3, 1) := by decide +kernel
theorem dX2_takesStation_22 : decode cX2_takesStation 22 = .ok (.aload_n 0, 1) := by decide +kernel
theorem dX2_takesStation_23 : decode cX2_takesStation 23 = .ok (.getfield 12, 3) := by decide +kernel
theorem dX2_takesStation_26 : decode cX2_takesStation 26 = .ok (.getfield 63, 3) := by decide +kernel
theorem dX2_takesStation_29 : decode cX2_takesStation 29 = .ok (.iconst 5, 1) := by decide +kernel
theorem dX2_takesStation_30 : decode cX2_takesStation 30 = .ok (.isub, 1) := by decide +kernel
theorem dX2_takesStation_31 : decode cX2_takesStation 31 = .ok (.iload_n 1, 1) := by decide +kernel
theorem dX2_takesStation_32 : decode cX2_takesStation 32 = .ok (.iadd, 1) := by decide +kernel
theorem dX2_takesStation_33 : decode cX2_takesStation 33 = .ok (.istore 4, 2) := by decide +kernel
theorem dX2_takesStation_35 : decode cX2_takesStation 35 = .ok (.aload_n 0, 1) := by decide +kernel
theorem dX2_takesStation_36 : decode cX2_takesStation 36 = .ok (.getfield 12, 3) := by decide +kernel
theorem dX2_takesStation_39 : decode cX2_takesStation 39 = .ok (.getfield 79, 3) := by decide +kernel
theorem dX2_takesStation_42 : decode cX2_takesStation 42 = .ok (.iload_n 1, 1) := by decide +kernel
theorem dX2_takesStation_43 : decode cX2_takesStation 43 = .ok (.iload_n 2, 1) := by decide +kernel
theorem dX2_takesStation_44 : decode cX2_takesStation 44 = .ok (.iastore, 1) := by decide +kernel
theorem dX2_takesStation_45 : decode cX2_takesStation 45 = .ok (.iload_n 2, 1) := by decide +kernel
theorem dX2_takesStation_46 : decode cX2_takesStation 46 = .ok (.iload_n 3, 1) := by decide +kernel
theorem dX2_takesStation_47 : decode cX2_takesStation 47 = .ok (.iload 4, 2) := by decide +kernel
theorem dX2_takesStation_49 : decode cX2_takesStation 49 = .ok (.invokestatic 56, 3) := by decide +kernel
theorem dX2_takesStation_52 : decode cX2_takesStation 52 = .ok (.ireturn, 1) := by decide +kernel
theorem dX2_takesPart_0 : decode cX2_takesPart 0 = .ok (.iload_n 1, 1) := by decide +kernel
theorem dX2_takesPart_1 : decode cX2_takesPart 1 = .ok (.lookupswitch 145 #[(45, 139), (98, 127), (99, 81), (108, 104), (118, 59), (120, 133)], 59) := by decide +kernel
theorem dX2_takesPart_60 : decode cX2_takesPart 60 = .ok (.aload_n 0, 1) := by decide +kernel
theorem dX2_takesPart_61 : decode cX2_takesPart 61 = .ok (.iload_n 1, 1) := by decide +kernel
theorem dX2_takesPart_62 : decode cX2_takesPart 62 = .ok (.aload_n 0, 1) := by decide +kernel
theorem dX2_takesPart_63 : decode cX2_takesPart 63 = .ok (.getfield 12, 3) := by decide +kernel
theorem dX2_takesPart_66 : decode cX2_takesPart 66 = .ok (.getfield 34, 3) := by decide +kernel
theorem dX2_takesPart_69 : decode cX2_takesPart 69 = .ok (.iconst 4, 1) := by decide +kernel
theorem dX2_takesPart_70 : decode cX2_takesPart 70 = .ok (.if_icmp .ge 7, 3) := by decide +kernel
theorem dX2_takesPart_73 : decode cX2_takesPart 73 = .ok (.iconst 1, 1) := by decide +kernel
theorem dX2_takesPart_74 : decode cX2_takesPart 74 = .ok (.goto 4, 3) := by decide +kernel
theorem dX2_takesPart_77 : decode cX2_takesPart 77 = .ok (.iconst 0, 1) := by decide +kernel
theorem dX2_takesPart_78 : decode cX2_takesPart 78 = .ok (.invokevirtual 83, 3) := by decide +kernel
theorem dX2_takesPart_81 : decode cX2_takesPart 81 = .ok (.ireturn, 1) := by decide +kernel
theorem dX2_takesPart_82 : decode cX2_takesPart 82 = .ok (.aload_n 0, 1) := by decide +kernel
theorem dX2_takesPart_83 : decode cX2_takesPart 83 = .ok (.iload_n 1, 1) := by decide +kernel
theorem dX2_takesPart_84 : decode cX2_takesPart 84 = .ok (.aload_n 0, 1) := by decide +kernel
theorem dX2_takesPart_85 : decode cX2_takesPart 85 = .ok (.getfield 23, 3) := by decide +kernel
theorem dX2_takesPart_88 : decode cX2_takesPart 88 = .ok (.getfield 37, 3) := by decide +kernel
theorem dX2_takesPart_91 : decode cX2_takesPart 91 = .ok (.bipush 99, 2) := by decide +kernel
theorem dX2_takesPart_93 : decode cX2_takesPart 93 = .ok (.if_icmp .ge 7, 3) := by decide +kernel
theorem dX2_takesPart_96 : decode cX2_takesPart 96 = .ok (.iconst 1, 1) := by decide +kernel
theorem dX2_takesPart_97 : decode cX2_takesPart 97 = .ok (.goto 4, 3) := by decide +kernel
theorem dX2_takesPart_100 : decode cX2_takesPart 100 = .ok (.iconst 0, 1) := by decide +kernel
theorem dX2_takesPart_101 : decode cX2_takesPart 101 = .ok (.invokevirtual 83, 3) := by decide +kernel
theorem dX2_takesPart_104 : decode cX2_takesPart 104 = .ok (.ireturn, 1) := by decide +kernel
theorem dX2_takesPart_105 : decode cX2_takesPart 105 = .ok (.aload_n 0, 1) := by decide +kernel
theorem dX2_takesPart_106 : decode cX2_takesPart 106 = .ok (.iload_n 1, 1) := by decide +kernel
theorem dX2_takesPart_107 : decode cX2_takesPart 107 = .ok (.aload_n 0, 1) := by decide +kernel
theorem dX2_takesPart_108 : decode cX2_takesPart 108 = .ok (.getfield 23, 3) := by decide +kernel
theorem dX2_takesPart_111 : decode cX2_takesPart 111 = .ok (.getfield 40, 3) := by decide +kernel
theorem dX2_takesPart_114 : decode cX2_takesPart 114 = .ok (.bipush 99, 2) := by decide +kernel
theorem dX2_takesPart_116 : decode cX2_takesPart 116 = .ok (.if_icmp .ge 7, 3) := by decide +kernel
theorem dX2_takesPart_119 : decode cX2_takesPart 119 = .ok (.iconst 1, 1) := by decide +kernel
theorem dX2_takesPart_120 : decode cX2_takesPart 120 = .ok (.goto 4, 3) := by decide +kernel
theorem dX2_takesPart_123 : decode cX2_takesPart 123 = .ok (.iconst 0, 1) := by decide +kernel
theorem dX2_takesPart_124 : decode cX2_takesPart 124 = .ok (.invokevirtual 83, 3) := by decide +kernel
theorem dX2_takesPart_127 : decode cX2_takesPart 127 = .ok (.ireturn, 1) := by decide +kernel
theorem dX2_takesPart_128 : decode cX2_takesPart 128 = .ok (.aload_n 0, 1) := by decide +kernel
theorem dX2_takesPart_129 : decode cX2_takesPart 129 = .ok (.iconst 1, 1) := by decide +kernel
theorem dX2_takesPart_130 : decode cX2_takesPart 130 = .ok (.invokevirtual 87, 3) := by decide +kernel
theorem dX2_takesPart_133 : decode cX2_takesPart 133 = .ok (.ireturn, 1) := by decide +kernel
theorem dX2_takesPart_134 : decode cX2_takesPart 134 = .ok (.aload_n 0, 1) := by decide +kernel
theorem dX2_takesPart_135 : decode cX2_takesPart 135 = .ok (.iconst 2, 1) := by decide +kernel
theorem dX2_takesPart_136 : decode cX2_takesPart 136 = .ok (.invokevirtual 87, 3) := by decide +kernel
theorem dX2_takesPart_139 : decode cX2_takesPart 139 = .ok (.ireturn, 1) := by decide +kernel
theorem dX2_takesPart_140 : decode cX2_takesPart 140 = .ok (.aload_n 0, 1) := by decide +kernel
theorem dX2_takesPart_141 : decode cX2_takesPart 141 = .ok (.iconst 0, 1) := by decide +kernel
theorem dX2_takesPart_142 : decode cX2_takesPart 142 = .ok (.invokevirtual 87, 3) := by decide +kernel
theorem dX2_takesPart_145 : decode cX2_takesPart 145 = .ok (.ireturn, 1) := by decide +kernel
theorem dX2_takesPart_146 : decode cX2_takesPart 146 = .ok (.iconst 0, 1) := by decide +kernel
theorem dX2_takesPart_147 : decode cX2_takesPart 147 = .ok (.ireturn, 1) := by decide +kernel
theorem dX2_opensPart_0 : decode cX2_opensPart 0 = .ok (.aload_n 0, 1) := by decide +kernel
theorem dX2_opensPart_1 : decode cX2_opensPart 1 = .ok (.iload_n 1, 1) := by decide +kernel
theorem dX2_opensPart_2 : decode cX2_opensPart 2 = .ok (.putfield 31, 3) := by decide +kernel
theorem dX2_opensPart_5 : decode cX2_opensPart 5 = .ok (.aload_n 0, 1) := by decide +kernel
theorem dX2_opensPart_6 : decode cX2_opensPart 6 = .ok (.iconst 0, 1) := by decide +kernel
theorem dX2_opensPart_7 : decode cX2_opensPart 7 = .ok (.putfield 90, 3) := by decide +kernel
theorem dX2_opensPart_10 : decode cX2_opensPart 10 = .ok (.aload_n 0, 1) := by decide +kernel
theorem dX2_opensPart_11 : decode cX2_opensPart 11 = .ok (.iconst 0, 1) := by decide +kernel
theorem dX2_opensPart_12 : decode cX2_opensPart 12 = .ok (.putfield 93, 3) := by decide +kernel
theorem dX2_opensPart_15 : decode cX2_opensPart 15 = .ok (.iload_n 2, 1) := by decide +kernel
theorem dX2_opensPart_16 : decode cX2_opensPart 16 = .ok (.ireturn, 1) := by decide +kernel
theorem dX2_takesEntry_0 : decode cX2_takesEntry 0 = .ok (.aload_n 0, 1) := by decide +kernel
theorem dX2_takesEntry_1 : decode cX2_takesEntry 1 = .ok (.getfield 23, 3) := by decide +kernel
theorem dX2_takesEntry_4 : decode cX2_takesEntry 4 = .ok (.getfield 43, 3) := by decide +kernel
theorem dX2_takesEntry_7 : decode cX2_takesEntry 7 = .ok (.bipush 24, 2) := by decide +kernel
theorem dX2_takesEntry_9 : decode cX2_takesEntry 9 = .ok (.if_icmp .ge 7, 3) := by decide +kernel
theorem dX2_takesEntry_12 : decode cX2_takesEntry 12 = .ok (.iconst 1, 1) := by decide +kernel
theorem dX2_takesEntry_13 : decode cX2_takesEntry 13 = .ok (.goto 4, 3) := by decide +kernel
theorem dX2_takesEntry_16 : decode cX2_takesEntry 16 = .ok (.iconst 0, 1) := by decide +kernel
theorem dX2_takesEntry_17 : decode cX2_takesEntry 17 = .ok (.istore_n 2, 1) := by decide +kernel
theorem dX2_takesEntry_18 : decode cX2_takesEntry 18 = .ok (.aload_n 0, 1) := by decide +kernel
theorem dX2_takesEntry_19 : decode cX2_takesEntry 19 = .ok (.getfield 23, 3) := by decide +kernel
theorem dX2_takesEntry_22 : decode cX2_takesEntry 22 = .ok (.iload_n 1, 1) := by decide +kernel
theorem dX2_takesEntry_23 : decode cX2_takesEntry 23 = .ok (.invokevirtual 96, 3) := by decide +kernel
theorem dX2_takesEntry_26 : decode cX2_takesEntry 26 = .ok (.iload_n 2, 1) := by decide +kernel
theorem dX2_takesEntry_27 : decode cX2_takesEntry 27 = .ok (.ireturn, 1) := by decide +kernel
theorem dX2_takesDigit_0 : decode cX2_takesDigit 0 = .ok (.iload_n 1, 1) := by decide +kernel
theorem dX2_takesDigit_1 : decode cX2_takesDigit 1 = .ok (.invokestatic 60, 3) := by decide +kernel
theorem dX2_takesDigit_4 : decode cX2_takesDigit 4 = .ok (.ifCond .ne 5, 3) := by decide +kernel
theorem dX2_takesDigit_7 : decode cX2_takesDigit 7 = .ok (.iconst 0, 1) := by decide +kernel
theorem dX2_takesDigit_8 : decode cX2_takesDigit 8 = .ok (.ireturn, 1) := by decide +kernel
theorem dX2_takesDigit_9 : decode cX2_takesDigit 9 = .ok (.aload_n 0, 1) := by decide +kernel
theorem dX2_takesDigit_10 : decode cX2_takesDigit 10 = .ok (.dup, 1) := by decide +kernel
theorem dX2_takesDigit_11 : decode cX2_takesDigit 11 = .ok (.getfield 90, 3) := by decide +kernel
theorem dX2_takesDigit_14 : decode cX2_takesDigit 14 = .ok (.iconst 1, 1) := by decide +kernel
theorem dX2_takesDigit_15 : decode cX2_takesDigit 15 = .ok (.iadd, 1) := by decide +kernel
theorem dX2_takesDigit_16 : decode cX2_takesDigit 16 = .ok (.putfield 90, 3) := by decide +kernel
theorem dX2_takesDigit_19 : decode cX2_takesDigit 19 = .ok (.aload_n 0, 1) := by decide +kernel
theorem dX2_takesDigit_20 : decode cX2_takesDigit 20 = .ok (.aload_n 0, 1) := by decide +kernel
theorem dX2_takesDigit_21 : decode cX2_takesDigit 21 = .ok (.getfield 93, 3) := by decide +kernel
theorem dX2_takesDigit_24 : decode cX2_takesDigit 24 = .ok (.bipush 10, 2) := by decide +kernel
theorem dX2_takesDigit_26 : decode cX2_takesDigit 26 = .ok (.imul, 1) := by decide +kernel
theorem dX2_takesDigit_27 : decode cX2_takesDigit 27 = .ok (.iload_n 1, 1) := by decide +kernel
theorem dX2_takesDigit_28 : decode cX2_takesDigit 28 = .ok (.iadd, 1) := by decide +kernel
theorem dX2_takesDigit_29 : decode cX2_takesDigit 29 = .ok (.bipush 48, 2) := by decide +kernel
theorem dX2_takesDigit_31 : decode cX2_takesDigit 31 = .ok (.isub, 1) := by decide +kernel
theorem dX2_takesDigit_32 : decode cX2_takesDigit 32 = .ok (.putfield 93, 3) := by decide +kernel
theorem dX2_takesDigit_35 : decode cX2_takesDigit 35 = .ok (.aload_n 0, 1) := by decide +kernel
theorem dX2_takesDigit_36 : decode cX2_takesDigit 36 = .ok (.getfield 31, 3) := by decide +kernel
theorem dX2_takesDigit_39 : decode cX2_takesDigit 39 = .ok (.bipush 118, 2) := by decide +kernel
theorem dX2_takesDigit_41 : decode cX2_takesDigit 41 = .ok (.if_icmp .ne 10, 3) := by decide +kernel
theorem dX2_takesDigit_44 : decode cX2_takesDigit 44 = .ok (.aload_n 0, 1) := by decide +kernel
theorem dX2_takesDigit_45 : decode cX2_takesDigit 45 = .ok (.invokevirtual 100, 3) := by decide +kernel
theorem dX2_takesDigit_48 : decode cX2_takesDigit 48 = .ok (.goto 21, 3) := by decide +kernel
theorem dX2_takesDigit_51 : decode cX2_takesDigit 51 = .ok (.aload_n 0, 1) := by decide +kernel
theorem dX2_takesDigit_52 : decode cX2_takesDigit 52 = .ok (.aload_n 0, 1) := by decide +kernel
theorem dX2_takesDigit_53 : decode cX2_takesDigit 53 = .ok (.getfield 31, 3) := by decide +kernel
theorem dX2_takesDigit_56 : decode cX2_takesDigit 56 = .ok (.bipush 108, 2) := by decide +kernel
theorem dX2_takesDigit_58 : decode cX2_takesDigit 58 = .ok (.if_icmp .ne 7, 3) := by decide +kernel
theorem dX2_takesDigit_61 : decode cX2_takesDigit 61 = .ok (.iconst 1, 1) := by decide +kernel
theorem dX2_takesDigit_62 : decode cX2_takesDigit 62 = .ok (.goto 4, 3) := by decide +kernel
theorem dX2_takesDigit_65 : decode cX2_takesDigit 65 = .ok (.iconst 0, 1) := by decide +kernel
theorem dX2_takesDigit_66 : decode cX2_takesDigit 66 = .ok (.invokevirtual 104, 3) := by decide +kernel
theorem dX2_takesDigit_69 : decode cX2_takesDigit 69 = .ok (.ireturn, 1) := by decide +kernel
theorem dX2_takesValve_0 : decode cX2_takesValve 0 = .ok (.aload_n 0, 1) := by decide +kernel
theorem dX2_takesValve_1 : decode cX2_takesValve 1 = .ok (.getfield 90, 3) := by decide +kernel
theorem dX2_takesValve_4 : decode cX2_takesValve 4 = .ok (.iconst 3, 1) := by decide +kernel
theorem dX2_takesValve_5 : decode cX2_takesValve 5 = .ok (.if_icmp .ne 78, 3) := by decide +kernel
theorem dX2_takesValve_8 : decode cX2_takesValve 8 = .ok (.aload_n 0, 1) := by decide +kernel
theorem dX2_takesValve_9 : decode cX2_takesValve 9 = .ok (.getfield 12, 3) := by decide +kernel
theorem dX2_takesValve_12 : decode cX2_takesValve 12 = .ok (.getfield 34, 3) := by decide +kernel
theorem dX2_takesValve_15 : decode cX2_takesValve 15 = .ok (.iconst 4, 1) := by decide +kernel
theorem dX2_takesValve_16 : decode cX2_takesValve 16 = .ok (.if_icmp .ge 67, 3) := by decide +kernel
theorem dX2_takesValve_19 : decode cX2_takesValve 19 = .ok (.aload_n 0, 1) := by decide +kernel
theorem dX2_takesValve_20 : decode cX2_takesValve 20 = .ok (.getfield 23, 3) := by decide +kernel
theorem dX2_takesValve_23 : decode cX2_takesValve 23 = .ok (.getfield 108, 3) := by decide +kernel
theorem dX2_takesValve_26 : decode cX2_takesValve 26 = .ok (.aload_n 0, 1) := by decide +kernel
theorem dX2_takesValve_27 : decode cX2_takesValve 27 = .ok (.getfield 12, 3) := by decide +kernel
theorem dX2_takesValve_30 : decode cX2_takesValve 30 = .ok (.getfield 34, 3) := by decide +kernel
theorem dX2_takesValve_33 : decode cX2_takesValve 33 = .ok (.aload_n 0, 1) := by decide +kernel
theorem dX2_takesValve_34 : decode cX2_takesValve 34 = .ok (.getfield 93, 3) := by decide +kernel
theorem dX2_takesValve_37 : decode cX2_takesValve 37 = .ok (.bipush 10, 2) := by decide +kernel
theorem dX2_takesValve_39 : decode cX2_takesValve 39 = .ok (.idiv, 1) := by decide +kernel
theorem dX2_takesValve_40 : decode cX2_takesValve 40 = .ok (.iastore, 1) := by decide +kernel
theorem dX2_takesValve_41 : decode cX2_takesValve 41 = .ok (.aload_n 0, 1) := by decide +kernel
theorem dX2_takesValve_42 : decode cX2_takesValve 42 = .ok (.getfield 12, 3) := by decide +kernel
theorem dX2_takesValve_45 : decode cX2_takesValve 45 = .ok (.getfield 111, 3) := by decide +kernel
theorem dX2_takesValve_48 : decode cX2_takesValve 48 = .ok (.aload_n 0, 1) := by decide +kernel
theorem dX2_takesValve_49 : decode cX2_takesValve 49 = .ok (.getfield 12, 3) := by decide +kernel
theorem dX2_takesValve_52 : decode cX2_takesValve 52 = .ok (.getfield 34, 3) := by decide +kernel
theorem dX2_takesValve_55 : decode cX2_takesValve 55 = .ok (.aload_n 0, 1) := by decide +kernel
theorem dX2_takesValve_56 : decode cX2_takesValve 56 = .ok (.getfield 93, 3) := by decide +kernel
theorem dX2_takesValve_59 : decode cX2_takesValve 59 = .ok (.bipush 10, 2) := by decide +kernel
theorem dX2_takesValve_61 : decode cX2_takesValve 61 = .ok (.irem, 1) := by decide +kernel
theorem dX2_takesValve_62 : decode cX2_takesValve 62 = .ok (.iconst 4, 1) := by decide +kernel
theorem dX2_takesValve_63 : decode cX2_takesValve 63 = .ok (.isub, 1) := by decide +kernel
theorem dX2_takesValve_64 : decode cX2_takesValve 64 = .ok (.iastore, 1) := by decide +kernel
theorem dX2_takesValve_65 : decode cX2_takesValve 65 = .ok (.aload_n 0, 1) := by decide +kernel
theorem dX2_takesValve_66 : decode cX2_takesValve 66 = .ok (.getfield 12, 3) := by decide +kernel
theorem dX2_takesValve_69 : decode cX2_takesValve 69 = .ok (.dup, 1) := by decide +kernel
theorem dX2_takesValve_70 : decode cX2_takesValve 70 = .ok (.getfield 34, 3) := by decide +kernel
theorem dX2_takesValve_73 : decode cX2_takesValve 73 = .ok (.iconst 1, 1) := by decide +kernel
theorem dX2_takesValve_74 : decode cX2_takesValve 74 = .ok (.iadd, 1) := by decide +kernel
theorem dX2_takesValve_75 : decode cX2_takesValve 75 = .ok (.putfield 34, 3) := by decide +kernel
theorem dX2_takesValve_78 : decode cX2_takesValve 78 = .ok (.aload_n 0, 1) := by decide +kernel
theorem dX2_takesValve_79 : decode cX2_takesValve 79 = .ok (.iconst 0, 1) := by decide +kernel
theorem dX2_takesValve_80 : decode cX2_takesValve 80 = .ok (.putfield 31, 3) := by decide +kernel
theorem dX2_takesValve_83 : decode cX2_takesValve 83 = .ok (.iconst 1, 1) := by decide +kernel
theorem dX2_takesValve_84 : decode cX2_takesValve 84 = .ok (.ireturn, 1) := by decide +kernel
theorem dX2_takesStock_0 : decode cX2_takesStock 0 = .ok (.bipush 99, 2) := by decide +kernel
theorem dX2_takesStock_2 : decode cX2_takesStock 2 = .ok (.aload_n 0, 1) := by decide +kernel
theorem dX2_takesStock_3 : decode cX2_takesStock 3 = .ok (.getfield 23, 3) := by decide +kernel
theorem dX2_takesStock_6 : decode cX2_takesStock 6 = .ok (.iload_n 1, 1) := by decide +kernel
theorem dX2_takesStock_7 : decode cX2_takesStock 7 = .ok (.invokevirtual 114, 3) := by decide +kernel
theorem dX2_takesStock_10 : decode cX2_takesStock 10 = .ok (.isub, 1) := by decide +kernel
theorem dX2_takesStock_11 : decode cX2_takesStock 11 = .ok (.istore_n 2, 1) := by decide +kernel
theorem dX2_takesStock_12 : decode cX2_takesStock 12 = .ok (.aload_n 0, 1) := by decide +kernel
theorem dX2_takesStock_13 : decode cX2_takesStock 13 = .ok (.getfield 90, 3) := by decide +kernel
theorem dX2_takesStock_16 : decode cX2_takesStock 16 = .ok (.iconst 1, 1) := by decide +kernel
theorem dX2_takesStock_17 : decode cX2_takesStock 17 = .ok (.if_icmp .ne 20, 3) := by decide +kernel
theorem dX2_takesStock_20 : decode cX2_takesStock 20 = .ok (.aload_n 0, 1) := by decide +kernel
theorem dX2_takesStock_21 : decode cX2_takesStock 21 = .ok (.getfield 93, 3) := by decide +kernel
theorem dX2_takesStock_24 : decode cX2_takesStock 24 = .ok (.bipush 10, 2) := by decide +kernel
theorem dX2_takesStock_26 : decode cX2_takesStock 26 = .ok (.imul, 1) := by decide +kernel
theorem dX2_takesStock_27 : decode cX2_takesStock 27 = .ok (.iload_n 2, 1) := by decide +kernel
theorem dX2_takesStock_28 : decode cX2_takesStock 28 = .ok (.if_icmp .gt 7, 3) := by decide +kernel
theorem dX2_takesStock_31 : decode cX2_takesStock 31 = .ok (.iconst 1, 1) := by decide +kernel
theorem dX2_takesStock_32 : decode cX2_takesStock 32 = .ok (.goto 4, 3) := by decide +kernel
theorem dX2_takesStock_35 : decode cX2_takesStock 35 = .ok (.iconst 0, 1) := by decide +kernel
theorem dX2_takesStock_36 : decode cX2_takesStock 36 = .ok (.ireturn, 1) := by decide +kernel
theorem dX2_takesStock_37 : decode cX2_takesStock 37 = .ok (.aload_n 0, 1) := by decide +kernel
theorem dX2_takesStock_38 : decode cX2_takesStock 38 = .ok (.getfield 93, 3) := by decide +kernel
theorem dX2_takesStock_41 : decode cX2_takesStock 41 = .ok (.iconst 1, 1) := by decide +kernel
theorem dX2_takesStock_42 : decode cX2_takesStock 42 = .ok (.iload_n 2, 1) := by decide +kernel
theorem dX2_takesStock_43 : decode cX2_takesStock 43 = .ok (.invokestatic 56, 3) := by decide +kernel
theorem dX2_takesStock_46 : decode cX2_takesStock 46 = .ok (.ifCond .ne 5, 3) := by decide +kernel
theorem dX2_takesStock_49 : decode cX2_takesStock 49 = .ok (.iconst 0, 1) := by decide +kernel
theorem dX2_takesStock_50 : decode cX2_takesStock 50 = .ok (.ireturn, 1) := by decide +kernel
theorem dX2_takesStock_51 : decode cX2_takesStock 51 = .ok (.aload_n 0, 1) := by decide +kernel
theorem dX2_takesStock_52 : decode cX2_takesStock 52 = .ok (.getfield 23, 3) := by decide +kernel
theorem dX2_takesStock_55 : decode cX2_takesStock 55 = .ok (.iload_n 1, 1) := by decide +kernel
theorem dX2_takesStock_56 : decode cX2_takesStock 56 = .ok (.aload_n 0, 1) := by decide +kernel
theorem dX2_takesStock_57 : decode cX2_takesStock 57 = .ok (.getfield 93, 3) := by decide +kernel
theorem dX2_takesStock_60 : decode cX2_takesStock 60 = .ok (.invokevirtual 118, 3) := by decide +kernel
theorem dX2_takesStock_63 : decode cX2_takesStock 63 = .ok (.aload_n 0, 1) := by decide +kernel
theorem dX2_takesStock_64 : decode cX2_takesStock 64 = .ok (.iconst 0, 1) := by decide +kernel
theorem dX2_takesStock_65 : decode cX2_takesStock 65 = .ok (.putfield 31, 3) := by decide +kernel
theorem dX2_takesStock_68 : decode cX2_takesStock 68 = .ok (.iconst 1, 1) := by decide +kernel
theorem dX2_takesStock_69 : decode cX2_takesStock 69 = .ok (.ireturn, 1) := by decide +kernel
theorem dX3_init_0 : decode cX3_init 0 = .ok (.aload_n 0, 1) := by decide +kernel
theorem dX3_init_1 : decode cX3_init 1 = .ok (.invokespecial 3, 3) := by decide +kernel
theorem dX3_init_4 : decode cX3_init 4 = .ok (.aload_n 0, 1) := by decide +kernel
theorem dX3_init_5 : decode cX3_init 5 = .ok (.bipush 9, 2) := by decide +kernel
theorem dX3_init_7 : decode cX3_init 7 = .ok (.newarray .int, 2) := by decide +kernel
theorem dX3_init_9 : decode cX3_init 9 = .ok (.putfield 9, 3) := by decide +kernel
theorem dX3_init_12 : decode cX3_init 12 = .ok (.aload_n 0, 1) := by decide +kernel
theorem dX3_init_13 : decode cX3_init 13 = .ok (.bipush 9, 2) := by decide +kernel
theorem dX3_init_15 : decode cX3_init 15 = .ok (.newarray .int, 2) := by decide +kernel
theorem dX3_init_17 : decode cX3_init 17 = .ok (.putfield 15, 3) := by decide +kernel
theorem dX3_init_20 : decode cX3_init 20 = .ok (.aload_n 0, 1) := by decide +kernel
theorem dX3_init_21 : decode cX3_init 21 = .ok (.iconst 4, 1) := by decide +kernel
theorem dX3_init_22 : decode cX3_init 22 = .ok (.newarray .int, 2) := by decide +kernel
theorem dX3_init_24 : decode cX3_init 24 = .ok (.putfield 18, 3) := by decide +kernel
theorem dX3_init_27 : decode cX3_init 27 = .ok (.aload_n 0, 1) := by decide +kernel
theorem dX3_init_28 : decode cX3_init 28 = .ok (.bipush 24, 2) := by decide +kernel
theorem dX3_init_30 : decode cX3_init 30 = .ok (.newarray .int, 2) := by decide +kernel
theorem dX3_init_32 : decode cX3_init 32 = .ok (.putfield 21, 3) := by decide +kernel
theorem dX3_init_35 : decode cX3_init 35 = .ok (.aload_n 0, 1) := by decide +kernel
theorem dX3_init_36 : decode cX3_init 36 = .ok (.aload_n 1, 1) := by decide +kernel
theorem dX3_init_37 : decode cX3_init 37 = .ok (.putfield 24, 3) := by decide +kernel
theorem dX3_init_40 : decode cX3_init 40 = .ok (.return_, 1) := by decide +kernel
theorem dX3_copyFrom_0 : decode cX3_copyFrom 0 = .ok (.aload_n 1, 1) := by decide +kernel
theorem dX3_copyFrom_1 : decode cX3_copyFrom 1 = .ok (.getfield 9, 3) := by decide +kernel
theorem dX3_copyFrom_4 : decode cX3_copyFrom 4 = .ok (.iconst 0, 1) := by decide +kernel
theorem dX3_copyFrom_5 : decode cX3_copyFrom 5 = .ok (.aload_n 0, 1) := by decide +kernel
theorem dX3_copyFrom_6 : decode cX3_copyFrom 6 = .ok (.getfield 9, 3) := by decide +kernel
theorem dX3_copyFrom_9 : decode cX3_copyFrom 9 = .ok (.iconst 0, 1) := by decide +kernel
theorem dX3_copyFrom_10 : decode cX3_copyFrom 10 = .ok (.bipush 9, 2) := by decide +kernel
theorem dX3_copyFrom_12 : decode cX3_copyFrom 12 = .ok (.invokestatic 28, 3) := by decide +kernel
theorem dX3_copyFrom_15 : decode cX3_copyFrom 15 = .ok (.aload_n 1, 1) := by decide +kernel
theorem dX3_copyFrom_16 : decode cX3_copyFrom 16 = .ok (.getfield 15, 3) := by decide +kernel
theorem dX3_copyFrom_19 : decode cX3_copyFrom 19 = .ok (.iconst 0, 1) := by decide +kernel
theorem dX3_copyFrom_20 : decode cX3_copyFrom 20 = .ok (.aload_n 0, 1) := by decide +kernel
theorem dX3_copyFrom_21 : decode cX3_copyFrom 21 = .ok (.getfield 15, 3) := by decide +kernel
theorem dX3_copyFrom_24 : decode cX3_copyFrom 24 = .ok (.iconst 0, 1) := by decide +kernel
theorem dX3_copyFrom_25 : decode cX3_copyFrom 25 = .ok (.bipush 9, 2) := by decide +kernel
theorem dX3_copyFrom_27 : decode cX3_copyFrom 27 = .ok (.invokestatic 28, 3) := by decide +kernel
theorem dX3_copyFrom_30 : decode cX3_copyFrom 30 = .ok (.aload_n 1, 1) := by decide +kernel
theorem dX3_copyFrom_31 : decode cX3_copyFrom 31 = .ok (.getfield 18, 3) := by decide +kernel
theorem dX3_copyFrom_34 : decode cX3_copyFrom 34 = .ok (.iconst 0, 1) := by decide +kernel
theorem dX3_copyFrom_35 : decode cX3_copyFrom 35 = .ok (.aload_n 0, 1) := by decide +kernel
theorem dX3_copyFrom_36 : decode cX3_copyFrom 36 = .ok (.getfield 18, 3) := by decide +kernel
theorem dX3_copyFrom_39 : decode cX3_copyFrom 39 = .ok (.iconst 0, 1) := by decide +kernel
theorem dX3_copyFrom_40 : decode cX3_copyFrom 40 = .ok (.iconst 4, 1) := by decide +kernel
theorem dX3_copyFrom_41 : decode cX3_copyFrom 41 = .ok (.invokestatic 28, 3) := by decide +kernel
theorem dX3_copyFrom_44 : decode cX3_copyFrom 44 = .ok (.aload_n 0, 1) := by decide +kernel
theorem dX3_copyFrom_45 : decode cX3_copyFrom 45 = .ok (.aload_n 1, 1) := by decide +kernel
theorem dX3_copyFrom_46 : decode cX3_copyFrom 46 = .ok (.getfield 34, 3) := by decide +kernel
theorem dX3_copyFrom_49 : decode cX3_copyFrom 49 = .ok (.putfield 34, 3) := by decide +kernel
theorem dX3_copyFrom_52 : decode cX3_copyFrom 52 = .ok (.aload_n 1, 1) := by decide +kernel
theorem dX3_copyFrom_53 : decode cX3_copyFrom 53 = .ok (.getfield 21, 3) := by decide +kernel
theorem dX3_copyFrom_56 : decode cX3_copyFrom 56 = .ok (.iconst 0, 1) := by decide +kernel
theorem dX3_copyFrom_57 : decode cX3_copyFrom 57 = .ok (.aload_n 0, 1) := by decide +kernel
theorem dX3_copyFrom_58 : decode cX3_copyFrom 58 = .ok (.getfield 21, 3) := by decide +kernel
theorem dX3_copyFrom_61 : decode cX3_copyFrom 61 = .ok (.iconst 0, 1) := by decide +kernel
theorem dX3_copyFrom_62 : decode cX3_copyFrom 62 = .ok (.bipush 24, 2) := by decide +kernel
theorem dX3_copyFrom_64 : decode cX3_copyFrom 64 = .ok (.invokestatic 28, 3) := by decide +kernel
theorem dX3_copyFrom_67 : decode cX3_copyFrom 67 = .ok (.aload_n 0, 1) := by decide +kernel
theorem dX3_copyFrom_68 : decode cX3_copyFrom 68 = .ok (.aload_n 1, 1) := by decide +kernel
theorem dX3_copyFrom_69 : decode cX3_copyFrom 69 = .ok (.getfield 38, 3) := by decide +kernel
theorem dX3_copyFrom_72 : decode cX3_copyFrom 72 = .ok (.putfield 38, 3) := by decide +kernel
theorem dX3_copyFrom_75 : decode cX3_copyFrom 75 = .ok (.aload_n 0, 1) := by decide +kernel
theorem dX3_copyFrom_76 : decode cX3_copyFrom 76 = .ok (.aload_n 1, 1) := by decide +kernel
theorem dX3_copyFrom_77 : decode cX3_copyFrom 77 = .ok (.getfield 41, 3) := by decide +kernel
theorem dX3_copyFrom_80 : decode cX3_copyFrom 80 = .ok (.putfield 41, 3) := by decide +kernel
theorem dX3_copyFrom_83 : decode cX3_copyFrom 83 = .ok (.aload_n 0, 1) := by decide +kernel
theorem dX3_copyFrom_84 : decode cX3_copyFrom 84 = .ok (.aload_n 1, 1) := by decide +kernel
theorem dX3_copyFrom_85 : decode cX3_copyFrom 85 = .ok (.getfield 44, 3) := by decide +kernel
theorem dX3_copyFrom_88 : decode cX3_copyFrom 88 = .ok (.putfield 44, 3) := by decide +kernel
theorem dX3_copyFrom_91 : decode cX3_copyFrom 91 = .ok (.aload_n 0, 1) := by decide +kernel
theorem dX3_copyFrom_92 : decode cX3_copyFrom 92 = .ok (.aload_n 1, 1) := by decide +kernel
theorem dX3_copyFrom_93 : decode cX3_copyFrom 93 = .ok (.getfield 47, 3) := by decide +kernel
theorem dX3_copyFrom_96 : decode cX3_copyFrom 96 = .ok (.putfield 47, 3) := by decide +kernel
theorem dX3_copyFrom_99 : decode cX3_copyFrom 99 = .ok (.aload_n 0, 1) := by decide +kernel
theorem dX3_copyFrom_100 : decode cX3_copyFrom 100 = .ok (.aload_n 1, 1) := by decide +kernel
theorem dX3_copyFrom_101 : decode cX3_copyFrom 101 = .ok (.getfield 50, 3) := by decide +kernel
theorem dX3_copyFrom_104 : decode cX3_copyFrom 104 = .ok (.putfield 50, 3) := by decide +kernel
theorem dX3_copyFrom_107 : decode cX3_copyFrom 107 = .ok (.aload_n 0, 1) := by decide +kernel
theorem dX3_copyFrom_108 : decode cX3_copyFrom 108 = .ok (.aload_n 1, 1) := by decide +kernel
theorem dX3_copyFrom_109 : decode cX3_copyFrom 109 = .ok (.getfield 54, 3) := by decide +kernel
theorem dX3_copyFrom_112 : decode cX3_copyFrom 112 = .ok (.putfield 54, 3) := by decide +kernel
theorem dX3_copyFrom_115 : decode cX3_copyFrom 115 = .ok (.aload_n 0, 1) := by decide +kernel
theorem dX3_copyFrom_116 : decode cX3_copyFrom 116 = .ok (.aload_n 1, 1) := by decide +kernel
theorem dX3_copyFrom_117 : decode cX3_copyFrom 117 = .ok (.getfield 57, 3) := by decide +kernel
theorem dX3_copyFrom_120 : decode cX3_copyFrom 120 = .ok (.putfield 57, 3) := by decide +kernel
theorem dX3_copyFrom_123 : decode cX3_copyFrom 123 = .ok (.aload_n 0, 1) := by decide +kernel
theorem dX3_copyFrom_124 : decode cX3_copyFrom 124 = .ok (.aload_n 1, 1) := by decide +kernel
theorem dX3_copyFrom_125 : decode cX3_copyFrom 125 = .ok (.getfield 60, 3) := by decide +kernel
theorem dX3_copyFrom_128 : decode cX3_copyFrom 128 = .ok (.putfield 60, 3) := by decide +kernel
theorem dX3_copyFrom_131 : decode cX3_copyFrom 131 = .ok (.aload_n 0, 1) := by decide +kernel
theorem dX3_copyFrom_132 : decode cX3_copyFrom 132 = .ok (.aload_n 1, 1) := by decide +kernel
theorem dX3_copyFrom_133 : decode cX3_copyFrom 133 = .ok (.getfield 63, 3) := by decide +kernel
theorem dX3_copyFrom_136 : decode cX3_copyFrom 136 = .ok (.putfield 63, 3) := by decide +kernel
theorem dX3_copyFrom_139 : decode cX3_copyFrom 139 = .ok (.aload_n 0, 1) := by decide +kernel
theorem dX3_copyFrom_140 : decode cX3_copyFrom 140 = .ok (.aload_n 1, 1) := by decide +kernel
theorem dX3_copyFrom_141 : decode cX3_copyFrom 141 = .ok (.getfield 66, 3) := by decide +kernel
theorem dX3_copyFrom_144 : decode cX3_copyFrom 144 = .ok (.putfield 66, 3) := by decide +kernel
theorem dX3_copyFrom_147 : decode cX3_copyFrom 147 = .ok (.aload_n 0, 1) := by decide +kernel
theorem dX3_copyFrom_148 : decode cX3_copyFrom 148 = .ok (.aload_n 1, 1) := by decide +kernel
theorem dX3_copyFrom_149 : decode cX3_copyFrom 149 = .ok (.getfield 69, 3) := by decide +kernel
theorem dX3_copyFrom_152 : decode cX3_copyFrom 152 = .ok (.putfield 69, 3) := by decide +kernel
theorem dX3_copyFrom_155 : decode cX3_copyFrom 155 = .ok (.aload_n 0, 1) := by decide +kernel
theorem dX3_copyFrom_156 : decode cX3_copyFrom 156 = .ok (.aload_n 1, 1) := by decide +kernel
theorem dX3_copyFrom_157 : decode cX3_copyFrom 157 = .ok (.getfield 72, 3) := by decide +kernel
theorem dX3_copyFrom_160 : decode cX3_copyFrom 160 = .ok (.putfield 72, 3) := by decide +kernel
theorem dX3_copyFrom_163 : decode cX3_copyFrom 163 = .ok (.return_, 1) := by decide +kernel
theorem dX3_number_0 : decode cX3_number 0 = .ok (.iload_n 1, 1) := by decide +kernel
theorem dX3_number_1 : decode cX3_number 1 = .ok (.tableswitch 138 5 17 #[67, 72, 77, 82, 87, 95, 103, 108, 113, 118, 123, 128, 133], 67) := by decide +kernel
theorem dX3_number_68 : decode cX3_number 68 = .ok (.aload_n 0, 1) := by decide +kernel
theorem dX3_number_69 : decode cX3_number 69 = .ok (.getfield 41, 3) := by decide +kernel
theorem dX3_number_72 : decode cX3_number 72 = .ok (.ireturn, 1) := by decide +kernel
theorem dX3_number_73 : decode cX3_number 73 = .ok (.aload_n 0, 1) := by decide +kernel
theorem dX3_number_74 : decode cX3_number 74 = .ok (.getfield 44, 3) := by decide +kernel
theorem dX3_number_77 : decode cX3_number 77 = .ok (.ireturn, 1) := by decide +kernel
theorem dX3_number_78 : decode cX3_number 78 = .ok (.aload_n 0, 1) := by decide +kernel
theorem dX3_number_79 : decode cX3_number 79 = .ok (.getfield 38, 3) := by decide +kernel
theorem dX3_number_82 : decode cX3_number 82 = .ok (.ireturn, 1) := by decide +kernel
theorem dX3_number_83 : decode cX3_number 83 = .ok (.aload_n 0, 1) := by decide +kernel
theorem dX3_number_84 : decode cX3_number 84 = .ok (.getfield 47, 3) := by decide +kernel
theorem dX3_number_87 : decode cX3_number 87 = .ok (.ireturn, 1) := by decide +kernel
theorem dX3_number_88 : decode cX3_number 88 = .ok (.aload_n 0, 1) := by decide +kernel
theorem dX3_number_89 : decode cX3_number 89 = .ok (.getfield 50, 3) := by decide +kernel
theorem dX3_number_92 : decode cX3_number 92 = .ok (.invokestatic 75, 3) := by decide +kernel
theorem dX3_number_95 : decode cX3_number 95 = .ok (.ireturn, 1) := by decide +kernel
theorem dX3_number_96 : decode cX3_number 96 = .ok (.aload_n 0, 1) := by decide +kernel
theorem dX3_number_97 : decode cX3_number 97 = .ok (.getfield 54, 3) := by decide +kernel
theorem dX3_number_100 : decode cX3_number 100 = .ok (.invokestatic 75, 3) := by decide +kernel
theorem dX3_number_103 : decode cX3_number 103 = .ok (.ireturn, 1) := by decide +kernel
theorem dX3_number_104 : decode cX3_number 104 = .ok (.aload_n 0, 1) := by decide +kernel
theorem dX3_number_105 : decode cX3_number 105 = .ok (.getfield 57, 3) := by decide +kernel
theorem dX3_number_108 : decode cX3_number 108 = .ok (.ireturn, 1) := by decide +kernel
theorem dX3_number_109 : decode cX3_number 109 = .ok (.aload_n 0, 1) := by decide +kernel
theorem dX3_number_110 : decode cX3_number 110 = .ok (.getfield 60, 3) := by decide +kernel
theorem dX3_number_113 : decode cX3_number 113 = .ok (.ireturn, 1) := by decide +kernel
theorem dX3_number_114 : decode cX3_number 114 = .ok (.aload_n 0, 1) := by decide +kernel
theorem dX3_number_115 : decode cX3_number 115 = .ok (.getfield 63, 3) := by decide +kernel
theorem dX3_number_118 : decode cX3_number 118 = .ok (.ireturn, 1) := by decide +kernel
theorem dX3_number_119 : decode cX3_number 119 = .ok (.aload_n 0, 1) := by decide +kernel
theorem dX3_number_120 : decode cX3_number 120 = .ok (.getfield 66, 3) := by decide +kernel
theorem dX3_number_123 : decode cX3_number 123 = .ok (.ireturn, 1) := by decide +kernel
theorem dX3_number_124 : decode cX3_number 124 = .ok (.aload_n 0, 1) := by decide +kernel
theorem dX3_number_125 : decode cX3_number 125 = .ok (.getfield 69, 3) := by decide +kernel
theorem dX3_number_128 : decode cX3_number 128 = .ok (.ireturn, 1) := by decide +kernel
theorem dX3_number_129 : decode cX3_number 129 = .ok (.aload_n 0, 1) := by decide +kernel
theorem dX3_number_130 : decode cX3_number 130 = .ok (.getfield 72, 3) := by decide +kernel
theorem dX3_number_133 : decode cX3_number 133 = .ok (.ireturn, 1) := by decide +kernel
theorem dX3_number_134 : decode cX3_number 134 = .ok (.aload_n 0, 1) := by decide +kernel
theorem dX3_number_135 : decode cX3_number 135 = .ok (.invokevirtual 79, 3) := by decide +kernel
theorem dX3_number_138 : decode cX3_number 138 = .ok (.ireturn, 1) := by decide +kernel
theorem dX3_number_139 : decode cX3_number 139 = .ok (.bipush (-2), 2) := by decide +kernel
theorem dX3_number_141 : decode cX3_number 141 = .ok (.ireturn, 1) := by decide +kernel
theorem dX3_observed_0 : decode cX3_observed 0 = .ok (.iload_n 1, 1) := by decide +kernel
theorem dX3_observed_1 : decode cX3_observed 1 = .ok (.lookupswitch 37 #[(0, 27), (1, 32)], 27) := by decide +kernel
theorem dX3_observed_28 : decode cX3_observed 28 = .ok (.aload_n 0, 1) := by decide +kernel
theorem dX3_observed_29 : decode cX3_observed 29 = .ok (.getfield 57, 3) := by decide +kernel
theorem dX3_observed_32 : decode cX3_observed 32 = .ok (.ireturn, 1) := by decide +kernel
theorem dX3_observed_33 : decode cX3_observed 33 = .ok (.aload_n 0, 1) := by decide +kernel
theorem dX3_observed_34 : decode cX3_observed 34 = .ok (.getfield 63, 3) := by decide +kernel
theorem dX3_observed_37 : decode cX3_observed 37 = .ok (.ireturn, 1) := by decide +kernel
theorem dX3_observed_38 : decode cX3_observed 38 = .ok (.aload_n 0, 1) := by decide +kernel
theorem dX3_observed_39 : decode cX3_observed 39 = .ok (.getfield 60, 3) := by decide +kernel
theorem dX3_observed_42 : decode cX3_observed 42 = .ok (.ireturn, 1) := by decide +kernel
theorem dX3_bottleSet_0 : decode cX3_bottleSet 0 = .ok (.iconst 0, 1) := by decide +kernel
theorem dX3_bottleSet_1 : decode cX3_bottleSet 1 = .ok (.istore_n 1, 1) := by decide +kernel
theorem dX3_bottleSet_2 : decode cX3_bottleSet 2 = .ok (.iconst 0, 1) := by decide +kernel
theorem dX3_bottleSet_3 : decode cX3_bottleSet 3 = .ok (.istore_n 2, 1) := by decide +kernel
theorem dX3_bottleSet_4 : decode cX3_bottleSet 4 = .ok (.iload_n 2, 1) := by decide +kernel
theorem dX3_bottleSet_5 : decode cX3_bottleSet 5 = .ok (.aload_n 0, 1) := by decide +kernel
theorem dX3_bottleSet_6 : decode cX3_bottleSet 6 = .ok (.getfield 24, 3) := by decide +kernel
theorem dX3_bottleSet_9 : decode cX3_bottleSet 9 = .ok (.getfield 83, 3) := by decide +kernel
theorem dX3_bottleSet_12 : decode cX3_bottleSet 12 = .ok (.if_icmp .ge 24, 3) := by decide +kernel
theorem dX3_bottleSet_15 : decode cX3_bottleSet 15 = .ok (.aload_n 0, 1) := by decide +kernel
theorem dX3_bottleSet_16 : decode cX3_bottleSet 16 = .ok (.getfield 9, 3) := by decide +kernel
theorem dX3_bottleSet_19 : decode cX3_bottleSet 19 = .ok (.iload_n 2, 1) := by decide +kernel
theorem dX3_bottleSet_20 : decode cX3_bottleSet 20 = .ok (.iaload, 1) := by decide +kernel
theorem dX3_bottleSet_21 : decode cX3_bottleSet 21 = .ok (.ifCond .eq 9, 3) := by decide +kernel
theorem dX3_bottleSet_24 : decode cX3_bottleSet 24 = .ok (.iload_n 1, 1) := by decide +kernel
theorem dX3_bottleSet_25 : decode cX3_bottleSet 25 = .ok (.iconst 1, 1) := by decide +kernel
theorem dX3_bottleSet_26 : decode cX3_bottleSet 26 = .ok (.iload_n 2, 1) := by decide +kernel
theorem dX3_bottleSet_27 : decode cX3_bottleSet 27 = .ok (.ishl, 1) := by decide +kernel
theorem dX3_bottleSet_28 : decode cX3_bottleSet 28 = .ok (.ior, 1) := by decide +kernel
theorem dX3_bottleSet_29 : decode cX3_bottleSet 29 = .ok (.istore_n 1, 1) := by decide +kernel
theorem dX3_bottleSet_30 : decode cX3_bottleSet 30 = .ok (.iinc 2 1, 3) := by decide +kernel
theorem dX3_bottleSet_33 : decode cX3_bottleSet 33 = .ok (.goto (-29), 3) := by decide +kernel
theorem dX3_bottleSet_36 : decode cX3_bottleSet 36 = .ok (.iload_n 1, 1) := by decide +kernel
theorem dX3_bottleSet_37 : decode cX3_bottleSet 37 = .ok (.ireturn, 1) := by decide +kernel
theorem dX3_countMarks_0 : decode cX3_countMarks 0 = .ok (.iconst 0, 1) := by decide +kernel
theorem dX3_countMarks_1 : decode cX3_countMarks 1 = .ok (.istore_n 1, 1) := by decide +kernel
theorem dX3_countMarks_2 : decode cX3_countMarks 2 = .ok (.iconst 0, 1) := by decide +kernel
theorem dX3_countMarks_3 : decode cX3_countMarks 3 = .ok (.istore_n 2, 1) := by decide +kernel
theorem dX3_countMarks_4 : decode cX3_countMarks 4 = .ok (.iload_n 2, 1) := by decide +kernel
theorem dX3_countMarks_5 : decode cX3_countMarks 5 = .ok (.aload_n 0, 1) := by decide +kernel
theorem dX3_countMarks_6 : decode cX3_countMarks 6 = .ok (.getfield 24, 3) := by decide +kernel
theorem dX3_countMarks_9 : decode cX3_countMarks 9 = .ok (.getfield 83, 3) := by decide +kernel
theorem dX3_countMarks_12 : decode cX3_countMarks 12 = .ok (.if_icmp .ge 29, 3) := by decide +kernel
theorem dX3_countMarks_15 : decode cX3_countMarks 15 = .ok (.iload_n 1, 1) := by decide +kernel
theorem dX3_countMarks_16 : decode cX3_countMarks 16 = .ok (.aload_n 0, 1) := by decide +kernel
theorem dX3_countMarks_17 : decode cX3_countMarks 17 = .ok (.getfield 15, 3) := by decide +kernel
theorem dX3_countMarks_20 : decode cX3_countMarks 20 = .ok (.iload_n 2, 1) := by decide +kernel
theorem dX3_countMarks_21 : decode cX3_countMarks 21 = .ok (.iaload, 1) := by decide +kernel
theorem dX3_countMarks_22 : decode cX3_countMarks 22 = .ok (.ifCond .eq 7, 3) := by decide +kernel
theorem dX3_countMarks_25 : decode cX3_countMarks 25 = .ok (.iconst 1, 1) := by decide +kernel
theorem dX3_countMarks_26 : decode cX3_countMarks 26 = .ok (.goto 4, 3) := by decide +kernel
theorem dX3_countMarks_29 : decode cX3_countMarks 29 = .ok (.iconst 0, 1) := by decide +kernel
theorem dX3_countMarks_30 : decode cX3_countMarks 30 = .ok (.invokestatic 75, 3) := by decide +kernel
theorem dX3_countMarks_33 : decode cX3_countMarks 33 = .ok (.iadd, 1) := by decide +kernel
theorem dX3_countMarks_34 : decode cX3_countMarks 34 = .ok (.istore_n 1, 1) := by decide +kernel
theorem dX3_countMarks_35 : decode cX3_countMarks 35 = .ok (.iinc 2 1, 3) := by decide +kernel
theorem dX3_countMarks_38 : decode cX3_countMarks 38 = .ok (.goto (-34), 3) := by decide +kernel
theorem dX3_countMarks_41 : decode cX3_countMarks 41 = .ok (.iload_n 1, 1) := by decide +kernel
theorem dX3_countMarks_42 : decode cX3_countMarks 42 = .ok (.ireturn, 1) := by decide +kernel
theorem dX3_stock_0 : decode cX3_stock 0 = .ok (.iload_n 1, 1) := by decide +kernel
theorem dX3_stock_1 : decode cX3_stock 1 = .ok (.ifCond .eq 10, 3) := by decide +kernel
theorem dX3_stock_4 : decode cX3_stock 4 = .ok (.aload_n 0, 1) := by decide +kernel
theorem dX3_stock_5 : decode cX3_stock 5 = .ok (.getfield 44, 3) := by decide +kernel
theorem dX3_stock_8 : decode cX3_stock 8 = .ok (.goto 7, 3) := by decide +kernel
theorem dX3_stock_11 : decode cX3_stock 11 = .ok (.aload_n 0, 1) := by decide +kernel
theorem dX3_stock_12 : decode cX3_stock 12 = .ok (.getfield 41, 3) := by decide +kernel
theorem dX3_stock_15 : decode cX3_stock 15 = .ok (.ireturn, 1) := by decide +kernel
theorem dX3_addStock_0 : decode cX3_addStock 0 = .ok (.iload_n 1, 1) := by decide +kernel
theorem dX3_addStock_1 : decode cX3_addStock 1 = .ok (.ifCond .eq 21, 3) := by decide +kernel
theorem dX3_addStock_4 : decode cX3_addStock 4 = .ok (.aload_n 0, 1) := by decide +kernel
theorem dX3_addStock_5 : decode cX3_addStock 5 = .ok (.bipush 99, 2) := by decide +kernel
theorem dX3_addStock_7 : decode cX3_addStock 7 = .ok (.aload_n 0, 1) := by decide +kernel
theorem dX3_addStock_8 : decode cX3_addStock 8 = .ok (.getfield 44, 3) := by decide +kernel
theorem dX3_addStock_11 : decode cX3_addStock 11 = .ok (.iload_n 2, 1) := by decide +kernel
theorem dX3_addStock_12 : decode cX3_addStock 12 = .ok (.iadd, 1) := by decide +kernel
theorem dX3_addStock_13 : decode cX3_addStock 13 = .ok (.invokestatic 88, 3) := by decide +kernel
theorem dX3_addStock_16 : decode cX3_addStock 16 = .ok (.putfield 44, 3) := by decide +kernel
theorem dX3_addStock_19 : decode cX3_addStock 19 = .ok (.goto 18, 3) := by decide +kernel
theorem dX3_addStock_22 : decode cX3_addStock 22 = .ok (.aload_n 0, 1) := by decide +kernel
theorem dX3_addStock_23 : decode cX3_addStock 23 = .ok (.bipush 99, 2) := by decide +kernel
theorem dX3_addStock_25 : decode cX3_addStock 25 = .ok (.aload_n 0, 1) := by decide +kernel
theorem dX3_addStock_26 : decode cX3_addStock 26 = .ok (.getfield 41, 3) := by decide +kernel
theorem dX3_addStock_29 : decode cX3_addStock 29 = .ok (.iload_n 2, 1) := by decide +kernel
theorem dX3_addStock_30 : decode cX3_addStock 30 = .ok (.iadd, 1) := by decide +kernel
theorem dX3_addStock_31 : decode cX3_addStock 31 = .ok (.invokestatic 88, 3) := by decide +kernel
theorem dX3_addStock_34 : decode cX3_addStock 34 = .ok (.putfield 41, 3) := by decide +kernel
theorem dX3_addStock_37 : decode cX3_addStock 37 = .ok (.return_, 1) := by decide +kernel
theorem dX3_addEntry_0 : decode cX3_addEntry 0 = .ok (.aload_n 0, 1) := by decide +kernel
theorem dX3_addEntry_1 : decode cX3_addEntry 1 = .ok (.getfield 38, 3) := by decide +kernel
theorem dX3_addEntry_4 : decode cX3_addEntry 4 = .ok (.bipush 24, 2) := by decide +kernel
theorem dX3_addEntry_6 : decode cX3_addEntry 6 = .ok (.if_icmp .ge 23, 3) := by decide +kernel
theorem dX3_addEntry_9 : decode cX3_addEntry 9 = .ok (.aload_n 0, 1) := by decide +kernel
theorem dX3_addEntry_10 : decode cX3_addEntry 10 = .ok (.getfield 21, 3) := by decide +kernel
theorem dX3_addEntry_13 : decode cX3_addEntry 13 = .ok (.aload_n 0, 1) := by decide +kernel
theorem dX3_addEntry_14 : decode cX3_addEntry 14 = .ok (.getfield 38, 3) := by decide +kernel
theorem dX3_addEntry_17 : decode cX3_addEntry 17 = .ok (.iload_n 1, 1) := by decide +kernel
theorem dX3_addEntry_18 : decode cX3_addEntry 18 = .ok (.iastore, 1) := by decide +kernel
theorem dX3_addEntry_19 : decode cX3_addEntry 19 = .ok (.aload_n 0, 1) := by decide +kernel
theorem dX3_addEntry_20 : decode cX3_addEntry 20 = .ok (.dup, 1) := by decide +kernel
theorem dX3_addEntry_21 : decode cX3_addEntry 21 = .ok (.getfield 38, 3) := by decide +kernel
theorem dX3_addEntry_24 : decode cX3_addEntry 24 = .ok (.iconst 1, 1) := by decide +kernel
theorem dX3_addEntry_25 : decode cX3_addEntry 25 = .ok (.iadd, 1) := by decide +kernel
theorem dX3_addEntry_26 : decode cX3_addEntry 26 = .ok (.putfield 38, 3) := by decide +kernel
theorem dX3_addEntry_29 : decode cX3_addEntry 29 = .ok (.return_, 1) := by decide +kernel
theorem dX3_nextValve_0 : decode cX3_nextValve 0 = .ok (.aload_n 0, 1) := by decide +kernel
theorem dX3_nextValve_1 : decode cX3_nextValve 1 = .ok (.getfield 24, 3) := by decide +kernel
theorem dX3_nextValve_4 : decode cX3_nextValve 4 = .ok (.getfield 94, 3) := by decide +kernel
theorem dX3_nextValve_7 : decode cX3_nextValve 7 = .ok (.ifCond .ne 8, 3) := by decide +kernel
theorem dX3_nextValve_10 : decode cX3_nextValve 10 = .ok (.bipush (-9), 2) := by decide +kernel
theorem dX3_nextValve_12 : decode cX3_nextValve 12 = .ok (.goto 17, 3) := by decide +kernel
theorem dX3_nextValve_15 : decode cX3_nextValve 15 = .ok (.aload_n 0, 1) := by decide +kernel
theorem dX3_nextValve_16 : decode cX3_nextValve 16 = .ok (.getfield 47, 3) := by decide +kernel
theorem dX3_nextValve_19 : decode cX3_nextValve 19 = .ok (.aload_n 0, 1) := by decide +kernel
theorem dX3_nextValve_20 : decode cX3_nextValve 20 = .ok (.getfield 24, 3) := by decide +kernel
theorem dX3_nextValve_23 : decode cX3_nextValve 23 = .ok (.getfield 94, 3) := by decide +kernel
theorem dX3_nextValve_26 : decode cX3_nextValve 26 = .ok (.invokestatic 97, 3) := by decide +kernel
theorem dX3_nextValve_29 : decode cX3_nextValve 29 = .ok (.ireturn, 1) := by decide +kernel
theorem dX3_moveMarks_0 : decode cX3_moveMarks 0 = .ok (.aload_n 0, 1) := by decide +kernel
theorem dX3_moveMarks_1 : decode cX3_moveMarks 1 = .ok (.getfield 15, 3) := by decide +kernel
theorem dX3_moveMarks_4 : decode cX3_moveMarks 4 = .ok (.iconst 0, 1) := by decide +kernel
theorem dX3_moveMarks_5 : decode cX3_moveMarks 5 = .ok (.aload_n 0, 1) := by decide +kernel
theorem dX3_moveMarks_6 : decode cX3_moveMarks 6 = .ok (.getfield 15, 3) := by decide +kernel
theorem dX3_moveMarks_9 : decode cX3_moveMarks 9 = .ok (.iconst 1, 1) := by decide +kernel
theorem dX3_moveMarks_10 : decode cX3_moveMarks 10 = .ok (.aload_n 0, 1) := by decide +kernel
theorem dX3_moveMarks_11 : decode cX3_moveMarks 11 = .ok (.getfield 24, 3) := by decide +kernel
theorem dX3_moveMarks_14 : decode cX3_moveMarks 14 = .ok (.getfield 83, 3) := by decide +kernel
theorem dX3_moveMarks_17 : decode cX3_moveMarks 17 = .ok (.iconst 1, 1) := by decide +kernel
theorem dX3_moveMarks_18 : decode cX3_moveMarks 18 = .ok (.isub, 1) := by decide +kernel
theorem dX3_moveMarks_19 : decode cX3_moveMarks 19 = .ok (.invokestatic 28, 3) := by decide +kernel
theorem dX3_moveMarks_22 : decode cX3_moveMarks 22 = .ok (.aload_n 0, 1) := by decide +kernel
theorem dX3_moveMarks_23 : decode cX3_moveMarks 23 = .ok (.getfield 15, 3) := by decide +kernel
theorem dX3_moveMarks_26 : decode cX3_moveMarks 26 = .ok (.iconst 0, 1) := by decide +kernel
theorem dX3_moveMarks_27 : decode cX3_moveMarks 27 = .ok (.iconst 0, 1) := by decide +kernel
theorem dX3_moveMarks_28 : decode cX3_moveMarks 28 = .ok (.iastore, 1) := by decide +kernel
theorem dX3_moveMarks_29 : decode cX3_moveMarks 29 = .ok (.return_, 1) := by decide +kernel
theorem dX3_endAlarm_0 : decode cX3_endAlarm 0 = .ok (.aload_n 0, 1) := by decide +kernel
theorem dX3_endAlarm_1 : decode cX3_endAlarm 1 = .ok (.getfield 24, 3) := by decide +kernel
theorem dX3_endAlarm_4 : decode cX3_endAlarm 4 = .ok (.getfield 100, 3) := by decide +kernel
theorem dX3_endAlarm_7 : decode cX3_endAlarm 7 = .ok (.iconst 4, 1) := by decide +kernel
theorem dX3_endAlarm_8 : decode cX3_endAlarm 8 = .ok (.iaload, 1) := by decide +kernel
theorem dX3_endAlarm_9 : decode cX3_endAlarm 9 = .ok (.istore_n 1, 1) := by decide +kernel
theorem dX3_endAlarm_10 : decode cX3_endAlarm 10 = .ok (.aload_n 0, 1) := by decide +kernel
theorem dX3_endAlarm_11 : decode cX3_endAlarm 11 = .ok (.getfield 9, 3) := by decide +kernel
theorem dX3_endAlarm_14 : decode cX3_endAlarm 14 = .ok (.iload_n 1, 1) := by decide +kernel
theorem dX3_endAlarm_15 : decode cX3_endAlarm 15 = .ok (.iaload, 1) := by decide +kernel
theorem dX3_endAlarm_16 : decode cX3_endAlarm 16 = .ok (.ifCond .eq 7, 3) := by decide +kernel
theorem dX3_endAlarm_19 : decode cX3_endAlarm 19 = .ok (.iconst 1, 1) := by decide +kernel
theorem dX3_endAlarm_20 : decode cX3_endAlarm 20 = .ok (.goto 4, 3) := by decide +kernel
theorem dX3_endAlarm_23 : decode cX3_endAlarm 23 = .ok (.iconst 0, 1) := by decide +kernel
theorem dX3_endAlarm_24 : decode cX3_endAlarm 24 = .ok (.istore_n 2, 1) := by decide +kernel
theorem dX3_endAlarm_25 : decode cX3_endAlarm 25 = .ok (.iload_n 2, 1) := by decide +kernel
theorem dX3_endAlarm_26 : decode cX3_endAlarm 26 = .ok (.ifCond .eq 20, 3) := by decide +kernel
theorem dX3_endAlarm_29 : decode cX3_endAlarm 29 = .ok (.aload_n 0, 1) := by decide +kernel
theorem dX3_endAlarm_30 : decode cX3_endAlarm 30 = .ok (.getfield 9, 3) := by decide +kernel
theorem dX3_endAlarm_33 : decode cX3_endAlarm 33 = .ok (.iload_n 1, 1) := by decide +kernel
theorem dX3_endAlarm_34 : decode cX3_endAlarm 34 = .ok (.iconst 0, 1) := by decide +kernel
theorem dX3_endAlarm_35 : decode cX3_endAlarm 35 = .ok (.iastore, 1) := by decide +kernel
theorem dX3_endAlarm_36 : decode cX3_endAlarm 36 = .ok (.aload_n 0, 1) := by decide +kernel
theorem dX3_endAlarm_37 : decode cX3_endAlarm 37 = .ok (.dup, 1) := by decide +kernel
theorem dX3_endAlarm_38 : decode cX3_endAlarm 38 = .ok (.getfield 69, 3) := by decide +kernel
theorem dX3_endAlarm_41 : decode cX3_endAlarm 41 = .ok (.iconst 1, 1) := by decide +kernel
theorem dX3_endAlarm_42 : decode cX3_endAlarm 42 = .ok (.iadd, 1) := by decide +kernel
theorem dX3_endAlarm_43 : decode cX3_endAlarm 43 = .ok (.putfield 69, 3) := by decide +kernel
theorem dX3_endAlarm_46 : decode cX3_endAlarm 46 = .ok (.aload_n 0, 1) := by decide +kernel
theorem dX3_endAlarm_47 : decode cX3_endAlarm 47 = .ok (.getfield 15, 3) := by decide +kernel
theorem dX3_endAlarm_50 : decode cX3_endAlarm 50 = .ok (.iload_n 1, 1) := by decide +kernel
theorem dX3_endAlarm_51 : decode cX3_endAlarm 51 = .ok (.iconst 0, 1) := by decide +kernel
theorem dX3_endAlarm_52 : decode cX3_endAlarm 52 = .ok (.iastore, 1) := by decide +kernel
theorem dX3_endAlarm_53 : decode cX3_endAlarm 53 = .ok (.aload_n 0, 1) := by decide +kernel
theorem dX3_endAlarm_54 : decode cX3_endAlarm 54 = .ok (.iconst 0, 1) := by decide +kernel
theorem dX3_endAlarm_55 : decode cX3_endAlarm 55 = .ok (.putfield 50, 3) := by decide +kernel
theorem dX3_endAlarm_58 : decode cX3_endAlarm 58 = .ok (.iload_n 2, 1) := by decide +kernel
theorem dX3_endAlarm_59 : decode cX3_endAlarm 59 = .ok (.ireturn, 1) := by decide +kernel
theorem dX3_markBeforeScale_0 : decode cX3_markBeforeScale 0 = .ok (.iconst 0, 1) := by decide +kernel
theorem dX3_markBeforeScale_1 : decode cX3_markBeforeScale 1 = .ok (.istore_n 1, 1) := by decide +kernel
theorem dX3_markBeforeScale_2 : decode cX3_markBeforeScale 2 = .ok (.iload_n 1, 1) := by decide +kernel
theorem dX3_markBeforeScale_3 : decode cX3_markBeforeScale 3 = .ok (.aload_n 0, 1) := by decide +kernel
theorem dX3_markBeforeScale_4 : decode cX3_markBeforeScale 4 = .ok (.getfield 24, 3) := by decide +kernel
theorem dX3_markBeforeScale_7 : decode cX3_markBeforeScale 7 = .ok (.getfield 100, 3) := by decide +kernel
theorem dX3_markBeforeScale_10 : decode cX3_markBeforeScale 10 = .ok (.iconst 0, 1) := by decide +kernel
theorem dX3_markBeforeScale_11 : decode cX3_markBeforeScale 11 = .ok (.iaload, 1) := by decide +kernel
theorem dX3_markBeforeScale_12 : decode cX3_markBeforeScale 12 = .ok (.if_icmp .gt 25, 3) := by decide +kernel
theorem dX3_markBeforeScale_15 : decode cX3_markBeforeScale 15 = .ok (.aload_n 0, 1) := by decide +kernel
theorem dX3_markBeforeScale_16 : decode cX3_markBeforeScale 16 = .ok (.getfield 9, 3) := by decide +kernel
theorem dX3_markBeforeScale_19 : decode cX3_markBeforeScale 19 = .ok (.iload_n 1, 1) := by decide +kernel
theorem dX3_markBeforeScale_20 : decode cX3_markBeforeScale 20 = .ok (.iaload, 1) := by decide +kernel
theorem dX3_markBeforeScale_21 : decode cX3_markBeforeScale 21 = .ok (.ifCond .eq 10, 3) := by decide +kernel
theorem dX3_markBeforeScale_24 : decode cX3_markBeforeScale 24 = .ok (.aload_n 0, 1) := by decide +kernel
theorem dX3_markBeforeScale_25 : decode cX3_markBeforeScale 25 = .ok (.getfield 15, 3) := by decide +kernel
theorem dX3_markBeforeScale_28 : decode cX3_markBeforeScale 28 = .ok (.iload_n 1, 1) := by decide +kernel
theorem dX3_markBeforeScale_29 : decode cX3_markBeforeScale 29 = .ok (.iconst 1, 1) := by decide +kernel
theorem dX3_markBeforeScale_30 : decode cX3_markBeforeScale 30 = .ok (.iastore, 1) := by decide +kernel
theorem dX3_markBeforeScale_31 : decode cX3_markBeforeScale 31 = .ok (.iinc 1 1, 3) := by decide +kernel
theorem dX3_markBeforeScale_34 : decode cX3_markBeforeScale 34 = .ok (.goto (-32), 3) := by decide +kernel
theorem dX3_markBeforeScale_37 : decode cX3_markBeforeScale 37 = .ok (.return_, 1) := by decide +kernel
theorem dX3_advance_0 : decode cX3_advance 0 = .ok (.iconst 0, 1) := by decide +kernel
theorem dX3_advance_1 : decode cX3_advance 1 = .ok (.istore_n 2, 1) := by decide +kernel
theorem dX3_advance_2 : decode cX3_advance 2 = .ok (.iload_n 2, 1) := by decide +kernel
theorem dX3_advance_3 : decode cX3_advance 3 = .ok (.iload_n 1, 1) := by decide +kernel
theorem dX3_advance_4 : decode cX3_advance 4 = .ok (.if_icmp .ge 58, 3) := by decide +kernel
theorem dX3_advance_7 : decode cX3_advance 7 = .ok (.aload_n 0, 1) := by decide +kernel
theorem dX3_advance_8 : decode cX3_advance 8 = .ok (.getfield 50, 3) := by decide +kernel
theorem dX3_advance_11 : decode cX3_advance 11 = .ok (.ifCond .ne 51, 3) := by decide +kernel
theorem dX3_advance_14 : decode cX3_advance 14 = .ok (.aload_n 0, 1) := by decide +kernel
theorem dX3_advance_15 : decode cX3_advance 15 = .ok (.invokevirtual 105, 3) := by decide +kernel
theorem dX3_advance_18 : decode cX3_advance 18 = .ok (.aload_n 0, 1) := by decide +kernel
theorem dX3_advance_19 : decode cX3_advance 19 = .ok (.invokevirtual 108, 3) := by decide +kernel
theorem dX3_advance_22 : decode cX3_advance 22 = .ok (.aload_n 0, 1) := by decide +kernel
theorem dX3_advance_23 : decode cX3_advance 23 = .ok (.invokevirtual 111, 3) := by decide +kernel
theorem dX3_advance_26 : decode cX3_advance 26 = .ok (.aload_n 0, 1) := by decide +kernel
theorem dX3_advance_27 : decode cX3_advance 27 = .ok (.invokevirtual 114, 3) := by decide +kernel
theorem dX3_advance_30 : decode cX3_advance 30 = .ok (.aload_n 0, 1) := by decide +kernel
theorem dX3_advance_31 : decode cX3_advance 31 = .ok (.invokevirtual 117, 3) := by decide +kernel
theorem dX3_advance_34 : decode cX3_advance 34 = .ok (.aload_n 0, 1) := by decide +kernel
theorem dX3_advance_35 : decode cX3_advance 35 = .ok (.invokevirtual 120, 3) := by decide +kernel
theorem dX3_advance_38 : decode cX3_advance 38 = .ok (.aload_n 0, 1) := by decide +kernel
theorem dX3_advance_39 : decode cX3_advance 39 = .ok (.invokevirtual 123, 3) := by decide +kernel
theorem dX3_advance_42 : decode cX3_advance 42 = .ok (.aload_n 0, 1) := by decide +kernel
theorem dX3_advance_43 : decode cX3_advance 43 = .ok (.invokevirtual 126, 3) := by decide +kernel
theorem dX3_advance_46 : decode cX3_advance 46 = .ok (.aload_n 0, 1) := by decide +kernel
theorem dX3_advance_47 : decode cX3_advance 47 = .ok (.dup, 1) := by decide +kernel
theorem dX3_advance_48 : decode cX3_advance 48 = .ok (.getfield 47, 3) := by decide +kernel
theorem dX3_advance_51 : decode cX3_advance 51 = .ok (.iconst 1, 1) := by decide +kernel
theorem dX3_advance_52 : decode cX3_advance 52 = .ok (.iadd, 1) := by decide +kernel
theorem dX3_advance_53 : decode cX3_advance 53 = .ok (.putfield 47, 3) := by decide +kernel
theorem dX3_advance_56 : decode cX3_advance 56 = .ok (.iinc 2 1, 3) := by decide +kernel
theorem dX3_advance_59 : decode cX3_advance 59 = .ok (.goto (-57), 3) := by decide +kernel
theorem dX3_advance_62 : decode cX3_advance 62 = .ok (.iload_n 2, 1) := by decide +kernel
theorem dX3_advance_63 : decode cX3_advance 63 = .ok (.ireturn, 1) := by decide +kernel
theorem dX3_leave_0 : decode cX3_leave 0 = .ok (.aload_n 0, 1) := by decide +kernel
theorem dX3_leave_1 : decode cX3_leave 1 = .ok (.getfield 9, 3) := by decide +kernel
theorem dX3_leave_4 : decode cX3_leave 4 = .ok (.aload_n 0, 1) := by decide +kernel
theorem dX3_leave_5 : decode cX3_leave 5 = .ok (.getfield 24, 3) := by decide +kernel
theorem dX3_leave_8 : decode cX3_leave 8 = .ok (.getfield 83, 3) := by decide +kernel
theorem dX3_leave_11 : decode cX3_leave 11 = .ok (.iconst 1, 1) := by decide +kernel
theorem dX3_leave_12 : decode cX3_leave 12 = .ok (.isub, 1) := by decide +kernel
theorem dX3_leave_13 : decode cX3_leave 13 = .ok (.iaload, 1) := by decide +kernel
theorem dX3_leave_14 : decode cX3_leave 14 = .ok (.istore_n 1, 1) := by decide +kernel
theorem dX3_leave_15 : decode cX3_leave 15 = .ok (.iload_n 1, 1) := by decide +kernel
theorem dX3_leave_16 : decode cX3_leave 16 = .ok (.ifCond .ne 4, 3) := by decide +kernel
theorem dX3_leave_19 : decode cX3_leave 19 = .ok (.return_, 1) := by decide +kernel
theorem dX3_leave_20 : decode cX3_leave 20 = .ok (.aload_n 0, 1) := by decide +kernel
theorem dX3_leave_21 : decode cX3_leave 21 = .ok (.getfield 24, 3) := by decide +kernel
theorem dX3_leave_24 : decode cX3_leave 24 = .ok (.iload_n 1, 1) := by decide +kernel
theorem dX3_leave_25 : decode cX3_leave 25 = .ok (.invokevirtual 129, 3) := by decide +kernel
theorem dX3_leave_28 : decode cX3_leave 28 = .ok (.ifCond .eq 16, 3) := by decide +kernel
theorem dX3_leave_31 : decode cX3_leave 31 = .ok (.aload_n 0, 1) := by decide +kernel
theorem dX3_leave_32 : decode cX3_leave 32 = .ok (.dup, 1) := by decide +kernel
theorem dX3_leave_33 : decode cX3_leave 33 = .ok (.getfield 57, 3) := by decide +kernel
theorem dX3_leave_36 : decode cX3_leave 36 = .ok (.iconst 1, 1) := by decide +kernel
theorem dX3_leave_37 : decode cX3_leave 37 = .ok (.iadd, 1) := by decide +kernel
theorem dX3_leave_38 : decode cX3_leave 38 = .ok (.putfield 57, 3) := by decide +kernel
theorem dX3_leave_41 : decode cX3_leave 41 = .ok (.goto 13, 3) := by decide +kernel
theorem dX3_leave_44 : decode cX3_leave 44 = .ok (.aload_n 0, 1) := by decide +kernel
theorem dX3_leave_45 : decode cX3_leave 45 = .ok (.dup, 1) := by decide +kernel
theorem dX3_leave_46 : decode cX3_leave 46 = .ok (.getfield 60, 3) := by decide +kernel
theorem dX3_leave_49 : decode cX3_leave 49 = .ok (.iconst 1, 1) := by decide +kernel
theorem dX3_leave_50 : decode cX3_leave 50 = .ok (.iadd, 1) := by decide +kernel
theorem dX3_leave_51 : decode cX3_leave 51 = .ok (.putfield 60, 3) := by decide +kernel
theorem dX3_leave_54 : decode cX3_leave 54 = .ok (.return_, 1) := by decide +kernel
theorem dX3_moveOn_0 : decode cX3_moveOn 0 = .ok (.aload_n 0, 1) := by decide +kernel
theorem dX3_moveOn_1 : decode cX3_moveOn 1 = .ok (.getfield 9, 3) := by decide +kernel
theorem dX3_moveOn_4 : decode cX3_moveOn 4 = .ok (.iconst 0, 1) := by decide +kernel
theorem dX3_moveOn_5 : decode cX3_moveOn 5 = .ok (.aload_n 0, 1) := by decide +kernel
theorem dX3_moveOn_6 : decode cX3_moveOn 6 = .ok (.getfield 9, 3) := by decide +kernel
theorem dX3_moveOn_9 : decode cX3_moveOn 9 = .ok (.iconst 1, 1) := by decide +kernel
theorem dX3_moveOn_10 : decode cX3_moveOn 10 = .ok (.aload_n 0, 1) := by decide +kernel
theorem dX3_moveOn_11 : decode cX3_moveOn 11 = .ok (.getfield 24, 3) := by decide +kernel
theorem dX3_moveOn_14 : decode cX3_moveOn 14 = .ok (.getfield 83, 3) := by decide +kernel
theorem dX3_moveOn_17 : decode cX3_moveOn 17 = .ok (.iconst 1, 1) := by decide +kernel
theorem dX3_moveOn_18 : decode cX3_moveOn 18 = .ok (.isub, 1) := by decide +kernel
theorem dX3_moveOn_19 : decode cX3_moveOn 19 = .ok (.invokestatic 28, 3) := by decide +kernel
theorem dX3_moveOn_22 : decode cX3_moveOn 22 = .ok (.aload_n 0, 1) := by decide +kernel
theorem dX3_moveOn_23 : decode cX3_moveOn 23 = .ok (.getfield 9, 3) := by decide +kernel
theorem dX3_moveOn_26 : decode cX3_moveOn 26 = .ok (.iconst 0, 1) := by decide +kernel
theorem dX3_moveOn_27 : decode cX3_moveOn 27 = .ok (.iconst 0, 1) := by decide +kernel
theorem dX3_moveOn_28 : decode cX3_moveOn 28 = .ok (.iastore, 1) := by decide +kernel
theorem dX3_moveOn_29 : decode cX3_moveOn 29 = .ok (.aload_n 0, 1) := by decide +kernel
theorem dX3_moveOn_30 : decode cX3_moveOn 30 = .ok (.invokevirtual 133, 3) := by decide +kernel
theorem dX3_moveOn_33 : decode cX3_moveOn 33 = .ok (.aload_n 0, 1) := by decide +kernel
theorem dX3_moveOn_34 : decode cX3_moveOn 34 = .ok (.getfield 38, 3) := by decide +kernel
theorem dX3_moveOn_37 : decode cX3_moveOn 37 = .ok (.ifCond .le 45, 3) := by decide +kernel
theorem dX3_moveOn_40 : decode cX3_moveOn 40 = .ok (.aload_n 0, 1) := by decide +kernel
theorem dX3_moveOn_41 : decode cX3_moveOn 41 = .ok (.getfield 9, 3) := by decide +kernel
theorem dX3_moveOn_44 : decode cX3_moveOn 44 = .ok (.iconst 0, 1) := by decide +kernel
theorem dX3_moveOn_45 : decode cX3_moveOn 45 = .ok (.aload_n 0, 1) := by decide +kernel
theorem dX3_moveOn_46 : decode cX3_moveOn 46 = .ok (.getfield 21, 3) := by decide +kernel
theorem dX3_moveOn_49 : decode cX3_moveOn 49 = .ok (.iconst 0, 1) := by decide +kernel
theorem dX3_moveOn_50 : decode cX3_moveOn 50 = .ok (.iaload, 1) := by decide +kernel
theorem dX3_moveOn_51 : decode cX3_moveOn 51 = .ok (.invokestatic 136, 3) := by decide +kernel
theorem dX3_moveOn_54 : decode cX3_moveOn 54 = .ok (.iastore, 1) := by decide +kernel
theorem dX3_moveOn_55 : decode cX3_moveOn 55 = .ok (.aload_n 0, 1) := by decide +kernel
theorem dX3_moveOn_56 : decode cX3_moveOn 56 = .ok (.dup, 1) := by decide +kernel
theorem dX3_moveOn_57 : decode cX3_moveOn 57 = .ok (.getfield 38, 3) := by decide +kernel
theorem dX3_moveOn_60 : decode cX3_moveOn 60 = .ok (.iconst 1, 1) := by decide +kernel
theorem dX3_moveOn_61 : decode cX3_moveOn 61 = .ok (.isub, 1) := by decide +kernel
theorem dX3_moveOn_62 : decode cX3_moveOn 62 = .ok (.putfield 38, 3) := by decide +kernel
theorem dX3_moveOn_65 : decode cX3_moveOn 65 = .ok (.aload_n 0, 1) := by decide +kernel
theorem dX3_moveOn_66 : decode cX3_moveOn 66 = .ok (.getfield 21, 3) := by decide +kernel
theorem dX3_moveOn_69 : decode cX3_moveOn 69 = .ok (.iconst 1, 1) := by decide +kernel
theorem dX3_moveOn_70 : decode cX3_moveOn 70 = .ok (.aload_n 0, 1) := by decide +kernel
theorem dX3_moveOn_71 : decode cX3_moveOn 71 = .ok (.getfield 21, 3) := by decide +kernel
theorem dX3_moveOn_74 : decode cX3_moveOn 74 = .ok (.iconst 0, 1) := by decide +kernel
theorem dX3_moveOn_75 : decode cX3_moveOn 75 = .ok (.aload_n 0, 1) := by decide +kernel
theorem dX3_moveOn_76 : decode cX3_moveOn 76 = .ok (.getfield 38, 3) := by decide +kernel
theorem dX3_moveOn_79 : decode cX3_moveOn 79 = .ok (.invokestatic 28, 3) := by decide +kernel
theorem dX3_moveOn_82 : decode cX3_moveOn 82 = .ok (.return_, 1) := by decide +kernel
theorem dX3_leak_0 : decode cX3_leak 0 = .ok (.iconst 0, 1) := by decide +kernel
theorem dX3_leak_1 : decode cX3_leak 1 = .ok (.istore_n 1, 1) := by decide +kernel
theorem dX3_leak_2 : decode cX3_leak 2 = .ok (.iload_n 1, 1) := by decide +kernel
theorem dX3_leak_3 : decode cX3_leak 3 = .ok (.aload_n 0, 1) := by decide +kernel
theorem dX3_leak_4 : decode cX3_leak 4 = .ok (.getfield 24, 3) := by decide +kernel
theorem dX3_leak_7 : decode cX3_leak 7 = .ok (.getfield 83, 3) := by decide +kernel
theorem dX3_leak_10 : decode cX3_leak 10 = .ok (.if_icmp .ge 43, 3) := by decide +kernel
theorem dX3_leak_13 : decode cX3_leak 13 = .ok (.aload_n 0, 1) := by decide +kernel
theorem dX3_leak_14 : decode cX3_leak 14 = .ok (.getfield 9, 3) := by decide +kernel
theorem dX3_leak_17 : decode cX3_leak 17 = .ok (.iload_n 1, 1) := by decide +kernel
theorem dX3_leak_18 : decode cX3_leak 18 = .ok (.iaload, 1) := by decide +kernel
theorem dX3_leak_19 : decode cX3_leak 19 = .ok (.istore_n 2, 1) := by decide +kernel
theorem dX3_leak_20 : decode cX3_leak 20 = .ok (.iload_n 2, 1) := by decide +kernel
theorem dX3_leak_21 : decode cX3_leak 21 = .ok (.sipush 4096, 3) := by decide +kernel
theorem dX3_leak_24 : decode cX3_leak 24 = .ok (.invokestatic 140, 3) := by decide +kernel
theorem dX3_leak_27 : decode cX3_leak 27 = .ok (.ifCond .eq 20, 3) := by decide +kernel
theorem dX3_leak_30 : decode cX3_leak 30 = .ok (.iload_n 2, 1) := by decide +kernel
theorem dX3_leak_31 : decode cX3_leak 31 = .ok (.invokestatic 144, 3) := by decide +kernel
theorem dX3_leak_34 : decode cX3_leak 34 = .ok (.ifCond .le 13, 3) := by decide +kernel
theorem dX3_leak_37 : decode cX3_leak 37 = .ok (.aload_n 0, 1) := by decide +kernel
theorem dX3_leak_38 : decode cX3_leak 38 = .ok (.getfield 9, 3) := by decide +kernel
theorem dX3_leak_41 : decode cX3_leak 41 = .ok (.iload_n 1, 1) := by decide +kernel
theorem dX3_leak_42 : decode cX3_leak 42 = .ok (.iload_n 2, 1) := by decide +kernel
theorem dX3_leak_43 : decode cX3_leak 43 = .ok (.invokestatic 147, 3) := by decide +kernel
theorem dX3_leak_46 : decode cX3_leak 46 = .ok (.iastore, 1) := by decide +kernel
theorem dX3_leak_47 : decode cX3_leak 47 = .ok (.iinc 1 1, 3) := by decide +kernel
theorem dX3_leak_50 : decode cX3_leak 50 = .ok (.goto (-48), 3) := by decide +kernel
theorem dX3_leak_53 : decode cX3_leak 53 = .ok (.return_, 1) := by decide +kernel
theorem dX3_fill_0 : decode cX3_fill 0 = .ok (.aload_n 0, 1) := by decide +kernel
theorem dX3_fill_1 : decode cX3_fill 1 = .ok (.invokevirtual 150, 3) := by decide +kernel
theorem dX3_fill_4 : decode cX3_fill 4 = .ok (.istore_n 1, 1) := by decide +kernel
theorem dX3_fill_5 : decode cX3_fill 5 = .ok (.aload_n 0, 1) := by decide +kernel
theorem dX3_fill_6 : decode cX3_fill 6 = .ok (.getfield 9, 3) := by decide +kernel
theorem dX3_fill_9 : decode cX3_fill 9 = .ok (.iconst 0, 1) := by decide +kernel
theorem dX3_fill_10 : decode cX3_fill 10 = .ok (.iaload, 1) := by decide +kernel
theorem dX3_fill_11 : decode cX3_fill 11 = .ok (.ifCond .eq 14, 3) := by decide +kernel
theorem dX3_fill_14 : decode cX3_fill 14 = .ok (.aload_n 0, 1) := by decide +kernel
theorem dX3_fill_15 : decode cX3_fill 15 = .ok (.getfield 24, 3) := by decide +kernel
theorem dX3_fill_18 : decode cX3_fill 18 = .ok (.iload_n 1, 1) := by decide +kernel
theorem dX3_fill_19 : decode cX3_fill 19 = .ok (.invokevirtual 153, 3) := by decide +kernel
theorem dX3_fill_22 : decode cX3_fill 22 = .ok (.ifCond .ne 4, 3) := by decide +kernel
theorem dX3_fill_25 : decode cX3_fill 25 = .ok (.return_, 1) := by decide +kernel
theorem dX3_fill_26 : decode cX3_fill 26 = .ok (.aload_n 0, 1) := by decide +kernel
theorem dX3_fill_27 : decode cX3_fill 27 = .ok (.iload_n 1, 1) := by decide +kernel
theorem dX3_fill_28 : decode cX3_fill 28 = .ok (.invokevirtual 156, 3) := by decide +kernel
theorem dX3_fill_31 : decode cX3_fill 31 = .ok (.ifCond .eq 7, 3) := by decide +kernel
theorem dX3_fill_34 : decode cX3_fill 34 = .ok (.iconst 0, 1) := by decide +kernel
theorem dX3_fill_35 : decode cX3_fill 35 = .ok (.goto 22, 3) := by decide +kernel
theorem dX3_fill_38 : decode cX3_fill 38 = .ok (.aload_n 0, 1) := by decide +kernel
theorem dX3_fill_39 : decode cX3_fill 39 = .ok (.getfield 18, 3) := by decide +kernel
theorem dX3_fill_42 : decode cX3_fill 42 = .ok (.iload_n 1, 1) := by decide +kernel
theorem dX3_fill_43 : decode cX3_fill 43 = .ok (.iaload, 1) := by decide +kernel
theorem dX3_fill_44 : decode cX3_fill 44 = .ok (.aload_n 0, 1) := by decide +kernel
theorem dX3_fill_45 : decode cX3_fill 45 = .ok (.getfield 24, 3) := by decide +kernel
theorem dX3_fill_48 : decode cX3_fill 48 = .ok (.getfield 159, 3) := by decide +kernel
theorem dX3_fill_51 : decode cX3_fill 51 = .ok (.iload_n 1, 1) := by decide +kernel
theorem dX3_fill_52 : decode cX3_fill 52 = .ok (.iaload, 1) := by decide +kernel
theorem dX3_fill_53 : decode cX3_fill 53 = .ok (.iadd, 1) := by decide +kernel
theorem dX3_fill_54 : decode cX3_fill 54 = .ok (.invokestatic 162, 3) := by decide +kernel
theorem dX3_fill_57 : decode cX3_fill 57 = .ok (.istore_n 2, 1) := by decide +kernel
theorem dX3_fill_58 : decode cX3_fill 58 = .ok (.aload_n 0, 1) := by decide +kernel
theorem dX3_fill_59 : decode cX3_fill 59 = .ok (.getfield 9, 3) := by decide +kernel
theorem dX3_fill_62 : decode cX3_fill 62 = .ok (.iconst 0, 1) := by decide +kernel
theorem dX3_fill_63 : decode cX3_fill 63 = .ok (.aload_n 0, 1) := by decide +kernel
theorem dX3_fill_64 : decode cX3_fill 64 = .ok (.getfield 9, 3) := by decide +kernel
theorem dX3_fill_67 : decode cX3_fill 67 = .ok (.iconst 0, 1) := by decide +kernel
theorem dX3_fill_68 : decode cX3_fill 68 = .ok (.iaload, 1) := by decide +kernel
theorem dX3_fill_69 : decode cX3_fill 69 = .ok (.iload_n 1, 1) := by decide +kernel
theorem dX3_fill_70 : decode cX3_fill 70 = .ok (.iload_n 2, 1) := by decide +kernel
theorem dX3_fill_71 : decode cX3_fill 71 = .ok (.invokestatic 165, 3) := by decide +kernel
theorem dX3_fill_74 : decode cX3_fill 74 = .ok (.iastore, 1) := by decide +kernel
theorem dX3_fill_75 : decode cX3_fill 75 = .ok (.return_, 1) := by decide +kernel
theorem dX3_isOff_0 : decode cX3_isOff 0 = .ok (.aload_n 0, 1) := by decide +kernel
theorem dX3_isOff_1 : decode cX3_isOff 1 = .ok (.getfield 34, 3) := by decide +kernel
theorem dX3_isOff_4 : decode cX3_isOff 4 = .ok (.iload_n 1, 1) := by decide +kernel
theorem dX3_isOff_5 : decode cX3_isOff 5 = .ok (.ishr, 1) := by decide +kernel
theorem dX3_isOff_6 : decode cX3_isOff 6 = .ok (.iconst 1, 1) := by decide +kernel
theorem dX3_isOff_7 : decode cX3_isOff 7 = .ok (.iand, 1) := by decide +kernel
theorem dX3_isOff_8 : decode cX3_isOff 8 = .ok (.ifCond .eq 7, 3) := by decide +kernel
theorem dX3_isOff_11 : decode cX3_isOff 11 = .ok (.iconst 1, 1) := by decide +kernel
theorem dX3_isOff_12 : decode cX3_isOff 12 = .ok (.goto 4, 3) := by decide +kernel
theorem dX3_isOff_15 : decode cX3_isOff 15 = .ok (.iconst 0, 1) := by decide +kernel
theorem dX3_isOff_16 : decode cX3_isOff 16 = .ok (.ireturn, 1) := by decide +kernel
theorem dX3_weigh_0 : decode cX3_weigh 0 = .ok (.aload_n 0, 1) := by decide +kernel
theorem dX3_weigh_1 : decode cX3_weigh 1 = .ok (.getfield 9, 3) := by decide +kernel
theorem dX3_weigh_4 : decode cX3_weigh 4 = .ok (.aload_n 0, 1) := by decide +kernel
theorem dX3_weigh_5 : decode cX3_weigh 5 = .ok (.getfield 24, 3) := by decide +kernel
theorem dX3_weigh_8 : decode cX3_weigh 8 = .ok (.getfield 100, 3) := by decide +kernel
theorem dX3_weigh_11 : decode cX3_weigh 11 = .ok (.iconst 0, 1) := by decide +kernel
theorem dX3_weigh_12 : decode cX3_weigh 12 = .ok (.iaload, 1) := by decide +kernel
theorem dX3_weigh_13 : decode cX3_weigh 13 = .ok (.iaload, 1) := by decide +kernel
theorem dX3_weigh_14 : decode cX3_weigh 14 = .ok (.istore_n 1, 1) := by decide +kernel
theorem dX3_weigh_15 : decode cX3_weigh 15 = .ok (.iload_n 1, 1) := by decide +kernel
theorem dX3_weigh_16 : decode cX3_weigh 16 = .ok (.invokestatic 169, 3) := by decide +kernel
theorem dX3_weigh_19 : decode cX3_weigh 19 = .ok (.istore_n 2, 1) := by decide +kernel
theorem dX3_weigh_20 : decode cX3_weigh 20 = .ok (.aload_n 0, 1) := by decide +kernel
theorem dX3_weigh_21 : decode cX3_weigh 21 = .ok (.getfield 24, 3) := by decide +kernel
theorem dX3_weigh_24 : decode cX3_weigh 24 = .ok (.iload_n 2, 1) := by decide +kernel
theorem dX3_weigh_25 : decode cX3_weigh 25 = .ok (.invokevirtual 153, 3) := by decide +kernel
theorem dX3_weigh_28 : decode cX3_weigh 28 = .ok (.ifCond .eq 43, 3) := by decide +kernel
theorem dX3_weigh_31 : decode cX3_weigh 31 = .ok (.aload_n 0, 1) := by decide +kernel
theorem dX3_weigh_32 : decode cX3_weigh 32 = .ok (.iload_n 2, 1) := by decide +kernel
theorem dX3_weigh_33 : decode cX3_weigh 33 = .ok (.invokevirtual 156, 3) := by decide +kernel
theorem dX3_weigh_36 : decode cX3_weigh 36 = .ok (.ifCond .ne 35, 3) := by decide +kernel
theorem dX3_weigh_39 : decode cX3_weigh 39 = .ok (.aload_n 0, 1) := by decide +kernel
theorem dX3_weigh_40 : decode cX3_weigh 40 = .ok (.getfield 24, 3) := by decide +kernel
theorem dX3_weigh_43 : decode cX3_weigh 43 = .ok (.getfield 172, 3) := by decide +kernel
theorem dX3_weigh_46 : decode cX3_weigh 46 = .ok (.iload_n 1, 1) := by decide +kernel
theorem dX3_weigh_47 : decode cX3_weigh 47 = .ok (.invokestatic 144, 3) := by decide +kernel
theorem dX3_weigh_50 : decode cX3_weigh 50 = .ok (.isub, 1) := by decide +kernel
theorem dX3_weigh_51 : decode cX3_weigh 51 = .ok (.iconst 2, 1) := by decide +kernel
theorem dX3_weigh_52 : decode cX3_weigh 52 = .ok (.idiv, 1) := by decide +kernel
theorem dX3_weigh_53 : decode cX3_weigh 53 = .ok (.istore_n 3, 1) := by decide +kernel
theorem dX3_weigh_54 : decode cX3_weigh 54 = .ok (.aload_n 0, 1) := by decide +kernel
theorem dX3_weigh_55 : decode cX3_weigh 55 = .ok (.getfield 18, 3) := by decide +kernel
theorem dX3_weigh_58 : decode cX3_weigh 58 = .ok (.iload_n 2, 1) := by decide +kernel
theorem dX3_weigh_59 : decode cX3_weigh 59 = .ok (.aload_n 0, 1) := by decide +kernel
theorem dX3_weigh_60 : decode cX3_weigh 60 = .ok (.getfield 18, 3) := by decide +kernel
theorem dX3_weigh_63 : decode cX3_weigh 63 = .ok (.iload_n 2, 1) := by decide +kernel
theorem dX3_weigh_64 : decode cX3_weigh 64 = .ok (.iaload, 1) := by decide +kernel
theorem dX3_weigh_65 : decode cX3_weigh 65 = .ok (.iload_n 3, 1) := by decide +kernel
theorem dX3_weigh_66 : decode cX3_weigh 66 = .ok (.iadd, 1) := by decide +kernel
theorem dX3_weigh_67 : decode cX3_weigh 67 = .ok (.invokestatic 162, 3) := by decide +kernel
theorem dX3_weigh_70 : decode cX3_weigh 70 = .ok (.iastore, 1) := by decide +kernel
theorem dX3_weigh_71 : decode cX3_weigh 71 = .ok (.return_, 1) := by decide +kernel
theorem dX3_equip_0 : decode cX3_equip 0 = .ok (.aload_n 0, 1) := by decide +kernel
theorem dX3_equip_1 : decode cX3_equip 1 = .ok (.getfield 24, 3) := by decide +kernel
theorem dX3_equip_4 : decode cX3_equip 4 = .ok (.getfield 100, 3) := by decide +kernel
theorem dX3_equip_7 : decode cX3_equip 7 = .ok (.iconst 1, 1) := by decide +kernel
theorem dX3_equip_8 : decode cX3_equip 8 = .ok (.iaload, 1) := by decide +kernel
theorem dX3_equip_9 : decode cX3_equip 9 = .ok (.istore_n 1, 1) := by decide +kernel
theorem dX3_equip_10 : decode cX3_equip 10 = .ok (.aload_n 0, 1) := by decide +kernel
theorem dX3_equip_11 : decode cX3_equip 11 = .ok (.getfield 9, 3) := by decide +kernel
theorem dX3_equip_14 : decode cX3_equip 14 = .ok (.iload_n 1, 1) := by decide +kernel
theorem dX3_equip_15 : decode cX3_equip 15 = .ok (.iaload, 1) := by decide +kernel
theorem dX3_equip_16 : decode cX3_equip 16 = .ok (.ifCond .eq 32, 3) := by decide +kernel
theorem dX3_equip_19 : decode cX3_equip 19 = .ok (.aload_n 0, 1) := by decide +kernel
theorem dX3_equip_20 : decode cX3_equip 20 = .ok (.getfield 41, 3) := by decide +kernel
theorem dX3_equip_23 : decode cX3_equip 23 = .ok (.ifCond .le 25, 3) := by decide +kernel
theorem dX3_equip_26 : decode cX3_equip 26 = .ok (.aload_n 0, 1) := by decide +kernel
theorem dX3_equip_27 : decode cX3_equip 27 = .ok (.getfield 9, 3) := by decide +kernel
theorem dX3_equip_30 : decode cX3_equip 30 = .ok (.iload_n 1, 1) := by decide +kernel
theorem dX3_equip_31 : decode cX3_equip 31 = .ok (.dup2, 1) := by decide +kernel
theorem dX3_equip_32 : decode cX3_equip 32 = .ok (.iaload, 1) := by decide +kernel
theorem dX3_equip_33 : decode cX3_equip 33 = .ok (.sipush 1024, 3) := by decide +kernel
theorem dX3_equip_36 : decode cX3_equip 36 = .ok (.ior, 1) := by decide +kernel
theorem dX3_equip_37 : decode cX3_equip 37 = .ok (.iastore, 1) := by decide +kernel
theorem dX3_equip_38 : decode cX3_equip 38 = .ok (.aload_n 0, 1) := by decide +kernel
theorem dX3_equip_39 : decode cX3_equip 39 = .ok (.dup, 1) := by decide +kernel
theorem dX3_equip_40 : decode cX3_equip 40 = .ok (.getfield 41, 3) := by decide +kernel
theorem dX3_equip_43 : decode cX3_equip 43 = .ok (.iconst 1, 1) := by decide +kernel
theorem dX3_equip_44 : decode cX3_equip 44 = .ok (.isub, 1) := by decide +kernel
theorem dX3_equip_45 : decode cX3_equip 45 = .ok (.putfield 41, 3) := by decide +kernel
theorem dX3_equip_48 : decode cX3_equip 48 = .ok (.aload_n 0, 1) := by decide +kernel
theorem dX3_equip_49 : decode cX3_equip 49 = .ok (.getfield 24, 3) := by decide +kernel
theorem dX3_equip_52 : decode cX3_equip 52 = .ok (.getfield 100, 3) := by decide +kernel
theorem dX3_equip_55 : decode cX3_equip 55 = .ok (.iconst 2, 1) := by decide +kernel
theorem dX3_equip_56 : decode cX3_equip 56 = .ok (.iaload, 1) := by decide +kernel
theorem dX3_equip_57 : decode cX3_equip 57 = .ok (.istore_n 2, 1) := by decide +kernel
theorem dX3_equip_58 : decode cX3_equip 58 = .ok (.aload_n 0, 1) := by decide +kernel
theorem dX3_equip_59 : decode cX3_equip 59 = .ok (.getfield 9, 3) := by decide +kernel
theorem dX3_equip_62 : decode cX3_equip 62 = .ok (.iload_n 2, 1) := by decide +kernel
theorem dX3_equip_63 : decode cX3_equip 63 = .ok (.iaload, 1) := by decide +kernel
theorem dX3_equip_64 : decode cX3_equip 64 = .ok (.ifCond .eq 32, 3) := by decide +kernel
theorem dX3_equip_67 : decode cX3_equip 67 = .ok (.aload_n 0, 1) := by decide +kernel
theorem dX3_equip_68 : decode cX3_equip 68 = .ok (.getfield 44, 3) := by decide +kernel
theorem dX3_equip_71 : decode cX3_equip 71 = .ok (.ifCond .le 25, 3) := by decide +kernel
theorem dX3_equip_74 : decode cX3_equip 74 = .ok (.aload_n 0, 1) := by decide +kernel
theorem dX3_equip_75 : decode cX3_equip 75 = .ok (.getfield 9, 3) := by decide +kernel
theorem dX3_equip_78 : decode cX3_equip 78 = .ok (.iload_n 2, 1) := by decide +kernel
theorem dX3_equip_79 : decode cX3_equip 79 = .ok (.dup2, 1) := by decide +kernel
theorem dX3_equip_80 : decode cX3_equip 80 = .ok (.iaload, 1) := by decide +kernel
theorem dX3_equip_81 : decode cX3_equip 81 = .ok (.sipush 2048, 3) := by decide +kernel
theorem dX3_equip_84 : decode cX3_equip 84 = .ok (.ior, 1) := by decide +kernel
theorem dX3_equip_85 : decode cX3_equip 85 = .ok (.iastore, 1) := by decide +kernel
theorem dX3_equip_86 : decode cX3_equip 86 = .ok (.aload_n 0, 1) := by decide +kernel
theorem dX3_equip_87 : decode cX3_equip 87 = .ok (.dup, 1) := by decide +kernel
theorem dX3_equip_88 : decode cX3_equip 88 = .ok (.getfield 44, 3) := by decide +kernel
theorem dX3_equip_91 : decode cX3_equip 91 = .ok (.iconst 1, 1) := by decide +kernel
theorem dX3_equip_92 : decode cX3_equip 92 = .ok (.isub, 1) := by decide +kernel
theorem dX3_equip_93 : decode cX3_equip 93 = .ok (.putfield 44, 3) := by decide +kernel
theorem dX3_equip_96 : decode cX3_equip 96 = .ok (.return_, 1) := by decide +kernel
theorem dX3_check_0 : decode cX3_check 0 = .ok (.aload_n 0, 1) := by decide +kernel
theorem dX3_check_1 : decode cX3_check 1 = .ok (.getfield 24, 3) := by decide +kernel
theorem dX3_check_4 : decode cX3_check 4 = .ok (.getfield 100, 3) := by decide +kernel
theorem dX3_check_7 : decode cX3_check 7 = .ok (.iconst 3, 1) := by decide +kernel
theorem dX3_check_8 : decode cX3_check 8 = .ok (.iaload, 1) := by decide +kernel
theorem dX3_check_9 : decode cX3_check 9 = .ok (.istore_n 1, 1) := by decide +kernel
theorem dX3_check_10 : decode cX3_check 10 = .ok (.aload_n 0, 1) := by decide +kernel
theorem dX3_check_11 : decode cX3_check 11 = .ok (.getfield 9, 3) := by decide +kernel
theorem dX3_check_14 : decode cX3_check 14 = .ok (.iload_n 1, 1) := by decide +kernel
theorem dX3_check_15 : decode cX3_check 15 = .ok (.iaload, 1) := by decide +kernel
theorem dX3_check_16 : decode cX3_check 16 = .ok (.ifCond .ne 4, 3) := by decide +kernel
theorem dX3_check_19 : decode cX3_check 19 = .ok (.return_, 1) := by decide +kernel
theorem dX3_check_20 : decode cX3_check 20 = .ok (.aload_n 0, 1) := by decide +kernel
theorem dX3_check_21 : decode cX3_check 21 = .ok (.getfield 24, 3) := by decide +kernel
theorem dX3_check_24 : decode cX3_check 24 = .ok (.aload_n 0, 1) := by decide +kernel
theorem dX3_check_25 : decode cX3_check 25 = .ok (.getfield 9, 3) := by decide +kernel
theorem dX3_check_28 : decode cX3_check 28 = .ok (.iload_n 1, 1) := by decide +kernel
theorem dX3_check_29 : decode cX3_check 29 = .ok (.iaload, 1) := by decide +kernel
theorem dX3_check_30 : decode cX3_check 30 = .ok (.invokevirtual 129, 3) := by decide +kernel
theorem dX3_check_33 : decode cX3_check 33 = .ok (.ifCond .ne 13, 3) := by decide +kernel
theorem dX3_check_36 : decode cX3_check 36 = .ok (.aload_n 0, 1) := by decide +kernel
theorem dX3_check_37 : decode cX3_check 37 = .ok (.getfield 15, 3) := by decide +kernel
theorem dX3_check_40 : decode cX3_check 40 = .ok (.iload_n 1, 1) := by decide +kernel
theorem dX3_check_41 : decode cX3_check 41 = .ok (.iconst 1, 1) := by decide +kernel
theorem dX3_check_42 : decode cX3_check 42 = .ok (.iastore, 1) := by decide +kernel
theorem dX3_check_43 : decode cX3_check 43 = .ok (.goto 54, 3) := by decide +kernel
theorem dX3_check_46 : decode cX3_check 46 = .ok (.aload_n 0, 1) := by decide +kernel
theorem dX3_check_47 : decode cX3_check 47 = .ok (.getfield 15, 3) := by decide +kernel
theorem dX3_check_50 : decode cX3_check 50 = .ok (.iload_n 1, 1) := by decide +kernel
theorem dX3_check_51 : decode cX3_check 51 = .ok (.iaload, 1) := by decide +kernel
theorem dX3_check_52 : decode cX3_check 52 = .ok (.ifCond .ne 45, 3) := by decide +kernel
theorem dX3_check_55 : decode cX3_check 55 = .ok (.aload_n 0, 1) := by decide +kernel
theorem dX3_check_56 : decode cX3_check 56 = .ok (.dup, 1) := by decide +kernel
theorem dX3_check_57 : decode cX3_check 57 = .ok (.getfield 72, 3) := by decide +kernel
theorem dX3_check_60 : decode cX3_check 60 = .ok (.iconst 1, 1) := by decide +kernel
theorem dX3_check_61 : decode cX3_check 61 = .ok (.iadd, 1) := by decide +kernel
theorem dX3_check_62 : decode cX3_check 62 = .ok (.putfield 72, 3) := by decide +kernel
theorem dX3_check_65 : decode cX3_check 65 = .ok (.aload_n 0, 1) := by decide +kernel
theorem dX3_check_66 : decode cX3_check 66 = .ok (.getfield 24, 3) := by decide +kernel
theorem dX3_check_69 : decode cX3_check 69 = .ok (.getfield 175, 3) := by decide +kernel
theorem dX3_check_72 : decode cX3_check 72 = .ok (.ifCond .eq 25, 3) := by decide +kernel
theorem dX3_check_75 : decode cX3_check 75 = .ok (.aload_n 0, 1) := by decide +kernel
theorem dX3_check_76 : decode cX3_check 76 = .ok (.getfield 72, 3) := by decide +kernel
theorem dX3_check_79 : decode cX3_check 79 = .ok (.aload_n 0, 1) := by decide +kernel
theorem dX3_check_80 : decode cX3_check 80 = .ok (.getfield 24, 3) := by decide +kernel
theorem dX3_check_83 : decode cX3_check 83 = .ok (.getfield 175, 3) := by decide +kernel
theorem dX3_check_86 : decode cX3_check 86 = .ok (.irem, 1) := by decide +kernel
theorem dX3_check_87 : decode cX3_check 87 = .ok (.ifCond .ne 10, 3) := by decide +kernel
theorem dX3_check_90 : decode cX3_check 90 = .ok (.aload_n 0, 1) := by decide +kernel
theorem dX3_check_91 : decode cX3_check 91 = .ok (.getfield 15, 3) := by decide +kernel
theorem dX3_check_94 : decode cX3_check 94 = .ok (.iload_n 1, 1) := by decide +kernel
theorem dX3_check_95 : decode cX3_check 95 = .ok (.iconst 2, 1) := by decide +kernel
theorem dX3_check_96 : decode cX3_check 96 = .ok (.iastore, 1) := by decide +kernel
theorem dX3_check_97 : decode cX3_check 97 = .ok (.return_, 1) := by decide +kernel
theorem dX3_push_0 : decode cX3_push 0 = .ok (.aload_n 0, 1) := by decide +kernel
theorem dX3_push_1 : decode cX3_push 1 = .ok (.getfield 24, 3) := by decide +kernel
theorem dX3_push_4 : decode cX3_push 4 = .ok (.getfield 100, 3) := by decide +kernel
theorem dX3_push_7 : decode cX3_push 7 = .ok (.iconst 4, 1) := by decide +kernel
theorem dX3_push_8 : decode cX3_push 8 = .ok (.iaload, 1) := by decide +kernel
theorem dX3_push_9 : decode cX3_push 9 = .ok (.istore_n 1, 1) := by decide +kernel
theorem dX3_push_10 : decode cX3_push 10 = .ok (.aload_n 0, 1) := by decide +kernel
theorem dX3_push_11 : decode cX3_push 11 = .ok (.getfield 15, 3) := by decide +kernel
theorem dX3_push_14 : decode cX3_push 14 = .ok (.iload_n 1, 1) := by decide +kernel
theorem dX3_push_15 : decode cX3_push 15 = .ok (.iaload, 1) := by decide +kernel
theorem dX3_push_16 : decode cX3_push 16 = .ok (.ifCond .ne 4, 3) := by decide +kernel
theorem dX3_push_19 : decode cX3_push 19 = .ok (.return_, 1) := by decide +kernel
theorem dX3_push_20 : decode cX3_push 20 = .ok (.aload_n 0, 1) := by decide +kernel
theorem dX3_push_21 : decode cX3_push 21 = .ok (.getfield 9, 3) := by decide +kernel
theorem dX3_push_24 : decode cX3_push 24 = .ok (.iload_n 1, 1) := by decide +kernel
theorem dX3_push_25 : decode cX3_push 25 = .ok (.iaload, 1) := by decide +kernel
theorem dX3_push_26 : decode cX3_push 26 = .ok (.ifCond .eq 10, 3) := by decide +kernel
theorem dX3_push_29 : decode cX3_push 29 = .ok (.aload_n 0, 1) := by decide +kernel
theorem dX3_push_30 : decode cX3_push 30 = .ok (.getfield 54, 3) := by decide +kernel
theorem dX3_push_33 : decode cX3_push 33 = .ok (.ifCond .eq 9, 3) := by decide +kernel
theorem dX3_push_36 : decode cX3_push 36 = .ok (.aload_n 0, 1) := by decide +kernel
theorem dX3_push_37 : decode cX3_push 37 = .ok (.iconst 1, 1) := by decide +kernel
theorem dX3_push_38 : decode cX3_push 38 = .ok (.putfield 50, 3) := by decide +kernel
theorem dX3_push_41 : decode cX3_push 41 = .ok (.return_, 1) := by decide +kernel
theorem dX3_push_42 : decode cX3_push 42 = .ok (.aload_n 0, 1) := by decide +kernel
theorem dX3_push_43 : decode cX3_push 43 = .ok (.getfield 15, 3) := by decide +kernel
theorem dX3_push_46 : decode cX3_push 46 = .ok (.iload_n 1, 1) := by decide +kernel
theorem dX3_push_47 : decode cX3_push 47 = .ok (.iaload, 1) := by decide +kernel
theorem dX3_push_48 : decode cX3_push 48 = .ok (.iconst 1, 1) := by decide +kernel
theorem dX3_push_49 : decode cX3_push 49 = .ok (.if_icmp .ne 16, 3) := by decide +kernel
theorem dX3_push_52 : decode cX3_push 52 = .ok (.aload_n 0, 1) := by decide +kernel
theorem dX3_push_53 : decode cX3_push 53 = .ok (.dup, 1) := by decide +kernel
theorem dX3_push_54 : decode cX3_push 54 = .ok (.getfield 63, 3) := by decide +kernel
theorem dX3_push_57 : decode cX3_push 57 = .ok (.iconst 1, 1) := by decide +kernel
theorem dX3_push_58 : decode cX3_push 58 = .ok (.iadd, 1) := by decide +kernel
theorem dX3_push_59 : decode cX3_push 59 = .ok (.putfield 63, 3) := by decide +kernel
theorem dX3_push_62 : decode cX3_push 62 = .ok (.goto 13, 3) := by decide +kernel
theorem dX3_push_65 : decode cX3_push 65 = .ok (.aload_n 0, 1) := by decide +kernel
theorem dX3_push_66 : decode cX3_push 66 = .ok (.dup, 1) := by decide +kernel
theorem dX3_push_67 : decode cX3_push 67 = .ok (.getfield 66, 3) := by decide +kernel
theorem dX3_push_70 : decode cX3_push 70 = .ok (.iconst 1, 1) := by decide +kernel
theorem dX3_push_71 : decode cX3_push 71 = .ok (.iadd, 1) := by decide +kernel
theorem dX3_push_72 : decode cX3_push 72 = .ok (.putfield 66, 3) := by decide +kernel
theorem dX3_push_75 : decode cX3_push 75 = .ok (.aload_n 0, 1) := by decide +kernel
theorem dX3_push_76 : decode cX3_push 76 = .ok (.getfield 9, 3) := by decide +kernel
theorem dX3_push_79 : decode cX3_push 79 = .ok (.iload_n 1, 1) := by decide +kernel
theorem dX3_push_80 : decode cX3_push 80 = .ok (.iconst 0, 1) := by decide +kernel
theorem dX3_push_81 : decode cX3_push 81 = .ok (.iastore, 1) := by decide +kernel
theorem dX3_push_82 : decode cX3_push 82 = .ok (.aload_n 0, 1) := by decide +kernel
theorem dX3_push_83 : decode cX3_push 83 = .ok (.getfield 15, 3) := by decide +kernel
theorem dX3_push_86 : decode cX3_push 86 = .ok (.iload_n 1, 1) := by decide +kernel
theorem dX3_push_87 : decode cX3_push 87 = .ok (.iconst 0, 1) := by decide +kernel
theorem dX3_push_88 : decode cX3_push 88 = .ok (.iastore, 1) := by decide +kernel
theorem dX3_push_89 : decode cX3_push 89 = .ok (.return_, 1) := by decide +kernel
end
section
theorem dX4_init_0 : decode cX4_init 0 = .ok (.aload_n 0, 1) := by decide +kernel
theorem dX4_init_1 : decode cX4_init 1 = .ok (.invokespecial 1, 3) := by decide +kernel
theorem dX4_init_4 : decode cX4_init 4 = .ok (.aload_n 0, 1) := by decide +kernel
theorem dX4_init_5 : decode cX4_init 5 = .ok (.bipush 90, 2) := by decide +kernel
theorem dX4_init_7 : decode cX4_init 7 = .ok (.newarray .int, 2) := by decide +kernel
theorem dX4_init_9 : decode cX4_init 9 = .ok (.putfield 9, 3) := by decide +kernel
theorem dX4_init_12 : decode cX4_init 12 = .ok (.aload_n 0, 1) := by decide +kernel
theorem dX4_init_13 : decode cX4_init 13 = .ok (.new 13, 3) := by decide +kernel
theorem dX4_init_16 : decode cX4_init 16 = .ok (.dup, 1) := by decide +kernel
theorem dX4_init_17 : decode cX4_init 17 = .ok (.invokespecial 15, 3) := by decide +kernel
theorem dX4_init_20 : decode cX4_init 20 = .ok (.putfield 16, 3) := by decide +kernel
theorem dX4_init_23 : decode cX4_init 23 = .ok (.aload_n 0, 1) := by decide +kernel
theorem dX4_init_24 : decode cX4_init 24 = .ok (.new 20, 3) := by decide +kernel
theorem dX4_init_27 : decode cX4_init 27 = .ok (.dup, 1) := by decide +kernel
theorem dX4_init_28 : decode cX4_init 28 = .ok (.invokespecial 22, 3) := by decide +kernel
theorem dX4_init_31 : decode cX4_init 31 = .ok (.putfield 23, 3) := by decide +kernel
theorem dX4_init_34 : decode cX4_init 34 = .ok (.aload_n 0, 1) := by decide +kernel
theorem dX4_init_35 : decode cX4_init 35 = .ok (.new 27, 3) := by decide +kernel
theorem dX4_init_38 : decode cX4_init 38 = .ok (.dup, 1) := by decide +kernel
theorem dX4_init_39 : decode cX4_init 39 = .ok (.aload_n 0, 1) := by decide +kernel
theorem dX4_init_40 : decode cX4_init 40 = .ok (.getfield 23, 3) := by decide +kernel
theorem dX4_init_43 : decode cX4_init 43 = .ok (.invokespecial 29, 3) := by decide +kernel
theorem dX4_init_46 : decode cX4_init 46 = .ok (.putfield 32, 3) := by decide +kernel
theorem dX4_init_49 : decode cX4_init 49 = .ok (.aload_n 0, 1) := by decide +kernel
theorem dX4_init_50 : decode cX4_init 50 = .ok (.new 27, 3) := by decide +kernel
theorem dX4_init_53 : decode cX4_init 53 = .ok (.dup, 1) := by decide +kernel
theorem dX4_init_54 : decode cX4_init 54 = .ok (.aload_n 0, 1) := by decide +kernel
theorem dX4_init_55 : decode cX4_init 55 = .ok (.getfield 23, 3) := by decide +kernel
theorem dX4_init_58 : decode cX4_init 58 = .ok (.invokespecial 29, 3) := by decide +kernel
theorem dX4_init_61 : decode cX4_init 61 = .ok (.putfield 36, 3) := by decide +kernel
theorem dX4_init_64 : decode cX4_init 64 = .ok (.aload_n 0, 1) := by decide +kernel
theorem dX4_init_65 : decode cX4_init 65 = .ok (.bipush 14, 2) := by decide +kernel
theorem dX4_init_67 : decode cX4_init 67 = .ok (.anewarray 27, 3) := by decide +kernel
theorem dX4_init_70 : decode cX4_init 70 = .ok (.putfield 39, 3) := by decide +kernel
theorem dX4_init_73 : decode cX4_init 73 = .ok (.aload_n 0, 1) := by decide +kernel
theorem dX4_init_74 : decode cX4_init 74 = .ok (.iconst 2, 1) := by decide +kernel
theorem dX4_init_75 : decode cX4_init 75 = .ok (.anewarray 27, 3) := by decide +kernel
theorem dX4_init_78 : decode cX4_init 78 = .ok (.putfield 43, 3) := by decide +kernel
theorem dX4_init_81 : decode cX4_init 81 = .ok (.aload_n 0, 1) := by decide +kernel
theorem dX4_init_82 : decode cX4_init 82 = .ok (.iconst 2, 1) := by decide +kernel
theorem dX4_init_83 : decode cX4_init 83 = .ok (.newarray .boolean, 2) := by decide +kernel
theorem dX4_init_85 : decode cX4_init 85 = .ok (.putfield 46, 3) := by decide +kernel
theorem dX4_init_88 : decode cX4_init 88 = .ok (.aload_n 0, 1) := by decide +kernel
theorem dX4_init_89 : decode cX4_init 89 = .ok (.bipush 6, 2) := by decide +kernel
theorem dX4_init_91 : decode cX4_init 91 = .ok (.newarray .int, 2) := by decide +kernel
theorem dX4_init_93 : decode cX4_init 93 = .ok (.putfield 50, 3) := by decide +kernel
theorem dX4_init_96 : decode cX4_init 96 = .ok (.aload_n 0, 1) := by decide +kernel
theorem dX4_init_97 : decode cX4_init 97 = .ok (.bipush 6, 2) := by decide +kernel
theorem dX4_init_99 : decode cX4_init 99 = .ok (.newarray .int, 2) := by decide +kernel
theorem dX4_init_101 : decode cX4_init 101 = .ok (.putfield 53, 3) := by decide +kernel
theorem dX4_init_104 : decode cX4_init 104 = .ok (.aload_n 0, 1) := by decide +kernel
theorem dX4_init_105 : decode cX4_init 105 = .ok (.bipush 6, 2) := by decide +kernel
theorem dX4_init_107 : decode cX4_init 107 = .ok (.newarray .int, 2) := by decide +kernel
theorem dX4_init_109 : decode cX4_init 109 = .ok (.putfield 56, 3) := by decide +kernel
theorem dX4_init_112 : decode cX4_init 112 = .ok (.iconst 0, 1) := by decide +kernel
theorem dX4_init_113 : decode cX4_init 113 = .ok (.istore_n 1, 1) := by decide +kernel
theorem dX4_init_114 : decode cX4_init 114 = .ok (.iload_n 1, 1) := by decide +kernel
theorem dX4_init_115 : decode cX4_init 115 = .ok (.bipush 14, 2) := by decide +kernel
theorem dX4_init_117 : decode cX4_init 117 = .ok (.if_icmp .ge 26, 3) := by decide +kernel
theorem dX4_init_120 : decode cX4_init 120 = .ok (.aload_n 0, 1) := by decide +kernel
theorem dX4_init_121 : decode cX4_init 121 = .ok (.getfield 39, 3) := by decide +kernel
theorem dX4_init_124 : decode cX4_init 124 = .ok (.iload_n 1, 1) := by decide +kernel
theorem dX4_init_125 : decode cX4_init 125 = .ok (.new 27, 3) := by decide +kernel
theorem dX4_init_128 : decode cX4_init 128 = .ok (.dup, 1) := by decide +kernel
theorem dX4_init_129 : decode cX4_init 129 = .ok (.aload_n 0, 1) := by decide +kernel
theorem dX4_init_130 : decode cX4_init 130 = .ok (.getfield 23, 3) := by decide +kernel
theorem dX4_init_133 : decode cX4_init 133 = .ok (.invokespecial 29, 3) := by decide +kernel
theorem dX4_init_136 : decode cX4_init 136 = .ok (.aastore, 1) := by decide +kernel
theorem dX4_init_137 : decode cX4_init 137 = .ok (.iinc 1 1, 3) := by decide +kernel
theorem dX4_init_140 : decode cX4_init 140 = .ok (.goto (-26), 3) := by decide +kernel
theorem dX4_init_143 : decode cX4_init 143 = .ok (.iconst 0, 1) := by decide +kernel
theorem dX4_init_144 : decode cX4_init 144 = .ok (.istore_n 1, 1) := by decide +kernel
theorem dX4_init_145 : decode cX4_init 145 = .ok (.iload_n 1, 1) := by decide +kernel
theorem dX4_init_146 : decode cX4_init 146 = .ok (.iconst 2, 1) := by decide +kernel
theorem dX4_init_147 : decode cX4_init 147 = .ok (.if_icmp .ge 26, 3) := by decide +kernel
theorem dX4_init_150 : decode cX4_init 150 = .ok (.aload_n 0, 1) := by decide +kernel
theorem dX4_init_151 : decode cX4_init 151 = .ok (.getfield 43, 3) := by decide +kernel
theorem dX4_init_154 : decode cX4_init 154 = .ok (.iload_n 1, 1) := by decide +kernel
theorem dX4_init_155 : decode cX4_init 155 = .ok (.new 27, 3) := by decide +kernel
theorem dX4_init_158 : decode cX4_init 158 = .ok (.dup, 1) := by decide +kernel
theorem dX4_init_159 : decode cX4_init 159 = .ok (.aload_n 0, 1) := by decide +kernel
theorem dX4_init_160 : decode cX4_init 160 = .ok (.getfield 23, 3) := by decide +kernel
theorem dX4_init_163 : decode cX4_init 163 = .ok (.invokespecial 29, 3) := by decide +kernel
theorem dX4_init_166 : decode cX4_init 166 = .ok (.aastore, 1) := by decide +kernel
theorem dX4_init_167 : decode cX4_init 167 = .ok (.iinc 1 1, 3) := by decide +kernel
theorem dX4_init_170 : decode cX4_init 170 = .ok (.goto (-25), 3) := by decide +kernel
theorem dX4_init_173 : decode cX4_init 173 = .ok (.return_, 1) := by decide +kernel
theorem dX4_write_0 : decode cX4_write 0 = .ok (.iload_n 1, 1) := by decide +kernel
theorem dX4_write_1 : decode cX4_write 1 = .ok (.iconst 0, 1) := by decide +kernel
theorem dX4_write_2 : decode cX4_write 2 = .ok (.sipush 255, 3) := by decide +kernel
theorem dX4_write_5 : decode cX4_write 5 = .ok (.invokestatic 59, 3) := by decide +kernel
theorem dX4_write_8 : decode cX4_write 8 = .ok (.ifCond .ne 6, 3) := by decide +kernel
theorem dX4_write_11 : decode cX4_write 11 = .ok (.bipush (-2), 2) := by decide +kernel
theorem dX4_write_13 : decode cX4_write 13 = .ok (.ireturn, 1) := by decide +kernel
theorem dX4_write_14 : decode cX4_write 14 = .ok (.aload_n 0, 1) := by decide +kernel
theorem dX4_write_15 : decode cX4_write 15 = .ok (.getfield 63, 3) := by decide +kernel
theorem dX4_write_18 : decode cX4_write 18 = .ok (.bipush 90, 2) := by decide +kernel
theorem dX4_write_20 : decode cX4_write 20 = .ok (.if_icmp .lt 6, 3) := by decide +kernel
theorem dX4_write_23 : decode cX4_write 23 = .ok (.bipush (-4), 2) := by decide +kernel
theorem dX4_write_25 : decode cX4_write 25 = .ok (.ireturn, 1) := by decide +kernel
theorem dX4_write_26 : decode cX4_write 26 = .ok (.aload_n 0, 1) := by decide +kernel
theorem dX4_write_27 : decode cX4_write 27 = .ok (.getfield 9, 3) := by decide +kernel
theorem dX4_write_30 : decode cX4_write 30 = .ok (.aload_n 0, 1) := by decide +kernel
theorem dX4_write_31 : decode cX4_write 31 = .ok (.getfield 63, 3) := by decide +kernel
theorem dX4_write_34 : decode cX4_write 34 = .ok (.iload_n 1, 1) := by decide +kernel
theorem dX4_write_35 : decode cX4_write 35 = .ok (.iastore, 1) := by decide +kernel
theorem dX4_write_36 : decode cX4_write 36 = .ok (.aload_n 0, 1) := by decide +kernel
theorem dX4_write_37 : decode cX4_write 37 = .ok (.dup, 1) := by decide +kernel
theorem dX4_write_38 : decode cX4_write 38 = .ok (.getfield 63, 3) := by decide +kernel
theorem dX4_write_41 : decode cX4_write 41 = .ok (.iconst 1, 1) := by decide +kernel
theorem dX4_write_42 : decode cX4_write 42 = .ok (.iadd, 1) := by decide +kernel
theorem dX4_write_43 : decode cX4_write 43 = .ok (.putfield 63, 3) := by decide +kernel
theorem dX4_write_46 : decode cX4_write 46 = .ok (.aload_n 0, 1) := by decide +kernel
theorem dX4_write_47 : decode cX4_write 47 = .ok (.getfield 63, 3) := by decide +kernel
theorem dX4_write_50 : decode cX4_write 50 = .ok (.ireturn, 1) := by decide +kernel
theorem dX4_wipe_0 : decode cX4_wipe 0 = .ok (.aload_n 0, 1) := by decide +kernel
theorem dX4_wipe_1 : decode cX4_wipe 1 = .ok (.getfield 63, 3) := by decide +kernel
theorem dX4_wipe_4 : decode cX4_wipe 4 = .ok (.istore_n 1, 1) := by decide +kernel
theorem dX4_wipe_5 : decode cX4_wipe 5 = .ok (.aload_n 0, 1) := by decide +kernel
theorem dX4_wipe_6 : decode cX4_wipe 6 = .ok (.iconst 0, 1) := by decide +kernel
theorem dX4_wipe_7 : decode cX4_wipe 7 = .ok (.putfield 63, 3) := by decide +kernel
theorem dX4_wipe_10 : decode cX4_wipe 10 = .ok (.iload_n 1, 1) := by decide +kernel
theorem dX4_wipe_11 : decode cX4_wipe 11 = .ok (.ireturn, 1) := by decide +kernel
theorem dX4_fault_0 : decode cX4_fault 0 = .ok (.aload_n 0, 1) := by decide +kernel
theorem dX4_fault_1 : decode cX4_fault 1 = .ok (.invokevirtual 67, 3) := by decide +kernel
theorem dX4_fault_4 : decode cX4_fault 4 = .ok (.ireturn, 1) := by decide +kernel
theorem dX4_line_0 : decode cX4_line 0 = .ok (.aload_n 0, 1) := by decide +kernel
theorem dX4_line_1 : decode cX4_line 1 = .ok (.invokevirtual 67, 3) := by decide +kernel
theorem dX4_line_4 : decode cX4_line 4 = .ok (.bipush (-9), 2) := by decide +kernel
theorem dX4_line_6 : decode cX4_line 6 = .ok (.if_icmp .eq 6, 3) := by decide +kernel
theorem dX4_line_9 : decode cX4_line 9 = .ok (.bipush (-3), 2) := by decide +kernel
theorem dX4_line_11 : decode cX4_line 11 = .ok (.ireturn, 1) := by decide +kernel
theorem dX4_line_12 : decode cX4_line 12 = .ok (.aload_n 0, 1) := by decide +kernel
theorem dX4_line_13 : decode cX4_line 13 = .ok (.getfield 23, 3) := by decide +kernel
theorem dX4_line_16 : decode cX4_line 16 = .ok (.aload_n 0, 1) := by decide +kernel
theorem dX4_line_17 : decode cX4_line 17 = .ok (.getfield 16, 3) := by decide +kernel
theorem dX4_line_20 : decode cX4_line 20 = .ok (.getfield 71, 3) := by decide +kernel
theorem dX4_line_23 : decode cX4_line 23 = .ok (.invokevirtual 72, 3) := by decide +kernel
theorem dX4_line_26 : decode cX4_line 26 = .ok (.aload_n 0, 1) := by decide +kernel
theorem dX4_line_27 : decode cX4_line 27 = .ok (.getfield 32, 3) := by decide +kernel
theorem dX4_line_30 : decode cX4_line 30 = .ok (.aload_n 0, 1) := by decide +kernel
theorem dX4_line_31 : decode cX4_line 31 = .ok (.getfield 16, 3) := by decide +kernel
theorem dX4_line_34 : decode cX4_line 34 = .ok (.getfield 75, 3) := by decide +kernel
theorem dX4_line_37 : decode cX4_line 37 = .ok (.invokevirtual 78, 3) := by decide +kernel
theorem dX4_line_40 : decode cX4_line 40 = .ok (.aload_n 0, 1) := by decide +kernel
theorem dX4_line_41 : decode cX4_line 41 = .ok (.invokevirtual 81, 3) := by decide +kernel
theorem dX4_line_44 : decode cX4_line 44 = .ok (.iconst 0, 1) := by decide +kernel
theorem dX4_line_45 : decode cX4_line 45 = .ok (.istore_n 1, 1) := by decide +kernel
theorem dX4_line_46 : decode cX4_line 46 = .ok (.iload_n 1, 1) := by decide +kernel
theorem dX4_line_47 : decode cX4_line 47 = .ok (.iconst 2, 1) := by decide +kernel
theorem dX4_line_48 : decode cX4_line 48 = .ok (.if_icmp .ge 16, 3) := by decide +kernel
theorem dX4_line_51 : decode cX4_line 51 = .ok (.aload_n 0, 1) := by decide +kernel
theorem dX4_line_52 : decode cX4_line 52 = .ok (.getfield 46, 3) := by decide +kernel
theorem dX4_line_55 : decode cX4_line 55 = .ok (.iload_n 1, 1) := by decide +kernel
theorem dX4_line_56 : decode cX4_line 56 = .ok (.iconst 0, 1) := by decide +kernel
theorem dX4_line_57 : decode cX4_line 57 = .ok (.bastore, 1) := by decide +kernel
theorem dX4_line_58 : decode cX4_line 58 = .ok (.iinc 1 1, 3) := by decide +kernel
theorem dX4_line_61 : decode cX4_line 61 = .ok (.goto (-15), 3) := by decide +kernel
theorem dX4_line_64 : decode cX4_line 64 = .ok (.aload_n 0, 1) := by decide +kernel
theorem dX4_line_65 : decode cX4_line 65 = .ok (.getfield 23, 3) := by decide +kernel
theorem dX4_line_68 : decode cX4_line 68 = .ok (.getfield 84, 3) := by decide +kernel
theorem dX4_line_71 : decode cX4_line 71 = .ok (.ireturn, 1) := by decide +kernel
theorem dX4_about_0 : decode cX4_about 0 = .ok (.iload_n 1, 1) := by decide +kernel
theorem dX4_about_1 : decode cX4_about 1 = .ok (.tableswitch 154 0 20 #[99, 107, 115, 123, 131, 154, 154, 154, 154, 154, 154, 154, 154, 154, 154, 154, 154, 154, 139, 144, 149], 99) := by decide +kernel
theorem dX4_about_100 : decode cX4_about 100 = .ok (.aload_n 0, 1) := by decide +kernel
theorem dX4_about_101 : decode cX4_about 101 = .ok (.getfield 23, 3) := by decide +kernel
theorem dX4_about_104 : decode cX4_about 104 = .ok (.getfield 87, 3) := by decide +kernel
theorem dX4_about_107 : decode cX4_about 107 = .ok (.ireturn, 1) := by decide +kernel
theorem dX4_about_108 : decode cX4_about 108 = .ok (.aload_n 0, 1) := by decide +kernel
theorem dX4_about_109 : decode cX4_about 109 = .ok (.getfield 23, 3) := by decide +kernel
theorem dX4_about_112 : decode cX4_about 112 = .ok (.getfield 84, 3) := by decide +kernel
theorem dX4_about_115 : decode cX4_about 115 = .ok (.ireturn, 1) := by decide +kernel
theorem dX4_about_116 : decode cX4_about 116 = .ok (.aload_n 0, 1) := by decide +kernel
theorem dX4_about_117 : decode cX4_about 117 = .ok (.getfield 23, 3) := by decide +kernel
theorem dX4_about_120 : decode cX4_about 120 = .ok (.getfield 90, 3) := by decide +kernel
theorem dX4_about_123 : decode cX4_about 123 = .ok (.ireturn, 1) := by decide +kernel
theorem dX4_about_124 : decode cX4_about 124 = .ok (.aload_n 0, 1) := by decide +kernel
theorem dX4_about_125 : decode cX4_about 125 = .ok (.getfield 23, 3) := by decide +kernel
theorem dX4_about_128 : decode cX4_about 128 = .ok (.getfield 93, 3) := by decide +kernel
theorem dX4_about_131 : decode cX4_about 131 = .ok (.ireturn, 1) := by decide +kernel
theorem dX4_about_132 : decode cX4_about 132 = .ok (.aload_n 0, 1) := by decide +kernel
theorem dX4_about_133 : decode cX4_about 133 = .ok (.getfield 23, 3) := by decide +kernel
theorem dX4_about_136 : decode cX4_about 136 = .ok (.getfield 96, 3) := by decide +kernel
theorem dX4_about_139 : decode cX4_about 139 = .ok (.ireturn, 1) := by decide +kernel
theorem dX4_about_140 : decode cX4_about 140 = .ok (.aload_n 0, 1) := by decide +kernel
theorem dX4_about_141 : decode cX4_about 141 = .ok (.getfield 99, 3) := by decide +kernel
theorem dX4_about_144 : decode cX4_about 144 = .ok (.ireturn, 1) := by decide +kernel
theorem dX4_about_145 : decode cX4_about 145 = .ok (.aload_n 0, 1) := by decide +kernel
theorem dX4_about_146 : decode cX4_about 146 = .ok (.getfield 102, 3) := by decide +kernel
theorem dX4_about_149 : decode cX4_about 149 = .ok (.ireturn, 1) := by decide +kernel
theorem dX4_about_150 : decode cX4_about 150 = .ok (.aload_n 0, 1) := by decide +kernel
theorem dX4_about_151 : decode cX4_about 151 = .ok (.getfield 63, 3) := by decide +kernel
theorem dX4_about_154 : decode cX4_about 154 = .ok (.ireturn, 1) := by decide +kernel
theorem dX4_about_155 : decode cX4_about 155 = .ok (.aload_n 0, 1) := by decide +kernel
theorem dX4_about_156 : decode cX4_about 156 = .ok (.getfield 32, 3) := by decide +kernel
theorem dX4_about_159 : decode cX4_about 159 = .ok (.iload_n 1, 1) := by decide +kernel
theorem dX4_about_160 : decode cX4_about 160 = .ok (.invokevirtual 105, 3) := by decide +kernel
theorem dX4_about_163 : decode cX4_about 163 = .ok (.ireturn, 1) := by decide +kernel
theorem dX4_place_0 : decode cX4_place 0 = .ok (.iload_n 1, 1) := by decide +kernel
theorem dX4_place_1 : decode cX4_place 1 = .ok (.iconst 0, 1) := by decide +kernel
theorem dX4_place_2 : decode cX4_place 2 = .ok (.iconst 4, 1) := by decide +kernel
theorem dX4_place_3 : decode cX4_place 3 = .ok (.invokestatic 59, 3) := by decide +kernel
theorem dX4_place_6 : decode cX4_place 6 = .ok (.ifCond .eq 15, 3) := by decide +kernel
theorem dX4_place_9 : decode cX4_place 9 = .ok (.aload_n 0, 1) := by decide +kernel
theorem dX4_place_10 : decode cX4_place 10 = .ok (.getfield 23, 3) := by decide +kernel
theorem dX4_place_13 : decode cX4_place 13 = .ok (.getfield 109, 3) := by decide +kernel
theorem dX4_place_16 : decode cX4_place 16 = .ok (.iload_n 1, 1) := by decide +kernel
theorem dX4_place_17 : decode cX4_place 17 = .ok (.iaload, 1) := by decide +kernel
theorem dX4_place_18 : decode cX4_place 18 = .ok (.goto 5, 3) := by decide +kernel
theorem dX4_place_21 : decode cX4_place 21 = .ok (.bipush (-2), 2) := by decide +kernel
theorem dX4_place_23 : decode cX4_place 23 = .ok (.ireturn, 1) := by decide +kernel
theorem dX4_cell_0 : decode cX4_cell 0 = .ok (.aload_n 0, 1) := by decide +kernel
theorem dX4_cell_1 : decode cX4_cell 1 = .ok (.getfield 23, 3) := by decide +kernel
theorem dX4_cell_4 : decode cX4_cell 4 = .ok (.iload_n 1, 1) := by decide +kernel
theorem dX4_cell_5 : decode cX4_cell 5 = .ok (.invokevirtual 112, 3) := by decide +kernel
theorem dX4_cell_8 : decode cX4_cell 8 = .ok (.ifCond .ne 5, 3) := by decide +kernel
theorem dX4_cell_11 : decode cX4_cell 11 = .ok (.iconst (-1), 1) := by decide +kernel
theorem dX4_cell_12 : decode cX4_cell 12 = .ok (.ireturn, 1) := by decide +kernel
theorem dX4_cell_13 : decode cX4_cell 13 = .ok (.aload_n 0, 1) := by decide +kernel
theorem dX4_cell_14 : decode cX4_cell 14 = .ok (.getfield 32, 3) := by decide +kernel
theorem dX4_cell_17 : decode cX4_cell 17 = .ok (.getfield 116, 3) := by decide +kernel
theorem dX4_cell_20 : decode cX4_cell 20 = .ok (.iload_n 1, 1) := by decide +kernel
theorem dX4_cell_21 : decode cX4_cell 21 = .ok (.iaload, 1) := by decide +kernel
theorem dX4_cell_22 : decode cX4_cell 22 = .ok (.istore_n 3, 1) := by decide +kernel
theorem dX4_cell_23 : decode cX4_cell 23 = .ok (.iload_n 2, 1) := by decide +kernel
theorem dX4_cell_24 : decode cX4_cell 24 = .ok (.tableswitch 135 0 7 #[48, 58, 71, 85, 90, 101, 112, 123], 48) := by decide +kernel
theorem dX4_cell_72 : decode cX4_cell 72 = .ok (.aload_n 0, 1) := by decide +kernel
theorem dX4_cell_73 : decode cX4_cell 73 = .ok (.getfield 32, 3) := by decide +kernel
theorem dX4_cell_76 : decode cX4_cell 76 = .ok (.getfield 119, 3) := by decide +kernel
theorem dX4_cell_79 : decode cX4_cell 79 = .ok (.iload_n 1, 1) := by decide +kernel
theorem dX4_cell_80 : decode cX4_cell 80 = .ok (.iaload, 1) := by decide +kernel
theorem dX4_cell_81 : decode cX4_cell 81 = .ok (.ireturn, 1) := by decide +kernel
theorem dX4_cell_82 : decode cX4_cell 82 = .ok (.iload_n 3, 1) := by decide +kernel
theorem dX4_cell_83 : decode cX4_cell 83 = .ok (.ifCond .eq 7, 3) := by decide +kernel
theorem dX4_cell_86 : decode cX4_cell 86 = .ok (.iconst 1, 1) := by decide +kernel
theorem dX4_cell_87 : decode cX4_cell 87 = .ok (.goto 4, 3) := by decide +kernel
theorem dX4_cell_90 : decode cX4_cell 90 = .ok (.iconst 0, 1) := by decide +kernel
theorem dX4_cell_91 : decode cX4_cell 91 = .ok (.invokestatic 122, 3) := by decide +kernel
theorem dX4_cell_94 : decode cX4_cell 94 = .ok (.ireturn, 1) := by decide +kernel
theorem dX4_cell_95 : decode cX4_cell 95 = .ok (.iload_n 3, 1) := by decide +kernel
theorem dX4_cell_96 : decode cX4_cell 96 = .ok (.ifCond .ne 8, 3) := by decide +kernel
theorem dX4_cell_99 : decode cX4_cell 99 = .ok (.bipush (-9), 2) := by decide +kernel
theorem dX4_cell_101 : decode cX4_cell 101 = .ok (.goto 7, 3) := by decide +kernel
theorem dX4_cell_104 : decode cX4_cell 104 = .ok (.iload_n 3, 1) := by decide +kernel
theorem dX4_cell_105 : decode cX4_cell 105 = .ok (.invokestatic 126, 3) := by decide +kernel
theorem dX4_cell_108 : decode cX4_cell 108 = .ok (.ireturn, 1) := by decide +kernel
theorem dX4_cell_109 : decode cX4_cell 109 = .ok (.iload_n 3, 1) := by decide +kernel
theorem dX4_cell_110 : decode cX4_cell 110 = .ok (.invokestatic 131, 3) := by decide +kernel
theorem dX4_cell_113 : decode cX4_cell 113 = .ok (.ireturn, 1) := by decide +kernel
theorem dX4_cell_114 : decode cX4_cell 114 = .ok (.iload_n 3, 1) := by decide +kernel
theorem dX4_cell_115 : decode cX4_cell 115 = .ok (.sipush 1024, 3) := by decide +kernel
theorem dX4_cell_118 : decode cX4_cell 118 = .ok (.invokestatic 134, 3) := by decide +kernel
theorem dX4_cell_121 : decode cX4_cell 121 = .ok (.invokestatic 122, 3) := by decide +kernel
theorem dX4_cell_124 : decode cX4_cell 124 = .ok (.ireturn, 1) := by decide +kernel
theorem dX4_cell_125 : decode cX4_cell 125 = .ok (.iload_n 3, 1) := by decide +kernel
theorem dX4_cell_126 : decode cX4_cell 126 = .ok (.sipush 2048, 3) := by decide +kernel
theorem dX4_cell_129 : decode cX4_cell 129 = .ok (.invokestatic 134, 3) := by decide +kernel
theorem dX4_cell_132 : decode cX4_cell 132 = .ok (.invokestatic 122, 3) := by decide +kernel
theorem dX4_cell_135 : decode cX4_cell 135 = .ok (.ireturn, 1) := by decide +kernel
theorem dX4_cell_136 : decode cX4_cell 136 = .ok (.iload_n 3, 1) := by decide +kernel
theorem dX4_cell_137 : decode cX4_cell 137 = .ok (.sipush 4096, 3) := by decide +kernel
theorem dX4_cell_140 : decode cX4_cell 140 = .ok (.invokestatic 134, 3) := by decide +kernel
theorem dX4_cell_143 : decode cX4_cell 143 = .ok (.invokestatic 122, 3) := by decide +kernel
theorem dX4_cell_146 : decode cX4_cell 146 = .ok (.ireturn, 1) := by decide +kernel
theorem dX4_cell_147 : decode cX4_cell 147 = .ok (.aload_n 0, 1) := by decide +kernel
theorem dX4_cell_148 : decode cX4_cell 148 = .ok (.getfield 23, 3) := by decide +kernel
theorem dX4_cell_151 : decode cX4_cell 151 = .ok (.iload_n 3, 1) := by decide +kernel
theorem dX4_cell_152 : decode cX4_cell 152 = .ok (.invokevirtual 138, 3) := by decide +kernel
theorem dX4_cell_155 : decode cX4_cell 155 = .ok (.invokestatic 122, 3) := by decide +kernel
theorem dX4_cell_158 : decode cX4_cell 158 = .ok (.ireturn, 1) := by decide +kernel
theorem dX4_cell_159 : decode cX4_cell 159 = .ok (.bipush (-2), 2) := by decide +kernel
theorem dX4_cell_161 : decode cX4_cell 161 = .ok (.ireturn, 1) := by decide +kernel
theorem dX4_valve_0 : decode cX4_valve 0 = .ok (.aload_n 0, 1) := by decide +kernel
theorem dX4_valve_1 : decode cX4_valve 1 = .ok (.getfield 23, 3) := by decide +kernel
theorem dX4_valve_4 : decode cX4_valve 4 = .ok (.iload_n 1, 1) := by decide +kernel
theorem dX4_valve_5 : decode cX4_valve 5 = .ok (.invokevirtual 141, 3) := by decide +kernel
theorem dX4_valve_8 : decode cX4_valve 8 = .ok (.ifCond .ne 5, 3) := by decide +kernel
theorem dX4_valve_11 : decode cX4_valve 11 = .ok (.iconst (-1), 1) := by decide +kernel
theorem dX4_valve_12 : decode cX4_valve 12 = .ok (.ireturn, 1) := by decide +kernel
theorem dX4_valve_13 : decode cX4_valve 13 = .ok (.iload_n 2, 1) := by decide +kernel
theorem dX4_valve_14 : decode cX4_valve 14 = .ok (.lookupswitch 48 #[(0, 26), (1, 36)], 26) := by decide +kernel
theorem dX4_valve_40 : decode cX4_valve 40 = .ok (.aload_n 0, 1) := by decide +kernel
theorem dX4_valve_41 : decode cX4_valve 41 = .ok (.getfield 32, 3) := by decide +kernel
theorem dX4_valve_44 : decode cX4_valve 44 = .ok (.getfield 144, 3) := by decide +kernel
theorem dX4_valve_47 : decode cX4_valve 47 = .ok (.iload_n 1, 1) := by decide +kernel
theorem dX4_valve_48 : decode cX4_valve 48 = .ok (.iaload, 1) := by decide +kernel
theorem dX4_valve_49 : decode cX4_valve 49 = .ok (.ireturn, 1) := by decide +kernel
theorem dX4_valve_50 : decode cX4_valve 50 = .ok (.aload_n 0, 1) := by decide +kernel
theorem dX4_valve_51 : decode cX4_valve 51 = .ok (.getfield 23, 3) := by decide +kernel
theorem dX4_valve_54 : decode cX4_valve 54 = .ok (.getfield 147, 3) := by decide +kernel
theorem dX4_valve_57 : decode cX4_valve 57 = .ok (.iload_n 1, 1) := by decide +kernel
theorem dX4_valve_58 : decode cX4_valve 58 = .ok (.iaload, 1) := by decide +kernel
theorem dX4_valve_59 : decode cX4_valve 59 = .ok (.iconst 4, 1) := by decide +kernel
theorem dX4_valve_60 : decode cX4_valve 60 = .ok (.iadd, 1) := by decide +kernel
theorem dX4_valve_61 : decode cX4_valve 61 = .ok (.ireturn, 1) := by decide +kernel
theorem dX4_valve_62 : decode cX4_valve 62 = .ok (.bipush (-2), 2) := by decide +kernel
theorem dX4_valve_64 : decode cX4_valve 64 = .ok (.ireturn, 1) := by decide +kernel
theorem dX4_queue_0 : decode cX4_queue 0 = .ok (.iload_n 1, 1) := by decide +kernel
theorem dX4_queue_1 : decode cX4_queue 1 = .ok (.iconst 0, 1) := by decide +kernel
theorem dX4_queue_2 : decode cX4_queue 2 = .ok (.bipush 23, 2) := by decide +kernel
theorem dX4_queue_4 : decode cX4_queue 4 = .ok (.invokestatic 59, 3) := by decide +kernel
theorem dX4_queue_7 : decode cX4_queue 7 = .ok (.ifCond .ne 6, 3) := by decide +kernel
theorem dX4_queue_10 : decode cX4_queue 10 = .ok (.bipush (-2), 2) := by decide +kernel
theorem dX4_queue_12 : decode cX4_queue 12 = .ok (.ireturn, 1) := by decide +kernel
theorem dX4_queue_13 : decode cX4_queue 13 = .ok (.iload_n 1, 1) := by decide +kernel
theorem dX4_queue_14 : decode cX4_queue 14 = .ok (.aload_n 0, 1) := by decide +kernel
theorem dX4_queue_15 : decode cX4_queue 15 = .ok (.getfield 32, 3) := by decide +kernel
theorem dX4_queue_18 : decode cX4_queue 18 = .ok (.getfield 150, 3) := by decide +kernel
theorem dX4_queue_21 : decode cX4_queue 21 = .ok (.if_icmp .ge 15, 3) := by decide +kernel
theorem dX4_queue_24 : decode cX4_queue 24 = .ok (.aload_n 0, 1) := by decide +kernel
theorem dX4_queue_25 : decode cX4_queue 25 = .ok (.getfield 32, 3) := by decide +kernel
theorem dX4_queue_28 : decode cX4_queue 28 = .ok (.getfield 153, 3) := by decide +kernel
theorem dX4_queue_31 : decode cX4_queue 31 = .ok (.iload_n 1, 1) := by decide +kernel
theorem dX4_queue_32 : decode cX4_queue 32 = .ok (.iaload, 1) := by decide +kernel
theorem dX4_queue_33 : decode cX4_queue 33 = .ok (.goto 5, 3) := by decide +kernel
theorem dX4_queue_36 : decode cX4_queue 36 = .ok (.bipush (-9), 2) := by decide +kernel
theorem dX4_queue_38 : decode cX4_queue 38 = .ok (.ireturn, 1) := by decide +kernel
theorem dX4_step_0 : decode cX4_step 0 = .ok (.iload_n 1, 1) := by decide +kernel
theorem dX4_step_1 : decode cX4_step 1 = .ok (.iconst 1, 1) := by decide +kernel
theorem dX4_step_2 : decode cX4_step 2 = .ok (.bipush 99, 2) := by decide +kernel
theorem dX4_step_4 : decode cX4_step 4 = .ok (.invokestatic 59, 3) := by decide +kernel
theorem dX4_step_7 : decode cX4_step 7 = .ok (.ifCond .ne 6, 3) := by decide +kernel
theorem dX4_step_10 : decode cX4_step 10 = .ok (.bipush (-2), 2) := by decide +kernel
theorem dX4_step_12 : decode cX4_step 12 = .ok (.ireturn, 1) := by decide +kernel
theorem dX4_step_13 : decode cX4_step 13 = .ok (.aload_n 0, 1) := by decide +kernel
theorem dX4_step_14 : decode cX4_step 14 = .ok (.getfield 32, 3) := by decide +kernel
theorem dX4_step_17 : decode cX4_step 17 = .ok (.getfield 156, 3) := by decide +kernel
theorem dX4_step_20 : decode cX4_step 20 = .ok (.ifCond .eq 6, 3) := by decide +kernel
theorem dX4_step_23 : decode cX4_step 23 = .ok (.bipush (-3), 2) := by decide +kernel
theorem dX4_step_25 : decode cX4_step 25 = .ok (.ireturn, 1) := by decide +kernel
theorem dX4_step_26 : decode cX4_step 26 = .ok (.aload_n 0, 1) := by decide +kernel
theorem dX4_step_27 : decode cX4_step 27 = .ok (.invokevirtual 160, 3) := by decide +kernel
theorem dX4_step_30 : decode cX4_step 30 = .ok (.aload_n 0, 1) := by decide +kernel
theorem dX4_step_31 : decode cX4_step 31 = .ok (.getfield 32, 3) := by decide +kernel
theorem dX4_step_34 : decode cX4_step 34 = .ok (.iload_n 1, 1) := by decide +kernel
theorem dX4_step_35 : decode cX4_step 35 = .ok (.invokevirtual 163, 3) := by decide +kernel
theorem dX4_step_38 : decode cX4_step 38 = .ok (.ireturn, 1) := by decide +kernel
theorem dX4_slip_0 : decode cX4_slip 0 = .ok (.aload_n 0, 1) := by decide +kernel
theorem dX4_slip_1 : decode cX4_slip 1 = .ok (.invokevirtual 160, 3) := by decide +kernel
theorem dX4_slip_4 : decode cX4_slip 4 = .ok (.aload_n 0, 1) := by decide +kernel
theorem dX4_slip_5 : decode cX4_slip 5 = .ok (.getfield 32, 3) := by decide +kernel
theorem dX4_slip_8 : decode cX4_slip 8 = .ok (.invokevirtual 166, 3) := by decide +kernel
theorem dX4_slip_11 : decode cX4_slip 11 = .ok (.aload_n 0, 1) := by decide +kernel
theorem dX4_slip_12 : decode cX4_slip 12 = .ok (.getfield 32, 3) := by decide +kernel
theorem dX4_slip_15 : decode cX4_slip 15 = .ok (.invokevirtual 169, 3) := by decide +kernel
theorem dX4_slip_18 : decode cX4_slip 18 = .ok (.ireturn, 1) := by decide +kernel
theorem dX4_jam_0 : decode cX4_jam 0 = .ok (.aload_n 0, 1) := by decide +kernel
theorem dX4_jam_1 : decode cX4_jam 1 = .ok (.invokevirtual 160, 3) := by decide +kernel
theorem dX4_jam_4 : decode cX4_jam 4 = .ok (.aload_n 0, 1) := by decide +kernel
theorem dX4_jam_5 : decode cX4_jam 5 = .ok (.getfield 32, 3) := by decide +kernel
theorem dX4_jam_8 : decode cX4_jam 8 = .ok (.aload_n 0, 1) := by decide +kernel
theorem dX4_jam_9 : decode cX4_jam 9 = .ok (.getfield 32, 3) := by decide +kernel
theorem dX4_jam_12 : decode cX4_jam 12 = .ok (.getfield 172, 3) := by decide +kernel
theorem dX4_jam_15 : decode cX4_jam 15 = .ok (.ifCond .ne 7, 3) := by decide +kernel
theorem dX4_jam_18 : decode cX4_jam 18 = .ok (.iconst 1, 1) := by decide +kernel
theorem dX4_jam_19 : decode cX4_jam 19 = .ok (.goto 4, 3) := by decide +kernel
theorem dX4_jam_22 : decode cX4_jam 22 = .ok (.iconst 0, 1) := by decide +kernel
theorem dX4_jam_23 : decode cX4_jam 23 = .ok (.putfield 172, 3) := by decide +kernel
theorem dX4_jam_26 : decode cX4_jam 26 = .ok (.aload_n 0, 1) := by decide +kernel
theorem dX4_jam_27 : decode cX4_jam 27 = .ok (.getfield 32, 3) := by decide +kernel
theorem dX4_jam_30 : decode cX4_jam 30 = .ok (.getfield 172, 3) := by decide +kernel
theorem dX4_jam_33 : decode cX4_jam 33 = .ok (.invokestatic 122, 3) := by decide +kernel
theorem dX4_jam_36 : decode cX4_jam 36 = .ok (.ireturn, 1) := by decide +kernel
theorem dX4_clear_0 : decode cX4_clear 0 = .ok (.aload_n 0, 1) := by decide +kernel
theorem dX4_clear_1 : decode cX4_clear 1 = .ok (.getfield 32, 3) := by decide +kernel
theorem dX4_clear_4 : decode cX4_clear 4 = .ok (.getfield 156, 3) := by decide +kernel
theorem dX4_clear_7 : decode cX4_clear 7 = .ok (.ifCond .ne 6, 3) := by decide +kernel
theorem dX4_clear_10 : decode cX4_clear 10 = .ok (.bipush (-3), 2) := by decide +kernel
theorem dX4_clear_12 : decode cX4_clear 12 = .ok (.ireturn, 1) := by decide +kernel
theorem dX4_clear_13 : decode cX4_clear 13 = .ok (.aload_n 0, 1) := by decide +kernel
theorem dX4_clear_14 : decode cX4_clear 14 = .ok (.invokevirtual 160, 3) := by decide +kernel
theorem dX4_clear_17 : decode cX4_clear 17 = .ok (.aload_n 0, 1) := by decide +kernel
theorem dX4_clear_18 : decode cX4_clear 18 = .ok (.getfield 32, 3) := by decide +kernel
theorem dX4_clear_21 : decode cX4_clear 21 = .ok (.invokevirtual 175, 3) := by decide +kernel
theorem dX4_clear_24 : decode cX4_clear 24 = .ok (.invokestatic 122, 3) := by decide +kernel
theorem dX4_clear_27 : decode cX4_clear 27 = .ok (.ireturn, 1) := by decide +kernel
theorem dX4_restart_0 : decode cX4_restart 0 = .ok (.aload_n 0, 1) := by decide +kernel
theorem dX4_restart_1 : decode cX4_restart 1 = .ok (.invokevirtual 160, 3) := by decide +kernel
theorem dX4_restart_4 : decode cX4_restart 4 = .ok (.aload_n 0, 1) := by decide +kernel
theorem dX4_restart_5 : decode cX4_restart 5 = .ok (.getfield 32, 3) := by decide +kernel
theorem dX4_restart_8 : decode cX4_restart 8 = .ok (.invokevirtual 179, 3) := by decide +kernel
theorem dX4_restart_11 : decode cX4_restart 11 = .ok (.aload_n 0, 1) := by decide +kernel
theorem dX4_restart_12 : decode cX4_restart 12 = .ok (.getfield 32, 3) := by decide +kernel
theorem dX4_restart_15 : decode cX4_restart 15 = .ok (.invokevirtual 169, 3) := by decide +kernel
theorem dX4_restart_18 : decode cX4_restart 18 = .ok (.ireturn, 1) := by decide +kernel
theorem dX4_lay_0 : decode cX4_lay 0 = .ok (.iload_n 2, 1) := by decide +kernel
theorem dX4_lay_1 : decode cX4_lay 1 = .ok (.iconst 1, 1) := by decide +kernel
theorem dX4_lay_2 : decode cX4_lay 2 = .ok (.bipush 9, 2) := by decide +kernel
theorem dX4_lay_4 : decode cX4_lay 4 = .ok (.invokestatic 59, 3) := by decide +kernel
theorem dX4_lay_7 : decode cX4_lay 7 = .ok (.ifCond .ne 6, 3) := by decide +kernel
theorem dX4_lay_10 : decode cX4_lay 10 = .ok (.bipush (-2), 2) := by decide +kernel
theorem dX4_lay_12 : decode cX4_lay 12 = .ok (.ireturn, 1) := by decide +kernel
theorem dX4_lay_13 : decode cX4_lay 13 = .ok (.aload_n 0, 1) := by decide +kernel
theorem dX4_lay_14 : decode cX4_lay 14 = .ok (.getfield 32, 3) := by decide +kernel
theorem dX4_lay_17 : decode cX4_lay 17 = .ok (.iload_n 1, 1) := by decide +kernel
theorem dX4_lay_18 : decode cX4_lay 18 = .ok (.invokevirtual 182, 3) := by decide +kernel
theorem dX4_lay_21 : decode cX4_lay 21 = .ok (.iload_n 2, 1) := by decide +kernel
theorem dX4_lay_22 : decode cX4_lay 22 = .ok (.iadd, 1) := by decide +kernel
theorem dX4_lay_23 : decode cX4_lay 23 = .ok (.bipush 99, 2) := by decide +kernel
theorem dX4_lay_25 : decode cX4_lay 25 = .ok (.if_icmp .le 6, 3) := by decide +kernel
theorem dX4_lay_28 : decode cX4_lay 28 = .ok (.bipush (-4), 2) := by decide +kernel
theorem dX4_lay_30 : decode cX4_lay 30 = .ok (.ireturn, 1) := by decide +kernel
theorem dX4_lay_31 : decode cX4_lay 31 = .ok (.aload_n 0, 1) := by decide +kernel
theorem dX4_lay_32 : decode cX4_lay 32 = .ok (.invokevirtual 160, 3) := by decide +kernel
theorem dX4_lay_35 : decode cX4_lay 35 = .ok (.aload_n 0, 1) := by decide +kernel
theorem dX4_lay_36 : decode cX4_lay 36 = .ok (.getfield 32, 3) := by decide +kernel
theorem dX4_lay_39 : decode cX4_lay 39 = .ok (.iload_n 1, 1) := by decide +kernel
theorem dX4_lay_40 : decode cX4_lay 40 = .ok (.iload_n 2, 1) := by decide +kernel
theorem dX4_lay_41 : decode cX4_lay 41 = .ok (.invokevirtual 185, 3) := by decide +kernel
theorem dX4_lay_44 : decode cX4_lay 44 = .ok (.aload_n 0, 1) := by decide +kernel
theorem dX4_lay_45 : decode cX4_lay 45 = .ok (.getfield 32, 3) := by decide +kernel
theorem dX4_lay_48 : decode cX4_lay 48 = .ok (.iload_n 1, 1) := by decide +kernel
theorem dX4_lay_49 : decode cX4_lay 49 = .ok (.invokevirtual 182, 3) := by decide +kernel
theorem dX4_lay_52 : decode cX4_lay 52 = .ok (.ireturn, 1) := by decide +kernel
theorem dX4_set_0 : decode cX4_set 0 = .ok (.aload_n 0, 1) := by decide +kernel
theorem dX4_set_1 : decode cX4_set 1 = .ok (.getfield 23, 3) := by decide +kernel
theorem dX4_set_4 : decode cX4_set 4 = .ok (.iload_n 1, 1) := by decide +kernel
theorem dX4_set_5 : decode cX4_set 5 = .ok (.invokevirtual 141, 3) := by decide +kernel
theorem dX4_set_8 : decode cX4_set 8 = .ok (.ifCond .ne 5, 3) := by decide +kernel
theorem dX4_set_11 : decode cX4_set 11 = .ok (.iconst (-1), 1) := by decide +kernel
theorem dX4_set_12 : decode cX4_set 12 = .ok (.ireturn, 1) := by decide +kernel
theorem dX4_set_13 : decode cX4_set 13 = .ok (.iload_n 2, 1) := by decide +kernel
theorem dX4_set_14 : decode cX4_set 14 = .ok (.iconst 0, 1) := by decide +kernel
theorem dX4_set_15 : decode cX4_set 15 = .ok (.bipush 99, 2) := by decide +kernel
theorem dX4_set_17 : decode cX4_set 17 = .ok (.invokestatic 59, 3) := by decide +kernel
theorem dX4_set_20 : decode cX4_set 20 = .ok (.ifCond .ne 6, 3) := by decide +kernel
theorem dX4_set_23 : decode cX4_set 23 = .ok (.bipush (-2), 2) := by decide +kernel
theorem dX4_set_25 : decode cX4_set 25 = .ok (.ireturn, 1) := by decide +kernel
theorem dX4_set_26 : decode cX4_set 26 = .ok (.aload_n 0, 1) := by decide +kernel
theorem dX4_set_27 : decode cX4_set 27 = .ok (.invokevirtual 160, 3) := by decide +kernel
theorem dX4_set_30 : decode cX4_set 30 = .ok (.aload_n 0, 1) := by decide +kernel
theorem dX4_set_31 : decode cX4_set 31 = .ok (.getfield 32, 3) := by decide +kernel
theorem dX4_set_34 : decode cX4_set 34 = .ok (.getfield 144, 3) := by decide +kernel
theorem dX4_set_37 : decode cX4_set 37 = .ok (.iload_n 1, 1) := by decide +kernel
theorem dX4_set_38 : decode cX4_set 38 = .ok (.iaload, 1) := by decide +kernel
theorem dX4_set_39 : decode cX4_set 39 = .ok (.istore_n 3, 1) := by decide +kernel
theorem dX4_set_40 : decode cX4_set 40 = .ok (.aload_n 0, 1) := by decide +kernel
theorem dX4_set_41 : decode cX4_set 41 = .ok (.getfield 32, 3) := by decide +kernel
theorem dX4_set_44 : decode cX4_set 44 = .ok (.getfield 144, 3) := by decide +kernel
theorem dX4_set_47 : decode cX4_set 47 = .ok (.iload_n 1, 1) := by decide +kernel
theorem dX4_set_48 : decode cX4_set 48 = .ok (.iload_n 2, 1) := by decide +kernel
theorem dX4_set_49 : decode cX4_set 49 = .ok (.iastore, 1) := by decide +kernel
theorem dX4_set_50 : decode cX4_set 50 = .ok (.iload_n 3, 1) := by decide +kernel
theorem dX4_set_51 : decode cX4_set 51 = .ok (.ireturn, 1) := by decide +kernel
theorem dX4_come_0 : decode cX4_come 0 = .ok (.iload_n 1, 1) := by decide +kernel
theorem dX4_come_1 : decode cX4_come 1 = .ok (.iconst 0, 1) := by decide +kernel
theorem dX4_come_2 : decode cX4_come 2 = .ok (.iconst 2, 1) := by decide +kernel
theorem dX4_come_3 : decode cX4_come 3 = .ok (.invokestatic 59, 3) := by decide +kernel
theorem dX4_come_6 : decode cX4_come 6 = .ok (.ifCond .ne 6, 3) := by decide +kernel
theorem dX4_come_9 : decode cX4_come 9 = .ok (.bipush (-2), 2) := by decide +kernel
theorem dX4_come_11 : decode cX4_come 11 = .ok (.ireturn, 1) := by decide +kernel
theorem dX4_come_12 : decode cX4_come 12 = .ok (.aload_n 0, 1) := by decide +kernel
theorem dX4_come_13 : decode cX4_come 13 = .ok (.getfield 32, 3) := by decide +kernel
theorem dX4_come_16 : decode cX4_come 16 = .ok (.getfield 150, 3) := by decide +kernel
theorem dX4_come_19 : decode cX4_come 19 = .ok (.bipush 24, 2) := by decide +kernel
theorem dX4_come_21 : decode cX4_come 21 = .ok (.if_icmp .lt 6, 3) := by decide +kernel
theorem dX4_come_24 : decode cX4_come 24 = .ok (.bipush (-4), 2) := by decide +kernel
theorem dX4_come_26 : decode cX4_come 26 = .ok (.ireturn, 1) := by decide +kernel
theorem dX4_come_27 : decode cX4_come 27 = .ok (.aload_n 0, 1) := by decide +kernel
theorem dX4_come_28 : decode cX4_come 28 = .ok (.invokevirtual 160, 3) := by decide +kernel
theorem dX4_come_31 : decode cX4_come 31 = .ok (.aload_n 0, 1) := by decide +kernel
theorem dX4_come_32 : decode cX4_come 32 = .ok (.getfield 32, 3) := by decide +kernel
theorem dX4_come_35 : decode cX4_come 35 = .ok (.iload_n 1, 1) := by decide +kernel
theorem dX4_come_36 : decode cX4_come 36 = .ok (.invokevirtual 189, 3) := by decide +kernel
theorem dX4_come_39 : decode cX4_come 39 = .ok (.aload_n 0, 1) := by decide +kernel
theorem dX4_come_40 : decode cX4_come 40 = .ok (.getfield 32, 3) := by decide +kernel
theorem dX4_come_43 : decode cX4_come 43 = .ok (.getfield 150, 3) := by decide +kernel
theorem dX4_come_46 : decode cX4_come 46 = .ok (.ireturn, 1) := by decide +kernel
theorem dX4_undo_0 : decode cX4_undo 0 = .ok (.aload_n 0, 1) := by decide +kernel
theorem dX4_undo_1 : decode cX4_undo 1 = .ok (.getfield 99, 3) := by decide +kernel
theorem dX4_undo_4 : decode cX4_undo 4 = .ok (.ifCond .ne 6, 3) := by decide +kernel
theorem dX4_undo_7 : decode cX4_undo 7 = .ok (.bipush (-3), 2) := by decide +kernel
theorem dX4_undo_9 : decode cX4_undo 9 = .ok (.ireturn, 1) := by decide +kernel
theorem dX4_undo_10 : decode cX4_undo 10 = .ok (.aload_n 0, 1) := by decide +kernel
theorem dX4_undo_11 : decode cX4_undo 11 = .ok (.aload_n 0, 1) := by decide +kernel
theorem dX4_undo_12 : decode cX4_undo 12 = .ok (.getfield 193, 3) := by decide +kernel
theorem dX4_undo_15 : decode cX4_undo 15 = .ok (.bipush 14, 2) := by decide +kernel
theorem dX4_undo_17 : decode cX4_undo 17 = .ok (.iadd, 1) := by decide +kernel
theorem dX4_undo_18 : decode cX4_undo 18 = .ok (.iconst 1, 1) := by decide +kernel
theorem dX4_undo_19 : decode cX4_undo 19 = .ok (.isub, 1) := by decide +kernel
theorem dX4_undo_20 : decode cX4_undo 20 = .ok (.bipush 14, 2) := by decide +kernel
theorem dX4_undo_22 : decode cX4_undo 22 = .ok (.irem, 1) := by decide +kernel
theorem dX4_undo_23 : decode cX4_undo 23 = .ok (.putfield 193, 3) := by decide +kernel
theorem dX4_undo_26 : decode cX4_undo 26 = .ok (.aload_n 0, 1) := by decide +kernel
theorem dX4_undo_27 : decode cX4_undo 27 = .ok (.dup, 1) := by decide +kernel
theorem dX4_undo_28 : decode cX4_undo 28 = .ok (.getfield 99, 3) := by decide +kernel
theorem dX4_undo_31 : decode cX4_undo 31 = .ok (.iconst 1, 1) := by decide +kernel
theorem dX4_undo_32 : decode cX4_undo 32 = .ok (.isub, 1) := by decide +kernel
theorem dX4_undo_33 : decode cX4_undo 33 = .ok (.putfield 99, 3) := by decide +kernel
theorem dX4_undo_36 : decode cX4_undo 36 = .ok (.aload_n 0, 1) := by decide +kernel
theorem dX4_undo_37 : decode cX4_undo 37 = .ok (.getfield 32, 3) := by decide +kernel
theorem dX4_undo_40 : decode cX4_undo 40 = .ok (.aload_n 0, 1) := by decide +kernel
theorem dX4_undo_41 : decode cX4_undo 41 = .ok (.getfield 39, 3) := by decide +kernel
theorem dX4_undo_44 : decode cX4_undo 44 = .ok (.aload_n 0, 1) := by decide +kernel
theorem dX4_undo_45 : decode cX4_undo 45 = .ok (.getfield 193, 3) := by decide +kernel
theorem dX4_undo_48 : decode cX4_undo 48 = .ok (.aaload, 1) := by decide +kernel
theorem dX4_undo_49 : decode cX4_undo 49 = .ok (.invokevirtual 78, 3) := by decide +kernel
theorem dX4_undo_52 : decode cX4_undo 52 = .ok (.aload_n 0, 1) := by decide +kernel
theorem dX4_undo_53 : decode cX4_undo 53 = .ok (.getfield 99, 3) := by decide +kernel
theorem dX4_undo_56 : decode cX4_undo 56 = .ok (.ireturn, 1) := by decide +kernel
theorem dX4_ahead_0 : decode cX4_ahead 0 = .ok (.iload_n 1, 1) := by decide +kernel
theorem dX4_ahead_1 : decode cX4_ahead 1 = .ok (.iconst 0, 1) := by decide +kernel
theorem dX4_ahead_2 : decode cX4_ahead 2 = .ok (.bipush 99, 2) := by decide +kernel
theorem dX4_ahead_4 : decode cX4_ahead 4 = .ok (.invokestatic 59, 3) := by decide +kernel
theorem dX4_ahead_7 : decode cX4_ahead 7 = .ok (.ifCond .eq 13, 3) := by decide +kernel
theorem dX4_ahead_10 : decode cX4_ahead 10 = .ok (.iload_n 2, 1) := by decide +kernel
theorem dX4_ahead_11 : decode cX4_ahead 11 = .ok (.iconst 5, 1) := by decide +kernel
theorem dX4_ahead_12 : decode cX4_ahead 12 = .ok (.bipush 17, 2) := by decide +kernel
theorem dX4_ahead_14 : decode cX4_ahead 14 = .ok (.invokestatic 59, 3) := by decide +kernel
theorem dX4_ahead_17 : decode cX4_ahead 17 = .ok (.ifCond .ne 6, 3) := by decide +kernel
theorem dX4_ahead_20 : decode cX4_ahead 20 = .ok (.bipush (-2), 2) := by decide +kernel
theorem dX4_ahead_22 : decode cX4_ahead 22 = .ok (.ireturn, 1) := by decide +kernel
theorem dX4_ahead_23 : decode cX4_ahead 23 = .ok (.aload_n 0, 1) := by decide +kernel
theorem dX4_ahead_24 : decode cX4_ahead 24 = .ok (.getfield 36, 3) := by decide +kernel
theorem dX4_ahead_27 : decode cX4_ahead 27 = .ok (.aload_n 0, 1) := by decide +kernel
theorem dX4_ahead_28 : decode cX4_ahead 28 = .ok (.getfield 32, 3) := by decide +kernel
theorem dX4_ahead_31 : decode cX4_ahead 31 = .ok (.invokevirtual 78, 3) := by decide +kernel
theorem dX4_ahead_34 : decode cX4_ahead 34 = .ok (.aload_n 0, 1) := by decide +kernel
theorem dX4_ahead_35 : decode cX4_ahead 35 = .ok (.getfield 36, 3) := by decide +kernel
theorem dX4_ahead_38 : decode cX4_ahead 38 = .ok (.iload_n 1, 1) := by decide +kernel
theorem dX4_ahead_39 : decode cX4_ahead 39 = .ok (.invokevirtual 163, 3) := by decide +kernel
theorem dX4_ahead_42 : decode cX4_ahead 42 = .ok (.pop, 1) := by decide +kernel
theorem dX4_ahead_43 : decode cX4_ahead 43 = .ok (.aload_n 0, 1) := by decide +kernel
theorem dX4_ahead_44 : decode cX4_ahead 44 = .ok (.getfield 36, 3) := by decide +kernel
theorem dX4_ahead_47 : decode cX4_ahead 47 = .ok (.iload_n 2, 1) := by decide +kernel
theorem dX4_ahead_48 : decode cX4_ahead 48 = .ok (.invokevirtual 105, 3) := by decide +kernel
theorem dX4_ahead_51 : decode cX4_ahead 51 = .ok (.ireturn, 1) := by decide +kernel
theorem dX4_goes_0 : decode cX4_goes 0 = .ok (.aload_n 0, 1) := by decide +kernel
theorem dX4_goes_1 : decode cX4_goes 1 = .ok (.getfield 23, 3) := by decide +kernel
theorem dX4_goes_4 : decode cX4_goes 4 = .ok (.iload_n 1, 1) := by decide +kernel
theorem dX4_goes_5 : decode cX4_goes 5 = .ok (.invokevirtual 112, 3) := by decide +kernel
theorem dX4_goes_8 : decode cX4_goes 8 = .ok (.ifCond .ne 5, 3) := by decide +kernel
theorem dX4_goes_11 : decode cX4_goes 11 = .ok (.iconst (-1), 1) := by decide +kernel
theorem dX4_goes_12 : decode cX4_goes 12 = .ok (.ireturn, 1) := by decide +kernel
theorem dX4_goes_13 : decode cX4_goes 13 = .ok (.iload_n 2, 1) := by decide +kernel
theorem dX4_goes_14 : decode cX4_goes 14 = .ok (.iconst 0, 1) := by decide +kernel
theorem dX4_goes_15 : decode cX4_goes 15 = .ok (.iconst 1, 1) := by decide +kernel
theorem dX4_goes_16 : decode cX4_goes 16 = .ok (.invokestatic 59, 3) := by decide +kernel
theorem dX4_goes_19 : decode cX4_goes 19 = .ok (.ifCond .ne 6, 3) := by decide +kernel
theorem dX4_goes_22 : decode cX4_goes 22 = .ok (.bipush (-2), 2) := by decide +kernel
theorem dX4_goes_24 : decode cX4_goes 24 = .ok (.ireturn, 1) := by decide +kernel
theorem dX4_goes_25 : decode cX4_goes 25 = .ok (.aload_n 0, 1) := by decide +kernel
theorem dX4_goes_26 : decode cX4_goes 26 = .ok (.getfield 32, 3) := by decide +kernel
theorem dX4_goes_29 : decode cX4_goes 29 = .ok (.getfield 116, 3) := by decide +kernel
theorem dX4_goes_32 : decode cX4_goes 32 = .ok (.iload_n 1, 1) := by decide +kernel
theorem dX4_goes_33 : decode cX4_goes 33 = .ok (.iaload, 1) := by decide +kernel
theorem dX4_goes_34 : decode cX4_goes 34 = .ok (.ifCond .ne 6, 3) := by decide +kernel
theorem dX4_goes_37 : decode cX4_goes 37 = .ok (.bipush (-3), 2) := by decide +kernel
theorem dX4_goes_39 : decode cX4_goes 39 = .ok (.ireturn, 1) := by decide +kernel
theorem dX4_goes_40 : decode cX4_goes 40 = .ok (.aload_n 0, 1) := by decide +kernel
theorem dX4_goes_41 : decode cX4_goes 41 = .ok (.getfield 36, 3) := by decide +kernel
theorem dX4_goes_44 : decode cX4_goes 44 = .ok (.aload_n 0, 1) := by decide +kernel
theorem dX4_goes_45 : decode cX4_goes 45 = .ok (.getfield 32, 3) := by decide +kernel
theorem dX4_goes_48 : decode cX4_goes 48 = .ok (.invokevirtual 78, 3) := by decide +kernel
theorem dX4_goes_51 : decode cX4_goes 51 = .ok (.iconst 0, 1) := by decide +kernel
theorem dX4_goes_52 : decode cX4_goes 52 = .ok (.istore_n 3, 1) := by decide +kernel
theorem dX4_goes_53 : decode cX4_goes 53 = .ok (.iload_n 3, 1) := by decide +kernel
theorem dX4_goes_54 : decode cX4_goes 54 = .ok (.bipush 60, 2) := by decide +kernel
theorem dX4_goes_56 : decode cX4_goes 56 = .ok (.if_icmp .ge 48, 3) := by decide +kernel
theorem dX4_goes_59 : decode cX4_goes 59 = .ok (.aload_n 0, 1) := by decide +kernel
theorem dX4_goes_60 : decode cX4_goes 60 = .ok (.getfield 36, 3) := by decide +kernel
theorem dX4_goes_63 : decode cX4_goes 63 = .ok (.getfield 156, 3) := by decide +kernel
theorem dX4_goes_66 : decode cX4_goes 66 = .ok (.ifCond .ne 38, 3) := by decide +kernel
theorem dX4_goes_69 : decode cX4_goes 69 = .ok (.aload_n 0, 1) := by decide +kernel
theorem dX4_goes_70 : decode cX4_goes 70 = .ok (.iload_n 1, 1) := by decide +kernel
theorem dX4_goes_71 : decode cX4_goes 71 = .ok (.iload_n 3, 1) := by decide +kernel
theorem dX4_goes_72 : decode cX4_goes 72 = .ok (.iadd, 1) := by decide +kernel
theorem dX4_goes_73 : decode cX4_goes 73 = .ok (.invokevirtual 196, 3) := by decide +kernel
theorem dX4_goes_76 : decode cX4_goes 76 = .ok (.istore 4, 2) := by decide +kernel
theorem dX4_goes_78 : decode cX4_goes 78 = .ok (.iload 4, 2) := by decide +kernel
theorem dX4_goes_80 : decode cX4_goes 80 = .ok (.bipush (-9), 2) := by decide +kernel
theorem dX4_goes_82 : decode cX4_goes 82 = .ok (.if_icmp .eq 16, 3) := by decide +kernel
theorem dX4_goes_85 : decode cX4_goes 85 = .ok (.iload_n 2, 1) := by decide +kernel
theorem dX4_goes_86 : decode cX4_goes 86 = .ok (.ifCond .ne 9, 3) := by decide +kernel
theorem dX4_goes_89 : decode cX4_goes 89 = .ok (.iload_n 3, 1) := by decide +kernel
theorem dX4_goes_90 : decode cX4_goes 90 = .ok (.iconst 1, 1) := by decide +kernel
theorem dX4_goes_91 : decode cX4_goes 91 = .ok (.iadd, 1) := by decide +kernel
theorem dX4_goes_92 : decode cX4_goes 92 = .ok (.goto 5, 3) := by decide +kernel
theorem dX4_goes_95 : decode cX4_goes 95 = .ok (.iload 4, 2) := by decide +kernel
theorem dX4_goes_97 : decode cX4_goes 97 = .ok (.ireturn, 1) := by decide +kernel
theorem dX4_goes_98 : decode cX4_goes 98 = .ok (.iinc 3 1, 3) := by decide +kernel
theorem dX4_goes_101 : decode cX4_goes 101 = .ok (.goto (-48), 3) := by decide +kernel
theorem dX4_goes_104 : decode cX4_goes 104 = .ok (.bipush (-9), 2) := by decide +kernel
theorem dX4_goes_106 : decode cX4_goes 106 = .ok (.ireturn, 1) := by decide +kernel
theorem dX4_best_0 : decode cX4_best 0 = .ok (.aload_n 0, 1) := by decide +kernel
theorem dX4_best_1 : decode cX4_best 1 = .ok (.getfield 23, 3) := by decide +kernel
theorem dX4_best_4 : decode cX4_best 4 = .ok (.iload_n 1, 1) := by decide +kernel
theorem dX4_best_5 : decode cX4_best 5 = .ok (.invokevirtual 141, 3) := by decide +kernel
theorem dX4_best_8 : decode cX4_best 8 = .ok (.ifCond .ne 5, 3) := by decide +kernel
theorem dX4_best_11 : decode cX4_best 11 = .ok (.iconst (-1), 1) := by decide +kernel
theorem dX4_best_12 : decode cX4_best 12 = .ok (.ireturn, 1) := by decide +kernel
theorem dX4_best_13 : decode cX4_best 13 = .ok (.iconst 0, 1) := by decide +kernel
theorem dX4_best_14 : decode cX4_best 14 = .ok (.istore_n 2, 1) := by decide +kernel
theorem dX4_best_15 : decode cX4_best 15 = .ok (.iconst (-1), 1) := by decide +kernel
theorem dX4_best_16 : decode cX4_best 16 = .ok (.istore_n 3, 1) := by decide +kernel
theorem dX4_best_17 : decode cX4_best 17 = .ok (.iconst 0, 1) := by decide +kernel
theorem dX4_best_18 : decode cX4_best 18 = .ok (.istore 4, 2) := by decide +kernel
theorem dX4_best_20 : decode cX4_best 20 = .ok (.iload 4, 2) := by decide +kernel
theorem dX4_best_22 : decode cX4_best 22 = .ok (.bipush 99, 2) := by decide +kernel
theorem dX4_best_24 : decode cX4_best 24 = .ok (.if_icmp .gt 63, 3) := by decide +kernel
theorem dX4_best_27 : decode cX4_best 27 = .ok (.aload_n 0, 1) := by decide +kernel
theorem dX4_best_28 : decode cX4_best 28 = .ok (.getfield 36, 3) := by decide +kernel
theorem dX4_best_31 : decode cX4_best 31 = .ok (.aload_n 0, 1) := by decide +kernel
theorem dX4_best_32 : decode cX4_best 32 = .ok (.getfield 32, 3) := by decide +kernel
theorem dX4_best_35 : decode cX4_best 35 = .ok (.invokevirtual 78, 3) := by decide +kernel
theorem dX4_best_38 : decode cX4_best 38 = .ok (.aload_n 0, 1) := by decide +kernel
theorem dX4_best_39 : decode cX4_best 39 = .ok (.getfield 36, 3) := by decide +kernel
theorem dX4_best_42 : decode cX4_best 42 = .ok (.getfield 144, 3) := by decide +kernel
theorem dX4_best_45 : decode cX4_best 45 = .ok (.iload_n 1, 1) := by decide +kernel
theorem dX4_best_46 : decode cX4_best 46 = .ok (.iload 4, 2) := by decide +kernel
theorem dX4_best_48 : decode cX4_best 48 = .ok (.iastore, 1) := by decide +kernel
theorem dX4_best_49 : decode cX4_best 49 = .ok (.aload_n 0, 1) := by decide +kernel
theorem dX4_best_50 : decode cX4_best 50 = .ok (.getfield 36, 3) := by decide +kernel
theorem dX4_best_53 : decode cX4_best 53 = .ok (.bipush 30, 2) := by decide +kernel
theorem dX4_best_55 : decode cX4_best 55 = .ok (.invokevirtual 163, 3) := by decide +kernel
theorem dX4_best_58 : decode cX4_best 58 = .ok (.pop, 1) := by decide +kernel
theorem dX4_best_59 : decode cX4_best 59 = .ok (.aload_n 0, 1) := by decide +kernel
theorem dX4_best_60 : decode cX4_best 60 = .ok (.getfield 36, 3) := by decide +kernel
theorem dX4_best_63 : decode cX4_best 63 = .ok (.getfield 199, 3) := by decide +kernel
theorem dX4_best_66 : decode cX4_best 66 = .ok (.iload_n 3, 1) := by decide +kernel
theorem dX4_best_67 : decode cX4_best 67 = .ok (.if_icmp .le 14, 3) := by decide +kernel
theorem dX4_best_70 : decode cX4_best 70 = .ok (.aload_n 0, 1) := by decide +kernel
theorem dX4_best_71 : decode cX4_best 71 = .ok (.getfield 36, 3) := by decide +kernel
theorem dX4_best_74 : decode cX4_best 74 = .ok (.getfield 199, 3) := by decide +kernel
theorem dX4_best_77 : decode cX4_best 77 = .ok (.istore_n 3, 1) := by decide +kernel
theorem dX4_best_78 : decode cX4_best 78 = .ok (.iload 4, 2) := by decide +kernel
theorem dX4_best_80 : decode cX4_best 80 = .ok (.istore_n 2, 1) := by decide +kernel
theorem dX4_best_81 : decode cX4_best 81 = .ok (.iinc 4 1, 3) := by decide +kernel
theorem dX4_best_84 : decode cX4_best 84 = .ok (.goto (-64), 3) := by decide +kernel
theorem dX4_best_87 : decode cX4_best 87 = .ok (.iload_n 2, 1) := by decide +kernel
theorem dX4_best_88 : decode cX4_best 88 = .ok (.ireturn, 1) := by decide +kernel
theorem dX4_needs_0 : decode cX4_needs 0 = .ok (.aload_n 0, 1) := by decide +kernel
theorem dX4_needs_1 : decode cX4_needs 1 = .ok (.iload_n 1, 1) := by decide +kernel
theorem dX4_needs_2 : decode cX4_needs 2 = .ok (.bipush 40, 2) := by decide +kernel
theorem dX4_needs_4 : decode cX4_needs 4 = .ok (.invokevirtual 202, 3) := by decide +kernel
theorem dX4_needs_7 : decode cX4_needs 7 = .ok (.istore_n 2, 1) := by decide +kernel
theorem dX4_needs_8 : decode cX4_needs 8 = .ok (.iconst 0, 1) := by decide +kernel
theorem dX4_needs_9 : decode cX4_needs 9 = .ok (.istore_n 3, 1) := by decide +kernel
theorem dX4_needs_10 : decode cX4_needs 10 = .ok (.iload_n 3, 1) := by decide +kernel
theorem dX4_needs_11 : decode cX4_needs 11 = .ok (.bipush 40, 2) := by decide +kernel
theorem dX4_needs_13 : decode cX4_needs 13 = .ok (.if_icmp .ge 21, 3) := by decide +kernel
theorem dX4_needs_16 : decode cX4_needs 16 = .ok (.aload_n 0, 1) := by decide +kernel
theorem dX4_needs_17 : decode cX4_needs 17 = .ok (.iload_n 1, 1) := by decide +kernel
theorem dX4_needs_18 : decode cX4_needs 18 = .ok (.iload_n 3, 1) := by decide +kernel
theorem dX4_needs_19 : decode cX4_needs 19 = .ok (.invokevirtual 202, 3) := by decide +kernel
theorem dX4_needs_22 : decode cX4_needs 22 = .ok (.iload_n 2, 1) := by decide +kernel
theorem dX4_needs_23 : decode cX4_needs 23 = .ok (.if_icmp .ne 5, 3) := by decide +kernel
theorem dX4_needs_26 : decode cX4_needs 26 = .ok (.iload_n 3, 1) := by decide +kernel
theorem dX4_needs_27 : decode cX4_needs 27 = .ok (.ireturn, 1) := by decide +kernel
theorem dX4_needs_28 : decode cX4_needs 28 = .ok (.iinc 3 1, 3) := by decide +kernel
theorem dX4_needs_31 : decode cX4_needs 31 = .ok (.goto (-21), 3) := by decide +kernel
theorem dX4_needs_34 : decode cX4_needs 34 = .ok (.bipush 40, 2) := by decide +kernel
theorem dX4_needs_36 : decode cX4_needs 36 = .ok (.ireturn, 1) := by decide +kernel
theorem dX4_judge_0 : decode cX4_judge 0 = .ok (.iload_n 1, 1) := by decide +kernel
theorem dX4_judge_1 : decode cX4_judge 1 = .ok (.iconst 1, 1) := by decide +kernel
theorem dX4_judge_2 : decode cX4_judge 2 = .ok (.iconst 3, 1) := by decide +kernel
theorem dX4_judge_3 : decode cX4_judge 3 = .ok (.invokestatic 59, 3) := by decide +kernel
theorem dX4_judge_6 : decode cX4_judge 6 = .ok (.ifCond .ne 6, 3) := by decide +kernel
theorem dX4_judge_9 : decode cX4_judge 9 = .ok (.bipush (-2), 2) := by decide +kernel
theorem dX4_judge_11 : decode cX4_judge 11 = .ok (.ireturn, 1) := by decide +kernel
theorem dX4_judge_12 : decode cX4_judge 12 = .ok (.iconst 1, 1) := by decide +kernel
theorem dX4_judge_13 : decode cX4_judge 13 = .ok (.istore_n 3, 1) := by decide +kernel
theorem dX4_judge_14 : decode cX4_judge 14 = .ok (.iconst 0, 1) := by decide +kernel
theorem dX4_judge_15 : decode cX4_judge 15 = .ok (.istore 4, 2) := by decide +kernel
theorem dX4_judge_17 : decode cX4_judge 17 = .ok (.iload 4, 2) := by decide +kernel
theorem dX4_judge_19 : decode cX4_judge 19 = .ok (.iload_n 1, 1) := by decide +kernel
theorem dX4_judge_20 : decode cX4_judge 20 = .ok (.if_icmp .ge 15, 3) := by decide +kernel
theorem dX4_judge_23 : decode cX4_judge 23 = .ok (.iload_n 3, 1) := by decide +kernel
theorem dX4_judge_24 : decode cX4_judge 24 = .ok (.sipush 1000, 3) := by decide +kernel
theorem dX4_judge_27 : decode cX4_judge 27 = .ok (.imul, 1) := by decide +kernel
theorem dX4_judge_28 : decode cX4_judge 28 = .ok (.istore_n 3, 1) := by decide +kernel
theorem dX4_judge_29 : decode cX4_judge 29 = .ok (.iinc 4 1, 3) := by decide +kernel
theorem dX4_judge_32 : decode cX4_judge 32 = .ok (.goto (-15), 3) := by decide +kernel
theorem dX4_judge_35 : decode cX4_judge 35 = .ok (.iload_n 2, 1) := by decide +kernel
theorem dX4_judge_36 : decode cX4_judge 36 = .ok (.ifCond .lt 8, 3) := by decide +kernel
theorem dX4_judge_39 : decode cX4_judge 39 = .ok (.iload_n 2, 1) := by decide +kernel
theorem dX4_judge_40 : decode cX4_judge 40 = .ok (.iload_n 3, 1) := by decide +kernel
theorem dX4_judge_41 : decode cX4_judge 41 = .ok (.if_icmp .lt 6, 3) := by decide +kernel
theorem dX4_judge_44 : decode cX4_judge 44 = .ok (.bipush (-2), 2) := by decide +kernel
theorem dX4_judge_46 : decode cX4_judge 46 = .ok (.ireturn, 1) := by decide +kernel
theorem dX4_judge_47 : decode cX4_judge 47 = .ok (.aload_n 0, 1) := by decide +kernel
theorem dX4_judge_48 : decode cX4_judge 48 = .ok (.getfield 36, 3) := by decide +kernel
theorem dX4_judge_51 : decode cX4_judge 51 = .ok (.aload_n 0, 1) := by decide +kernel
theorem dX4_judge_52 : decode cX4_judge 52 = .ok (.getfield 32, 3) := by decide +kernel
theorem dX4_judge_55 : decode cX4_judge 55 = .ok (.invokevirtual 78, 3) := by decide +kernel
theorem dX4_judge_58 : decode cX4_judge 58 = .ok (.iconst 0, 1) := by decide +kernel
theorem dX4_judge_59 : decode cX4_judge 59 = .ok (.istore 4, 2) := by decide +kernel
theorem dX4_judge_61 : decode cX4_judge 61 = .ok (.iload 4, 2) := by decide +kernel
theorem dX4_judge_63 : decode cX4_judge 63 = .ok (.iload_n 1, 1) := by decide +kernel
theorem dX4_judge_64 : decode cX4_judge 64 = .ok (.if_icmp .ge 36, 3) := by decide +kernel
theorem dX4_judge_67 : decode cX4_judge 67 = .ok (.iconst 1, 1) := by decide +kernel
theorem dX4_judge_68 : decode cX4_judge 68 = .ok (.iload_n 3, 1) := by decide +kernel
theorem dX4_judge_69 : decode cX4_judge 69 = .ok (.sipush 1000, 3) := by decide +kernel
theorem dX4_judge_72 : decode cX4_judge 72 = .ok (.idiv, 1) := by decide +kernel
theorem dX4_judge_73 : decode cX4_judge 73 = .ok (.invokestatic 206, 3) := by decide +kernel
theorem dX4_judge_76 : decode cX4_judge 76 = .ok (.istore_n 3, 1) := by decide +kernel
theorem dX4_judge_77 : decode cX4_judge 77 = .ok (.aload_n 0, 1) := by decide +kernel
theorem dX4_judge_78 : decode cX4_judge 78 = .ok (.iload_n 2, 1) := by decide +kernel
theorem dX4_judge_79 : decode cX4_judge 79 = .ok (.iload_n 3, 1) := by decide +kernel
theorem dX4_judge_80 : decode cX4_judge 80 = .ok (.idiv, 1) := by decide +kernel
theorem dX4_judge_81 : decode cX4_judge 81 = .ok (.sipush 1000, 3) := by decide +kernel
theorem dX4_judge_84 : decode cX4_judge 84 = .ok (.irem, 1) := by decide +kernel
theorem dX4_judge_85 : decode cX4_judge 85 = .ok (.invokevirtual 212, 3) := by decide +kernel
theorem dX4_judge_88 : decode cX4_judge 88 = .ok (.ifCond .ne 6, 3) := by decide +kernel
theorem dX4_judge_91 : decode cX4_judge 91 = .ok (.iload 4, 2) := by decide +kernel
theorem dX4_judge_93 : decode cX4_judge 93 = .ok (.ireturn, 1) := by decide +kernel
theorem dX4_judge_94 : decode cX4_judge 94 = .ok (.iinc 4 1, 3) := by decide +kernel
theorem dX4_judge_97 : decode cX4_judge 97 = .ok (.goto (-36), 3) := by decide +kernel
theorem dX4_judge_100 : decode cX4_judge 100 = .ok (.bipush (-9), 2) := by decide +kernel
theorem dX4_judge_102 : decode cX4_judge 102 = .ok (.ireturn, 1) := by decide +kernel
theorem dX4_see_0 : decode cX4_see 0 = .ok (.iload_n 1, 1) := by decide +kernel
theorem dX4_see_1 : decode cX4_see 1 = .ok (.iconst 0, 1) := by decide +kernel
theorem dX4_see_2 : decode cX4_see 2 = .ok (.iconst 2, 1) := by decide +kernel
theorem dX4_see_3 : decode cX4_see 3 = .ok (.invokestatic 59, 3) := by decide +kernel
theorem dX4_see_6 : decode cX4_see 6 = .ok (.ifCond .eq 23, 3) := by decide +kernel
theorem dX4_see_9 : decode cX4_see 9 = .ok (.iload_n 2, 1) := by decide +kernel
theorem dX4_see_10 : decode cX4_see 10 = .ok (.iconst 0, 1) := by decide +kernel
theorem dX4_see_11 : decode cX4_see 11 = .ok (.bipush 20, 2) := by decide +kernel
theorem dX4_see_13 : decode cX4_see 13 = .ok (.invokestatic 59, 3) := by decide +kernel
theorem dX4_see_16 : decode cX4_see 16 = .ok (.ifCond .eq 13, 3) := by decide +kernel
theorem dX4_see_19 : decode cX4_see 19 = .ok (.iload_n 3, 1) := by decide +kernel
theorem dX4_see_20 : decode cX4_see 20 = .ok (.iconst 0, 1) := by decide +kernel
theorem dX4_see_21 : decode cX4_see 21 = .ok (.bipush 99, 2) := by decide +kernel
theorem dX4_see_23 : decode cX4_see 23 = .ok (.invokestatic 59, 3) := by decide +kernel
theorem dX4_see_26 : decode cX4_see 26 = .ok (.ifCond .ne 6, 3) := by decide +kernel
theorem dX4_see_29 : decode cX4_see 29 = .ok (.bipush (-2), 2) := by decide +kernel
theorem dX4_see_31 : decode cX4_see 31 = .ok (.ireturn, 1) := by decide +kernel
theorem dX4_see_32 : decode cX4_see 32 = .ok (.aload_n 0, 1) := by decide +kernel
theorem dX4_see_33 : decode cX4_see 33 = .ok (.getfield 102, 3) := by decide +kernel
theorem dX4_see_36 : decode cX4_see 36 = .ok (.bipush 6, 2) := by decide +kernel
theorem dX4_see_38 : decode cX4_see 38 = .ok (.if_icmp .lt 6, 3) := by decide +kernel
theorem dX4_see_41 : decode cX4_see 41 = .ok (.bipush (-4), 2) := by decide +kernel
theorem dX4_see_43 : decode cX4_see 43 = .ok (.ireturn, 1) := by decide +kernel
theorem dX4_see_44 : decode cX4_see 44 = .ok (.aload_n 0, 1) := by decide +kernel
theorem dX4_see_45 : decode cX4_see 45 = .ok (.getfield 50, 3) := by decide +kernel
theorem dX4_see_48 : decode cX4_see 48 = .ok (.aload_n 0, 1) := by decide +kernel
theorem dX4_see_49 : decode cX4_see 49 = .ok (.getfield 102, 3) := by decide +kernel
theorem dX4_see_52 : decode cX4_see 52 = .ok (.iload_n 1, 1) := by decide +kernel
theorem dX4_see_53 : decode cX4_see 53 = .ok (.iastore, 1) := by decide +kernel
theorem dX4_see_54 : decode cX4_see 54 = .ok (.aload_n 0, 1) := by decide +kernel
theorem dX4_see_55 : decode cX4_see 55 = .ok (.getfield 53, 3) := by decide +kernel
theorem dX4_see_58 : decode cX4_see 58 = .ok (.aload_n 0, 1) := by decide +kernel
theorem dX4_see_59 : decode cX4_see 59 = .ok (.getfield 102, 3) := by decide +kernel
theorem dX4_see_62 : decode cX4_see 62 = .ok (.iload_n 2, 1) := by decide +kernel
theorem dX4_see_63 : decode cX4_see 63 = .ok (.iastore, 1) := by decide +kernel
theorem dX4_see_64 : decode cX4_see 64 = .ok (.aload_n 0, 1) := by decide +kernel
theorem dX4_see_65 : decode cX4_see 65 = .ok (.getfield 56, 3) := by decide +kernel
theorem dX4_see_68 : decode cX4_see 68 = .ok (.aload_n 0, 1) := by decide +kernel
theorem dX4_see_69 : decode cX4_see 69 = .ok (.getfield 102, 3) := by decide +kernel
theorem dX4_see_72 : decode cX4_see 72 = .ok (.iload_n 3, 1) := by decide +kernel
theorem dX4_see_73 : decode cX4_see 73 = .ok (.iastore, 1) := by decide +kernel
theorem dX4_see_74 : decode cX4_see 74 = .ok (.aload_n 0, 1) := by decide +kernel
theorem dX4_see_75 : decode cX4_see 75 = .ok (.dup, 1) := by decide +kernel
theorem dX4_see_76 : decode cX4_see 76 = .ok (.getfield 102, 3) := by decide +kernel
theorem dX4_see_79 : decode cX4_see 79 = .ok (.iconst 1, 1) := by decide +kernel
theorem dX4_see_80 : decode cX4_see 80 = .ok (.iadd, 1) := by decide +kernel
theorem dX4_see_81 : decode cX4_see 81 = .ok (.putfield 102, 3) := by decide +kernel
theorem dX4_see_84 : decode cX4_see 84 = .ok (.aload_n 0, 1) := by decide +kernel
theorem dX4_see_85 : decode cX4_see 85 = .ok (.getfield 102, 3) := by decide +kernel
theorem dX4_see_88 : decode cX4_see 88 = .ok (.ireturn, 1) := by decide +kernel
theorem dX4_unsee_0 : decode cX4_unsee 0 = .ok (.aload_n 0, 1) := by decide +kernel
theorem dX4_unsee_1 : decode cX4_unsee 1 = .ok (.getfield 102, 3) := by decide +kernel
theorem dX4_unsee_4 : decode cX4_unsee 4 = .ok (.istore_n 1, 1) := by decide +kernel
theorem dX4_unsee_5 : decode cX4_unsee 5 = .ok (.aload_n 0, 1) := by decide +kernel
theorem dX4_unsee_6 : decode cX4_unsee 6 = .ok (.iconst 0, 1) := by decide +kernel
theorem dX4_unsee_7 : decode cX4_unsee 7 = .ok (.putfield 102, 3) := by decide +kernel
theorem dX4_unsee_10 : decode cX4_unsee 10 = .ok (.iload_n 1, 1) := by decide +kernel
theorem dX4_unsee_11 : decode cX4_unsee 11 = .ok (.ireturn, 1) := by decide +kernel
theorem dX4_which_0 : decode cX4_which 0 = .ok (.iconst 0, 1) := by decide +kernel
theorem dX4_which_1 : decode cX4_which 1 = .ok (.istore_n 1, 1) := by decide +kernel
theorem dX4_which_2 : decode cX4_which 2 = .ok (.iconst 0, 1) := by decide +kernel
theorem dX4_which_3 : decode cX4_which 3 = .ok (.istore_n 2, 1) := by decide +kernel
theorem dX4_which_4 : decode cX4_which 4 = .ok (.iload_n 2, 1) := by decide +kernel
theorem dX4_which_5 : decode cX4_which 5 = .ok (.bipush 10, 2) := by decide +kernel
theorem dX4_which_7 : decode cX4_which 7 = .ok (.if_icmp .ge 23, 3) := by decide +kernel
theorem dX4_which_10 : decode cX4_which 10 = .ok (.aload_n 0, 1) := by decide +kernel
theorem dX4_which_11 : decode cX4_which 11 = .ok (.iload_n 2, 1) := by decide +kernel
theorem dX4_which_12 : decode cX4_which 12 = .ok (.invokevirtual 215, 3) := by decide +kernel
theorem dX4_which_15 : decode cX4_which 15 = .ok (.ifCond .eq 9, 3) := by decide +kernel
theorem dX4_which_18 : decode cX4_which 18 = .ok (.iload_n 1, 1) := by decide +kernel
theorem dX4_which_19 : decode cX4_which 19 = .ok (.iconst 1, 1) := by decide +kernel
theorem dX4_which_20 : decode cX4_which 20 = .ok (.iload_n 2, 1) := by decide +kernel
theorem dX4_which_21 : decode cX4_which 21 = .ok (.ishl, 1) := by decide +kernel
theorem dX4_which_22 : decode cX4_which 22 = .ok (.ior, 1) := by decide +kernel
theorem dX4_which_23 : decode cX4_which 23 = .ok (.istore_n 1, 1) := by decide +kernel
theorem dX4_which_24 : decode cX4_which 24 = .ok (.iinc 2 1, 3) := by decide +kernel
theorem dX4_which_27 : decode cX4_which 27 = .ok (.goto (-23), 3) := by decide +kernel
theorem dX4_which_30 : decode cX4_which 30 = .ok (.iload_n 1, 1) := by decide +kernel
theorem dX4_which_31 : decode cX4_which 31 = .ok (.ireturn, 1) := by decide +kernel
theorem dX4_share_0 : decode cX4_share 0 = .ok (.aload_n 0, 1) := by decide +kernel
theorem dX4_share_1 : decode cX4_share 1 = .ok (.getfield 23, 3) := by decide +kernel
theorem dX4_share_4 : decode cX4_share 4 = .ok (.iload_n 1, 1) := by decide +kernel
theorem dX4_share_5 : decode cX4_share 5 = .ok (.invokevirtual 141, 3) := by decide +kernel
theorem dX4_share_8 : decode cX4_share 8 = .ok (.ifCond .ne 5, 3) := by decide +kernel
theorem dX4_share_11 : decode cX4_share 11 = .ok (.iconst (-1), 1) := by decide +kernel
theorem dX4_share_12 : decode cX4_share 12 = .ok (.ireturn, 1) := by decide +kernel
theorem dX4_share_13 : decode cX4_share 13 = .ok (.aload_n 0, 1) := by decide +kernel
theorem dX4_share_14 : decode cX4_share 14 = .ok (.getfield 23, 3) := by decide +kernel
theorem dX4_share_17 : decode cX4_share 17 = .ok (.getfield 84, 3) := by decide +kernel
theorem dX4_share_20 : decode cX4_share 20 = .ok (.iconst 1, 1) := by decide +kernel
theorem dX4_share_21 : decode cX4_share 21 = .ok (.isub, 1) := by decide +kernel
theorem dX4_share_22 : decode cX4_share 22 = .ok (.istore_n 3, 1) := by decide +kernel
theorem dX4_share_23 : decode cX4_share 23 = .ok (.iconst 1, 1) := by decide +kernel
theorem dX4_share_24 : decode cX4_share 24 = .ok (.iload_n 1, 1) := by decide +kernel
theorem dX4_share_25 : decode cX4_share 25 = .ok (.ishl, 1) := by decide +kernel
theorem dX4_share_26 : decode cX4_share 26 = .ok (.istore 4, 2) := by decide +kernel
theorem dX4_share_28 : decode cX4_share 28 = .ok (.iconst 1, 1) := by decide +kernel
theorem dX4_share_29 : decode cX4_share 29 = .ok (.aload_n 0, 1) := by decide +kernel
theorem dX4_share_30 : decode cX4_share 30 = .ok (.getfield 23, 3) := by decide +kernel
theorem dX4_share_33 : decode cX4_share 33 = .ok (.getfield 84, 3) := by decide +kernel
theorem dX4_share_36 : decode cX4_share 36 = .ok (.ishl, 1) := by decide +kernel
theorem dX4_share_37 : decode cX4_share 37 = .ok (.iconst 1, 1) := by decide +kernel
theorem dX4_share_38 : decode cX4_share 38 = .ok (.isub, 1) := by decide +kernel
theorem dX4_share_39 : decode cX4_share 39 = .ok (.istore 5, 2) := by decide +kernel
theorem dX4_share_41 : decode cX4_share 41 = .ok (.iconst 0, 1) := by decide +kernel
theorem dX4_share_42 : decode cX4_share 42 = .ok (.istore 6, 2) := by decide +kernel
theorem dX4_share_44 : decode cX4_share 44 = .ok (.iconst 0, 1) := by decide +kernel
theorem dX4_share_45 : decode cX4_share 45 = .ok (.istore 7, 2) := by decide +kernel
theorem dX4_share_47 : decode cX4_share 47 = .ok (.iload 7, 2) := by decide +kernel
theorem dX4_share_49 : decode cX4_share 49 = .ok (.iload 5, 2) := by decide +kernel
theorem dX4_share_51 : decode cX4_share 51 = .ok (.if_icmp .gt 73, 3) := by decide +kernel
theorem dX4_share_54 : decode cX4_share 54 = .ok (.iload 7, 2) := by decide +kernel
theorem dX4_share_56 : decode cX4_share 56 = .ok (.iload 4, 2) := by decide +kernel
theorem dX4_share_58 : decode cX4_share 58 = .ok (.iand, 1) := by decide +kernel
theorem dX4_share_59 : decode cX4_share 59 = .ok (.ifCond .ne 59, 3) := by decide +kernel
theorem dX4_share_62 : decode cX4_share 62 = .ok (.iload 7, 2) := by decide +kernel
theorem dX4_share_64 : decode cX4_share 64 = .ok (.invokestatic 218, 3) := by decide +kernel
theorem dX4_share_67 : decode cX4_share 67 = .ok (.istore 8, 2) := by decide +kernel
theorem dX4_share_69 : decode cX4_share 69 = .ok (.iload 8, 2) := by decide +kernel
theorem dX4_share_71 : decode cX4_share 71 = .ok (.invokestatic 223, 3) := by decide +kernel
theorem dX4_share_74 : decode cX4_share 74 = .ok (.iload_n 3, 1) := by decide +kernel
theorem dX4_share_75 : decode cX4_share 75 = .ok (.iload 8, 2) := by decide +kernel
theorem dX4_share_77 : decode cX4_share 77 = .ok (.isub, 1) := by decide +kernel
theorem dX4_share_78 : decode cX4_share 78 = .ok (.invokestatic 223, 3) := by decide +kernel
theorem dX4_share_81 : decode cX4_share 81 = .ok (.imul, 1) := by decide +kernel
theorem dX4_share_82 : decode cX4_share 82 = .ok (.istore 9, 2) := by decide +kernel
theorem dX4_share_84 : decode cX4_share 84 = .ok (.iload 6, 2) := by decide +kernel
theorem dX4_share_86 : decode cX4_share 86 = .ok (.iload 9, 2) := by decide +kernel
theorem dX4_share_88 : decode cX4_share 88 = .ok (.aload_n 0, 1) := by decide +kernel
theorem dX4_share_89 : decode cX4_share 89 = .ok (.iload 5, 2) := by decide +kernel
theorem dX4_share_91 : decode cX4_share 91 = .ok (.iload 7, 2) := by decide +kernel
theorem dX4_share_93 : decode cX4_share 93 = .ok (.iload 4, 2) := by decide +kernel
theorem dX4_share_95 : decode cX4_share 95 = .ok (.ior, 1) := by decide +kernel
theorem dX4_share_96 : decode cX4_share 96 = .ok (.iconst (-1), 1) := by decide +kernel
theorem dX4_share_97 : decode cX4_share 97 = .ok (.ixor, 1) := by decide +kernel
theorem dX4_share_98 : decode cX4_share 98 = .ok (.iand, 1) := by decide +kernel
theorem dX4_share_99 : decode cX4_share 99 = .ok (.invokevirtual 226, 3) := by decide +kernel
theorem dX4_share_102 : decode cX4_share 102 = .ok (.aload_n 0, 1) := by decide +kernel
theorem dX4_share_103 : decode cX4_share 103 = .ok (.iload 5, 2) := by decide +kernel
theorem dX4_share_105 : decode cX4_share 105 = .ok (.iload 7, 2) := by decide +kernel
theorem dX4_share_107 : decode cX4_share 107 = .ok (.iconst (-1), 1) := by decide +kernel
theorem dX4_share_108 : decode cX4_share 108 = .ok (.ixor, 1) := by decide +kernel
theorem dX4_share_109 : decode cX4_share 109 = .ok (.iand, 1) := by decide +kernel
theorem dX4_share_110 : decode cX4_share 110 = .ok (.invokevirtual 226, 3) := by decide +kernel
theorem dX4_share_113 : decode cX4_share 113 = .ok (.isub, 1) := by decide +kernel
theorem dX4_share_114 : decode cX4_share 114 = .ok (.imul, 1) := by decide +kernel
theorem dX4_share_115 : decode cX4_share 115 = .ok (.iadd, 1) := by decide +kernel
theorem dX4_share_116 : decode cX4_share 116 = .ok (.istore 6, 2) := by decide +kernel
theorem dX4_share_118 : decode cX4_share 118 = .ok (.iinc 7 1, 3) := by decide +kernel
theorem dX4_share_121 : decode cX4_share 121 = .ok (.goto (-74), 3) := by decide +kernel
theorem dX4_share_124 : decode cX4_share 124 = .ok (.iload 6, 2) := by decide +kernel
theorem dX4_share_126 : decode cX4_share 126 = .ok (.aload_n 0, 1) := by decide +kernel
theorem dX4_share_127 : decode cX4_share 127 = .ok (.getfield 23, 3) := by decide +kernel
theorem dX4_share_130 : decode cX4_share 130 = .ok (.getfield 84, 3) := by decide +kernel
theorem dX4_share_133 : decode cX4_share 133 = .ok (.invokestatic 223, 3) := by decide +kernel
theorem dX4_share_136 : decode cX4_share 136 = .ok (.iload_n 2, 1) := by decide +kernel
theorem dX4_share_137 : decode cX4_share 137 = .ok (.invokestatic 229, 3) := by decide +kernel
theorem dX4_share_140 : decode cX4_share 140 = .ok (.ireturn, 1) := by decide +kernel
theorem dX4_chance_0 : decode cX4_chance 0 = .ok (.iload_n 1, 1) := by decide +kernel
theorem dX4_chance_1 : decode cX4_chance 1 = .ok (.iconst 1, 1) := by decide +kernel
theorem dX4_chance_2 : decode cX4_chance 2 = .ok (.bipush 6, 2) := by decide +kernel
theorem dX4_chance_4 : decode cX4_chance 4 = .ok (.invokestatic 59, 3) := by decide +kernel
theorem dX4_chance_7 : decode cX4_chance 7 = .ok (.ifCond .eq 13, 3) := by decide +kernel
theorem dX4_chance_10 : decode cX4_chance 10 = .ok (.iload_n 2, 1) := by decide +kernel
theorem dX4_chance_11 : decode cX4_chance 11 = .ok (.iconst 0, 1) := by decide +kernel
theorem dX4_chance_12 : decode cX4_chance 12 = .ok (.bipush 10, 2) := by decide +kernel
theorem dX4_chance_14 : decode cX4_chance 14 = .ok (.invokestatic 59, 3) := by decide +kernel
theorem dX4_chance_17 : decode cX4_chance 17 = .ok (.ifCond .ne 6, 3) := by decide +kernel
theorem dX4_chance_20 : decode cX4_chance 20 = .ok (.bipush (-2), 2) := by decide +kernel
theorem dX4_chance_22 : decode cX4_chance 22 = .ok (.ireturn, 1) := by decide +kernel
theorem dX4_chance_23 : decode cX4_chance 23 = .ok (.iconst 1, 1) := by decide +kernel
theorem dX4_chance_24 : decode cX4_chance 24 = .ok (.istore 4, 2) := by decide +kernel
theorem dX4_chance_26 : decode cX4_chance 26 = .ok (.iconst 1, 1) := by decide +kernel
theorem dX4_chance_27 : decode cX4_chance 27 = .ok (.istore 5, 2) := by decide +kernel
theorem dX4_chance_29 : decode cX4_chance 29 = .ok (.aload_n 0, 1) := by decide +kernel
theorem dX4_chance_30 : decode cX4_chance 30 = .ok (.getfield 36, 3) := by decide +kernel
theorem dX4_chance_33 : decode cX4_chance 33 = .ok (.aload_n 0, 1) := by decide +kernel
theorem dX4_chance_34 : decode cX4_chance 34 = .ok (.getfield 32, 3) := by decide +kernel
theorem dX4_chance_37 : decode cX4_chance 37 = .ok (.invokevirtual 78, 3) := by decide +kernel
theorem dX4_chance_40 : decode cX4_chance 40 = .ok (.iconst 0, 1) := by decide +kernel
theorem dX4_chance_41 : decode cX4_chance 41 = .ok (.istore 6, 2) := by decide +kernel
theorem dX4_chance_43 : decode cX4_chance 43 = .ok (.iload 6, 2) := by decide +kernel
theorem dX4_chance_45 : decode cX4_chance 45 = .ok (.iload_n 1, 1) := by decide +kernel
theorem dX4_chance_46 : decode cX4_chance 46 = .ok (.if_icmp .ge 81, 3) := by decide +kernel
theorem dX4_chance_49 : decode cX4_chance 49 = .ok (.aload_n 0, 1) := by decide +kernel
theorem dX4_chance_50 : decode cX4_chance 50 = .ok (.getfield 36, 3) := by decide +kernel
theorem dX4_chance_53 : decode cX4_chance 53 = .ok (.getfield 156, 3) := by decide +kernel
theorem dX4_chance_56 : decode cX4_chance 56 = .ok (.ifCond .ne 71, 3) := by decide +kernel
theorem dX4_chance_59 : decode cX4_chance 59 = .ok (.aload_n 0, 1) := by decide +kernel
theorem dX4_chance_60 : decode cX4_chance 60 = .ok (.getfield 36, 3) := by decide +kernel
theorem dX4_chance_63 : decode cX4_chance 63 = .ok (.getfield 233, 3) := by decide +kernel
theorem dX4_chance_66 : decode cX4_chance 66 = .ok (.aload_n 0, 1) := by decide +kernel
theorem dX4_chance_67 : decode cX4_chance 67 = .ok (.getfield 36, 3) := by decide +kernel
theorem dX4_chance_70 : decode cX4_chance 70 = .ok (.getfield 236, 3) := by decide +kernel
theorem dX4_chance_73 : decode cX4_chance 73 = .ok (.iadd, 1) := by decide +kernel
theorem dX4_chance_74 : decode cX4_chance 74 = .ok (.istore 7, 2) := by decide +kernel
theorem dX4_chance_76 : decode cX4_chance 76 = .ok (.aload_n 0, 1) := by decide +kernel
theorem dX4_chance_77 : decode cX4_chance 77 = .ok (.getfield 36, 3) := by decide +kernel
theorem dX4_chance_80 : decode cX4_chance 80 = .ok (.iconst 1, 1) := by decide +kernel
theorem dX4_chance_81 : decode cX4_chance 81 = .ok (.invokevirtual 163, 3) := by decide +kernel
theorem dX4_chance_84 : decode cX4_chance 84 = .ok (.pop, 1) := by decide +kernel
theorem dX4_chance_85 : decode cX4_chance 85 = .ok (.aload_n 0, 1) := by decide +kernel
theorem dX4_chance_86 : decode cX4_chance 86 = .ok (.getfield 36, 3) := by decide +kernel
theorem dX4_chance_89 : decode cX4_chance 89 = .ok (.getfield 233, 3) := by decide +kernel
theorem dX4_chance_92 : decode cX4_chance 92 = .ok (.aload_n 0, 1) := by decide +kernel
theorem dX4_chance_93 : decode cX4_chance 93 = .ok (.getfield 36, 3) := by decide +kernel
theorem dX4_chance_96 : decode cX4_chance 96 = .ok (.getfield 236, 3) := by decide +kernel
theorem dX4_chance_99 : decode cX4_chance 99 = .ok (.iadd, 1) := by decide +kernel
theorem dX4_chance_100 : decode cX4_chance 100 = .ok (.iload 7, 2) := by decide +kernel
theorem dX4_chance_102 : decode cX4_chance 102 = .ok (.if_icmp .le 19, 3) := by decide +kernel
theorem dX4_chance_105 : decode cX4_chance 105 = .ok (.iload 4, 2) := by decide +kernel
theorem dX4_chance_107 : decode cX4_chance 107 = .ok (.bipush 10, 2) := by decide +kernel
theorem dX4_chance_109 : decode cX4_chance 109 = .ok (.iload_n 2, 1) := by decide +kernel
theorem dX4_chance_110 : decode cX4_chance 110 = .ok (.isub, 1) := by decide +kernel
theorem dX4_chance_111 : decode cX4_chance 111 = .ok (.imul, 1) := by decide +kernel
theorem dX4_chance_112 : decode cX4_chance 112 = .ok (.istore 4, 2) := by decide +kernel
theorem dX4_chance_114 : decode cX4_chance 114 = .ok (.iload 5, 2) := by decide +kernel
theorem dX4_chance_116 : decode cX4_chance 116 = .ok (.bipush 10, 2) := by decide +kernel
theorem dX4_chance_118 : decode cX4_chance 118 = .ok (.imul, 1) := by decide +kernel
theorem dX4_chance_119 : decode cX4_chance 119 = .ok (.istore 5, 2) := by decide +kernel
theorem dX4_chance_121 : decode cX4_chance 121 = .ok (.iinc 6 1, 3) := by decide +kernel
theorem dX4_chance_124 : decode cX4_chance 124 = .ok (.goto (-81), 3) := by decide +kernel
theorem dX4_chance_127 : decode cX4_chance 127 = .ok (.aload_n 0, 1) := by decide +kernel
theorem dX4_chance_128 : decode cX4_chance 128 = .ok (.getfield 36, 3) := by decide +kernel
theorem dX4_chance_131 : decode cX4_chance 131 = .ok (.getfield 156, 3) := by decide +kernel
theorem dX4_chance_134 : decode cX4_chance 134 = .ok (.ifCond .eq 7, 3) := by decide +kernel
theorem dX4_chance_137 : decode cX4_chance 137 = .ok (.iconst 0, 1) := by decide +kernel
theorem dX4_chance_138 : decode cX4_chance 138 = .ok (.goto 5, 3) := by decide +kernel
theorem dX4_chance_141 : decode cX4_chance 141 = .ok (.iload 4, 2) := by decide +kernel
theorem dX4_chance_143 : decode cX4_chance 143 = .ok (.iload 5, 2) := by decide +kernel
theorem dX4_chance_145 : decode cX4_chance 145 = .ok (.iload_n 3, 1) := by decide +kernel
theorem dX4_chance_146 : decode cX4_chance 146 = .ok (.invokestatic 229, 3) := by decide +kernel
theorem dX4_chance_149 : decode cX4_chance 149 = .ok (.ireturn, 1) := by decide +kernel
theorem dX4_seed_0 : decode cX4_seed 0 = .ok (.aload_n 0, 1) := by decide +kernel
theorem dX4_seed_1 : decode cX4_seed 1 = .ok (.getfield 239, 3) := by decide +kernel
theorem dX4_seed_4 : decode cX4_seed 4 = .ok (.lstore_n 3, 1) := by decide +kernel
theorem dX4_seed_5 : decode cX4_seed 5 = .ok (.aload_n 0, 1) := by decide +kernel
theorem dX4_seed_6 : decode cX4_seed 6 = .ok (.lload_n 1, 1) := by decide +kernel
theorem dX4_seed_7 : decode cX4_seed 7 = .ok (.putfield 239, 3) := by decide +kernel
theorem dX4_seed_10 : decode cX4_seed 10 = .ok (.lload_n 3, 1) := by decide +kernel
theorem dX4_seed_11 : decode cX4_seed 11 = .ok (.lreturn, 1) := by decide +kernel
theorem dX4_drawn_0 : decode cX4_drawn 0 = .ok (.iload_n 1, 1) := by decide +kernel
theorem dX4_drawn_1 : decode cX4_drawn 1 = .ok (.iconst 1, 1) := by decide +kernel
theorem dX4_drawn_2 : decode cX4_drawn 2 = .ok (.bipush 20, 2) := by decide +kernel
theorem dX4_drawn_4 : decode cX4_drawn 4 = .ok (.invokestatic 59, 3) := by decide +kernel
theorem dX4_drawn_7 : decode cX4_drawn 7 = .ok (.ifCond .ne 6, 3) := by decide +kernel
theorem dX4_drawn_10 : decode cX4_drawn 10 = .ok (.bipush (-2), 2) := by decide +kernel
theorem dX4_drawn_12 : decode cX4_drawn 12 = .ok (.ireturn, 1) := by decide +kernel
theorem dX4_drawn_13 : decode cX4_drawn 13 = .ok (.aload_n 0, 1) := by decide +kernel
theorem dX4_drawn_14 : decode cX4_drawn 14 = .ok (.getfield 36, 3) := by decide +kernel
theorem dX4_drawn_17 : decode cX4_drawn 17 = .ok (.aload_n 0, 1) := by decide +kernel
theorem dX4_drawn_18 : decode cX4_drawn 18 = .ok (.getfield 32, 3) := by decide +kernel
theorem dX4_drawn_21 : decode cX4_drawn 21 = .ok (.invokevirtual 78, 3) := by decide +kernel
theorem dX4_drawn_24 : decode cX4_drawn 24 = .ok (.iconst 0, 1) := by decide +kernel
theorem dX4_drawn_25 : decode cX4_drawn 25 = .ok (.istore_n 2, 1) := by decide +kernel
theorem dX4_drawn_26 : decode cX4_drawn 26 = .ok (.iconst 0, 1) := by decide +kernel
theorem dX4_drawn_27 : decode cX4_drawn 27 = .ok (.istore_n 3, 1) := by decide +kernel
theorem dX4_drawn_28 : decode cX4_drawn 28 = .ok (.iload_n 3, 1) := by decide +kernel
theorem dX4_drawn_29 : decode cX4_drawn 29 = .ok (.iload_n 1, 1) := by decide +kernel
theorem dX4_drawn_30 : decode cX4_drawn 30 = .ok (.if_icmp .ge 58, 3) := by decide +kernel
theorem dX4_drawn_33 : decode cX4_drawn 33 = .ok (.aload_n 0, 1) := by decide +kernel
theorem dX4_drawn_34 : decode cX4_drawn 34 = .ok (.aload_n 0, 1) := by decide +kernel
theorem dX4_drawn_35 : decode cX4_drawn 35 = .ok (.getfield 239, 3) := by decide +kernel
theorem dX4_drawn_38 : decode cX4_drawn 38 = .ok (.ldc2_w 243, 3) := by decide +kernel
theorem dX4_drawn_41 : decode cX4_drawn 41 = .ok (.lmul, 1) := by decide +kernel
theorem dX4_drawn_42 : decode cX4_drawn 42 = .ok (.ldc2_w 245, 3) := by decide +kernel
theorem dX4_drawn_45 : decode cX4_drawn 45 = .ok (.ladd, 1) := by decide +kernel
theorem dX4_drawn_46 : decode cX4_drawn 46 = .ok (.putfield 239, 3) := by decide +kernel
theorem dX4_drawn_49 : decode cX4_drawn 49 = .ok (.aload_n 0, 1) := by decide +kernel
theorem dX4_drawn_50 : decode cX4_drawn 50 = .ok (.aload_n 0, 1) := by decide +kernel
theorem dX4_drawn_51 : decode cX4_drawn 51 = .ok (.getfield 239, 3) := by decide +kernel
theorem dX4_drawn_54 : decode cX4_drawn 54 = .ok (.bipush 33, 2) := by decide +kernel
theorem dX4_drawn_56 : decode cX4_drawn 56 = .ok (.lushr, 1) := by decide +kernel
theorem dX4_drawn_57 : decode cX4_drawn 57 = .ok (.l2i, 1) := by decide +kernel
theorem dX4_drawn_58 : decode cX4_drawn 58 = .ok (.bipush 10, 2) := by decide +kernel
theorem dX4_drawn_60 : decode cX4_drawn 60 = .ok (.irem, 1) := by decide +kernel
theorem dX4_drawn_61 : decode cX4_drawn 61 = .ok (.invokevirtual 247, 3) := by decide +kernel
theorem dX4_drawn_64 : decode cX4_drawn 64 = .ok (.iload_n 2, 1) := by decide +kernel
theorem dX4_drawn_65 : decode cX4_drawn 65 = .ok (.aload_n 0, 1) := by decide +kernel
theorem dX4_drawn_66 : decode cX4_drawn 66 = .ok (.getfield 36, 3) := by decide +kernel
theorem dX4_drawn_69 : decode cX4_drawn 69 = .ok (.getfield 199, 3) := by decide +kernel
theorem dX4_drawn_72 : decode cX4_drawn 72 = .ok (.aload_n 0, 1) := by decide +kernel
theorem dX4_drawn_73 : decode cX4_drawn 73 = .ok (.getfield 36, 3) := by decide +kernel
theorem dX4_drawn_76 : decode cX4_drawn 76 = .ok (.getfield 250, 3) := by decide +kernel
theorem dX4_drawn_79 : decode cX4_drawn 79 = .ok (.isub, 1) := by decide +kernel
theorem dX4_drawn_80 : decode cX4_drawn 80 = .ok (.iadd, 1) := by decide +kernel
theorem dX4_drawn_81 : decode cX4_drawn 81 = .ok (.istore_n 2, 1) := by decide +kernel
theorem dX4_drawn_82 : decode cX4_drawn 82 = .ok (.iinc 3 1, 3) := by decide +kernel
theorem dX4_drawn_85 : decode cX4_drawn 85 = .ok (.goto (-57), 3) := by decide +kernel
theorem dX4_drawn_88 : decode cX4_drawn 88 = .ok (.iload_n 2, 1) := by decide +kernel
theorem dX4_drawn_89 : decode cX4_drawn 89 = .ok (.ireturn, 1) := by decide +kernel
theorem dX4_keep_0 : decode cX4_keep 0 = .ok (.iload_n 1, 1) := by decide +kernel
theorem dX4_keep_1 : decode cX4_keep 1 = .ok (.iconst 0, 1) := by decide +kernel
theorem dX4_keep_2 : decode cX4_keep 2 = .ok (.iconst 1, 1) := by decide +kernel
theorem dX4_keep_3 : decode cX4_keep 3 = .ok (.invokestatic 59, 3) := by decide +kernel
theorem dX4_keep_6 : decode cX4_keep 6 = .ok (.ifCond .ne 5, 3) := by decide +kernel
theorem dX4_keep_9 : decode cX4_keep 9 = .ok (.iconst (-1), 1) := by decide +kernel
theorem dX4_keep_10 : decode cX4_keep 10 = .ok (.ireturn, 1) := by decide +kernel
theorem dX4_keep_11 : decode cX4_keep 11 = .ok (.aload_n 0, 1) := by decide +kernel
theorem dX4_keep_12 : decode cX4_keep 12 = .ok (.getfield 43, 3) := by decide +kernel
theorem dX4_keep_15 : decode cX4_keep 15 = .ok (.iload_n 1, 1) := by decide +kernel
theorem dX4_keep_16 : decode cX4_keep 16 = .ok (.aaload, 1) := by decide +kernel
theorem dX4_keep_17 : decode cX4_keep 17 = .ok (.aload_n 0, 1) := by decide +kernel
theorem dX4_keep_18 : decode cX4_keep 18 = .ok (.getfield 32, 3) := by decide +kernel
theorem dX4_keep_21 : decode cX4_keep 21 = .ok (.invokevirtual 78, 3) := by decide +kernel
theorem dX4_keep_24 : decode cX4_keep 24 = .ok (.aload_n 0, 1) := by decide +kernel
theorem dX4_keep_25 : decode cX4_keep 25 = .ok (.getfield 46, 3) := by decide +kernel
theorem dX4_keep_28 : decode cX4_keep 28 = .ok (.iload_n 1, 1) := by decide +kernel
theorem dX4_keep_29 : decode cX4_keep 29 = .ok (.iconst 1, 1) := by decide +kernel
theorem dX4_keep_30 : decode cX4_keep 30 = .ok (.bastore, 1) := by decide +kernel
theorem dX4_keep_31 : decode cX4_keep 31 = .ok (.aload_n 0, 1) := by decide +kernel
theorem dX4_keep_32 : decode cX4_keep 32 = .ok (.getfield 32, 3) := by decide +kernel
theorem dX4_keep_35 : decode cX4_keep 35 = .ok (.getfield 253, 3) := by decide +kernel
theorem dX4_keep_38 : decode cX4_keep 38 = .ok (.ireturn, 1) := by decide +kernel
theorem dX4_again_0 : decode cX4_again 0 = .ok (.iload_n 1, 1) := by decide +kernel
theorem dX4_again_1 : decode cX4_again 1 = .ok (.iconst 0, 1) := by decide +kernel
theorem dX4_again_2 : decode cX4_again 2 = .ok (.iconst 1, 1) := by decide +kernel
theorem dX4_again_3 : decode cX4_again 3 = .ok (.invokestatic 59, 3) := by decide +kernel
theorem dX4_again_6 : decode cX4_again 6 = .ok (.ifCond .ne 5, 3) := by decide +kernel
theorem dX4_again_9 : decode cX4_again 9 = .ok (.iconst (-1), 1) := by decide +kernel
theorem dX4_again_10 : decode cX4_again 10 = .ok (.ireturn, 1) := by decide +kernel
theorem dX4_again_11 : decode cX4_again 11 = .ok (.aload_n 0, 1) := by decide +kernel
theorem dX4_again_12 : decode cX4_again 12 = .ok (.getfield 46, 3) := by decide +kernel
theorem dX4_again_15 : decode cX4_again 15 = .ok (.iload_n 1, 1) := by decide +kernel
theorem dX4_again_16 : decode cX4_again 16 = .ok (.baload, 1) := by decide +kernel
theorem dX4_again_17 : decode cX4_again 17 = .ok (.ifCond .ne 6, 3) := by decide +kernel
theorem dX4_again_20 : decode cX4_again 20 = .ok (.bipush (-3), 2) := by decide +kernel
theorem dX4_again_22 : decode cX4_again 22 = .ok (.ireturn, 1) := by decide +kernel
theorem dX4_again_23 : decode cX4_again 23 = .ok (.aload_n 0, 1) := by decide +kernel
theorem dX4_again_24 : decode cX4_again 24 = .ok (.getfield 32, 3) := by decide +kernel
theorem dX4_again_27 : decode cX4_again 27 = .ok (.aload_n 0, 1) := by decide +kernel
theorem dX4_again_28 : decode cX4_again 28 = .ok (.getfield 43, 3) := by decide +kernel
theorem dX4_again_31 : decode cX4_again 31 = .ok (.iload_n 1, 1) := by decide +kernel
theorem dX4_again_32 : decode cX4_again 32 = .ok (.aaload, 1) := by decide +kernel
theorem dX4_again_33 : decode cX4_again 33 = .ok (.invokevirtual 78, 3) := by decide +kernel
theorem dX4_again_36 : decode cX4_again 36 = .ok (.aload_n 0, 1) := by decide +kernel
theorem dX4_again_37 : decode cX4_again 37 = .ok (.invokevirtual 81, 3) := by decide +kernel
theorem dX4_again_40 : decode cX4_again 40 = .ok (.aload_n 0, 1) := by decide +kernel
theorem dX4_again_41 : decode cX4_again 41 = .ok (.getfield 32, 3) := by decide +kernel
theorem dX4_again_44 : decode cX4_again 44 = .ok (.getfield 253, 3) := by decide +kernel
theorem dX4_again_47 : decode cX4_again 47 = .ok (.ireturn, 1) := by decide +kernel
theorem dX4_isWithin_0 : decode cX4_isWithin 0 = .ok (.iload_n 0, 1) := by decide +kernel
theorem dX4_isWithin_1 : decode cX4_isWithin 1 = .ok (.iload_n 1, 1) := by decide +kernel
theorem dX4_isWithin_2 : decode cX4_isWithin 2 = .ok (.if_icmp .lt 12, 3) := by decide +kernel
theorem dX4_isWithin_5 : decode cX4_isWithin 5 = .ok (.iload_n 0, 1) := by decide +kernel
theorem dX4_isWithin_6 : decode cX4_isWithin 6 = .ok (.iload_n 2, 1) := by decide +kernel
theorem dX4_isWithin_7 : decode cX4_isWithin 7 = .ok (.if_icmp .gt 7, 3) := by decide +kernel
theorem dX4_isWithin_10 : decode cX4_isWithin 10 = .ok (.iconst 1, 1) := by decide +kernel
theorem dX4_isWithin_11 : decode cX4_isWithin 11 = .ok (.goto 4, 3) := by decide +kernel
theorem dX4_isWithin_14 : decode cX4_isWithin 14 = .ok (.iconst 0, 1) := by decide +kernel
theorem dX4_isWithin_15 : decode cX4_isWithin 15 = .ok (.ireturn, 1) := by decide +kernel
theorem dX4_asNumber_0 : decode cX4_asNumber 0 = .ok (.iload_n 0, 1) := by decide +kernel
theorem dX4_asNumber_1 : decode cX4_asNumber 1 = .ok (.ifCond .eq 7, 3) := by decide +kernel
theorem dX4_asNumber_4 : decode cX4_asNumber 4 = .ok (.iconst 1, 1) := by decide +kernel
theorem dX4_asNumber_5 : decode cX4_asNumber 5 = .ok (.goto 4, 3) := by decide +kernel
theorem dX4_asNumber_8 : decode cX4_asNumber 8 = .ok (.iconst 0, 1) := by decide +kernel
theorem dX4_asNumber_9 : decode cX4_asNumber 9 = .ok (.ireturn, 1) := by decide +kernel
theorem dX4_limited_0 : decode cX4_limited 0 = .ok (.iconst 0, 1) := by decide +kernel
theorem dX4_limited_1 : decode cX4_limited 1 = .ok (.bipush 99, 2) := by decide +kernel
theorem dX4_limited_3 : decode cX4_limited 3 = .ok (.iload_n 0, 1) := by decide +kernel
theorem dX4_limited_4 : decode cX4_limited 4 = .ok (.invokestatic 256, 3) := by decide +kernel
theorem dX4_limited_7 : decode cX4_limited 7 = .ok (.invokestatic 206, 3) := by decide +kernel
theorem dX4_limited_10 : decode cX4_limited 10 = .ok (.ireturn, 1) := by decide +kernel
theorem dX4_factorial_0 : decode cX4_factorial 0 = .ok (.iconst 1, 1) := by decide +kernel
theorem dX4_factorial_1 : decode cX4_factorial 1 = .ok (.istore_n 1, 1) := by decide +kernel
theorem dX4_factorial_2 : decode cX4_factorial 2 = .ok (.iconst 2, 1) := by decide +kernel
theorem dX4_factorial_3 : decode cX4_factorial 3 = .ok (.istore_n 2, 1) := by decide +kernel
theorem dX4_factorial_4 : decode cX4_factorial 4 = .ok (.iload_n 2, 1) := by decide +kernel
theorem dX4_factorial_5 : decode cX4_factorial 5 = .ok (.iload_n 0, 1) := by decide +kernel
theorem dX4_factorial_6 : decode cX4_factorial 6 = .ok (.if_icmp .gt 18, 3) := by decide +kernel
theorem dX4_factorial_9 : decode cX4_factorial 9 = .ok (.iload_n 2, 1) := by decide +kernel
theorem dX4_factorial_10 : decode cX4_factorial 10 = .ok (.iconst 4, 1) := by decide +kernel
theorem dX4_factorial_11 : decode cX4_factorial 11 = .ok (.if_icmp .gt 13, 3) := by decide +kernel
theorem dX4_factorial_14 : decode cX4_factorial 14 = .ok (.iload_n 1, 1) := by decide +kernel
theorem dX4_factorial_15 : decode cX4_factorial 15 = .ok (.iload_n 2, 1) := by decide +kernel
theorem dX4_factorial_16 : decode cX4_factorial 16 = .ok (.imul, 1) := by decide +kernel
theorem dX4_factorial_17 : decode cX4_factorial 17 = .ok (.istore_n 1, 1) := by decide +kernel
theorem dX4_factorial_18 : decode cX4_factorial 18 = .ok (.iinc 2 1, 3) := by decide +kernel
theorem dX4_factorial_21 : decode cX4_factorial 21 = .ok (.goto (-17), 3) := by decide +kernel
theorem dX4_factorial_24 : decode cX4_factorial 24 = .ok (.iload_n 1, 1) := by decide +kernel
theorem dX4_factorial_25 : decode cX4_factorial 25 = .ok (.ireturn, 1) := by decide +kernel
theorem dX4_partOf_0 : decode cX4_partOf 0 = .ok (.iconst 1, 1) := by decide +kernel
theorem dX4_partOf_1 : decode cX4_partOf 1 = .ok (.iload_n 0, 1) := by decide +kernel
theorem dX4_partOf_2 : decode cX4_partOf 2 = .ok (.invokestatic 259, 3) := by decide +kernel
theorem dX4_partOf_5 : decode cX4_partOf 5 = .ok (.iload_n 1, 1) := by decide +kernel
theorem dX4_partOf_6 : decode cX4_partOf 6 = .ok (.invokestatic 262, 3) := by decide +kernel
theorem dX4_partOf_9 : decode cX4_partOf 9 = .ok (.invokestatic 206, 3) := by decide +kernel
theorem dX4_partOf_12 : decode cX4_partOf 12 = .ok (.istore_n 3, 1) := by decide +kernel
theorem dX4_partOf_13 : decode cX4_partOf 13 = .ok (.iload_n 2, 1) := by decide +kernel
theorem dX4_partOf_14 : decode cX4_partOf 14 = .ok (.ifCond .eq 7, 3) := by decide +kernel
theorem dX4_partOf_17 : decode cX4_partOf 17 = .ok (.iload_n 0, 1) := by decide +kernel
theorem dX4_partOf_18 : decode cX4_partOf 18 = .ok (.goto 4, 3) := by decide +kernel
theorem dX4_partOf_21 : decode cX4_partOf 21 = .ok (.iload_n 1, 1) := by decide +kernel
theorem dX4_partOf_22 : decode cX4_partOf 22 = .ok (.iload_n 3, 1) := by decide +kernel
theorem dX4_partOf_23 : decode cX4_partOf 23 = .ok (.idiv, 1) := by decide +kernel
theorem dX4_partOf_24 : decode cX4_partOf 24 = .ok (.ireturn, 1) := by decide +kernel
theorem dX4_commonDivisor_0 : decode cX4_commonDivisor 0 = .ok (.iconst 0, 1) := by decide +kernel
theorem dX4_commonDivisor_1 : decode cX4_commonDivisor 1 = .ok (.istore_n 2, 1) := by decide +kernel
theorem dX4_commonDivisor_2 : decode cX4_commonDivisor 2 = .ok (.iload_n 2, 1) := by decide +kernel
theorem dX4_commonDivisor_3 : decode cX4_commonDivisor 3 = .ok (.bipush 50, 2) := by decide +kernel
theorem dX4_commonDivisor_5 : decode cX4_commonDivisor 5 = .ok (.if_icmp .ge 21, 3) := by decide +kernel
theorem dX4_commonDivisor_8 : decode cX4_commonDivisor 8 = .ok (.iload_n 1, 1) := by decide +kernel
theorem dX4_commonDivisor_9 : decode cX4_commonDivisor 9 = .ok (.ifCond .eq 17, 3) := by decide +kernel
theorem dX4_commonDivisor_12 : decode cX4_commonDivisor 12 = .ok (.iload_n 0, 1) := by decide +kernel
theorem dX4_commonDivisor_13 : decode cX4_commonDivisor 13 = .ok (.iload_n 1, 1) := by decide +kernel
theorem dX4_commonDivisor_14 : decode cX4_commonDivisor 14 = .ok (.irem, 1) := by decide +kernel
theorem dX4_commonDivisor_15 : decode cX4_commonDivisor 15 = .ok (.istore_n 3, 1) := by decide +kernel
theorem dX4_commonDivisor_16 : decode cX4_commonDivisor 16 = .ok (.iload_n 1, 1) := by decide +kernel
theorem dX4_commonDivisor_17 : decode cX4_commonDivisor 17 = .ok (.istore_n 0, 1) := by decide +kernel
theorem dX4_commonDivisor_18 : decode cX4_commonDivisor 18 = .ok (.iload_n 3, 1) := by decide +kernel
theorem dX4_commonDivisor_19 : decode cX4_commonDivisor 19 = .ok (.istore_n 1, 1) := by decide +kernel
theorem dX4_commonDivisor_20 : decode cX4_commonDivisor 20 = .ok (.iinc 2 1, 3) := by decide +kernel
theorem dX4_commonDivisor_23 : decode cX4_commonDivisor 23 = .ok (.goto (-21), 3) := by decide +kernel
theorem dX4_commonDivisor_26 : decode cX4_commonDivisor 26 = .ok (.iload_n 0, 1) := by decide +kernel
theorem dX4_commonDivisor_27 : decode cX4_commonDivisor 27 = .ok (.ireturn, 1) := by decide +kernel
theorem dX4_readText_0 : decode cX4_readText 0 = .ok (.aload_n 0, 1) := by decide +kernel
theorem dX4_readText_1 : decode cX4_readText 1 = .ok (.getfield 16, 3) := by decide +kernel
theorem dX4_readText_4 : decode cX4_readText 4 = .ok (.invokevirtual 265, 3) := by decide +kernel
theorem dX4_readText_7 : decode cX4_readText 7 = .ok (.iconst 0, 1) := by decide +kernel
theorem dX4_readText_8 : decode cX4_readText 8 = .ok (.istore_n 1, 1) := by decide +kernel
theorem dX4_readText_9 : decode cX4_readText 9 = .ok (.iload_n 1, 1) := by decide +kernel
theorem dX4_readText_10 : decode cX4_readText 10 = .ok (.aload_n 0, 1) := by decide +kernel
theorem dX4_readText_11 : decode cX4_readText 11 = .ok (.getfield 63, 3) := by decide +kernel
theorem dX4_readText_14 : decode cX4_readText 14 = .ok (.if_icmp .ge 27, 3) := by decide +kernel
theorem dX4_readText_17 : decode cX4_readText 17 = .ok (.aload_n 0, 1) := by decide +kernel
theorem dX4_readText_18 : decode cX4_readText 18 = .ok (.getfield 16, 3) := by decide +kernel
theorem dX4_readText_21 : decode cX4_readText 21 = .ok (.aload_n 0, 1) := by decide +kernel
theorem dX4_readText_22 : decode cX4_readText 22 = .ok (.getfield 9, 3) := by decide +kernel
theorem dX4_readText_25 : decode cX4_readText 25 = .ok (.iload_n 1, 1) := by decide +kernel
theorem dX4_readText_26 : decode cX4_readText 26 = .ok (.iaload, 1) := by decide +kernel
theorem dX4_readText_27 : decode cX4_readText 27 = .ok (.invokevirtual 268, 3) := by decide +kernel
theorem dX4_readText_30 : decode cX4_readText 30 = .ok (.ifCond .ne 5, 3) := by decide +kernel
theorem dX4_readText_33 : decode cX4_readText 33 = .ok (.iload_n 1, 1) := by decide +kernel
theorem dX4_readText_34 : decode cX4_readText 34 = .ok (.ireturn, 1) := by decide +kernel
theorem dX4_readText_35 : decode cX4_readText 35 = .ok (.iinc 1 1, 3) := by decide +kernel
theorem dX4_readText_38 : decode cX4_readText 38 = .ok (.goto (-29), 3) := by decide +kernel
theorem dX4_readText_41 : decode cX4_readText 41 = .ok (.aload_n 0, 1) := by decide +kernel
theorem dX4_readText_42 : decode cX4_readText 42 = .ok (.getfield 16, 3) := by decide +kernel
theorem dX4_readText_45 : decode cX4_readText 45 = .ok (.invokevirtual 271, 3) := by decide +kernel
theorem dX4_readText_48 : decode cX4_readText 48 = .ok (.ifCond .eq 8, 3) := by decide +kernel
theorem dX4_readText_51 : decode cX4_readText 51 = .ok (.bipush (-9), 2) := by decide +kernel
theorem dX4_readText_53 : decode cX4_readText 53 = .ok (.goto 7, 3) := by decide +kernel
theorem dX4_readText_56 : decode cX4_readText 56 = .ok (.aload_n 0, 1) := by decide +kernel
theorem dX4_readText_57 : decode cX4_readText 57 = .ok (.getfield 63, 3) := by decide +kernel
theorem dX4_readText_60 : decode cX4_readText 60 = .ok (.ireturn, 1) := by decide +kernel
theorem dX4_rememberAct_0 : decode cX4_rememberAct 0 = .ok (.aload_n 0, 1) := by decide +kernel
theorem dX4_rememberAct_1 : decode cX4_rememberAct 1 = .ok (.getfield 39, 3) := by decide +kernel
theorem dX4_rememberAct_4 : decode cX4_rememberAct 4 = .ok (.aload_n 0, 1) := by decide +kernel
theorem dX4_rememberAct_5 : decode cX4_rememberAct 5 = .ok (.getfield 193, 3) := by decide +kernel
theorem dX4_rememberAct_8 : decode cX4_rememberAct 8 = .ok (.aaload, 1) := by decide +kernel
theorem dX4_rememberAct_9 : decode cX4_rememberAct 9 = .ok (.aload_n 0, 1) := by decide +kernel
theorem dX4_rememberAct_10 : decode cX4_rememberAct 10 = .ok (.getfield 32, 3) := by decide +kernel
theorem dX4_rememberAct_13 : decode cX4_rememberAct 13 = .ok (.invokevirtual 78, 3) := by decide +kernel
theorem dX4_rememberAct_16 : decode cX4_rememberAct 16 = .ok (.aload_n 0, 1) := by decide +kernel
theorem dX4_rememberAct_17 : decode cX4_rememberAct 17 = .ok (.aload_n 0, 1) := by decide +kernel
theorem dX4_rememberAct_18 : decode cX4_rememberAct 18 = .ok (.getfield 193, 3) := by decide +kernel
theorem dX4_rememberAct_21 : decode cX4_rememberAct 21 = .ok (.iconst 1, 1) := by decide +kernel
theorem dX4_rememberAct_22 : decode cX4_rememberAct 22 = .ok (.iadd, 1) := by decide +kernel
theorem dX4_rememberAct_23 : decode cX4_rememberAct 23 = .ok (.bipush 14, 2) := by decide +kernel
theorem dX4_rememberAct_25 : decode cX4_rememberAct 25 = .ok (.irem, 1) := by decide +kernel
theorem dX4_rememberAct_26 : decode cX4_rememberAct 26 = .ok (.putfield 193, 3) := by decide +kernel
theorem dX4_rememberAct_29 : decode cX4_rememberAct 29 = .ok (.aload_n 0, 1) := by decide +kernel
theorem dX4_rememberAct_30 : decode cX4_rememberAct 30 = .ok (.bipush 14, 2) := by decide +kernel
theorem dX4_rememberAct_32 : decode cX4_rememberAct 32 = .ok (.aload_n 0, 1) := by decide +kernel
theorem dX4_rememberAct_33 : decode cX4_rememberAct 33 = .ok (.getfield 99, 3) := by decide +kernel
theorem dX4_rememberAct_36 : decode cX4_rememberAct 36 = .ok (.iconst 1, 1) := by decide +kernel
theorem dX4_rememberAct_37 : decode cX4_rememberAct 37 = .ok (.iadd, 1) := by decide +kernel
theorem dX4_rememberAct_38 : decode cX4_rememberAct 38 = .ok (.invokestatic 256, 3) := by decide +kernel
theorem dX4_rememberAct_41 : decode cX4_rememberAct 41 = .ok (.putfield 99, 3) := by decide +kernel
theorem dX4_rememberAct_44 : decode cX4_rememberAct 44 = .ok (.return_, 1) := by decide +kernel
theorem dX4_forgetActs_0 : decode cX4_forgetActs 0 = .ok (.aload_n 0, 1) := by decide +kernel
theorem dX4_forgetActs_1 : decode cX4_forgetActs 1 = .ok (.iconst 0, 1) := by decide +kernel
theorem dX4_forgetActs_2 : decode cX4_forgetActs 2 = .ok (.putfield 99, 3) := by decide +kernel
theorem dX4_forgetActs_5 : decode cX4_forgetActs 5 = .ok (.return_, 1) := by decide +kernel
theorem dX4_wayInNextStep_0 : decode cX4_wayInNextStep 0 = .ok (.iload_n 1, 1) := by decide +kernel
theorem dX4_wayInNextStep_1 : decode cX4_wayInNextStep 1 = .ok (.aload_n 0, 1) := by decide +kernel
theorem dX4_wayInNextStep_2 : decode cX4_wayInNextStep 2 = .ok (.getfield 23, 3) := by decide +kernel
theorem dX4_wayInNextStep_5 : decode cX4_wayInNextStep 5 = .ok (.getfield 87, 3) := by decide +kernel
theorem dX4_wayInNextStep_8 : decode cX4_wayInNextStep 8 = .ok (.iconst 1, 1) := by decide +kernel
theorem dX4_wayInNextStep_9 : decode cX4_wayInNextStep 9 = .ok (.isub, 1) := by decide +kernel
theorem dX4_wayInNextStep_10 : decode cX4_wayInNextStep 10 = .ok (.if_icmp .lt 36, 3) := by decide +kernel
theorem dX4_wayInNextStep_13 : decode cX4_wayInNextStep 13 = .ok (.aload_n 0, 1) := by decide +kernel
theorem dX4_wayInNextStep_14 : decode cX4_wayInNextStep 14 = .ok (.getfield 23, 3) := by decide +kernel
theorem dX4_wayInNextStep_17 : decode cX4_wayInNextStep 17 = .ok (.aload_n 0, 1) := by decide +kernel
theorem dX4_wayInNextStep_18 : decode cX4_wayInNextStep 18 = .ok (.getfield 36, 3) := by decide +kernel
theorem dX4_wayInNextStep_21 : decode cX4_wayInNextStep 21 = .ok (.getfield 116, 3) := by decide +kernel
theorem dX4_wayInNextStep_24 : decode cX4_wayInNextStep 24 = .ok (.aload_n 0, 1) := by decide +kernel
theorem dX4_wayInNextStep_25 : decode cX4_wayInNextStep 25 = .ok (.getfield 23, 3) := by decide +kernel
theorem dX4_wayInNextStep_28 : decode cX4_wayInNextStep 28 = .ok (.getfield 87, 3) := by decide +kernel
theorem dX4_wayInNextStep_31 : decode cX4_wayInNextStep 31 = .ok (.iconst 1, 1) := by decide +kernel
theorem dX4_wayInNextStep_32 : decode cX4_wayInNextStep 32 = .ok (.isub, 1) := by decide +kernel
theorem dX4_wayInNextStep_33 : decode cX4_wayInNextStep 33 = .ok (.iaload, 1) := by decide +kernel
theorem dX4_wayInNextStep_34 : decode cX4_wayInNextStep 34 = .ok (.invokevirtual 138, 3) := by decide +kernel
theorem dX4_wayInNextStep_37 : decode cX4_wayInNextStep 37 = .ok (.ifCond .eq 7, 3) := by decide +kernel
theorem dX4_wayInNextStep_40 : decode cX4_wayInNextStep 40 = .ok (.iconst 1, 1) := by decide +kernel
theorem dX4_wayInNextStep_41 : decode cX4_wayInNextStep 41 = .ok (.goto 4, 3) := by decide +kernel
theorem dX4_wayInNextStep_44 : decode cX4_wayInNextStep 44 = .ok (.iconst 2, 1) := by decide +kernel
theorem dX4_wayInNextStep_45 : decode cX4_wayInNextStep 45 = .ok (.ireturn, 1) := by decide +kernel
theorem dX4_wayInNextStep_46 : decode cX4_wayInNextStep 46 = .ok (.aload_n 0, 1) := by decide +kernel
theorem dX4_wayInNextStep_47 : decode cX4_wayInNextStep 47 = .ok (.getfield 36, 3) := by decide +kernel
theorem dX4_wayInNextStep_50 : decode cX4_wayInNextStep 50 = .ok (.getfield 233, 3) := by decide +kernel
theorem dX4_wayInNextStep_53 : decode cX4_wayInNextStep 53 = .ok (.istore_n 2, 1) := by decide +kernel
theorem dX4_wayInNextStep_54 : decode cX4_wayInNextStep 54 = .ok (.aload_n 0, 1) := by decide +kernel
theorem dX4_wayInNextStep_55 : decode cX4_wayInNextStep 55 = .ok (.getfield 36, 3) := by decide +kernel
theorem dX4_wayInNextStep_58 : decode cX4_wayInNextStep 58 = .ok (.getfield 236, 3) := by decide +kernel
theorem dX4_wayInNextStep_61 : decode cX4_wayInNextStep 61 = .ok (.istore_n 3, 1) := by decide +kernel
theorem dX4_wayInNextStep_62 : decode cX4_wayInNextStep 62 = .ok (.aload_n 0, 1) := by decide +kernel
theorem dX4_wayInNextStep_63 : decode cX4_wayInNextStep 63 = .ok (.getfield 36, 3) := by decide +kernel
theorem dX4_wayInNextStep_66 : decode cX4_wayInNextStep 66 = .ok (.iconst 1, 1) := by decide +kernel
theorem dX4_wayInNextStep_67 : decode cX4_wayInNextStep 67 = .ok (.invokevirtual 163, 3) := by decide +kernel
theorem dX4_wayInNextStep_70 : decode cX4_wayInNextStep 70 = .ok (.pop, 1) := by decide +kernel
theorem dX4_wayInNextStep_71 : decode cX4_wayInNextStep 71 = .ok (.iload_n 1, 1) := by decide +kernel
theorem dX4_wayInNextStep_72 : decode cX4_wayInNextStep 72 = .ok (.iconst 1, 1) := by decide +kernel
theorem dX4_wayInNextStep_73 : decode cX4_wayInNextStep 73 = .ok (.iadd, 1) := by decide +kernel
theorem dX4_wayInNextStep_74 : decode cX4_wayInNextStep 74 = .ok (.aload_n 0, 1) := by decide +kernel
theorem dX4_wayInNextStep_75 : decode cX4_wayInNextStep 75 = .ok (.getfield 23, 3) := by decide +kernel
theorem dX4_wayInNextStep_78 : decode cX4_wayInNextStep 78 = .ok (.getfield 109, 3) := by decide +kernel
theorem dX4_wayInNextStep_81 : decode cX4_wayInNextStep 81 = .ok (.iconst 4, 1) := by decide +kernel
theorem dX4_wayInNextStep_82 : decode cX4_wayInNextStep 82 = .ok (.iaload, 1) := by decide +kernel
theorem dX4_wayInNextStep_83 : decode cX4_wayInNextStep 83 = .ok (.if_icmp .eq 6, 3) := by decide +kernel
theorem dX4_wayInNextStep_86 : decode cX4_wayInNextStep 86 = .ok (.bipush (-9), 2) := by decide +kernel
theorem dX4_wayInNextStep_88 : decode cX4_wayInNextStep 88 = .ok (.ireturn, 1) := by decide +kernel
theorem dX4_wayInNextStep_89 : decode cX4_wayInNextStep 89 = .ok (.aload_n 0, 1) := by decide +kernel
theorem dX4_wayInNextStep_90 : decode cX4_wayInNextStep 90 = .ok (.getfield 36, 3) := by decide +kernel
theorem dX4_wayInNextStep_93 : decode cX4_wayInNextStep 93 = .ok (.getfield 233, 3) := by decide +kernel
theorem dX4_wayInNextStep_96 : decode cX4_wayInNextStep 96 = .ok (.iload_n 2, 1) := by decide +kernel
theorem dX4_wayInNextStep_97 : decode cX4_wayInNextStep 97 = .ok (.if_icmp .le 5, 3) := by decide +kernel
theorem dX4_wayInNextStep_100 : decode cX4_wayInNextStep 100 = .ok (.iconst 3, 1) := by decide +kernel
theorem dX4_wayInNextStep_101 : decode cX4_wayInNextStep 101 = .ok (.ireturn, 1) := by decide +kernel
theorem dX4_wayInNextStep_102 : decode cX4_wayInNextStep 102 = .ok (.aload_n 0, 1) := by decide +kernel
theorem dX4_wayInNextStep_103 : decode cX4_wayInNextStep 103 = .ok (.getfield 36, 3) := by decide +kernel
theorem dX4_wayInNextStep_106 : decode cX4_wayInNextStep 106 = .ok (.getfield 236, 3) := by decide +kernel
theorem dX4_wayInNextStep_109 : decode cX4_wayInNextStep 109 = .ok (.iload_n 3, 1) := by decide +kernel
theorem dX4_wayInNextStep_110 : decode cX4_wayInNextStep 110 = .ok (.if_icmp .le 7, 3) := by decide +kernel
theorem dX4_wayInNextStep_113 : decode cX4_wayInNextStep 113 = .ok (.iconst 4, 1) := by decide +kernel
theorem dX4_wayInNextStep_114 : decode cX4_wayInNextStep 114 = .ok (.goto 5, 3) := by decide +kernel
theorem dX4_wayInNextStep_117 : decode cX4_wayInNextStep 117 = .ok (.bipush (-9), 2) := by decide +kernel
theorem dX4_wayInNextStep_119 : decode cX4_wayInNextStep 119 = .ok (.ireturn, 1) := by decide +kernel
theorem dX4_outWithMore_0 : decode cX4_outWithMore 0 = .ok (.aload_n 0, 1) := by decide +kernel
theorem dX4_outWithMore_1 : decode cX4_outWithMore 1 = .ok (.getfield 36, 3) := by decide +kernel
theorem dX4_outWithMore_4 : decode cX4_outWithMore 4 = .ok (.aload_n 0, 1) := by decide +kernel
theorem dX4_outWithMore_5 : decode cX4_outWithMore 5 = .ok (.getfield 32, 3) := by decide +kernel
theorem dX4_outWithMore_8 : decode cX4_outWithMore 8 = .ok (.invokevirtual 78, 3) := by decide +kernel
theorem dX4_outWithMore_11 : decode cX4_outWithMore 11 = .ok (.aload_n 0, 1) := by decide +kernel
theorem dX4_outWithMore_12 : decode cX4_outWithMore 12 = .ok (.getfield 36, 3) := by decide +kernel
theorem dX4_outWithMore_15 : decode cX4_outWithMore 15 = .ok (.iload_n 1, 1) := by decide +kernel
theorem dX4_outWithMore_16 : decode cX4_outWithMore 16 = .ok (.iload_n 2, 1) := by decide +kernel
theorem dX4_outWithMore_17 : decode cX4_outWithMore 17 = .ok (.invokevirtual 185, 3) := by decide +kernel
theorem dX4_outWithMore_20 : decode cX4_outWithMore 20 = .ok (.aload_n 0, 1) := by decide +kernel
theorem dX4_outWithMore_21 : decode cX4_outWithMore 21 = .ok (.getfield 36, 3) := by decide +kernel
theorem dX4_outWithMore_24 : decode cX4_outWithMore 24 = .ok (.bipush 40, 2) := by decide +kernel
theorem dX4_outWithMore_26 : decode cX4_outWithMore 26 = .ok (.invokevirtual 163, 3) := by decide +kernel
theorem dX4_outWithMore_29 : decode cX4_outWithMore 29 = .ok (.pop, 1) := by decide +kernel
theorem dX4_outWithMore_30 : decode cX4_outWithMore 30 = .ok (.aload_n 0, 1) := by decide +kernel
theorem dX4_outWithMore_31 : decode cX4_outWithMore 31 = .ok (.getfield 36, 3) := by decide +kernel
theorem dX4_outWithMore_34 : decode cX4_outWithMore 34 = .ok (.getfield 199, 3) := by decide +kernel
theorem dX4_outWithMore_37 : decode cX4_outWithMore 37 = .ok (.ireturn, 1) := by decide +kernel
theorem dX4_outWithOff_0 : decode cX4_outWithOff 0 = .ok (.aload_n 0, 1) := by decide +kernel
theorem dX4_outWithOff_1 : decode cX4_outWithOff 1 = .ok (.getfield 36, 3) := by decide +kernel
theorem dX4_outWithOff_4 : decode cX4_outWithOff 4 = .ok (.aload_n 0, 1) := by decide +kernel
theorem dX4_outWithOff_5 : decode cX4_outWithOff 5 = .ok (.getfield 32, 3) := by decide +kernel
theorem dX4_outWithOff_8 : decode cX4_outWithOff 8 = .ok (.invokevirtual 78, 3) := by decide +kernel
theorem dX4_outWithOff_11 : decode cX4_outWithOff 11 = .ok (.aload_n 0, 1) := by decide +kernel
theorem dX4_outWithOff_12 : decode cX4_outWithOff 12 = .ok (.getfield 36, 3) := by decide +kernel
theorem dX4_outWithOff_15 : decode cX4_outWithOff 15 = .ok (.iload_n 1, 1) := by decide +kernel
theorem dX4_outWithOff_16 : decode cX4_outWithOff 16 = .ok (.putfield 274, 3) := by decide +kernel
theorem dX4_outWithOff_19 : decode cX4_outWithOff 19 = .ok (.aload_n 0, 1) := by decide +kernel
theorem dX4_outWithOff_20 : decode cX4_outWithOff 20 = .ok (.getfield 36, 3) := by decide +kernel
theorem dX4_outWithOff_23 : decode cX4_outWithOff 23 = .ok (.bipush 30, 2) := by decide +kernel
theorem dX4_outWithOff_25 : decode cX4_outWithOff 25 = .ok (.invokevirtual 163, 3) := by decide +kernel
theorem dX4_outWithOff_28 : decode cX4_outWithOff 28 = .ok (.pop, 1) := by decide +kernel
theorem dX4_outWithOff_29 : decode cX4_outWithOff 29 = .ok (.aload_n 0, 1) := by decide +kernel
theorem dX4_outWithOff_30 : decode cX4_outWithOff 30 = .ok (.getfield 36, 3) := by decide +kernel
theorem dX4_outWithOff_33 : decode cX4_outWithOff 33 = .ok (.getfield 199, 3) := by decide +kernel
theorem dX4_outWithOff_36 : decode cX4_outWithOff 36 = .ok (.ireturn, 1) := by decide +kernel
theorem dX4_obeys_0 : decode cX4_obeys 0 = .ok (.iload_n 1, 1) := by decide +kernel
theorem dX4_obeys_1 : decode cX4_obeys 1 = .ok (.bipush 10, 2) := by decide +kernel
theorem dX4_obeys_3 : decode cX4_obeys 3 = .ok (.idiv, 1) := by decide +kernel
theorem dX4_obeys_4 : decode cX4_obeys 4 = .ok (.bipush 10, 2) := by decide +kernel
theorem dX4_obeys_6 : decode cX4_obeys 6 = .ok (.irem, 1) := by decide +kernel
theorem dX4_obeys_7 : decode cX4_obeys 7 = .ok (.istore_n 2, 1) := by decide +kernel
theorem dX4_obeys_8 : decode cX4_obeys 8 = .ok (.iload_n 1, 1) := by decide +kernel
theorem dX4_obeys_9 : decode cX4_obeys 9 = .ok (.bipush 10, 2) := by decide +kernel
theorem dX4_obeys_11 : decode cX4_obeys 11 = .ok (.irem, 1) := by decide +kernel
theorem dX4_obeys_12 : decode cX4_obeys 12 = .ok (.istore_n 3, 1) := by decide +kernel
theorem dX4_obeys_13 : decode cX4_obeys 13 = .ok (.iload_n 1, 1) := by decide +kernel
theorem dX4_obeys_14 : decode cX4_obeys 14 = .ok (.bipush 100, 2) := by decide +kernel
theorem dX4_obeys_16 : decode cX4_obeys 16 = .ok (.irem, 1) := by decide +kernel
theorem dX4_obeys_17 : decode cX4_obeys 17 = .ok (.istore 4, 2) := by decide +kernel
theorem dX4_obeys_19 : decode cX4_obeys 19 = .ok (.iload_n 1, 1) := by decide +kernel
theorem dX4_obeys_20 : decode cX4_obeys 20 = .ok (.bipush 100, 2) := by decide +kernel
theorem dX4_obeys_22 : decode cX4_obeys 22 = .ok (.idiv, 1) := by decide +kernel
theorem dX4_obeys_23 : decode cX4_obeys 23 = .ok (.tableswitch 240 1 9 #[49, 75, 75, 75, 75, 97, 129, 147, 177], 49) := by decide +kernel
theorem dX4_obeys_72 : decode cX4_obeys 72 = .ok (.iload 4, 2) := by decide +kernel
theorem dX4_obeys_74 : decode cX4_obeys 74 = .ok (.iconst 1, 1) := by decide +kernel
theorem dX4_obeys_75 : decode cX4_obeys 75 = .ok (.if_icmp .lt 21, 3) := by decide +kernel
theorem dX4_obeys_78 : decode cX4_obeys 78 = .ok (.aload_n 0, 1) := by decide +kernel
theorem dX4_obeys_79 : decode cX4_obeys 79 = .ok (.getfield 36, 3) := by decide +kernel
theorem dX4_obeys_82 : decode cX4_obeys 82 = .ok (.iload 4, 2) := by decide +kernel
theorem dX4_obeys_84 : decode cX4_obeys 84 = .ok (.invokevirtual 163, 3) := by decide +kernel
theorem dX4_obeys_87 : decode cX4_obeys 87 = .ok (.iload 4, 2) := by decide +kernel
theorem dX4_obeys_89 : decode cX4_obeys 89 = .ok (.if_icmp .ne 7, 3) := by decide +kernel
theorem dX4_obeys_92 : decode cX4_obeys 92 = .ok (.iconst 1, 1) := by decide +kernel
theorem dX4_obeys_93 : decode cX4_obeys 93 = .ok (.goto 4, 3) := by decide +kernel
theorem dX4_obeys_96 : decode cX4_obeys 96 = .ok (.iconst 0, 1) := by decide +kernel
theorem dX4_obeys_97 : decode cX4_obeys 97 = .ok (.ireturn, 1) := by decide +kernel
theorem dX4_obeys_98 : decode cX4_obeys 98 = .ok (.iload 4, 2) := by decide +kernel
theorem dX4_obeys_100 : decode cX4_obeys 100 = .ok (.ifCond .ne 18, 3) := by decide +kernel
theorem dX4_obeys_103 : decode cX4_obeys 103 = .ok (.aload_n 0, 1) := by decide +kernel
theorem dX4_obeys_104 : decode cX4_obeys 104 = .ok (.iload_n 1, 1) := by decide +kernel
theorem dX4_obeys_105 : decode cX4_obeys 105 = .ok (.bipush 100, 2) := by decide +kernel
theorem dX4_obeys_107 : decode cX4_obeys 107 = .ok (.idiv, 1) := by decide +kernel
theorem dX4_obeys_108 : decode cX4_obeys 108 = .ok (.invokevirtual 277, 3) := by decide +kernel
theorem dX4_obeys_111 : decode cX4_obeys 111 = .ok (.ifCond .eq 7, 3) := by decide +kernel
theorem dX4_obeys_114 : decode cX4_obeys 114 = .ok (.iconst 1, 1) := by decide +kernel
theorem dX4_obeys_115 : decode cX4_obeys 115 = .ok (.goto 4, 3) := by decide +kernel
theorem dX4_obeys_118 : decode cX4_obeys 118 = .ok (.iconst 0, 1) := by decide +kernel
theorem dX4_obeys_119 : decode cX4_obeys 119 = .ok (.ireturn, 1) := by decide +kernel
theorem dX4_obeys_120 : decode cX4_obeys 120 = .ok (.iload_n 3, 1) := by decide +kernel
theorem dX4_obeys_121 : decode cX4_obeys 121 = .ok (.ifCond .ne 29, 3) := by decide +kernel
theorem dX4_obeys_124 : decode cX4_obeys 124 = .ok (.aload_n 0, 1) := by decide +kernel
theorem dX4_obeys_125 : decode cX4_obeys 125 = .ok (.getfield 23, 3) := by decide +kernel
theorem dX4_obeys_128 : decode cX4_obeys 128 = .ok (.iload_n 2, 1) := by decide +kernel
theorem dX4_obeys_129 : decode cX4_obeys 129 = .ok (.invokevirtual 141, 3) := by decide +kernel
theorem dX4_obeys_132 : decode cX4_obeys 132 = .ok (.ifCond .eq 18, 3) := by decide +kernel
theorem dX4_obeys_135 : decode cX4_obeys 135 = .ok (.aload_n 0, 1) := by decide +kernel
theorem dX4_obeys_136 : decode cX4_obeys 136 = .ok (.getfield 36, 3) := by decide +kernel
theorem dX4_obeys_139 : decode cX4_obeys 139 = .ok (.invokevirtual 280, 3) := by decide +kernel
theorem dX4_obeys_142 : decode cX4_obeys 142 = .ok (.iload_n 2, 1) := by decide +kernel
theorem dX4_obeys_143 : decode cX4_obeys 143 = .ok (.if_icmp .ne 7, 3) := by decide +kernel
theorem dX4_obeys_146 : decode cX4_obeys 146 = .ok (.iconst 1, 1) := by decide +kernel
theorem dX4_obeys_147 : decode cX4_obeys 147 = .ok (.goto 4, 3) := by decide +kernel
theorem dX4_obeys_150 : decode cX4_obeys 150 = .ok (.iconst 0, 1) := by decide +kernel
theorem dX4_obeys_151 : decode cX4_obeys 151 = .ok (.ireturn, 1) := by decide +kernel
theorem dX4_obeys_152 : decode cX4_obeys 152 = .ok (.aload_n 0, 1) := by decide +kernel
theorem dX4_obeys_153 : decode cX4_obeys 153 = .ok (.getfield 36, 3) := by decide +kernel
theorem dX4_obeys_156 : decode cX4_obeys 156 = .ok (.getfield 199, 3) := by decide +kernel
theorem dX4_obeys_159 : decode cX4_obeys 159 = .ok (.iload 4, 2) := by decide +kernel
theorem dX4_obeys_161 : decode cX4_obeys 161 = .ok (.if_icmp .ne 7, 3) := by decide +kernel
theorem dX4_obeys_164 : decode cX4_obeys 164 = .ok (.iconst 1, 1) := by decide +kernel
theorem dX4_obeys_165 : decode cX4_obeys 165 = .ok (.goto 4, 3) := by decide +kernel
theorem dX4_obeys_168 : decode cX4_obeys 168 = .ok (.iconst 0, 1) := by decide +kernel
theorem dX4_obeys_169 : decode cX4_obeys 169 = .ok (.ireturn, 1) := by decide +kernel
theorem dX4_obeys_170 : decode cX4_obeys 170 = .ok (.aload_n 0, 1) := by decide +kernel
theorem dX4_obeys_171 : decode cX4_obeys 171 = .ok (.getfield 23, 3) := by decide +kernel
theorem dX4_obeys_174 : decode cX4_obeys 174 = .ok (.iload_n 2, 1) := by decide +kernel
theorem dX4_obeys_175 : decode cX4_obeys 175 = .ok (.invokevirtual 112, 3) := by decide +kernel
theorem dX4_obeys_178 : decode cX4_obeys 178 = .ok (.ifCond .eq 20, 3) := by decide +kernel
theorem dX4_obeys_181 : decode cX4_obeys 181 = .ok (.aload_n 0, 1) := by decide +kernel
theorem dX4_obeys_182 : decode cX4_obeys 182 = .ok (.getfield 36, 3) := by decide +kernel
theorem dX4_obeys_185 : decode cX4_obeys 185 = .ok (.getfield 119, 3) := by decide +kernel
theorem dX4_obeys_188 : decode cX4_obeys 188 = .ok (.iload_n 2, 1) := by decide +kernel
theorem dX4_obeys_189 : decode cX4_obeys 189 = .ok (.iaload, 1) := by decide +kernel
theorem dX4_obeys_190 : decode cX4_obeys 190 = .ok (.iload_n 3, 1) := by decide +kernel
theorem dX4_obeys_191 : decode cX4_obeys 191 = .ok (.if_icmp .ne 7, 3) := by decide +kernel
theorem dX4_obeys_194 : decode cX4_obeys 194 = .ok (.iconst 1, 1) := by decide +kernel
theorem dX4_obeys_195 : decode cX4_obeys 195 = .ok (.goto 4, 3) := by decide +kernel
theorem dX4_obeys_198 : decode cX4_obeys 198 = .ok (.iconst 0, 1) := by decide +kernel
theorem dX4_obeys_199 : decode cX4_obeys 199 = .ok (.ireturn, 1) := by decide +kernel
theorem dX4_obeys_200 : decode cX4_obeys 200 = .ok (.iload_n 3, 1) := by decide +kernel
theorem dX4_obeys_201 : decode cX4_obeys 201 = .ok (.iconst 1, 1) := by decide +kernel
theorem dX4_obeys_202 : decode cX4_obeys 202 = .ok (.if_icmp .gt 59, 3) := by decide +kernel
theorem dX4_obeys_205 : decode cX4_obeys 205 = .ok (.aload_n 0, 1) := by decide +kernel
theorem dX4_obeys_206 : decode cX4_obeys 206 = .ok (.getfield 23, 3) := by decide +kernel
theorem dX4_obeys_209 : decode cX4_obeys 209 = .ok (.iload_n 2, 1) := by decide +kernel
theorem dX4_obeys_210 : decode cX4_obeys 210 = .ok (.invokevirtual 112, 3) := by decide +kernel
theorem dX4_obeys_213 : decode cX4_obeys 213 = .ok (.ifCond .eq 48, 3) := by decide +kernel
theorem dX4_obeys_216 : decode cX4_obeys 216 = .ok (.aload_n 0, 1) := by decide +kernel
theorem dX4_obeys_217 : decode cX4_obeys 217 = .ok (.getfield 36, 3) := by decide +kernel
theorem dX4_obeys_220 : decode cX4_obeys 220 = .ok (.getfield 116, 3) := by decide +kernel
theorem dX4_obeys_223 : decode cX4_obeys 223 = .ok (.iload_n 2, 1) := by decide +kernel
theorem dX4_obeys_224 : decode cX4_obeys 224 = .ok (.iaload, 1) := by decide +kernel
theorem dX4_obeys_225 : decode cX4_obeys 225 = .ok (.ifCond .eq 36, 3) := by decide +kernel
theorem dX4_obeys_228 : decode cX4_obeys 228 = .ok (.aload_n 0, 1) := by decide +kernel
theorem dX4_obeys_229 : decode cX4_obeys 229 = .ok (.getfield 23, 3) := by decide +kernel
theorem dX4_obeys_232 : decode cX4_obeys 232 = .ok (.aload_n 0, 1) := by decide +kernel
theorem dX4_obeys_233 : decode cX4_obeys 233 = .ok (.getfield 36, 3) := by decide +kernel
theorem dX4_obeys_236 : decode cX4_obeys 236 = .ok (.getfield 116, 3) := by decide +kernel
theorem dX4_obeys_239 : decode cX4_obeys 239 = .ok (.iload_n 2, 1) := by decide +kernel
theorem dX4_obeys_240 : decode cX4_obeys 240 = .ok (.iaload, 1) := by decide +kernel
theorem dX4_obeys_241 : decode cX4_obeys 241 = .ok (.invokevirtual 138, 3) := by decide +kernel
theorem dX4_obeys_244 : decode cX4_obeys 244 = .ok (.iload_n 3, 1) := by decide +kernel
theorem dX4_obeys_245 : decode cX4_obeys 245 = .ok (.iconst 1, 1) := by decide +kernel
theorem dX4_obeys_246 : decode cX4_obeys 246 = .ok (.if_icmp .ne 7, 3) := by decide +kernel
theorem dX4_obeys_249 : decode cX4_obeys 249 = .ok (.iconst 1, 1) := by decide +kernel
theorem dX4_obeys_250 : decode cX4_obeys 250 = .ok (.goto 4, 3) := by decide +kernel
theorem dX4_obeys_253 : decode cX4_obeys 253 = .ok (.iconst 0, 1) := by decide +kernel
theorem dX4_obeys_254 : decode cX4_obeys 254 = .ok (.if_icmp .ne 7, 3) := by decide +kernel
theorem dX4_obeys_257 : decode cX4_obeys 257 = .ok (.iconst 1, 1) := by decide +kernel
theorem dX4_obeys_258 : decode cX4_obeys 258 = .ok (.goto 4, 3) := by decide +kernel
theorem dX4_obeys_261 : decode cX4_obeys 261 = .ok (.iconst 0, 1) := by decide +kernel
theorem dX4_obeys_262 : decode cX4_obeys 262 = .ok (.ireturn, 1) := by decide +kernel
theorem dX4_obeys_263 : decode cX4_obeys 263 = .ok (.iconst 0, 1) := by decide +kernel
theorem dX4_obeys_264 : decode cX4_obeys 264 = .ok (.ireturn, 1) := by decide +kernel
theorem dX4_intervenes_0 : decode cX4_intervenes 0 = .ok (.iload_n 1, 1) := by decide +kernel
theorem dX4_intervenes_1 : decode cX4_intervenes 1 = .ok (.tableswitch 82 2 4 #[27, 36, 60], 27) := by decide +kernel
theorem dX4_intervenes_28 : decode cX4_intervenes 28 = .ok (.aload_n 0, 1) := by decide +kernel
theorem dX4_intervenes_29 : decode cX4_intervenes 29 = .ok (.getfield 36, 3) := by decide +kernel
theorem dX4_intervenes_32 : decode cX4_intervenes 32 = .ok (.invokevirtual 166, 3) := by decide +kernel
theorem dX4_intervenes_35 : decode cX4_intervenes 35 = .ok (.iconst 1, 1) := by decide +kernel
theorem dX4_intervenes_36 : decode cX4_intervenes 36 = .ok (.ireturn, 1) := by decide +kernel
theorem dX4_intervenes_37 : decode cX4_intervenes 37 = .ok (.aload_n 0, 1) := by decide +kernel
theorem dX4_intervenes_38 : decode cX4_intervenes 38 = .ok (.getfield 36, 3) := by decide +kernel
theorem dX4_intervenes_41 : decode cX4_intervenes 41 = .ok (.aload_n 0, 1) := by decide +kernel
theorem dX4_intervenes_42 : decode cX4_intervenes 42 = .ok (.getfield 36, 3) := by decide +kernel
theorem dX4_intervenes_45 : decode cX4_intervenes 45 = .ok (.getfield 172, 3) := by decide +kernel
theorem dX4_intervenes_48 : decode cX4_intervenes 48 = .ok (.ifCond .ne 7, 3) := by decide +kernel
theorem dX4_intervenes_51 : decode cX4_intervenes 51 = .ok (.iconst 1, 1) := by decide +kernel
theorem dX4_intervenes_52 : decode cX4_intervenes 52 = .ok (.goto 4, 3) := by decide +kernel
theorem dX4_intervenes_55 : decode cX4_intervenes 55 = .ok (.iconst 0, 1) := by decide +kernel
theorem dX4_intervenes_56 : decode cX4_intervenes 56 = .ok (.putfield 172, 3) := by decide +kernel
theorem dX4_intervenes_59 : decode cX4_intervenes 59 = .ok (.iconst 1, 1) := by decide +kernel
theorem dX4_intervenes_60 : decode cX4_intervenes 60 = .ok (.ireturn, 1) := by decide +kernel
theorem dX4_intervenes_61 : decode cX4_intervenes 61 = .ok (.aload_n 0, 1) := by decide +kernel
theorem dX4_intervenes_62 : decode cX4_intervenes 62 = .ok (.getfield 36, 3) := by decide +kernel
theorem dX4_intervenes_65 : decode cX4_intervenes 65 = .ok (.getfield 156, 3) := by decide +kernel
theorem dX4_intervenes_68 : decode cX4_intervenes 68 = .ok (.ifCond .ne 5, 3) := by decide +kernel
theorem dX4_intervenes_71 : decode cX4_intervenes 71 = .ok (.iconst 0, 1) := by decide +kernel
theorem dX4_intervenes_72 : decode cX4_intervenes 72 = .ok (.ireturn, 1) := by decide +kernel
theorem dX4_intervenes_73 : decode cX4_intervenes 73 = .ok (.aload_n 0, 1) := by decide +kernel
theorem dX4_intervenes_74 : decode cX4_intervenes 74 = .ok (.getfield 36, 3) := by decide +kernel
theorem dX4_intervenes_77 : decode cX4_intervenes 77 = .ok (.invokevirtual 175, 3) := by decide +kernel
theorem dX4_intervenes_80 : decode cX4_intervenes 80 = .ok (.pop, 1) := by decide +kernel
theorem dX4_intervenes_81 : decode cX4_intervenes 81 = .ok (.iconst 1, 1) := by decide +kernel
theorem dX4_intervenes_82 : decode cX4_intervenes 82 = .ok (.ireturn, 1) := by decide +kernel
theorem dX4_intervenes_83 : decode cX4_intervenes 83 = .ok (.aload_n 0, 1) := by decide +kernel
theorem dX4_intervenes_84 : decode cX4_intervenes 84 = .ok (.getfield 36, 3) := by decide +kernel
theorem dX4_intervenes_87 : decode cX4_intervenes 87 = .ok (.invokevirtual 179, 3) := by decide +kernel
theorem dX4_intervenes_90 : decode cX4_intervenes 90 = .ok (.iconst 1, 1) := by decide +kernel
theorem dX4_intervenes_91 : decode cX4_intervenes 91 = .ok (.ireturn, 1) := by decide +kernel
theorem dX4_agreesWithSlipAfter_0 : decode cX4_agreesWithSlipAfter 0 = .ok (.aload_n 0, 1) := by decide +kernel
theorem dX4_agreesWithSlipAfter_1 : decode cX4_agreesWithSlipAfter 1 = .ok (.getfield 36, 3) := by decide +kernel
theorem dX4_agreesWithSlipAfter_4 : decode cX4_agreesWithSlipAfter 4 = .ok (.aload_n 0, 1) := by decide +kernel
theorem dX4_agreesWithSlipAfter_5 : decode cX4_agreesWithSlipAfter 5 = .ok (.getfield 32, 3) := by decide +kernel
theorem dX4_agreesWithSlipAfter_8 : decode cX4_agreesWithSlipAfter 8 = .ok (.invokevirtual 78, 3) := by decide +kernel
theorem dX4_agreesWithSlipAfter_11 : decode cX4_agreesWithSlipAfter 11 = .ok (.iconst 0, 1) := by decide +kernel
theorem dX4_agreesWithSlipAfter_12 : decode cX4_agreesWithSlipAfter 12 = .ok (.istore_n 2, 1) := by decide +kernel
theorem dX4_agreesWithSlipAfter_13 : decode cX4_agreesWithSlipAfter 13 = .ok (.iload_n 2, 1) := by decide +kernel
theorem dX4_agreesWithSlipAfter_14 : decode cX4_agreesWithSlipAfter 14 = .ok (.bipush 20, 2) := by decide +kernel
theorem dX4_agreesWithSlipAfter_16 : decode cX4_agreesWithSlipAfter 16 = .ok (.if_icmp .gt 40, 3) := by decide +kernel
theorem dX4_agreesWithSlipAfter_19 : decode cX4_agreesWithSlipAfter 19 = .ok (.aload_n 0, 1) := by decide +kernel
theorem dX4_agreesWithSlipAfter_20 : decode cX4_agreesWithSlipAfter 20 = .ok (.iload_n 2, 1) := by decide +kernel
theorem dX4_agreesWithSlipAfter_21 : decode cX4_agreesWithSlipAfter 21 = .ok (.invokevirtual 283, 3) := by decide +kernel
theorem dX4_agreesWithSlipAfter_24 : decode cX4_agreesWithSlipAfter 24 = .ok (.ifCond .ne 5, 3) := by decide +kernel
theorem dX4_agreesWithSlipAfter_27 : decode cX4_agreesWithSlipAfter 27 = .ok (.iconst 0, 1) := by decide +kernel
theorem dX4_agreesWithSlipAfter_28 : decode cX4_agreesWithSlipAfter 28 = .ok (.ireturn, 1) := by decide +kernel
theorem dX4_agreesWithSlipAfter_29 : decode cX4_agreesWithSlipAfter 29 = .ok (.iload_n 2, 1) := by decide +kernel
theorem dX4_agreesWithSlipAfter_30 : decode cX4_agreesWithSlipAfter 30 = .ok (.iload_n 1, 1) := by decide +kernel
theorem dX4_agreesWithSlipAfter_31 : decode cX4_agreesWithSlipAfter 31 = .ok (.if_icmp .ne 10, 3) := by decide +kernel
theorem dX4_agreesWithSlipAfter_34 : decode cX4_agreesWithSlipAfter 34 = .ok (.aload_n 0, 1) := by decide +kernel
theorem dX4_agreesWithSlipAfter_35 : decode cX4_agreesWithSlipAfter 35 = .ok (.getfield 36, 3) := by decide +kernel
theorem dX4_agreesWithSlipAfter_38 : decode cX4_agreesWithSlipAfter 38 = .ok (.invokevirtual 166, 3) := by decide +kernel
theorem dX4_agreesWithSlipAfter_41 : decode cX4_agreesWithSlipAfter 41 = .ok (.aload_n 0, 1) := by decide +kernel
theorem dX4_agreesWithSlipAfter_42 : decode cX4_agreesWithSlipAfter 42 = .ok (.getfield 36, 3) := by decide +kernel
theorem dX4_agreesWithSlipAfter_45 : decode cX4_agreesWithSlipAfter 45 = .ok (.iconst 1, 1) := by decide +kernel
theorem dX4_agreesWithSlipAfter_46 : decode cX4_agreesWithSlipAfter 46 = .ok (.invokevirtual 163, 3) := by decide +kernel
theorem dX4_agreesWithSlipAfter_49 : decode cX4_agreesWithSlipAfter 49 = .ok (.pop, 1) := by decide +kernel
theorem dX4_agreesWithSlipAfter_50 : decode cX4_agreesWithSlipAfter 50 = .ok (.iinc 2 1, 3) := by decide +kernel
theorem dX4_agreesWithSlipAfter_53 : decode cX4_agreesWithSlipAfter 53 = .ok (.goto (-40), 3) := by decide +kernel
theorem dX4_agreesWithSlipAfter_56 : decode cX4_agreesWithSlipAfter 56 = .ok (.iconst 1, 1) := by decide +kernel
theorem dX4_agreesWithSlipAfter_57 : decode cX4_agreesWithSlipAfter 57 = .ok (.ireturn, 1) := by decide +kernel
theorem dX4_agreesAfter_0 : decode cX4_agreesAfter 0 = .ok (.iconst 0, 1) := by decide +kernel
theorem dX4_agreesAfter_1 : decode cX4_agreesAfter 1 = .ok (.istore_n 2, 1) := by decide +kernel
theorem dX4_agreesAfter_2 : decode cX4_agreesAfter 2 = .ok (.iload_n 2, 1) := by decide +kernel
theorem dX4_agreesAfter_3 : decode cX4_agreesAfter 3 = .ok (.aload_n 0, 1) := by decide +kernel
theorem dX4_agreesAfter_4 : decode cX4_agreesAfter 4 = .ok (.getfield 102, 3) := by decide +kernel
theorem dX4_agreesAfter_7 : decode cX4_agreesAfter 7 = .ok (.if_icmp .ge 43, 3) := by decide +kernel
theorem dX4_agreesAfter_10 : decode cX4_agreesAfter 10 = .ok (.aload_n 0, 1) := by decide +kernel
theorem dX4_agreesAfter_11 : decode cX4_agreesAfter 11 = .ok (.getfield 53, 3) := by decide +kernel
theorem dX4_agreesAfter_14 : decode cX4_agreesAfter 14 = .ok (.iload_n 2, 1) := by decide +kernel
theorem dX4_agreesAfter_15 : decode cX4_agreesAfter 15 = .ok (.iaload, 1) := by decide +kernel
theorem dX4_agreesAfter_16 : decode cX4_agreesAfter 16 = .ok (.iload_n 1, 1) := by decide +kernel
theorem dX4_agreesAfter_17 : decode cX4_agreesAfter 17 = .ok (.if_icmp .ne 27, 3) := by decide +kernel
theorem dX4_agreesAfter_20 : decode cX4_agreesAfter 20 = .ok (.aload_n 0, 1) := by decide +kernel
theorem dX4_agreesAfter_21 : decode cX4_agreesAfter 21 = .ok (.getfield 36, 3) := by decide +kernel
theorem dX4_agreesAfter_24 : decode cX4_agreesAfter 24 = .ok (.aload_n 0, 1) := by decide +kernel
theorem dX4_agreesAfter_25 : decode cX4_agreesAfter 25 = .ok (.getfield 50, 3) := by decide +kernel
theorem dX4_agreesAfter_28 : decode cX4_agreesAfter 28 = .ok (.iload_n 2, 1) := by decide +kernel
theorem dX4_agreesAfter_29 : decode cX4_agreesAfter 29 = .ok (.iaload, 1) := by decide +kernel
theorem dX4_agreesAfter_30 : decode cX4_agreesAfter 30 = .ok (.invokevirtual 286, 3) := by decide +kernel
theorem dX4_agreesAfter_33 : decode cX4_agreesAfter 33 = .ok (.aload_n 0, 1) := by decide +kernel
theorem dX4_agreesAfter_34 : decode cX4_agreesAfter 34 = .ok (.getfield 56, 3) := by decide +kernel
theorem dX4_agreesAfter_37 : decode cX4_agreesAfter 37 = .ok (.iload_n 2, 1) := by decide +kernel
theorem dX4_agreesAfter_38 : decode cX4_agreesAfter 38 = .ok (.iaload, 1) := by decide +kernel
theorem dX4_agreesAfter_39 : decode cX4_agreesAfter 39 = .ok (.if_icmp .eq 5, 3) := by decide +kernel
theorem dX4_agreesAfter_42 : decode cX4_agreesAfter 42 = .ok (.iconst 0, 1) := by decide +kernel
theorem dX4_agreesAfter_43 : decode cX4_agreesAfter 43 = .ok (.ireturn, 1) := by decide +kernel
theorem dX4_agreesAfter_44 : decode cX4_agreesAfter 44 = .ok (.iinc 2 1, 3) := by decide +kernel
theorem dX4_agreesAfter_47 : decode cX4_agreesAfter 47 = .ok (.goto (-45), 3) := by decide +kernel
theorem dX4_agreesAfter_50 : decode cX4_agreesAfter 50 = .ok (.iconst 1, 1) := by decide +kernel
theorem dX4_agreesAfter_51 : decode cX4_agreesAfter 51 = .ok (.ireturn, 1) := by decide +kernel
theorem dX4_happen_0 : decode cX4_happen 0 = .ok (.iload_n 1, 1) := by decide +kernel
theorem dX4_happen_1 : decode cX4_happen 1 = .ok (.tableswitch 93 0 2 #[27, 37, 62], 27) := by decide +kernel
theorem dX4_happen_28 : decode cX4_happen 28 = .ok (.aload_n 0, 1) := by decide +kernel
theorem dX4_happen_29 : decode cX4_happen 29 = .ok (.getfield 36, 3) := by decide +kernel
theorem dX4_happen_32 : decode cX4_happen 32 = .ok (.invokevirtual 166, 3) := by decide +kernel
theorem dX4_happen_35 : decode cX4_happen 35 = .ok (.goto 68, 3) := by decide +kernel
theorem dX4_happen_38 : decode cX4_happen 38 = .ok (.aload_n 0, 1) := by decide +kernel
theorem dX4_happen_39 : decode cX4_happen 39 = .ok (.getfield 36, 3) := by decide +kernel
theorem dX4_happen_42 : decode cX4_happen 42 = .ok (.aload_n 0, 1) := by decide +kernel
theorem dX4_happen_43 : decode cX4_happen 43 = .ok (.getfield 36, 3) := by decide +kernel
theorem dX4_happen_46 : decode cX4_happen 46 = .ok (.getfield 172, 3) := by decide +kernel
theorem dX4_happen_49 : decode cX4_happen 49 = .ok (.ifCond .ne 7, 3) := by decide +kernel
theorem dX4_happen_52 : decode cX4_happen 52 = .ok (.iconst 1, 1) := by decide +kernel
theorem dX4_happen_53 : decode cX4_happen 53 = .ok (.goto 4, 3) := by decide +kernel
theorem dX4_happen_56 : decode cX4_happen 56 = .ok (.iconst 0, 1) := by decide +kernel
theorem dX4_happen_57 : decode cX4_happen 57 = .ok (.putfield 172, 3) := by decide +kernel
theorem dX4_happen_60 : decode cX4_happen 60 = .ok (.goto 43, 3) := by decide +kernel
theorem dX4_happen_63 : decode cX4_happen 63 = .ok (.aload_n 0, 1) := by decide +kernel
theorem dX4_happen_64 : decode cX4_happen 64 = .ok (.getfield 36, 3) := by decide +kernel
theorem dX4_happen_67 : decode cX4_happen 67 = .ok (.getfield 156, 3) := by decide +kernel
theorem dX4_happen_70 : decode cX4_happen 70 = .ok (.ifCond .eq 14, 3) := by decide +kernel
theorem dX4_happen_73 : decode cX4_happen 73 = .ok (.aload_n 0, 1) := by decide +kernel
theorem dX4_happen_74 : decode cX4_happen 74 = .ok (.getfield 36, 3) := by decide +kernel
theorem dX4_happen_77 : decode cX4_happen 77 = .ok (.invokevirtual 175, 3) := by decide +kernel
theorem dX4_happen_80 : decode cX4_happen 80 = .ok (.pop, 1) := by decide +kernel
theorem dX4_happen_81 : decode cX4_happen 81 = .ok (.goto 22, 3) := by decide +kernel
theorem dX4_happen_84 : decode cX4_happen 84 = .ok (.aload_n 0, 1) := by decide +kernel
theorem dX4_happen_85 : decode cX4_happen 85 = .ok (.getfield 36, 3) := by decide +kernel
theorem dX4_happen_88 : decode cX4_happen 88 = .ok (.invokevirtual 179, 3) := by decide +kernel
theorem dX4_happen_91 : decode cX4_happen 91 = .ok (.goto 12, 3) := by decide +kernel
theorem dX4_happen_94 : decode cX4_happen 94 = .ok (.aload_n 0, 1) := by decide +kernel
theorem dX4_happen_95 : decode cX4_happen 95 = .ok (.getfield 36, 3) := by decide +kernel
theorem dX4_happen_98 : decode cX4_happen 98 = .ok (.iconst 1, 1) := by decide +kernel
theorem dX4_happen_99 : decode cX4_happen 99 = .ok (.invokevirtual 163, 3) := by decide +kernel
theorem dX4_happen_102 : decode cX4_happen 102 = .ok (.pop, 1) := by decide +kernel
theorem dX4_happen_103 : decode cX4_happen 103 = .ok (.return_, 1) := by decide +kernel
end
section
theorem dX5_init_0 : decode cX5_init 0 = .ok (.aload_n 0, 1) := by decide +kernel
theorem dX5_init_1 : decode cX5_init 1 = .ok (.invokespecial 1, 3) := by decide +kernel
theorem dX5_init_4 : decode cX5_init 4 = .ok (.aload_n 0, 1) := by decide +kernel
theorem dX5_init_5 : decode cX5_init 5 = .ok (.bipush 90, 2) := by decide +kernel
theorem dX5_init_7 : decode cX5_init 7 = .ok (.newarray .int, 2) := by decide +kernel
theorem dX5_init_9 : decode cX5_init 9 = .ok (.putfield 7, 3) := by decide +kernel
theorem dX5_init_12 : decode cX5_init 12 = .ok (.aload_n 0, 1) := by decide +kernel
theorem dX5_init_13 : decode cX5_init 13 = .ok (.bipush 6, 2) := by decide +kernel
theorem dX5_init_15 : decode cX5_init 15 = .ok (.putfield 13, 3) := by decide +kernel
theorem dX5_init_18 : decode cX5_init 18 = .ok (.aload_n 0, 1) := by decide +kernel
theorem dX5_init_19 : decode cX5_init 19 = .ok (.iconst 5, 1) := by decide +kernel
theorem dX5_init_20 : decode cX5_init 20 = .ok (.newarray .int, 2) := by decide +kernel
theorem dX5_init_22 : decode cX5_init 22 = .ok (.putfield 17, 3) := by decide +kernel
theorem dX5_init_25 : decode cX5_init 25 = .ok (.aload_n 0, 1) := by decide +kernel
theorem dX5_init_26 : decode cX5_init 26 = .ok (.iconst 4, 1) := by decide +kernel
theorem dX5_init_27 : decode cX5_init 27 = .ok (.newarray .int, 2) := by decide +kernel
theorem dX5_init_29 : decode cX5_init 29 = .ok (.putfield 20, 3) := by decide +kernel
theorem dX5_init_32 : decode cX5_init 32 = .ok (.aload_n 0, 1) := by decide +kernel
theorem dX5_init_33 : decode cX5_init 33 = .ok (.bipush 103, 2) := by decide +kernel
theorem dX5_init_35 : decode cX5_init 35 = .ok (.newarray .int, 2) := by decide +kernel
theorem dX5_init_37 : decode cX5_init 37 = .ok (.putfield 23, 3) := by decide +kernel
theorem dX5_init_40 : decode cX5_init 40 = .ok (.aload_n 0, 1) := by decide +kernel
theorem dX5_init_41 : decode cX5_init 41 = .ok (.bipush 103, 2) := by decide +kernel
theorem dX5_init_43 : decode cX5_init 43 = .ok (.newarray .int, 2) := by decide +kernel
theorem dX5_init_45 : decode cX5_init 45 = .ok (.putfield 26, 3) := by decide +kernel
theorem dX5_init_48 : decode cX5_init 48 = .ok (.aload_n 0, 1) := by decide +kernel
theorem dX5_init_49 : decode cX5_init 49 = .ok (.sipush 1442, 3) := by decide +kernel
theorem dX5_init_52 : decode cX5_init 52 = .ok (.newarray .int, 2) := by decide +kernel
theorem dX5_init_54 : decode cX5_init 54 = .ok (.putfield 29, 3) := by decide +kernel
theorem dX5_init_57 : decode cX5_init 57 = .ok (.aload_n 0, 1) := by decide +kernel
theorem dX5_init_58 : decode cX5_init 58 = .ok (.sipush 206, 3) := by decide +kernel
theorem dX5_init_61 : decode cX5_init 61 = .ok (.newarray .int, 2) := by decide +kernel
theorem dX5_init_63 : decode cX5_init 63 = .ok (.putfield 32, 3) := by decide +kernel
theorem dX5_init_66 : decode cX5_init 66 = .ok (.aload_n 0, 1) := by decide +kernel
theorem dX5_init_67 : decode cX5_init 67 = .ok (.iconst 2, 1) := by decide +kernel
theorem dX5_init_68 : decode cX5_init 68 = .ok (.newarray .boolean, 2) := by decide +kernel
theorem dX5_init_70 : decode cX5_init 70 = .ok (.putfield 35, 3) := by decide +kernel
theorem dX5_init_73 : decode cX5_init 73 = .ok (.aload_n 0, 1) := by decide +kernel
theorem dX5_init_74 : decode cX5_init 74 = .ok (.bipush 6, 2) := by decide +kernel
theorem dX5_init_76 : decode cX5_init 76 = .ok (.newarray .int, 2) := by decide +kernel
theorem dX5_init_78 : decode cX5_init 78 = .ok (.putfield 39, 3) := by decide +kernel
theorem dX5_init_81 : decode cX5_init 81 = .ok (.aload_n 0, 1) := by decide +kernel
theorem dX5_init_82 : decode cX5_init 82 = .ok (.bipush 6, 2) := by decide +kernel
theorem dX5_init_84 : decode cX5_init 84 = .ok (.newarray .int, 2) := by decide +kernel
theorem dX5_init_86 : decode cX5_init 86 = .ok (.putfield 42, 3) := by decide +kernel
theorem dX5_init_89 : decode cX5_init 89 = .ok (.aload_n 0, 1) := by decide +kernel
theorem dX5_init_90 : decode cX5_init 90 = .ok (.bipush 6, 2) := by decide +kernel
theorem dX5_init_92 : decode cX5_init 92 = .ok (.newarray .int, 2) := by decide +kernel
theorem dX5_init_94 : decode cX5_init 94 = .ok (.putfield 45, 3) := by decide +kernel
theorem dX5_init_97 : decode cX5_init 97 = .ok (.aload_n 0, 1) := by decide +kernel
theorem dX5_init_98 : decode cX5_init 98 = .ok (.bipush 16, 2) := by decide +kernel
theorem dX5_init_100 : decode cX5_init 100 = .ok (.newarray .int, 2) := by decide +kernel
theorem dX5_init_102 : decode cX5_init 102 = .ok (.putfield 48, 3) := by decide +kernel
theorem dX5_init_105 : decode cX5_init 105 = .ok (.aload_n 0, 1) := by decide +kernel
theorem dX5_init_106 : decode cX5_init 106 = .ok (.bipush 6, 2) := by decide +kernel
theorem dX5_init_108 : decode cX5_init 108 = .ok (.newarray .int, 2) := by decide +kernel
theorem dX5_init_110 : decode cX5_init 110 = .ok (.putfield 51, 3) := by decide +kernel
theorem dX5_init_113 : decode cX5_init 113 = .ok (.aload_n 0, 1) := by decide +kernel
theorem dX5_init_114 : decode cX5_init 114 = .ok (.iconst 4, 1) := by decide +kernel
theorem dX5_init_115 : decode cX5_init 115 = .ok (.newarray .int, 2) := by decide +kernel
theorem dX5_init_117 : decode cX5_init 117 = .ok (.putfield 54, 3) := by decide +kernel
theorem dX5_init_120 : decode cX5_init 120 = .ok (.aload_n 0, 1) := by decide +kernel
theorem dX5_init_121 : decode cX5_init 121 = .ok (.iconst 4, 1) := by decide +kernel
theorem dX5_init_122 : decode cX5_init 122 = .ok (.newarray .int, 2) := by decide +kernel
theorem dX5_init_124 : decode cX5_init 124 = .ok (.putfield 57, 3) := by decide +kernel
theorem dX5_init_127 : decode cX5_init 127 = .ok (.aload_n 0, 1) := by decide +kernel
theorem dX5_init_128 : decode cX5_init 128 = .ok (.iconst 2, 1) := by decide +kernel
theorem dX5_init_129 : decode cX5_init 129 = .ok (.newarray .int, 2) := by decide +kernel
theorem dX5_init_131 : decode cX5_init 131 = .ok (.putfield 60, 3) := by decide +kernel
theorem dX5_init_134 : decode cX5_init 134 = .ok (.aload_n 0, 1) := by decide +kernel
theorem dX5_init_135 : decode cX5_init 135 = .ok (.bipush 24, 2) := by decide +kernel
theorem dX5_init_137 : decode cX5_init 137 = .ok (.newarray .int, 2) := by decide +kernel
theorem dX5_init_139 : decode cX5_init 139 = .ok (.putfield 63, 3) := by decide +kernel
theorem dX5_init_142 : decode cX5_init 142 = .ok (.iconst 0, 1) := by decide +kernel
theorem dX5_init_143 : decode cX5_init 143 = .ok (.istore_n 1, 1) := by decide +kernel
theorem dX5_init_144 : decode cX5_init 144 = .ok (.iload_n 1, 1) := by decide +kernel
theorem dX5_init_145 : decode cX5_init 145 = .ok (.iconst 5, 1) := by decide +kernel
theorem dX5_init_146 : decode cX5_init 146 = .ok (.if_icmp .ge 18, 3) := by decide +kernel
theorem dX5_init_149 : decode cX5_init 149 = .ok (.aload_n 0, 1) := by decide +kernel
theorem dX5_init_150 : decode cX5_init 150 = .ok (.getfield 17, 3) := by decide +kernel
theorem dX5_init_153 : decode cX5_init 153 = .ok (.iload_n 1, 1) := by decide +kernel
theorem dX5_init_154 : decode cX5_init 154 = .ok (.iload_n 1, 1) := by decide +kernel
theorem dX5_init_155 : decode cX5_init 155 = .ok (.iconst 1, 1) := by decide +kernel
theorem dX5_init_156 : decode cX5_init 156 = .ok (.iadd, 1) := by decide +kernel
theorem dX5_init_157 : decode cX5_init 157 = .ok (.iastore, 1) := by decide +kernel
theorem dX5_init_158 : decode cX5_init 158 = .ok (.iinc 1 1, 3) := by decide +kernel
theorem dX5_init_161 : decode cX5_init 161 = .ok (.goto (-17), 3) := by decide +kernel
theorem dX5_init_164 : decode cX5_init 164 = .ok (.aload_n 0, 1) := by decide +kernel
theorem dX5_init_165 : decode cX5_init 165 = .ok (.bipush 15, 2) := by decide +kernel
theorem dX5_init_167 : decode cX5_init 167 = .ok (.putfield 66, 3) := by decide +kernel
theorem dX5_init_170 : decode cX5_init 170 = .ok (.aload_n 0, 1) := by decide +kernel
theorem dX5_init_171 : decode cX5_init 171 = .ok (.bipush (-9), 2) := by decide +kernel
theorem dX5_init_173 : decode cX5_init 173 = .ok (.putfield 69, 3) := by decide +kernel
theorem dX5_init_176 : decode cX5_init 176 = .ok (.iconst 0, 1) := by decide +kernel
theorem dX5_init_177 : decode cX5_init 177 = .ok (.istore_n 1, 1) := by decide +kernel
theorem dX5_init_178 : decode cX5_init 178 = .ok (.iload_n 1, 1) := by decide +kernel
theorem dX5_init_179 : decode cX5_init 179 = .ok (.bipush 9, 2) := by decide +kernel
theorem dX5_init_181 : decode cX5_init 181 = .ok (.if_icmp .ge 20, 3) := by decide +kernel
theorem dX5_init_184 : decode cX5_init 184 = .ok (.aload_n 0, 1) := by decide +kernel
theorem dX5_init_185 : decode cX5_init 185 = .ok (.getfield 23, 3) := by decide +kernel
theorem dX5_init_188 : decode cX5_init 188 = .ok (.bipush 18, 2) := by decide +kernel
theorem dX5_init_190 : decode cX5_init 190 = .ok (.iload_n 1, 1) := by decide +kernel
theorem dX5_init_191 : decode cX5_init 191 = .ok (.iadd, 1) := by decide +kernel
theorem dX5_init_192 : decode cX5_init 192 = .ok (.bipush (-9), 2) := by decide +kernel
theorem dX5_init_194 : decode cX5_init 194 = .ok (.iastore, 1) := by decide +kernel
theorem dX5_init_195 : decode cX5_init 195 = .ok (.iinc 1 1, 3) := by decide +kernel
theorem dX5_init_198 : decode cX5_init 198 = .ok (.goto (-20), 3) := by decide +kernel
theorem dX5_init_201 : decode cX5_init 201 = .ok (.return_, 1) := by decide +kernel
theorem dX5_copy_0 : decode cX5_copy 0 = .ok (.iconst 0, 1) := by decide +kernel
theorem dX5_copy_1 : decode cX5_copy 1 = .ok (.istore_n 2, 1) := by decide +kernel
theorem dX5_copy_2 : decode cX5_copy 2 = .ok (.iload_n 2, 1) := by decide +kernel
theorem dX5_copy_3 : decode cX5_copy 3 = .ok (.bipush 103, 2) := by decide +kernel
theorem dX5_copy_5 : decode cX5_copy 5 = .ok (.if_icmp .ge 15, 3) := by decide +kernel
theorem dX5_copy_8 : decode cX5_copy 8 = .ok (.aload_n 1, 1) := by decide +kernel
theorem dX5_copy_9 : decode cX5_copy 9 = .ok (.iload_n 2, 1) := by decide +kernel
theorem dX5_copy_10 : decode cX5_copy 10 = .ok (.aload_n 0, 1) := by decide +kernel
theorem dX5_copy_11 : decode cX5_copy 11 = .ok (.iload_n 2, 1) := by decide +kernel
theorem dX5_copy_12 : decode cX5_copy 12 = .ok (.iaload, 1) := by decide +kernel
theorem dX5_copy_13 : decode cX5_copy 13 = .ok (.iastore, 1) := by decide +kernel
theorem dX5_copy_14 : decode cX5_copy 14 = .ok (.iinc 2 1, 3) := by decide +kernel
theorem dX5_copy_17 : decode cX5_copy 17 = .ok (.goto (-15), 3) := by decide +kernel
theorem dX5_copy_20 : decode cX5_copy 20 = .ok (.return_, 1) := by decide +kernel
theorem dX5_in_0 : decode cX5_in 0 = .ok (.iload_n 0, 1) := by decide +kernel
theorem dX5_in_1 : decode cX5_in 1 = .ok (.iload_n 1, 1) := by decide +kernel
theorem dX5_in_2 : decode cX5_in 2 = .ok (.if_icmp .lt 12, 3) := by decide +kernel
theorem dX5_in_5 : decode cX5_in 5 = .ok (.iload_n 0, 1) := by decide +kernel
theorem dX5_in_6 : decode cX5_in 6 = .ok (.iload_n 2, 1) := by decide +kernel
theorem dX5_in_7 : decode cX5_in 7 = .ok (.if_icmp .gt 7, 3) := by decide +kernel
theorem dX5_in_10 : decode cX5_in 10 = .ok (.iconst 1, 1) := by decide +kernel
theorem dX5_in_11 : decode cX5_in 11 = .ok (.goto 4, 3) := by decide +kernel
theorem dX5_in_14 : decode cX5_in 14 = .ok (.iconst 0, 1) := by decide +kernel
theorem dX5_in_15 : decode cX5_in 15 = .ok (.ireturn, 1) := by decide +kernel
theorem dX5_has_0 : decode cX5_has 0 = .ok (.iload_n 0, 1) := by decide +kernel
theorem dX5_has_1 : decode cX5_has 1 = .ok (.iload_n 1, 1) := by decide +kernel
theorem dX5_has_2 : decode cX5_has 2 = .ok (.ishr, 1) := by decide +kernel
theorem dX5_has_3 : decode cX5_has 3 = .ok (.iconst 1, 1) := by decide +kernel
theorem dX5_has_4 : decode cX5_has 4 = .ok (.iand, 1) := by decide +kernel
theorem dX5_has_5 : decode cX5_has 5 = .ok (.iconst 1, 1) := by decide +kernel
theorem dX5_has_6 : decode cX5_has 6 = .ok (.if_icmp .ne 7, 3) := by decide +kernel
theorem dX5_has_9 : decode cX5_has 9 = .ok (.iconst 1, 1) := by decide +kernel
theorem dX5_has_10 : decode cX5_has 10 = .ok (.goto 4, 3) := by decide +kernel
theorem dX5_has_13 : decode cX5_has 13 = .ok (.iconst 0, 1) := by decide +kernel
theorem dX5_has_14 : decode cX5_has 14 = .ok (.ireturn, 1) := by decide +kernel
theorem dX5_ones_0 : decode cX5_ones 0 = .ok (.iconst 0, 1) := by decide +kernel
theorem dX5_ones_1 : decode cX5_ones 1 = .ok (.istore_n 1, 1) := by decide +kernel
theorem dX5_ones_2 : decode cX5_ones 2 = .ok (.iconst 0, 1) := by decide +kernel
theorem dX5_ones_3 : decode cX5_ones 3 = .ok (.istore_n 2, 1) := by decide +kernel
theorem dX5_ones_4 : decode cX5_ones 4 = .ok (.iload_n 2, 1) := by decide +kernel
theorem dX5_ones_5 : decode cX5_ones 5 = .ok (.bipush 10, 2) := by decide +kernel
theorem dX5_ones_7 : decode cX5_ones 7 = .ok (.if_icmp .ge 17, 3) := by decide +kernel
theorem dX5_ones_10 : decode cX5_ones 10 = .ok (.iload_n 1, 1) := by decide +kernel
theorem dX5_ones_11 : decode cX5_ones 11 = .ok (.iload_n 0, 1) := by decide +kernel
theorem dX5_ones_12 : decode cX5_ones 12 = .ok (.iload_n 2, 1) := by decide +kernel
theorem dX5_ones_13 : decode cX5_ones 13 = .ok (.ishr, 1) := by decide +kernel
theorem dX5_ones_14 : decode cX5_ones 14 = .ok (.iconst 1, 1) := by decide +kernel
theorem dX5_ones_15 : decode cX5_ones 15 = .ok (.iand, 1) := by decide +kernel
theorem dX5_ones_16 : decode cX5_ones 16 = .ok (.iadd, 1) := by decide +kernel
theorem dX5_ones_17 : decode cX5_ones 17 = .ok (.istore_n 1, 1) := by decide +kernel
theorem dX5_ones_18 : decode cX5_ones 18 = .ok (.iinc 2 1, 3) := by decide +kernel
theorem dX5_ones_21 : decode cX5_ones 21 = .ok (.goto (-17), 3) := by decide +kernel
theorem dX5_ones_24 : decode cX5_ones 24 = .ok (.iload_n 1, 1) := by decide +kernel
theorem dX5_ones_25 : decode cX5_ones 25 = .ok (.ireturn, 1) := by decide +kernel
theorem dX5_power_0 : decode cX5_power 0 = .ok (.iconst 1, 1) := by decide +kernel
theorem dX5_power_1 : decode cX5_power 1 = .ok (.istore_n 2, 1) := by decide +kernel
theorem dX5_power_2 : decode cX5_power 2 = .ok (.iconst 0, 1) := by decide +kernel
theorem dX5_power_3 : decode cX5_power 3 = .ok (.istore_n 3, 1) := by decide +kernel
theorem dX5_power_4 : decode cX5_power 4 = .ok (.iload_n 3, 1) := by decide +kernel
theorem dX5_power_5 : decode cX5_power 5 = .ok (.iload_n 1, 1) := by decide +kernel
theorem dX5_power_6 : decode cX5_power 6 = .ok (.if_icmp .ge 13, 3) := by decide +kernel
theorem dX5_power_9 : decode cX5_power 9 = .ok (.iload_n 2, 1) := by decide +kernel
theorem dX5_power_10 : decode cX5_power 10 = .ok (.iload_n 0, 1) := by decide +kernel
theorem dX5_power_11 : decode cX5_power 11 = .ok (.imul, 1) := by decide +kernel
theorem dX5_power_12 : decode cX5_power 12 = .ok (.istore_n 2, 1) := by decide +kernel
theorem dX5_power_13 : decode cX5_power 13 = .ok (.iinc 3 1, 3) := by decide +kernel
theorem dX5_power_16 : decode cX5_power 16 = .ok (.goto (-12), 3) := by decide +kernel
theorem dX5_power_19 : decode cX5_power 19 = .ok (.iload_n 2, 1) := by decide +kernel
theorem dX5_power_20 : decode cX5_power 20 = .ok (.ireturn, 1) := by decide +kernel
theorem dX5_factorial_0 : decode cX5_factorial 0 = .ok (.iconst 1, 1) := by decide +kernel
theorem dX5_factorial_1 : decode cX5_factorial 1 = .ok (.istore_n 1, 1) := by decide +kernel
theorem dX5_factorial_2 : decode cX5_factorial 2 = .ok (.iconst 2, 1) := by decide +kernel
theorem dX5_factorial_3 : decode cX5_factorial 3 = .ok (.istore_n 2, 1) := by decide +kernel
theorem dX5_factorial_4 : decode cX5_factorial 4 = .ok (.iload_n 2, 1) := by decide +kernel
theorem dX5_factorial_5 : decode cX5_factorial 5 = .ok (.iload_n 0, 1) := by decide +kernel
theorem dX5_factorial_6 : decode cX5_factorial 6 = .ok (.if_icmp .gt 13, 3) := by decide +kernel
theorem dX5_factorial_9 : decode cX5_factorial 9 = .ok (.iload_n 1, 1) := by decide +kernel
theorem dX5_factorial_10 : decode cX5_factorial 10 = .ok (.iload_n 2, 1) := by decide +kernel
theorem dX5_factorial_11 : decode cX5_factorial 11 = .ok (.imul, 1) := by decide +kernel
theorem dX5_factorial_12 : decode cX5_factorial 12 = .ok (.istore_n 1, 1) := by decide +kernel
theorem dX5_factorial_13 : decode cX5_factorial 13 = .ok (.iinc 2 1, 3) := by decide +kernel
theorem dX5_factorial_16 : decode cX5_factorial 16 = .ok (.goto (-12), 3) := by decide +kernel
theorem dX5_factorial_19 : decode cX5_factorial 19 = .ok (.iload_n 1, 1) := by decide +kernel
theorem dX5_factorial_20 : decode cX5_factorial 20 = .ok (.ireturn, 1) := by decide +kernel
theorem dX5_held_0 : decode cX5_held 0 = .ok (.iload_n 0, 1) := by decide +kernel
theorem dX5_held_1 : decode cX5_held 1 = .ok (.ifCond .ge 7, 3) := by decide +kernel
theorem dX5_held_4 : decode cX5_held 4 = .ok (.iconst 0, 1) := by decide +kernel
theorem dX5_held_5 : decode cX5_held 5 = .ok (.goto 15, 3) := by decide +kernel
theorem dX5_held_8 : decode cX5_held 8 = .ok (.iload_n 0, 1) := by decide +kernel
theorem dX5_held_9 : decode cX5_held 9 = .ok (.bipush 99, 2) := by decide +kernel
theorem dX5_held_11 : decode cX5_held 11 = .ok (.if_icmp .le 8, 3) := by decide +kernel
theorem dX5_held_14 : decode cX5_held 14 = .ok (.bipush 99, 2) := by decide +kernel
theorem dX5_held_16 : decode cX5_held 16 = .ok (.goto 4, 3) := by decide +kernel
theorem dX5_held_19 : decode cX5_held 19 = .ok (.iload_n 0, 1) := by decide +kernel
theorem dX5_held_20 : decode cX5_held 20 = .ok (.ireturn, 1) := by decide +kernel
theorem dX5_fraction_0 : decode cX5_fraction 0 = .ok (.iload_n 0, 1) := by decide +kernel
theorem dX5_fraction_1 : decode cX5_fraction 1 = .ok (.ifCond .ge 8, 3) := by decide +kernel
theorem dX5_fraction_4 : decode cX5_fraction 4 = .ok (.iload_n 0, 1) := by decide +kernel
theorem dX5_fraction_5 : decode cX5_fraction 5 = .ok (.ineg, 1) := by decide +kernel
theorem dX5_fraction_6 : decode cX5_fraction 6 = .ok (.goto 4, 3) := by decide +kernel
theorem dX5_fraction_9 : decode cX5_fraction 9 = .ok (.iload_n 0, 1) := by decide +kernel
theorem dX5_fraction_10 : decode cX5_fraction 10 = .ok (.istore_n 3, 1) := by decide +kernel
theorem dX5_fraction_11 : decode cX5_fraction 11 = .ok (.iload_n 1, 1) := by decide +kernel
theorem dX5_fraction_12 : decode cX5_fraction 12 = .ok (.istore 4, 2) := by decide +kernel
theorem dX5_fraction_14 : decode cX5_fraction 14 = .ok (.iload 4, 2) := by decide +kernel
theorem dX5_fraction_16 : decode cX5_fraction 16 = .ok (.ifCond .eq 19, 3) := by decide +kernel
theorem dX5_fraction_19 : decode cX5_fraction 19 = .ok (.iload_n 3, 1) := by decide +kernel
theorem dX5_fraction_20 : decode cX5_fraction 20 = .ok (.iload 4, 2) := by decide +kernel
theorem dX5_fraction_22 : decode cX5_fraction 22 = .ok (.irem, 1) := by decide +kernel
theorem dX5_fraction_23 : decode cX5_fraction 23 = .ok (.istore 5, 2) := by decide +kernel
theorem dX5_fraction_25 : decode cX5_fraction 25 = .ok (.iload 4, 2) := by decide +kernel
theorem dX5_fraction_27 : decode cX5_fraction 27 = .ok (.istore_n 3, 1) := by decide +kernel
theorem dX5_fraction_28 : decode cX5_fraction 28 = .ok (.iload 5, 2) := by decide +kernel
theorem dX5_fraction_30 : decode cX5_fraction 30 = .ok (.istore 4, 2) := by decide +kernel
theorem dX5_fraction_32 : decode cX5_fraction 32 = .ok (.goto (-18), 3) := by decide +kernel
theorem dX5_fraction_35 : decode cX5_fraction 35 = .ok (.iload_n 2, 1) := by decide +kernel
theorem dX5_fraction_36 : decode cX5_fraction 36 = .ok (.ifCond .eq 9, 3) := by decide +kernel
theorem dX5_fraction_39 : decode cX5_fraction 39 = .ok (.iload_n 0, 1) := by decide +kernel
theorem dX5_fraction_40 : decode cX5_fraction 40 = .ok (.iload_n 3, 1) := by decide +kernel
theorem dX5_fraction_41 : decode cX5_fraction 41 = .ok (.idiv, 1) := by decide +kernel
theorem dX5_fraction_42 : decode cX5_fraction 42 = .ok (.goto 6, 3) := by decide +kernel
theorem dX5_fraction_45 : decode cX5_fraction 45 = .ok (.iload_n 1, 1) := by decide +kernel
theorem dX5_fraction_46 : decode cX5_fraction 46 = .ok (.iload_n 3, 1) := by decide +kernel
theorem dX5_fraction_47 : decode cX5_fraction 47 = .ok (.idiv, 1) := by decide +kernel
theorem dX5_fraction_48 : decode cX5_fraction 48 = .ok (.ireturn, 1) := by decide +kernel
theorem dX5_isCell_0 : decode cX5_isCell 0 = .ok (.iload_n 1, 1) := by decide +kernel
theorem dX5_isCell_1 : decode cX5_isCell 1 = .ok (.iconst 0, 1) := by decide +kernel
theorem dX5_isCell_2 : decode cX5_isCell 2 = .ok (.aload_n 0, 1) := by decide +kernel
theorem dX5_isCell_3 : decode cX5_isCell 3 = .ok (.getfield 13, 3) := by decide +kernel
theorem dX5_isCell_6 : decode cX5_isCell 6 = .ok (.iconst 1, 1) := by decide +kernel
theorem dX5_isCell_7 : decode cX5_isCell 7 = .ok (.isub, 1) := by decide +kernel
theorem dX5_isCell_8 : decode cX5_isCell 8 = .ok (.invokestatic 72, 3) := by decide +kernel
theorem dX5_isCell_11 : decode cX5_isCell 11 = .ok (.ireturn, 1) := by decide +kernel
theorem dX5_isValve_0 : decode cX5_isValve 0 = .ok (.iload_n 1, 1) := by decide +kernel
theorem dX5_isValve_1 : decode cX5_isValve 1 = .ok (.iconst 0, 1) := by decide +kernel
theorem dX5_isValve_2 : decode cX5_isValve 2 = .ok (.aload_n 0, 1) := by decide +kernel
theorem dX5_isValve_3 : decode cX5_isValve 3 = .ok (.getfield 76, 3) := by decide +kernel
theorem dX5_isValve_6 : decode cX5_isValve 6 = .ok (.iconst 1, 1) := by decide +kernel
theorem dX5_isValve_7 : decode cX5_isValve 7 = .ok (.isub, 1) := by decide +kernel
theorem dX5_isValve_8 : decode cX5_isValve 8 = .ok (.invokestatic 72, 3) := by decide +kernel
theorem dX5_isValve_11 : decode cX5_isValve 11 = .ok (.ireturn, 1) := by decide +kernel
theorem dX5_write_0 : decode cX5_write 0 = .ok (.iload_n 1, 1) := by decide +kernel
theorem dX5_write_1 : decode cX5_write 1 = .ok (.iconst 0, 1) := by decide +kernel
theorem dX5_write_2 : decode cX5_write 2 = .ok (.sipush 255, 3) := by decide +kernel
theorem dX5_write_5 : decode cX5_write 5 = .ok (.invokestatic 72, 3) := by decide +kernel
theorem dX5_write_8 : decode cX5_write 8 = .ok (.ifCond .ne 6, 3) := by decide +kernel
theorem dX5_write_11 : decode cX5_write 11 = .ok (.bipush (-2), 2) := by decide +kernel
theorem dX5_write_13 : decode cX5_write 13 = .ok (.ireturn, 1) := by decide +kernel
theorem dX5_write_14 : decode cX5_write 14 = .ok (.aload_n 0, 1) := by decide +kernel
theorem dX5_write_15 : decode cX5_write 15 = .ok (.getfield 79, 3) := by decide +kernel
theorem dX5_write_18 : decode cX5_write 18 = .ok (.bipush 90, 2) := by decide +kernel
theorem dX5_write_20 : decode cX5_write 20 = .ok (.if_icmp .ne 6, 3) := by decide +kernel
theorem dX5_write_23 : decode cX5_write 23 = .ok (.bipush (-4), 2) := by decide +kernel
theorem dX5_write_25 : decode cX5_write 25 = .ok (.ireturn, 1) := by decide +kernel
theorem dX5_write_26 : decode cX5_write 26 = .ok (.aload_n 0, 1) := by decide +kernel
theorem dX5_write_27 : decode cX5_write 27 = .ok (.getfield 7, 3) := by decide +kernel
theorem dX5_write_30 : decode cX5_write 30 = .ok (.aload_n 0, 1) := by decide +kernel
theorem dX5_write_31 : decode cX5_write 31 = .ok (.getfield 79, 3) := by decide +kernel
theorem dX5_write_34 : decode cX5_write 34 = .ok (.iload_n 1, 1) := by decide +kernel
theorem dX5_write_35 : decode cX5_write 35 = .ok (.iastore, 1) := by decide +kernel
theorem dX5_write_36 : decode cX5_write 36 = .ok (.aload_n 0, 1) := by decide +kernel
theorem dX5_write_37 : decode cX5_write 37 = .ok (.dup, 1) := by decide +kernel
theorem dX5_write_38 : decode cX5_write 38 = .ok (.getfield 79, 3) := by decide +kernel
theorem dX5_write_41 : decode cX5_write 41 = .ok (.iconst 1, 1) := by decide +kernel
theorem dX5_write_42 : decode cX5_write 42 = .ok (.iadd, 1) := by decide +kernel
theorem dX5_write_43 : decode cX5_write 43 = .ok (.putfield 79, 3) := by decide +kernel
theorem dX5_write_46 : decode cX5_write 46 = .ok (.aload_n 0, 1) := by decide +kernel
theorem dX5_write_47 : decode cX5_write 47 = .ok (.getfield 79, 3) := by decide +kernel
theorem dX5_write_50 : decode cX5_write 50 = .ok (.ireturn, 1) := by decide +kernel
theorem dX5_wipe_0 : decode cX5_wipe 0 = .ok (.aload_n 0, 1) := by decide +kernel
theorem dX5_wipe_1 : decode cX5_wipe 1 = .ok (.getfield 79, 3) := by decide +kernel
theorem dX5_wipe_4 : decode cX5_wipe 4 = .ok (.istore_n 1, 1) := by decide +kernel
theorem dX5_wipe_5 : decode cX5_wipe 5 = .ok (.aload_n 0, 1) := by decide +kernel
theorem dX5_wipe_6 : decode cX5_wipe 6 = .ok (.iconst 0, 1) := by decide +kernel
theorem dX5_wipe_7 : decode cX5_wipe 7 = .ok (.putfield 79, 3) := by decide +kernel
theorem dX5_wipe_10 : decode cX5_wipe 10 = .ok (.iload_n 1, 1) := by decide +kernel
theorem dX5_wipe_11 : decode cX5_wipe 11 = .ok (.ireturn, 1) := by decide +kernel
theorem dX5_takeHead_0 : decode cX5_takeHead 0 = .ok (.aload_n 0, 1) := by decide +kernel
theorem dX5_takeHead_1 : decode cX5_takeHead 1 = .ok (.getfield 82, 3) := by decide +kernel
theorem dX5_takeHead_4 : decode cX5_takeHead 4 = .ok (.istore_n 2, 1) := by decide +kernel
theorem dX5_takeHead_5 : decode cX5_takeHead 5 = .ok (.aload_n 0, 1) := by decide +kernel
theorem dX5_takeHead_6 : decode cX5_takeHead 6 = .ok (.dup, 1) := by decide +kernel
theorem dX5_takeHead_7 : decode cX5_takeHead 7 = .ok (.getfield 82, 3) := by decide +kernel
theorem dX5_takeHead_10 : decode cX5_takeHead 10 = .ok (.iconst 1, 1) := by decide +kernel
theorem dX5_takeHead_11 : decode cX5_takeHead 11 = .ok (.iadd, 1) := by decide +kernel
theorem dX5_takeHead_12 : decode cX5_takeHead 12 = .ok (.putfield 82, 3) := by decide +kernel
theorem dX5_takeHead_15 : decode cX5_takeHead 15 = .ok (.iload_n 2, 1) := by decide +kernel
theorem dX5_takeHead_16 : decode cX5_takeHead 16 = .ok (.ifCond .ne 19, 3) := by decide +kernel
theorem dX5_takeHead_19 : decode cX5_takeHead 19 = .ok (.aload_n 0, 1) := by decide +kernel
theorem dX5_takeHead_20 : decode cX5_takeHead 20 = .ok (.getfield 51, 3) := by decide +kernel
theorem dX5_takeHead_23 : decode cX5_takeHead 23 = .ok (.iconst 0, 1) := by decide +kernel
theorem dX5_takeHead_24 : decode cX5_takeHead 24 = .ok (.iload_n 1, 1) := by decide +kernel
theorem dX5_takeHead_25 : decode cX5_takeHead 25 = .ok (.iastore, 1) := by decide +kernel
theorem dX5_takeHead_26 : decode cX5_takeHead 26 = .ok (.iload_n 1, 1) := by decide +kernel
theorem dX5_takeHead_27 : decode cX5_takeHead 27 = .ok (.bipush 6, 2) := by decide +kernel
theorem dX5_takeHead_29 : decode cX5_takeHead 29 = .ok (.bipush 9, 2) := by decide +kernel
theorem dX5_takeHead_31 : decode cX5_takeHead 31 = .ok (.invokestatic 72, 3) := by decide +kernel
theorem dX5_takeHead_34 : decode cX5_takeHead 34 = .ok (.ireturn, 1) := by decide +kernel
theorem dX5_takeHead_35 : decode cX5_takeHead 35 = .ok (.iload_n 2, 1) := by decide +kernel
theorem dX5_takeHead_36 : decode cX5_takeHead 36 = .ok (.bipush 6, 2) := by decide +kernel
theorem dX5_takeHead_38 : decode cX5_takeHead 38 = .ok (.if_icmp .ge 45, 3) := by decide +kernel
theorem dX5_takeHead_41 : decode cX5_takeHead 41 = .ok (.aload_n 0, 1) := by decide +kernel
theorem dX5_takeHead_42 : decode cX5_takeHead 42 = .ok (.getfield 51, 3) := by decide +kernel
theorem dX5_takeHead_45 : decode cX5_takeHead 45 = .ok (.iload_n 2, 1) := by decide +kernel
theorem dX5_takeHead_46 : decode cX5_takeHead 46 = .ok (.iload_n 1, 1) := by decide +kernel
theorem dX5_takeHead_47 : decode cX5_takeHead 47 = .ok (.iastore, 1) := by decide +kernel
theorem dX5_takeHead_48 : decode cX5_takeHead 48 = .ok (.iload_n 1, 1) := by decide +kernel
theorem dX5_takeHead_49 : decode cX5_takeHead 49 = .ok (.iload_n 2, 1) := by decide +kernel
theorem dX5_takeHead_50 : decode cX5_takeHead 50 = .ok (.iconst 1, 1) := by decide +kernel
theorem dX5_takeHead_51 : decode cX5_takeHead 51 = .ok (.if_icmp .ne 7, 3) := by decide +kernel
theorem dX5_takeHead_54 : decode cX5_takeHead 54 = .ok (.iconst 1, 1) := by decide +kernel
theorem dX5_takeHead_55 : decode cX5_takeHead 55 = .ok (.goto 13, 3) := by decide +kernel
theorem dX5_takeHead_58 : decode cX5_takeHead 58 = .ok (.aload_n 0, 1) := by decide +kernel
theorem dX5_takeHead_59 : decode cX5_takeHead 59 = .ok (.getfield 51, 3) := by decide +kernel
theorem dX5_takeHead_62 : decode cX5_takeHead 62 = .ok (.iload_n 2, 1) := by decide +kernel
theorem dX5_takeHead_63 : decode cX5_takeHead 63 = .ok (.iconst 1, 1) := by decide +kernel
theorem dX5_takeHead_64 : decode cX5_takeHead 64 = .ok (.isub, 1) := by decide +kernel
theorem dX5_takeHead_65 : decode cX5_takeHead 65 = .ok (.iaload, 1) := by decide +kernel
theorem dX5_takeHead_66 : decode cX5_takeHead 66 = .ok (.iconst 1, 1) := by decide +kernel
theorem dX5_takeHead_67 : decode cX5_takeHead 67 = .ok (.iadd, 1) := by decide +kernel
theorem dX5_takeHead_68 : decode cX5_takeHead 68 = .ok (.aload_n 0, 1) := by decide +kernel
theorem dX5_takeHead_69 : decode cX5_takeHead 69 = .ok (.getfield 51, 3) := by decide +kernel
theorem dX5_takeHead_72 : decode cX5_takeHead 72 = .ok (.iconst 0, 1) := by decide +kernel
theorem dX5_takeHead_73 : decode cX5_takeHead 73 = .ok (.iaload, 1) := by decide +kernel
theorem dX5_takeHead_74 : decode cX5_takeHead 74 = .ok (.bipush 6, 2) := by decide +kernel
theorem dX5_takeHead_76 : decode cX5_takeHead 76 = .ok (.isub, 1) := by decide +kernel
theorem dX5_takeHead_77 : decode cX5_takeHead 77 = .ok (.iload_n 2, 1) := by decide +kernel
theorem dX5_takeHead_78 : decode cX5_takeHead 78 = .ok (.iadd, 1) := by decide +kernel
theorem dX5_takeHead_79 : decode cX5_takeHead 79 = .ok (.invokestatic 72, 3) := by decide +kernel
theorem dX5_takeHead_82 : decode cX5_takeHead 82 = .ok (.ireturn, 1) := by decide +kernel
theorem dX5_takeHead_83 : decode cX5_takeHead 83 = .ok (.iload_n 1, 1) := by decide +kernel
theorem dX5_takeHead_84 : decode cX5_takeHead 84 = .ok (.iconst 0, 1) := by decide +kernel
theorem dX5_takeHead_85 : decode cX5_takeHead 85 = .ok (.bipush 9, 2) := by decide +kernel
theorem dX5_takeHead_87 : decode cX5_takeHead 87 = .ok (.invokestatic 72, 3) := by decide +kernel
theorem dX5_takeHead_90 : decode cX5_takeHead 90 = .ok (.ifCond .ne 5, 3) := by decide +kernel
theorem dX5_takeHead_93 : decode cX5_takeHead 93 = .ok (.iconst 0, 1) := by decide +kernel
theorem dX5_takeHead_94 : decode cX5_takeHead 94 = .ok (.ireturn, 1) := by decide +kernel
theorem dX5_takeHead_95 : decode cX5_takeHead 95 = .ok (.iload_n 2, 1) := by decide +kernel
theorem dX5_takeHead_96 : decode cX5_takeHead 96 = .ok (.bipush 8, 2) := by decide +kernel
theorem dX5_takeHead_98 : decode cX5_takeHead 98 = .ok (.if_icmp .ge 19, 3) := by decide +kernel
theorem dX5_takeHead_101 : decode cX5_takeHead 101 = .ok (.aload_n 0, 1) := by decide +kernel
theorem dX5_takeHead_102 : decode cX5_takeHead 102 = .ok (.bipush 10, 2) := by decide +kernel
theorem dX5_takeHead_104 : decode cX5_takeHead 104 = .ok (.aload_n 0, 1) := by decide +kernel
theorem dX5_takeHead_105 : decode cX5_takeHead 105 = .ok (.getfield 85, 3) := by decide +kernel
theorem dX5_takeHead_108 : decode cX5_takeHead 108 = .ok (.imul, 1) := by decide +kernel
theorem dX5_takeHead_109 : decode cX5_takeHead 109 = .ok (.iload_n 1, 1) := by decide +kernel
theorem dX5_takeHead_110 : decode cX5_takeHead 110 = .ok (.iadd, 1) := by decide +kernel
theorem dX5_takeHead_111 : decode cX5_takeHead 111 = .ok (.putfield 85, 3) := by decide +kernel
theorem dX5_takeHead_114 : decode cX5_takeHead 114 = .ok (.goto 32, 3) := by decide +kernel
theorem dX5_takeHead_117 : decode cX5_takeHead 117 = .ok (.iload_n 2, 1) := by decide +kernel
theorem dX5_takeHead_118 : decode cX5_takeHead 118 = .ok (.bipush 8, 2) := by decide +kernel
theorem dX5_takeHead_120 : decode cX5_takeHead 120 = .ok (.if_icmp .ne 11, 3) := by decide +kernel
theorem dX5_takeHead_123 : decode cX5_takeHead 123 = .ok (.aload_n 0, 1) := by decide +kernel
theorem dX5_takeHead_124 : decode cX5_takeHead 124 = .ok (.iload_n 1, 1) := by decide +kernel
theorem dX5_takeHead_125 : decode cX5_takeHead 125 = .ok (.putfield 88, 3) := by decide +kernel
theorem dX5_takeHead_128 : decode cX5_takeHead 128 = .ok (.goto 18, 3) := by decide +kernel
theorem dX5_takeHead_131 : decode cX5_takeHead 131 = .ok (.aload_n 0, 1) := by decide +kernel
theorem dX5_takeHead_132 : decode cX5_takeHead 132 = .ok (.iload_n 1, 1) := by decide +kernel
theorem dX5_takeHead_133 : decode cX5_takeHead 133 = .ok (.putfield 91, 3) := by decide +kernel
theorem dX5_takeHead_136 : decode cX5_takeHead 136 = .ok (.aload_n 0, 1) := by decide +kernel
theorem dX5_takeHead_137 : decode cX5_takeHead 137 = .ok (.iconst 0, 1) := by decide +kernel
theorem dX5_takeHead_138 : decode cX5_takeHead 138 = .ok (.putfield 82, 3) := by decide +kernel
theorem dX5_takeHead_141 : decode cX5_takeHead 141 = .ok (.aload_n 0, 1) := by decide +kernel
theorem dX5_takeHead_142 : decode cX5_takeHead 142 = .ok (.iconst 0, 1) := by decide +kernel
theorem dX5_takeHead_143 : decode cX5_takeHead 143 = .ok (.putfield 94, 3) := by decide +kernel
theorem dX5_takeHead_146 : decode cX5_takeHead 146 = .ok (.iconst 1, 1) := by decide +kernel
theorem dX5_takeHead_147 : decode cX5_takeHead 147 = .ok (.ireturn, 1) := by decide +kernel
theorem dX5_queueUp_0 : decode cX5_queueUp 0 = .ok (.aload_n 0, 1) := by decide +kernel
theorem dX5_queueUp_1 : decode cX5_queueUp 1 = .ok (.getfield 97, 3) := by decide +kernel
theorem dX5_queueUp_4 : decode cX5_queueUp 4 = .ok (.bipush 24, 2) := by decide +kernel
theorem dX5_queueUp_6 : decode cX5_queueUp 6 = .ok (.if_icmp .ne 5, 3) := by decide +kernel
theorem dX5_queueUp_9 : decode cX5_queueUp 9 = .ok (.iconst 0, 1) := by decide +kernel
theorem dX5_queueUp_10 : decode cX5_queueUp 10 = .ok (.ireturn, 1) := by decide +kernel
theorem dX5_queueUp_11 : decode cX5_queueUp 11 = .ok (.aload_n 0, 1) := by decide +kernel
theorem dX5_queueUp_12 : decode cX5_queueUp 12 = .ok (.getfield 63, 3) := by decide +kernel
theorem dX5_queueUp_15 : decode cX5_queueUp 15 = .ok (.aload_n 0, 1) := by decide +kernel
theorem dX5_queueUp_16 : decode cX5_queueUp 16 = .ok (.getfield 97, 3) := by decide +kernel
theorem dX5_queueUp_19 : decode cX5_queueUp 19 = .ok (.iload_n 1, 1) := by decide +kernel
theorem dX5_queueUp_20 : decode cX5_queueUp 20 = .ok (.iastore, 1) := by decide +kernel
theorem dX5_queueUp_21 : decode cX5_queueUp 21 = .ok (.aload_n 0, 1) := by decide +kernel
theorem dX5_queueUp_22 : decode cX5_queueUp 22 = .ok (.dup, 1) := by decide +kernel
theorem dX5_queueUp_23 : decode cX5_queueUp 23 = .ok (.getfield 97, 3) := by decide +kernel
theorem dX5_queueUp_26 : decode cX5_queueUp 26 = .ok (.iconst 1, 1) := by decide +kernel
theorem dX5_queueUp_27 : decode cX5_queueUp 27 = .ok (.iadd, 1) := by decide +kernel
theorem dX5_queueUp_28 : decode cX5_queueUp 28 = .ok (.putfield 97, 3) := by decide +kernel
theorem dX5_queueUp_31 : decode cX5_queueUp 31 = .ok (.iconst 1, 1) := by decide +kernel
theorem dX5_queueUp_32 : decode cX5_queueUp 32 = .ok (.ireturn, 1) := by decide +kernel
theorem dX5_takeSign_0 : decode cX5_takeSign 0 = .ok (.aload_n 0, 1) := by decide +kernel
theorem dX5_takeSign_1 : decode cX5_takeSign 1 = .ok (.iload_n 1, 1) := by decide +kernel
theorem dX5_takeSign_2 : decode cX5_takeSign 2 = .ok (.putfield 94, 3) := by decide +kernel
theorem dX5_takeSign_5 : decode cX5_takeSign 5 = .ok (.aload_n 0, 1) := by decide +kernel
theorem dX5_takeSign_6 : decode cX5_takeSign 6 = .ok (.iconst 1, 1) := by decide +kernel
theorem dX5_takeSign_7 : decode cX5_takeSign 7 = .ok (.putfield 82, 3) := by decide +kernel
theorem dX5_takeSign_10 : decode cX5_takeSign 10 = .ok (.iload_n 1, 1) := by decide +kernel
theorem dX5_takeSign_11 : decode cX5_takeSign 11 = .ok (.lookupswitch 138 #[(45, 127), (98, 105), (99, 71), (108, 88), (118, 57), (120, 116)], 57) := by decide +kernel
theorem dX5_takeSign_68 : decode cX5_takeSign 68 = .ok (.aload_n 0, 1) := by decide +kernel
theorem dX5_takeSign_69 : decode cX5_takeSign 69 = .ok (.getfield 100, 3) := by decide +kernel
theorem dX5_takeSign_72 : decode cX5_takeSign 72 = .ok (.iconst 4, 1) := by decide +kernel
theorem dX5_takeSign_73 : decode cX5_takeSign 73 = .ok (.if_icmp .ge 7, 3) := by decide +kernel
theorem dX5_takeSign_76 : decode cX5_takeSign 76 = .ok (.iconst 1, 1) := by decide +kernel
theorem dX5_takeSign_77 : decode cX5_takeSign 77 = .ok (.goto 4, 3) := by decide +kernel
theorem dX5_takeSign_80 : decode cX5_takeSign 80 = .ok (.iconst 0, 1) := by decide +kernel
theorem dX5_takeSign_81 : decode cX5_takeSign 81 = .ok (.ireturn, 1) := by decide +kernel
theorem dX5_takeSign_82 : decode cX5_takeSign 82 = .ok (.aload_n 0, 1) := by decide +kernel
theorem dX5_takeSign_83 : decode cX5_takeSign 83 = .ok (.getfield 60, 3) := by decide +kernel
theorem dX5_takeSign_86 : decode cX5_takeSign 86 = .ok (.iconst 0, 1) := by decide +kernel
theorem dX5_takeSign_87 : decode cX5_takeSign 87 = .ok (.iaload, 1) := by decide +kernel
theorem dX5_takeSign_88 : decode cX5_takeSign 88 = .ok (.bipush 99, 2) := by decide +kernel
theorem dX5_takeSign_90 : decode cX5_takeSign 90 = .ok (.if_icmp .ge 7, 3) := by decide +kernel
theorem dX5_takeSign_93 : decode cX5_takeSign 93 = .ok (.iconst 1, 1) := by decide +kernel
theorem dX5_takeSign_94 : decode cX5_takeSign 94 = .ok (.goto 4, 3) := by decide +kernel
theorem dX5_takeSign_97 : decode cX5_takeSign 97 = .ok (.iconst 0, 1) := by decide +kernel
theorem dX5_takeSign_98 : decode cX5_takeSign 98 = .ok (.ireturn, 1) := by decide +kernel
theorem dX5_takeSign_99 : decode cX5_takeSign 99 = .ok (.aload_n 0, 1) := by decide +kernel
theorem dX5_takeSign_100 : decode cX5_takeSign 100 = .ok (.getfield 60, 3) := by decide +kernel
theorem dX5_takeSign_103 : decode cX5_takeSign 103 = .ok (.iconst 1, 1) := by decide +kernel
theorem dX5_takeSign_104 : decode cX5_takeSign 104 = .ok (.iaload, 1) := by decide +kernel
theorem dX5_takeSign_105 : decode cX5_takeSign 105 = .ok (.bipush 99, 2) := by decide +kernel
theorem dX5_takeSign_107 : decode cX5_takeSign 107 = .ok (.if_icmp .ge 7, 3) := by decide +kernel
theorem dX5_takeSign_110 : decode cX5_takeSign 110 = .ok (.iconst 1, 1) := by decide +kernel
theorem dX5_takeSign_111 : decode cX5_takeSign 111 = .ok (.goto 4, 3) := by decide +kernel
theorem dX5_takeSign_114 : decode cX5_takeSign 114 = .ok (.iconst 0, 1) := by decide +kernel
theorem dX5_takeSign_115 : decode cX5_takeSign 115 = .ok (.ireturn, 1) := by decide +kernel
theorem dX5_takeSign_116 : decode cX5_takeSign 116 = .ok (.aload_n 0, 1) := by decide +kernel
theorem dX5_takeSign_117 : decode cX5_takeSign 117 = .ok (.iconst 0, 1) := by decide +kernel
theorem dX5_takeSign_118 : decode cX5_takeSign 118 = .ok (.putfield 94, 3) := by decide +kernel
theorem dX5_takeSign_121 : decode cX5_takeSign 121 = .ok (.aload_n 0, 1) := by decide +kernel
theorem dX5_takeSign_122 : decode cX5_takeSign 122 = .ok (.iconst 1, 1) := by decide +kernel
theorem dX5_takeSign_123 : decode cX5_takeSign 123 = .ok (.invokevirtual 103, 3) := by decide +kernel
theorem dX5_takeSign_126 : decode cX5_takeSign 126 = .ok (.ireturn, 1) := by decide +kernel
theorem dX5_takeSign_127 : decode cX5_takeSign 127 = .ok (.aload_n 0, 1) := by decide +kernel
theorem dX5_takeSign_128 : decode cX5_takeSign 128 = .ok (.iconst 0, 1) := by decide +kernel
theorem dX5_takeSign_129 : decode cX5_takeSign 129 = .ok (.putfield 94, 3) := by decide +kernel
theorem dX5_takeSign_132 : decode cX5_takeSign 132 = .ok (.aload_n 0, 1) := by decide +kernel
theorem dX5_takeSign_133 : decode cX5_takeSign 133 = .ok (.iconst 2, 1) := by decide +kernel
theorem dX5_takeSign_134 : decode cX5_takeSign 134 = .ok (.invokevirtual 103, 3) := by decide +kernel
theorem dX5_takeSign_137 : decode cX5_takeSign 137 = .ok (.ireturn, 1) := by decide +kernel
theorem dX5_takeSign_138 : decode cX5_takeSign 138 = .ok (.aload_n 0, 1) := by decide +kernel
theorem dX5_takeSign_139 : decode cX5_takeSign 139 = .ok (.iconst 0, 1) := by decide +kernel
theorem dX5_takeSign_140 : decode cX5_takeSign 140 = .ok (.putfield 94, 3) := by decide +kernel
theorem dX5_takeSign_143 : decode cX5_takeSign 143 = .ok (.aload_n 0, 1) := by decide +kernel
theorem dX5_takeSign_144 : decode cX5_takeSign 144 = .ok (.iconst 0, 1) := by decide +kernel
theorem dX5_takeSign_145 : decode cX5_takeSign 145 = .ok (.invokevirtual 103, 3) := by decide +kernel
theorem dX5_takeSign_148 : decode cX5_takeSign 148 = .ok (.ireturn, 1) := by decide +kernel
theorem dX5_takeSign_149 : decode cX5_takeSign 149 = .ok (.iconst 0, 1) := by decide +kernel
theorem dX5_takeSign_150 : decode cX5_takeSign 150 = .ok (.ireturn, 1) := by decide +kernel
theorem dX5_takeOfValve_0 : decode cX5_takeOfValve 0 = .ok (.iload_n 1, 1) := by decide +kernel
theorem dX5_takeOfValve_1 : decode cX5_takeOfValve 1 = .ok (.iconst 0, 1) := by decide +kernel
theorem dX5_takeOfValve_2 : decode cX5_takeOfValve 2 = .ok (.bipush 9, 2) := by decide +kernel
theorem dX5_takeOfValve_4 : decode cX5_takeOfValve 4 = .ok (.invokestatic 72, 3) := by decide +kernel
theorem dX5_takeOfValve_7 : decode cX5_takeOfValve 7 = .ok (.ifCond .ne 5, 3) := by decide +kernel
theorem dX5_takeOfValve_10 : decode cX5_takeOfValve 10 = .ok (.iconst 0, 1) := by decide +kernel
theorem dX5_takeOfValve_11 : decode cX5_takeOfValve 11 = .ok (.ireturn, 1) := by decide +kernel
theorem dX5_takeOfValve_12 : decode cX5_takeOfValve 12 = .ok (.aload_n 0, 1) := by decide +kernel
theorem dX5_takeOfValve_13 : decode cX5_takeOfValve 13 = .ok (.getfield 82, 3) := by decide +kernel
theorem dX5_takeOfValve_16 : decode cX5_takeOfValve 16 = .ok (.iconst 1, 1) := by decide +kernel
theorem dX5_takeOfValve_17 : decode cX5_takeOfValve 17 = .ok (.if_icmp .ne 16, 3) := by decide +kernel
theorem dX5_takeOfValve_20 : decode cX5_takeOfValve 20 = .ok (.aload_n 0, 1) := by decide +kernel
theorem dX5_takeOfValve_21 : decode cX5_takeOfValve 21 = .ok (.iload_n 1, 1) := by decide +kernel
theorem dX5_takeOfValve_22 : decode cX5_takeOfValve 22 = .ok (.putfield 107, 3) := by decide +kernel
theorem dX5_takeOfValve_25 : decode cX5_takeOfValve 25 = .ok (.aload_n 0, 1) := by decide +kernel
theorem dX5_takeOfValve_26 : decode cX5_takeOfValve 26 = .ok (.iconst 2, 1) := by decide +kernel
theorem dX5_takeOfValve_27 : decode cX5_takeOfValve 27 = .ok (.putfield 82, 3) := by decide +kernel
theorem dX5_takeOfValve_30 : decode cX5_takeOfValve 30 = .ok (.goto 64, 3) := by decide +kernel
theorem dX5_takeOfValve_33 : decode cX5_takeOfValve 33 = .ok (.aload_n 0, 1) := by decide +kernel
theorem dX5_takeOfValve_34 : decode cX5_takeOfValve 34 = .ok (.getfield 82, 3) := by decide +kernel
theorem dX5_takeOfValve_37 : decode cX5_takeOfValve 37 = .ok (.iconst 2, 1) := by decide +kernel
theorem dX5_takeOfValve_38 : decode cX5_takeOfValve 38 = .ok (.if_icmp .ne 29, 3) := by decide +kernel
theorem dX5_takeOfValve_41 : decode cX5_takeOfValve 41 = .ok (.aload_n 0, 1) := by decide +kernel
theorem dX5_takeOfValve_42 : decode cX5_takeOfValve 42 = .ok (.getfield 54, 3) := by decide +kernel
theorem dX5_takeOfValve_45 : decode cX5_takeOfValve 45 = .ok (.aload_n 0, 1) := by decide +kernel
theorem dX5_takeOfValve_46 : decode cX5_takeOfValve 46 = .ok (.getfield 100, 3) := by decide +kernel
theorem dX5_takeOfValve_49 : decode cX5_takeOfValve 49 = .ok (.bipush 10, 2) := by decide +kernel
theorem dX5_takeOfValve_51 : decode cX5_takeOfValve 51 = .ok (.aload_n 0, 1) := by decide +kernel
theorem dX5_takeOfValve_52 : decode cX5_takeOfValve 52 = .ok (.getfield 107, 3) := by decide +kernel
theorem dX5_takeOfValve_55 : decode cX5_takeOfValve 55 = .ok (.imul, 1) := by decide +kernel
theorem dX5_takeOfValve_56 : decode cX5_takeOfValve 56 = .ok (.iload_n 1, 1) := by decide +kernel
theorem dX5_takeOfValve_57 : decode cX5_takeOfValve 57 = .ok (.iadd, 1) := by decide +kernel
theorem dX5_takeOfValve_58 : decode cX5_takeOfValve 58 = .ok (.iastore, 1) := by decide +kernel
theorem dX5_takeOfValve_59 : decode cX5_takeOfValve 59 = .ok (.aload_n 0, 1) := by decide +kernel
theorem dX5_takeOfValve_60 : decode cX5_takeOfValve 60 = .ok (.iconst 3, 1) := by decide +kernel
theorem dX5_takeOfValve_61 : decode cX5_takeOfValve 61 = .ok (.putfield 82, 3) := by decide +kernel
theorem dX5_takeOfValve_64 : decode cX5_takeOfValve 64 = .ok (.goto 30, 3) := by decide +kernel
theorem dX5_takeOfValve_67 : decode cX5_takeOfValve 67 = .ok (.aload_n 0, 1) := by decide +kernel
theorem dX5_takeOfValve_68 : decode cX5_takeOfValve 68 = .ok (.getfield 57, 3) := by decide +kernel
theorem dX5_takeOfValve_71 : decode cX5_takeOfValve 71 = .ok (.aload_n 0, 1) := by decide +kernel
theorem dX5_takeOfValve_72 : decode cX5_takeOfValve 72 = .ok (.getfield 100, 3) := by decide +kernel
theorem dX5_takeOfValve_75 : decode cX5_takeOfValve 75 = .ok (.iload_n 1, 1) := by decide +kernel
theorem dX5_takeOfValve_76 : decode cX5_takeOfValve 76 = .ok (.iconst 4, 1) := by decide +kernel
theorem dX5_takeOfValve_77 : decode cX5_takeOfValve 77 = .ok (.isub, 1) := by decide +kernel
theorem dX5_takeOfValve_78 : decode cX5_takeOfValve 78 = .ok (.iastore, 1) := by decide +kernel
theorem dX5_takeOfValve_79 : decode cX5_takeOfValve 79 = .ok (.aload_n 0, 1) := by decide +kernel
theorem dX5_takeOfValve_80 : decode cX5_takeOfValve 80 = .ok (.dup, 1) := by decide +kernel
theorem dX5_takeOfValve_81 : decode cX5_takeOfValve 81 = .ok (.getfield 100, 3) := by decide +kernel
theorem dX5_takeOfValve_84 : decode cX5_takeOfValve 84 = .ok (.iconst 1, 1) := by decide +kernel
theorem dX5_takeOfValve_85 : decode cX5_takeOfValve 85 = .ok (.iadd, 1) := by decide +kernel
theorem dX5_takeOfValve_86 : decode cX5_takeOfValve 86 = .ok (.putfield 100, 3) := by decide +kernel
theorem dX5_takeOfValve_89 : decode cX5_takeOfValve 89 = .ok (.aload_n 0, 1) := by decide +kernel
theorem dX5_takeOfValve_90 : decode cX5_takeOfValve 90 = .ok (.iconst 0, 1) := by decide +kernel
theorem dX5_takeOfValve_91 : decode cX5_takeOfValve 91 = .ok (.putfield 94, 3) := by decide +kernel
theorem dX5_takeOfValve_94 : decode cX5_takeOfValve 94 = .ok (.iconst 1, 1) := by decide +kernel
theorem dX5_takeOfValve_95 : decode cX5_takeOfValve 95 = .ok (.ireturn, 1) := by decide +kernel
theorem dX5_takeOfStock_0 : decode cX5_takeOfStock 0 = .ok (.bipush 99, 2) := by decide +kernel
theorem dX5_takeOfStock_2 : decode cX5_takeOfStock 2 = .ok (.aload_n 0, 1) := by decide +kernel
theorem dX5_takeOfStock_3 : decode cX5_takeOfStock 3 = .ok (.getfield 60, 3) := by decide +kernel
theorem dX5_takeOfStock_6 : decode cX5_takeOfStock 6 = .ok (.iload_n 1, 1) := by decide +kernel
theorem dX5_takeOfStock_7 : decode cX5_takeOfStock 7 = .ok (.iaload, 1) := by decide +kernel
theorem dX5_takeOfStock_8 : decode cX5_takeOfStock 8 = .ok (.isub, 1) := by decide +kernel
theorem dX5_takeOfStock_9 : decode cX5_takeOfStock 9 = .ok (.istore_n 3, 1) := by decide +kernel
theorem dX5_takeOfStock_10 : decode cX5_takeOfStock 10 = .ok (.aload_n 0, 1) := by decide +kernel
theorem dX5_takeOfStock_11 : decode cX5_takeOfStock 11 = .ok (.getfield 82, 3) := by decide +kernel
theorem dX5_takeOfStock_14 : decode cX5_takeOfStock 14 = .ok (.iconst 1, 1) := by decide +kernel
theorem dX5_takeOfStock_15 : decode cX5_takeOfStock 15 = .ok (.if_icmp .ne 45, 3) := by decide +kernel
theorem dX5_takeOfStock_18 : decode cX5_takeOfStock 18 = .ok (.aload_n 0, 1) := by decide +kernel
theorem dX5_takeOfStock_19 : decode cX5_takeOfStock 19 = .ok (.iload_n 2, 1) := by decide +kernel
theorem dX5_takeOfStock_20 : decode cX5_takeOfStock 20 = .ok (.putfield 107, 3) := by decide +kernel
theorem dX5_takeOfStock_23 : decode cX5_takeOfStock 23 = .ok (.aload_n 0, 1) := by decide +kernel
theorem dX5_takeOfStock_24 : decode cX5_takeOfStock 24 = .ok (.iconst 2, 1) := by decide +kernel
theorem dX5_takeOfStock_25 : decode cX5_takeOfStock 25 = .ok (.putfield 82, 3) := by decide +kernel
theorem dX5_takeOfStock_28 : decode cX5_takeOfStock 28 = .ok (.iload_n 2, 1) := by decide +kernel
theorem dX5_takeOfStock_29 : decode cX5_takeOfStock 29 = .ok (.iconst 0, 1) := by decide +kernel
theorem dX5_takeOfStock_30 : decode cX5_takeOfStock 30 = .ok (.bipush 9, 2) := by decide +kernel
theorem dX5_takeOfStock_32 : decode cX5_takeOfStock 32 = .ok (.invokestatic 72, 3) := by decide +kernel
theorem dX5_takeOfStock_35 : decode cX5_takeOfStock 35 = .ok (.ifCond .eq 23, 3) := by decide +kernel
theorem dX5_takeOfStock_38 : decode cX5_takeOfStock 38 = .ok (.iload_n 2, 1) := by decide +kernel
theorem dX5_takeOfStock_39 : decode cX5_takeOfStock 39 = .ok (.ifCond .ne 7, 3) := by decide +kernel
theorem dX5_takeOfStock_42 : decode cX5_takeOfStock 42 = .ok (.iconst 1, 1) := by decide +kernel
theorem dX5_takeOfStock_43 : decode cX5_takeOfStock 43 = .ok (.goto 7, 3) := by decide +kernel
theorem dX5_takeOfStock_46 : decode cX5_takeOfStock 46 = .ok (.bipush 10, 2) := by decide +kernel
theorem dX5_takeOfStock_48 : decode cX5_takeOfStock 48 = .ok (.iload_n 2, 1) := by decide +kernel
theorem dX5_takeOfStock_49 : decode cX5_takeOfStock 49 = .ok (.imul, 1) := by decide +kernel
theorem dX5_takeOfStock_50 : decode cX5_takeOfStock 50 = .ok (.iload_n 3, 1) := by decide +kernel
theorem dX5_takeOfStock_51 : decode cX5_takeOfStock 51 = .ok (.if_icmp .gt 7, 3) := by decide +kernel
theorem dX5_takeOfStock_54 : decode cX5_takeOfStock 54 = .ok (.iconst 1, 1) := by decide +kernel
theorem dX5_takeOfStock_55 : decode cX5_takeOfStock 55 = .ok (.goto 4, 3) := by decide +kernel
theorem dX5_takeOfStock_58 : decode cX5_takeOfStock 58 = .ok (.iconst 0, 1) := by decide +kernel
theorem dX5_takeOfStock_59 : decode cX5_takeOfStock 59 = .ok (.ireturn, 1) := by decide +kernel
theorem dX5_takeOfStock_60 : decode cX5_takeOfStock 60 = .ok (.bipush 10, 2) := by decide +kernel
theorem dX5_takeOfStock_62 : decode cX5_takeOfStock 62 = .ok (.aload_n 0, 1) := by decide +kernel
theorem dX5_takeOfStock_63 : decode cX5_takeOfStock 63 = .ok (.getfield 107, 3) := by decide +kernel
theorem dX5_takeOfStock_66 : decode cX5_takeOfStock 66 = .ok (.imul, 1) := by decide +kernel
theorem dX5_takeOfStock_67 : decode cX5_takeOfStock 67 = .ok (.iload_n 2, 1) := by decide +kernel
theorem dX5_takeOfStock_68 : decode cX5_takeOfStock 68 = .ok (.iadd, 1) := by decide +kernel
theorem dX5_takeOfStock_69 : decode cX5_takeOfStock 69 = .ok (.istore 4, 2) := by decide +kernel
theorem dX5_takeOfStock_71 : decode cX5_takeOfStock 71 = .ok (.aload_n 0, 1) := by decide +kernel
theorem dX5_takeOfStock_72 : decode cX5_takeOfStock 72 = .ok (.iconst 0, 1) := by decide +kernel
theorem dX5_takeOfStock_73 : decode cX5_takeOfStock 73 = .ok (.putfield 94, 3) := by decide +kernel
theorem dX5_takeOfStock_76 : decode cX5_takeOfStock 76 = .ok (.iload_n 2, 1) := by decide +kernel
theorem dX5_takeOfStock_77 : decode cX5_takeOfStock 77 = .ok (.iconst 0, 1) := by decide +kernel
theorem dX5_takeOfStock_78 : decode cX5_takeOfStock 78 = .ok (.bipush 9, 2) := by decide +kernel
theorem dX5_takeOfStock_80 : decode cX5_takeOfStock 80 = .ok (.invokestatic 72, 3) := by decide +kernel
theorem dX5_takeOfStock_83 : decode cX5_takeOfStock 83 = .ok (.ifCond .eq 13, 3) := by decide +kernel
theorem dX5_takeOfStock_86 : decode cX5_takeOfStock 86 = .ok (.iload 4, 2) := by decide +kernel
theorem dX5_takeOfStock_88 : decode cX5_takeOfStock 88 = .ok (.iconst 1, 1) := by decide +kernel
theorem dX5_takeOfStock_89 : decode cX5_takeOfStock 89 = .ok (.iload_n 3, 1) := by decide +kernel
theorem dX5_takeOfStock_90 : decode cX5_takeOfStock 90 = .ok (.invokestatic 72, 3) := by decide +kernel
theorem dX5_takeOfStock_93 : decode cX5_takeOfStock 93 = .ok (.ifCond .ne 5, 3) := by decide +kernel
theorem dX5_takeOfStock_96 : decode cX5_takeOfStock 96 = .ok (.iconst 0, 1) := by decide +kernel
theorem dX5_takeOfStock_97 : decode cX5_takeOfStock 97 = .ok (.ireturn, 1) := by decide +kernel
theorem dX5_takeOfStock_98 : decode cX5_takeOfStock 98 = .ok (.aload_n 0, 1) := by decide +kernel
theorem dX5_takeOfStock_99 : decode cX5_takeOfStock 99 = .ok (.getfield 60, 3) := by decide +kernel
theorem dX5_takeOfStock_102 : decode cX5_takeOfStock 102 = .ok (.iload_n 1, 1) := by decide +kernel
theorem dX5_takeOfStock_103 : decode cX5_takeOfStock 103 = .ok (.dup2, 1) := by decide +kernel
theorem dX5_takeOfStock_104 : decode cX5_takeOfStock 104 = .ok (.iaload, 1) := by decide +kernel
theorem dX5_takeOfStock_105 : decode cX5_takeOfStock 105 = .ok (.iload 4, 2) := by decide +kernel
theorem dX5_takeOfStock_107 : decode cX5_takeOfStock 107 = .ok (.iadd, 1) := by decide +kernel
theorem dX5_takeOfStock_108 : decode cX5_takeOfStock 108 = .ok (.iastore, 1) := by decide +kernel
theorem dX5_takeOfStock_109 : decode cX5_takeOfStock 109 = .ok (.iconst 1, 1) := by decide +kernel
theorem dX5_takeOfStock_110 : decode cX5_takeOfStock 110 = .ok (.ireturn, 1) := by decide +kernel
theorem dX5_take_0 : decode cX5_take 0 = .ok (.aload_n 0, 1) := by decide +kernel
theorem dX5_take_1 : decode cX5_take 1 = .ok (.getfield 94, 3) := by decide +kernel
theorem dX5_take_4 : decode cX5_take 4 = .ok (.ifCond .ne 9, 3) := by decide +kernel
theorem dX5_take_7 : decode cX5_take 7 = .ok (.aload_n 0, 1) := by decide +kernel
theorem dX5_take_8 : decode cX5_take 8 = .ok (.iload_n 1, 1) := by decide +kernel
theorem dX5_take_9 : decode cX5_take 9 = .ok (.invokevirtual 110, 3) := by decide +kernel
theorem dX5_take_12 : decode cX5_take 12 = .ok (.ireturn, 1) := by decide +kernel
theorem dX5_take_13 : decode cX5_take 13 = .ok (.iload_n 1, 1) := by decide +kernel
theorem dX5_take_14 : decode cX5_take 14 = .ok (.bipush 48, 2) := by decide +kernel
theorem dX5_take_16 : decode cX5_take 16 = .ok (.isub, 1) := by decide +kernel
theorem dX5_take_17 : decode cX5_take 17 = .ok (.istore_n 2, 1) := by decide +kernel
theorem dX5_take_18 : decode cX5_take 18 = .ok (.aload_n 0, 1) := by decide +kernel
theorem dX5_take_19 : decode cX5_take 19 = .ok (.getfield 94, 3) := by decide +kernel
theorem dX5_take_22 : decode cX5_take 22 = .ok (.bipush 66, 2) := by decide +kernel
theorem dX5_take_24 : decode cX5_take 24 = .ok (.if_icmp .ne 9, 3) := by decide +kernel
theorem dX5_take_27 : decode cX5_take 27 = .ok (.aload_n 0, 1) := by decide +kernel
theorem dX5_take_28 : decode cX5_take 28 = .ok (.iload_n 2, 1) := by decide +kernel
theorem dX5_take_29 : decode cX5_take 29 = .ok (.invokevirtual 113, 3) := by decide +kernel
theorem dX5_take_32 : decode cX5_take 32 = .ok (.ireturn, 1) := by decide +kernel
theorem dX5_take_33 : decode cX5_take 33 = .ok (.aload_n 0, 1) := by decide +kernel
theorem dX5_take_34 : decode cX5_take 34 = .ok (.getfield 94, 3) := by decide +kernel
theorem dX5_take_37 : decode cX5_take 37 = .ok (.bipush 118, 2) := by decide +kernel
theorem dX5_take_39 : decode cX5_take 39 = .ok (.if_icmp .ne 11, 3) := by decide +kernel
theorem dX5_take_42 : decode cX5_take 42 = .ok (.aload_n 0, 1) := by decide +kernel
theorem dX5_take_43 : decode cX5_take 43 = .ok (.iload_n 2, 1) := by decide +kernel
theorem dX5_take_44 : decode cX5_take 44 = .ok (.invokevirtual 116, 3) := by decide +kernel
theorem dX5_take_47 : decode cX5_take 47 = .ok (.goto 22, 3) := by decide +kernel
theorem dX5_take_50 : decode cX5_take 50 = .ok (.aload_n 0, 1) := by decide +kernel
theorem dX5_take_51 : decode cX5_take 51 = .ok (.aload_n 0, 1) := by decide +kernel
theorem dX5_take_52 : decode cX5_take 52 = .ok (.getfield 94, 3) := by decide +kernel
theorem dX5_take_55 : decode cX5_take 55 = .ok (.bipush 99, 2) := by decide +kernel
theorem dX5_take_57 : decode cX5_take 57 = .ok (.if_icmp .ne 7, 3) := by decide +kernel
theorem dX5_take_60 : decode cX5_take 60 = .ok (.iconst 0, 1) := by decide +kernel
theorem dX5_take_61 : decode cX5_take 61 = .ok (.goto 4, 3) := by decide +kernel
theorem dX5_take_64 : decode cX5_take 64 = .ok (.iconst 1, 1) := by decide +kernel
theorem dX5_take_65 : decode cX5_take 65 = .ok (.iload_n 2, 1) := by decide +kernel
theorem dX5_take_66 : decode cX5_take 66 = .ok (.invokevirtual 119, 3) := by decide +kernel
theorem dX5_take_69 : decode cX5_take 69 = .ok (.ireturn, 1) := by decide +kernel
theorem dX5_readText_0 : decode cX5_readText 0 = .ok (.aload_n 0, 1) := by decide +kernel
theorem dX5_readText_1 : decode cX5_readText 1 = .ok (.iconst 0, 1) := by decide +kernel
theorem dX5_readText_2 : decode cX5_readText 2 = .ok (.putfield 85, 3) := by decide +kernel
theorem dX5_readText_5 : decode cX5_readText 5 = .ok (.aload_n 0, 1) := by decide +kernel
theorem dX5_readText_6 : decode cX5_readText 6 = .ok (.iconst 0, 1) := by decide +kernel
theorem dX5_readText_7 : decode cX5_readText 7 = .ok (.putfield 100, 3) := by decide +kernel
theorem dX5_readText_10 : decode cX5_readText 10 = .ok (.aload_n 0, 1) := by decide +kernel
theorem dX5_readText_11 : decode cX5_readText 11 = .ok (.getfield 60, 3) := by decide +kernel
theorem dX5_readText_14 : decode cX5_readText 14 = .ok (.iconst 0, 1) := by decide +kernel
theorem dX5_readText_15 : decode cX5_readText 15 = .ok (.iconst 0, 1) := by decide +kernel
theorem dX5_readText_16 : decode cX5_readText 16 = .ok (.iastore, 1) := by decide +kernel
theorem dX5_readText_17 : decode cX5_readText 17 = .ok (.aload_n 0, 1) := by decide +kernel
theorem dX5_readText_18 : decode cX5_readText 18 = .ok (.getfield 60, 3) := by decide +kernel
theorem dX5_readText_21 : decode cX5_readText 21 = .ok (.iconst 1, 1) := by decide +kernel
theorem dX5_readText_22 : decode cX5_readText 22 = .ok (.iconst 0, 1) := by decide +kernel
theorem dX5_readText_23 : decode cX5_readText 23 = .ok (.iastore, 1) := by decide +kernel
theorem dX5_readText_24 : decode cX5_readText 24 = .ok (.aload_n 0, 1) := by decide +kernel
theorem dX5_readText_25 : decode cX5_readText 25 = .ok (.iconst 0, 1) := by decide +kernel
theorem dX5_readText_26 : decode cX5_readText 26 = .ok (.putfield 97, 3) := by decide +kernel
theorem dX5_readText_29 : decode cX5_readText 29 = .ok (.aload_n 0, 1) := by decide +kernel
theorem dX5_readText_30 : decode cX5_readText 30 = .ok (.bipush 66, 2) := by decide +kernel
theorem dX5_readText_32 : decode cX5_readText 32 = .ok (.putfield 94, 3) := by decide +kernel
theorem dX5_readText_35 : decode cX5_readText 35 = .ok (.aload_n 0, 1) := by decide +kernel
theorem dX5_readText_36 : decode cX5_readText 36 = .ok (.iconst 0, 1) := by decide +kernel
theorem dX5_readText_37 : decode cX5_readText 37 = .ok (.putfield 82, 3) := by decide +kernel
theorem dX5_readText_40 : decode cX5_readText 40 = .ok (.aload_n 0, 1) := by decide +kernel
theorem dX5_readText_41 : decode cX5_readText 41 = .ok (.getfield 79, 3) := by decide +kernel
theorem dX5_readText_44 : decode cX5_readText 44 = .ok (.ifCond .eq 14, 3) := by decide +kernel
theorem dX5_readText_47 : decode cX5_readText 47 = .ok (.aload_n 0, 1) := by decide +kernel
theorem dX5_readText_48 : decode cX5_readText 48 = .ok (.getfield 7, 3) := by decide +kernel
theorem dX5_readText_51 : decode cX5_readText 51 = .ok (.iconst 0, 1) := by decide +kernel
theorem dX5_readText_52 : decode cX5_readText 52 = .ok (.iaload, 1) := by decide +kernel
theorem dX5_readText_53 : decode cX5_readText 53 = .ok (.bipush 66, 2) := by decide +kernel
theorem dX5_readText_55 : decode cX5_readText 55 = .ok (.if_icmp .eq 5, 3) := by decide +kernel
theorem dX5_readText_58 : decode cX5_readText 58 = .ok (.iconst 0, 1) := by decide +kernel
theorem dX5_readText_59 : decode cX5_readText 59 = .ok (.ireturn, 1) := by decide +kernel
theorem dX5_readText_60 : decode cX5_readText 60 = .ok (.iconst 1, 1) := by decide +kernel
theorem dX5_readText_61 : decode cX5_readText 61 = .ok (.istore_n 1, 1) := by decide +kernel
theorem dX5_readText_62 : decode cX5_readText 62 = .ok (.iload_n 1, 1) := by decide +kernel
theorem dX5_readText_63 : decode cX5_readText 63 = .ok (.aload_n 0, 1) := by decide +kernel
theorem dX5_readText_64 : decode cX5_readText 64 = .ok (.getfield 79, 3) := by decide +kernel
theorem dX5_readText_67 : decode cX5_readText 67 = .ok (.if_icmp .ge 24, 3) := by decide +kernel
theorem dX5_readText_70 : decode cX5_readText 70 = .ok (.aload_n 0, 1) := by decide +kernel
theorem dX5_readText_71 : decode cX5_readText 71 = .ok (.aload_n 0, 1) := by decide +kernel
theorem dX5_readText_72 : decode cX5_readText 72 = .ok (.getfield 7, 3) := by decide +kernel
theorem dX5_readText_75 : decode cX5_readText 75 = .ok (.iload_n 1, 1) := by decide +kernel
theorem dX5_readText_76 : decode cX5_readText 76 = .ok (.iaload, 1) := by decide +kernel
theorem dX5_readText_77 : decode cX5_readText 77 = .ok (.invokevirtual 123, 3) := by decide +kernel
theorem dX5_readText_80 : decode cX5_readText 80 = .ok (.ifCond .ne 5, 3) := by decide +kernel
theorem dX5_readText_83 : decode cX5_readText 83 = .ok (.iload_n 1, 1) := by decide +kernel
theorem dX5_readText_84 : decode cX5_readText 84 = .ok (.ireturn, 1) := by decide +kernel
theorem dX5_readText_85 : decode cX5_readText 85 = .ok (.iinc 1 1, 3) := by decide +kernel
theorem dX5_readText_88 : decode cX5_readText 88 = .ok (.goto (-26), 3) := by decide +kernel
theorem dX5_readText_91 : decode cX5_readText 91 = .ok (.aload_n 0, 1) := by decide +kernel
theorem dX5_readText_92 : decode cX5_readText 92 = .ok (.getfield 94, 3) := by decide +kernel
theorem dX5_readText_95 : decode cX5_readText 95 = .ok (.ifCond .ne 8, 3) := by decide +kernel
theorem dX5_readText_98 : decode cX5_readText 98 = .ok (.bipush (-9), 2) := by decide +kernel
theorem dX5_readText_100 : decode cX5_readText 100 = .ok (.goto 7, 3) := by decide +kernel
theorem dX5_readText_103 : decode cX5_readText 103 = .ok (.aload_n 0, 1) := by decide +kernel
theorem dX5_readText_104 : decode cX5_readText 104 = .ok (.getfield 79, 3) := by decide +kernel
theorem dX5_readText_107 : decode cX5_readText 107 = .ok (.ireturn, 1) := by decide +kernel
theorem dX5_fault_0 : decode cX5_fault 0 = .ok (.aload_n 0, 1) := by decide +kernel
theorem dX5_fault_1 : decode cX5_fault 1 = .ok (.invokevirtual 126, 3) := by decide +kernel
theorem dX5_fault_4 : decode cX5_fault 4 = .ok (.ireturn, 1) := by decide +kernel
theorem dX5_line_0 : decode cX5_line 0 = .ok (.aload_n 0, 1) := by decide +kernel
theorem dX5_line_1 : decode cX5_line 1 = .ok (.invokevirtual 126, 3) := by decide +kernel
theorem dX5_line_4 : decode cX5_line 4 = .ok (.bipush (-9), 2) := by decide +kernel
theorem dX5_line_6 : decode cX5_line 6 = .ok (.if_icmp .eq 6, 3) := by decide +kernel
theorem dX5_line_9 : decode cX5_line 9 = .ok (.bipush (-3), 2) := by decide +kernel
theorem dX5_line_11 : decode cX5_line 11 = .ok (.ireturn, 1) := by decide +kernel
theorem dX5_line_12 : decode cX5_line 12 = .ok (.iconst 0, 1) := by decide +kernel
theorem dX5_line_13 : decode cX5_line 13 = .ok (.istore_n 1, 1) := by decide +kernel
theorem dX5_line_14 : decode cX5_line 14 = .ok (.iload_n 1, 1) := by decide +kernel
theorem dX5_line_15 : decode cX5_line 15 = .ok (.bipush 103, 2) := by decide +kernel
theorem dX5_line_17 : decode cX5_line 17 = .ok (.if_icmp .ge 33, 3) := by decide +kernel
theorem dX5_line_20 : decode cX5_line 20 = .ok (.aload_n 0, 1) := by decide +kernel
theorem dX5_line_21 : decode cX5_line 21 = .ok (.getfield 23, 3) := by decide +kernel
theorem dX5_line_24 : decode cX5_line 24 = .ok (.iload_n 1, 1) := by decide +kernel
theorem dX5_line_25 : decode cX5_line 25 = .ok (.iload_n 1, 1) := by decide +kernel
theorem dX5_line_26 : decode cX5_line 26 = .ok (.bipush 18, 2) := by decide +kernel
theorem dX5_line_28 : decode cX5_line 28 = .ok (.if_icmp .lt 14, 3) := by decide +kernel
theorem dX5_line_31 : decode cX5_line 31 = .ok (.iload_n 1, 1) := by decide +kernel
theorem dX5_line_32 : decode cX5_line 32 = .ok (.bipush 27, 2) := by decide +kernel
theorem dX5_line_34 : decode cX5_line 34 = .ok (.if_icmp .ge 8, 3) := by decide +kernel
theorem dX5_line_37 : decode cX5_line 37 = .ok (.bipush (-9), 2) := by decide +kernel
theorem dX5_line_39 : decode cX5_line 39 = .ok (.goto 4, 3) := by decide +kernel
theorem dX5_line_42 : decode cX5_line 42 = .ok (.iconst 0, 1) := by decide +kernel
theorem dX5_line_43 : decode cX5_line 43 = .ok (.iastore, 1) := by decide +kernel
theorem dX5_line_44 : decode cX5_line 44 = .ok (.iinc 1 1, 3) := by decide +kernel
theorem dX5_line_47 : decode cX5_line 47 = .ok (.goto (-33), 3) := by decide +kernel
theorem dX5_line_50 : decode cX5_line 50 = .ok (.aload_n 0, 1) := by decide +kernel
theorem dX5_line_51 : decode cX5_line 51 = .ok (.aload_n 0, 1) := by decide +kernel
theorem dX5_line_52 : decode cX5_line 52 = .ok (.getfield 51, 3) := by decide +kernel
theorem dX5_line_55 : decode cX5_line 55 = .ok (.iconst 0, 1) := by decide +kernel
theorem dX5_line_56 : decode cX5_line 56 = .ok (.iaload, 1) := by decide +kernel
theorem dX5_line_57 : decode cX5_line 57 = .ok (.putfield 13, 3) := by decide +kernel
theorem dX5_line_60 : decode cX5_line 60 = .ok (.iconst 0, 1) := by decide +kernel
theorem dX5_line_61 : decode cX5_line 61 = .ok (.istore_n 1, 1) := by decide +kernel
theorem dX5_line_62 : decode cX5_line 62 = .ok (.iload_n 1, 1) := by decide +kernel
theorem dX5_line_63 : decode cX5_line 63 = .ok (.iconst 5, 1) := by decide +kernel
theorem dX5_line_64 : decode cX5_line 64 = .ok (.if_icmp .ge 23, 3) := by decide +kernel
theorem dX5_line_67 : decode cX5_line 67 = .ok (.aload_n 0, 1) := by decide +kernel
theorem dX5_line_68 : decode cX5_line 68 = .ok (.getfield 17, 3) := by decide +kernel
theorem dX5_line_71 : decode cX5_line 71 = .ok (.iload_n 1, 1) := by decide +kernel
theorem dX5_line_72 : decode cX5_line 72 = .ok (.aload_n 0, 1) := by decide +kernel
theorem dX5_line_73 : decode cX5_line 73 = .ok (.getfield 51, 3) := by decide +kernel
theorem dX5_line_76 : decode cX5_line 76 = .ok (.iload_n 1, 1) := by decide +kernel
theorem dX5_line_77 : decode cX5_line 77 = .ok (.iconst 1, 1) := by decide +kernel
theorem dX5_line_78 : decode cX5_line 78 = .ok (.iadd, 1) := by decide +kernel
theorem dX5_line_79 : decode cX5_line 79 = .ok (.iaload, 1) := by decide +kernel
theorem dX5_line_80 : decode cX5_line 80 = .ok (.iastore, 1) := by decide +kernel
theorem dX5_line_81 : decode cX5_line 81 = .ok (.iinc 1 1, 3) := by decide +kernel
theorem dX5_line_84 : decode cX5_line 84 = .ok (.goto (-22), 3) := by decide +kernel
theorem dX5_line_87 : decode cX5_line 87 = .ok (.aload_n 0, 1) := by decide +kernel
theorem dX5_line_88 : decode cX5_line 88 = .ok (.aload_n 0, 1) := by decide +kernel
theorem dX5_line_89 : decode cX5_line 89 = .ok (.getfield 85, 3) := by decide +kernel
theorem dX5_line_92 : decode cX5_line 92 = .ok (.putfield 130, 3) := by decide +kernel
theorem dX5_line_95 : decode cX5_line 95 = .ok (.aload_n 0, 1) := by decide +kernel
theorem dX5_line_96 : decode cX5_line 96 = .ok (.aload_n 0, 1) := by decide +kernel
theorem dX5_line_97 : decode cX5_line 97 = .ok (.getfield 88, 3) := by decide +kernel
theorem dX5_line_100 : decode cX5_line 100 = .ok (.putfield 133, 3) := by decide +kernel
theorem dX5_line_103 : decode cX5_line 103 = .ok (.aload_n 0, 1) := by decide +kernel
theorem dX5_line_104 : decode cX5_line 104 = .ok (.aload_n 0, 1) := by decide +kernel
theorem dX5_line_105 : decode cX5_line 105 = .ok (.getfield 91, 3) := by decide +kernel
theorem dX5_line_108 : decode cX5_line 108 = .ok (.putfield 136, 3) := by decide +kernel
theorem dX5_line_111 : decode cX5_line 111 = .ok (.aload_n 0, 1) := by decide +kernel
theorem dX5_line_112 : decode cX5_line 112 = .ok (.aload_n 0, 1) := by decide +kernel
theorem dX5_line_113 : decode cX5_line 113 = .ok (.getfield 100, 3) := by decide +kernel
theorem dX5_line_116 : decode cX5_line 116 = .ok (.putfield 76, 3) := by decide +kernel
theorem dX5_line_119 : decode cX5_line 119 = .ok (.iconst 0, 1) := by decide +kernel
theorem dX5_line_120 : decode cX5_line 120 = .ok (.istore_n 1, 1) := by decide +kernel
theorem dX5_line_121 : decode cX5_line 121 = .ok (.iload_n 1, 1) := by decide +kernel
theorem dX5_line_122 : decode cX5_line 122 = .ok (.aload_n 0, 1) := by decide +kernel
theorem dX5_line_123 : decode cX5_line 123 = .ok (.getfield 76, 3) := by decide +kernel
theorem dX5_line_126 : decode cX5_line 126 = .ok (.if_icmp .ge 36, 3) := by decide +kernel
theorem dX5_line_129 : decode cX5_line 129 = .ok (.aload_n 0, 1) := by decide +kernel
theorem dX5_line_130 : decode cX5_line 130 = .ok (.getfield 23, 3) := by decide +kernel
theorem dX5_line_133 : decode cX5_line 133 = .ok (.bipush 63, 2) := by decide +kernel
theorem dX5_line_135 : decode cX5_line 135 = .ok (.iload_n 1, 1) := by decide +kernel
theorem dX5_line_136 : decode cX5_line 136 = .ok (.iadd, 1) := by decide +kernel
theorem dX5_line_137 : decode cX5_line 137 = .ok (.aload_n 0, 1) := by decide +kernel
theorem dX5_line_138 : decode cX5_line 138 = .ok (.getfield 54, 3) := by decide +kernel
theorem dX5_line_141 : decode cX5_line 141 = .ok (.iload_n 1, 1) := by decide +kernel
theorem dX5_line_142 : decode cX5_line 142 = .ok (.iaload, 1) := by decide +kernel
theorem dX5_line_143 : decode cX5_line 143 = .ok (.iastore, 1) := by decide +kernel
theorem dX5_line_144 : decode cX5_line 144 = .ok (.aload_n 0, 1) := by decide +kernel
theorem dX5_line_145 : decode cX5_line 145 = .ok (.getfield 20, 3) := by decide +kernel
theorem dX5_line_148 : decode cX5_line 148 = .ok (.iload_n 1, 1) := by decide +kernel
theorem dX5_line_149 : decode cX5_line 149 = .ok (.aload_n 0, 1) := by decide +kernel
theorem dX5_line_150 : decode cX5_line 150 = .ok (.getfield 57, 3) := by decide +kernel
theorem dX5_line_153 : decode cX5_line 153 = .ok (.iload_n 1, 1) := by decide +kernel
theorem dX5_line_154 : decode cX5_line 154 = .ok (.iaload, 1) := by decide +kernel
theorem dX5_line_155 : decode cX5_line 155 = .ok (.iastore, 1) := by decide +kernel
theorem dX5_line_156 : decode cX5_line 156 = .ok (.iinc 1 1, 3) := by decide +kernel
theorem dX5_line_159 : decode cX5_line 159 = .ok (.goto (-38), 3) := by decide +kernel
theorem dX5_line_162 : decode cX5_line 162 = .ok (.aload_n 0, 1) := by decide +kernel
theorem dX5_line_163 : decode cX5_line 163 = .ok (.getfield 23, 3) := by decide +kernel
theorem dX5_line_166 : decode cX5_line 166 = .ok (.bipush 67, 2) := by decide +kernel
theorem dX5_line_168 : decode cX5_line 168 = .ok (.aload_n 0, 1) := by decide +kernel
theorem dX5_line_169 : decode cX5_line 169 = .ok (.getfield 60, 3) := by decide +kernel
theorem dX5_line_172 : decode cX5_line 172 = .ok (.iconst 0, 1) := by decide +kernel
theorem dX5_line_173 : decode cX5_line 173 = .ok (.iaload, 1) := by decide +kernel
theorem dX5_line_174 : decode cX5_line 174 = .ok (.iastore, 1) := by decide +kernel
theorem dX5_line_175 : decode cX5_line 175 = .ok (.aload_n 0, 1) := by decide +kernel
theorem dX5_line_176 : decode cX5_line 176 = .ok (.getfield 23, 3) := by decide +kernel
theorem dX5_line_179 : decode cX5_line 179 = .ok (.bipush 68, 2) := by decide +kernel
theorem dX5_line_181 : decode cX5_line 181 = .ok (.aload_n 0, 1) := by decide +kernel
theorem dX5_line_182 : decode cX5_line 182 = .ok (.getfield 60, 3) := by decide +kernel
theorem dX5_line_185 : decode cX5_line 185 = .ok (.iconst 1, 1) := by decide +kernel
theorem dX5_line_186 : decode cX5_line 186 = .ok (.iaload, 1) := by decide +kernel
theorem dX5_line_187 : decode cX5_line 187 = .ok (.iastore, 1) := by decide +kernel
theorem dX5_line_188 : decode cX5_line 188 = .ok (.aload_n 0, 1) := by decide +kernel
theorem dX5_line_189 : decode cX5_line 189 = .ok (.getfield 23, 3) := by decide +kernel
theorem dX5_line_192 : decode cX5_line 192 = .ok (.bipush 78, 2) := by decide +kernel
theorem dX5_line_194 : decode cX5_line 194 = .ok (.aload_n 0, 1) := by decide +kernel
theorem dX5_line_195 : decode cX5_line 195 = .ok (.getfield 97, 3) := by decide +kernel
theorem dX5_line_198 : decode cX5_line 198 = .ok (.iastore, 1) := by decide +kernel
theorem dX5_line_199 : decode cX5_line 199 = .ok (.iconst 0, 1) := by decide +kernel
theorem dX5_line_200 : decode cX5_line 200 = .ok (.istore_n 1, 1) := by decide +kernel
theorem dX5_line_201 : decode cX5_line 201 = .ok (.iload_n 1, 1) := by decide +kernel
theorem dX5_line_202 : decode cX5_line 202 = .ok (.aload_n 0, 1) := by decide +kernel
theorem dX5_line_203 : decode cX5_line 203 = .ok (.getfield 97, 3) := by decide +kernel
theorem dX5_line_206 : decode cX5_line 206 = .ok (.if_icmp .ge 24, 3) := by decide +kernel
theorem dX5_line_209 : decode cX5_line 209 = .ok (.aload_n 0, 1) := by decide +kernel
theorem dX5_line_210 : decode cX5_line 210 = .ok (.getfield 23, 3) := by decide +kernel
theorem dX5_line_213 : decode cX5_line 213 = .ok (.bipush 79, 2) := by decide +kernel
theorem dX5_line_215 : decode cX5_line 215 = .ok (.iload_n 1, 1) := by decide +kernel
theorem dX5_line_216 : decode cX5_line 216 = .ok (.iadd, 1) := by decide +kernel
theorem dX5_line_217 : decode cX5_line 217 = .ok (.aload_n 0, 1) := by decide +kernel
theorem dX5_line_218 : decode cX5_line 218 = .ok (.getfield 63, 3) := by decide +kernel
theorem dX5_line_221 : decode cX5_line 221 = .ok (.iload_n 1, 1) := by decide +kernel
theorem dX5_line_222 : decode cX5_line 222 = .ok (.iaload, 1) := by decide +kernel
theorem dX5_line_223 : decode cX5_line 223 = .ok (.iastore, 1) := by decide +kernel
theorem dX5_line_224 : decode cX5_line 224 = .ok (.iinc 1 1, 3) := by decide +kernel
theorem dX5_line_227 : decode cX5_line 227 = .ok (.goto (-26), 3) := by decide +kernel
theorem dX5_line_230 : decode cX5_line 230 = .ok (.aload_n 0, 1) := by decide +kernel
theorem dX5_line_231 : decode cX5_line 231 = .ok (.iconst 0, 1) := by decide +kernel
theorem dX5_line_232 : decode cX5_line 232 = .ok (.putfield 139, 3) := by decide +kernel
theorem dX5_line_235 : decode cX5_line 235 = .ok (.aload_n 0, 1) := by decide +kernel
theorem dX5_line_236 : decode cX5_line 236 = .ok (.getfield 35, 3) := by decide +kernel
theorem dX5_line_239 : decode cX5_line 239 = .ok (.iconst 0, 1) := by decide +kernel
theorem dX5_line_240 : decode cX5_line 240 = .ok (.iconst 0, 1) := by decide +kernel
theorem dX5_line_241 : decode cX5_line 241 = .ok (.bastore, 1) := by decide +kernel
theorem dX5_line_242 : decode cX5_line 242 = .ok (.aload_n 0, 1) := by decide +kernel
theorem dX5_line_243 : decode cX5_line 243 = .ok (.getfield 35, 3) := by decide +kernel
theorem dX5_line_246 : decode cX5_line 246 = .ok (.iconst 1, 1) := by decide +kernel
theorem dX5_line_247 : decode cX5_line 247 = .ok (.iconst 0, 1) := by decide +kernel
theorem dX5_line_248 : decode cX5_line 248 = .ok (.bastore, 1) := by decide +kernel
theorem dX5_line_249 : decode cX5_line 249 = .ok (.aload_n 0, 1) := by decide +kernel
theorem dX5_line_250 : decode cX5_line 250 = .ok (.getfield 76, 3) := by decide +kernel
theorem dX5_line_253 : decode cX5_line 253 = .ok (.ireturn, 1) := by decide +kernel
theorem dX5_isGood_0 : decode cX5_isGood 0 = .ok (.aload_n 1, 1) := by decide +kernel
theorem dX5_isGood_1 : decode cX5_isGood 1 = .ok (.bipush 9, 2) := by decide +kernel
theorem dX5_isGood_3 : decode cX5_isGood 3 = .ok (.iload_n 2, 1) := by decide +kernel
theorem dX5_isGood_4 : decode cX5_isGood 4 = .ok (.iadd, 1) := by decide +kernel
theorem dX5_isGood_5 : decode cX5_isGood 5 = .ok (.iaload, 1) := by decide +kernel
theorem dX5_isGood_6 : decode cX5_isGood 6 = .ok (.aload_n 0, 1) := by decide +kernel
theorem dX5_isGood_7 : decode cX5_isGood 7 = .ok (.getfield 130, 3) := by decide +kernel
theorem dX5_isGood_10 : decode cX5_isGood 10 = .ok (.isub, 1) := by decide +kernel
theorem dX5_isGood_11 : decode cX5_isGood 11 = .ok (.istore_n 3, 1) := by decide +kernel
theorem dX5_isGood_12 : decode cX5_isGood 12 = .ok (.aload_n 1, 1) := by decide +kernel
theorem dX5_isGood_13 : decode cX5_isGood 13 = .ok (.iconst 0, 1) := by decide +kernel
theorem dX5_isGood_14 : decode cX5_isGood 14 = .ok (.iload_n 2, 1) := by decide +kernel
theorem dX5_isGood_15 : decode cX5_isGood 15 = .ok (.iadd, 1) := by decide +kernel
theorem dX5_isGood_16 : decode cX5_isGood 16 = .ok (.iaload, 1) := by decide +kernel
theorem dX5_isGood_17 : decode cX5_isGood 17 = .ok (.iconst 1, 1) := by decide +kernel
theorem dX5_isGood_18 : decode cX5_isGood 18 = .ok (.if_icmp .ne 44, 3) := by decide +kernel
theorem dX5_isGood_21 : decode cX5_isGood 21 = .ok (.iload_n 3, 1) := by decide +kernel
theorem dX5_isGood_22 : decode cX5_isGood 22 = .ok (.ifCond .ge 8, 3) := by decide +kernel
theorem dX5_isGood_25 : decode cX5_isGood 25 = .ok (.iload_n 3, 1) := by decide +kernel
theorem dX5_isGood_26 : decode cX5_isGood 26 = .ok (.ineg, 1) := by decide +kernel
theorem dX5_isGood_27 : decode cX5_isGood 27 = .ok (.goto 4, 3) := by decide +kernel
theorem dX5_isGood_30 : decode cX5_isGood 30 = .ok (.iload_n 3, 1) := by decide +kernel
theorem dX5_isGood_31 : decode cX5_isGood 31 = .ok (.aload_n 0, 1) := by decide +kernel
theorem dX5_isGood_32 : decode cX5_isGood 32 = .ok (.getfield 133, 3) := by decide +kernel
theorem dX5_isGood_35 : decode cX5_isGood 35 = .ok (.if_icmp .gt 27, 3) := by decide +kernel
theorem dX5_isGood_38 : decode cX5_isGood 38 = .ok (.aload_n 1, 1) := by decide +kernel
theorem dX5_isGood_39 : decode cX5_isGood 39 = .ok (.bipush 27, 2) := by decide +kernel
theorem dX5_isGood_41 : decode cX5_isGood 41 = .ok (.iload_n 2, 1) := by decide +kernel
theorem dX5_isGood_42 : decode cX5_isGood 42 = .ok (.iadd, 1) := by decide +kernel
theorem dX5_isGood_43 : decode cX5_isGood 43 = .ok (.iaload, 1) := by decide +kernel
theorem dX5_isGood_44 : decode cX5_isGood 44 = .ok (.iconst 1, 1) := by decide +kernel
theorem dX5_isGood_45 : decode cX5_isGood 45 = .ok (.if_icmp .ne 17, 3) := by decide +kernel
theorem dX5_isGood_48 : decode cX5_isGood 48 = .ok (.aload_n 1, 1) := by decide +kernel
theorem dX5_isGood_49 : decode cX5_isGood 49 = .ok (.bipush 36, 2) := by decide +kernel
theorem dX5_isGood_51 : decode cX5_isGood 51 = .ok (.iload_n 2, 1) := by decide +kernel
theorem dX5_isGood_52 : decode cX5_isGood 52 = .ok (.iadd, 1) := by decide +kernel
theorem dX5_isGood_53 : decode cX5_isGood 53 = .ok (.iaload, 1) := by decide +kernel
theorem dX5_isGood_54 : decode cX5_isGood 54 = .ok (.iconst 1, 1) := by decide +kernel
theorem dX5_isGood_55 : decode cX5_isGood 55 = .ok (.if_icmp .ne 7, 3) := by decide +kernel
theorem dX5_isGood_58 : decode cX5_isGood 58 = .ok (.iconst 1, 1) := by decide +kernel
theorem dX5_isGood_59 : decode cX5_isGood 59 = .ok (.goto 4, 3) := by decide +kernel
theorem dX5_isGood_62 : decode cX5_isGood 62 = .ok (.iconst 0, 1) := by decide +kernel
theorem dX5_isGood_63 : decode cX5_isGood 63 = .ok (.ireturn, 1) := by decide +kernel
theorem dX5_empty_0 : decode cX5_empty 0 = .ok (.iconst 0, 1) := by decide +kernel
theorem dX5_empty_1 : decode cX5_empty 1 = .ok (.istore_n 3, 1) := by decide +kernel
theorem dX5_empty_2 : decode cX5_empty 2 = .ok (.iload_n 3, 1) := by decide +kernel
theorem dX5_empty_3 : decode cX5_empty 3 = .ok (.bipush 54, 2) := by decide +kernel
theorem dX5_empty_5 : decode cX5_empty 5 = .ok (.if_icmp .ge 26, 3) := by decide +kernel
theorem dX5_empty_8 : decode cX5_empty 8 = .ok (.aload_n 1, 1) := by decide +kernel
theorem dX5_empty_9 : decode cX5_empty 9 = .ok (.iload_n 3, 1) := by decide +kernel
theorem dX5_empty_10 : decode cX5_empty 10 = .ok (.iload_n 2, 1) := by decide +kernel
theorem dX5_empty_11 : decode cX5_empty 11 = .ok (.iadd, 1) := by decide +kernel
theorem dX5_empty_12 : decode cX5_empty 12 = .ok (.iload_n 3, 1) := by decide +kernel
theorem dX5_empty_13 : decode cX5_empty 13 = .ok (.bipush 18, 2) := by decide +kernel
theorem dX5_empty_15 : decode cX5_empty 15 = .ok (.if_icmp .ne 8, 3) := by decide +kernel
theorem dX5_empty_18 : decode cX5_empty 18 = .ok (.bipush (-9), 2) := by decide +kernel
theorem dX5_empty_20 : decode cX5_empty 20 = .ok (.goto 4, 3) := by decide +kernel
theorem dX5_empty_23 : decode cX5_empty 23 = .ok (.iconst 0, 1) := by decide +kernel
theorem dX5_empty_24 : decode cX5_empty 24 = .ok (.iastore, 1) := by decide +kernel
theorem dX5_empty_25 : decode cX5_empty 25 = .ok (.iinc 3 9, 3) := by decide +kernel
theorem dX5_empty_28 : decode cX5_empty 28 = .ok (.goto (-26), 3) := by decide +kernel
theorem dX5_empty_31 : decode cX5_empty 31 = .ok (.return_, 1) := by decide +kernel
theorem dX5_leave_0 : decode cX5_leave 0 = .ok (.aload_n 0, 1) := by decide +kernel
theorem dX5_leave_1 : decode cX5_leave 1 = .ok (.getfield 13, 3) := by decide +kernel
theorem dX5_leave_4 : decode cX5_leave 4 = .ok (.iconst 1, 1) := by decide +kernel
theorem dX5_leave_5 : decode cX5_leave 5 = .ok (.isub, 1) := by decide +kernel
theorem dX5_leave_6 : decode cX5_leave 6 = .ok (.istore_n 2, 1) := by decide +kernel
theorem dX5_leave_7 : decode cX5_leave 7 = .ok (.aload_n 1, 1) := by decide +kernel
theorem dX5_leave_8 : decode cX5_leave 8 = .ok (.iconst 0, 1) := by decide +kernel
theorem dX5_leave_9 : decode cX5_leave 9 = .ok (.iload_n 2, 1) := by decide +kernel
theorem dX5_leave_10 : decode cX5_leave 10 = .ok (.iadd, 1) := by decide +kernel
theorem dX5_leave_11 : decode cX5_leave 11 = .ok (.iaload, 1) := by decide +kernel
theorem dX5_leave_12 : decode cX5_leave 12 = .ok (.ifCond .ne 4, 3) := by decide +kernel
theorem dX5_leave_15 : decode cX5_leave 15 = .ok (.return_, 1) := by decide +kernel
theorem dX5_leave_16 : decode cX5_leave 16 = .ok (.aload_n 0, 1) := by decide +kernel
theorem dX5_leave_17 : decode cX5_leave 17 = .ok (.aload_n 1, 1) := by decide +kernel
theorem dX5_leave_18 : decode cX5_leave 18 = .ok (.iload_n 2, 1) := by decide +kernel
theorem dX5_leave_19 : decode cX5_leave 19 = .ok (.invokevirtual 142, 3) := by decide +kernel
theorem dX5_leave_22 : decode cX5_leave 22 = .ok (.istore_n 3, 1) := by decide +kernel
theorem dX5_leave_23 : decode cX5_leave 23 = .ok (.aload_n 1, 1) := by decide +kernel
theorem dX5_leave_24 : decode cX5_leave 24 = .ok (.iload_n 3, 1) := by decide +kernel
theorem dX5_leave_25 : decode cX5_leave 25 = .ok (.ifCond .eq 8, 3) := by decide +kernel
theorem dX5_leave_28 : decode cX5_leave 28 = .ok (.bipush 72, 2) := by decide +kernel
theorem dX5_leave_30 : decode cX5_leave 30 = .ok (.goto 5, 3) := by decide +kernel
theorem dX5_leave_33 : decode cX5_leave 33 = .ok (.bipush 73, 2) := by decide +kernel
theorem dX5_leave_35 : decode cX5_leave 35 = .ok (.dup2, 1) := by decide +kernel
theorem dX5_leave_36 : decode cX5_leave 36 = .ok (.iaload, 1) := by decide +kernel
theorem dX5_leave_37 : decode cX5_leave 37 = .ok (.iconst 1, 1) := by decide +kernel
theorem dX5_leave_38 : decode cX5_leave 38 = .ok (.iadd, 1) := by decide +kernel
theorem dX5_leave_39 : decode cX5_leave 39 = .ok (.iastore, 1) := by decide +kernel
theorem dX5_leave_40 : decode cX5_leave 40 = .ok (.aload_n 0, 1) := by decide +kernel
theorem dX5_leave_41 : decode cX5_leave 41 = .ok (.getfield 69, 3) := by decide +kernel
theorem dX5_leave_44 : decode cX5_leave 44 = .ok (.iload_n 2, 1) := by decide +kernel
theorem dX5_leave_45 : decode cX5_leave 45 = .ok (.if_icmp .ne 22, 3) := by decide +kernel
theorem dX5_leave_48 : decode cX5_leave 48 = .ok (.aload_n 0, 1) := by decide +kernel
theorem dX5_leave_49 : decode cX5_leave 49 = .ok (.iload_n 3, 1) := by decide +kernel
theorem dX5_leave_50 : decode cX5_leave 50 = .ok (.ifCond .eq 7, 3) := by decide +kernel
theorem dX5_leave_53 : decode cX5_leave 53 = .ok (.iconst 1, 1) := by decide +kernel
theorem dX5_leave_54 : decode cX5_leave 54 = .ok (.goto 4, 3) := by decide +kernel
theorem dX5_leave_57 : decode cX5_leave 57 = .ok (.iconst 2, 1) := by decide +kernel
theorem dX5_leave_58 : decode cX5_leave 58 = .ok (.putfield 146, 3) := by decide +kernel
theorem dX5_leave_61 : decode cX5_leave 61 = .ok (.aload_n 0, 1) := by decide +kernel
theorem dX5_leave_62 : decode cX5_leave 62 = .ok (.bipush (-9), 2) := by decide +kernel
theorem dX5_leave_64 : decode cX5_leave 64 = .ok (.putfield 69, 3) := by decide +kernel
theorem dX5_leave_67 : decode cX5_leave 67 = .ok (.aload_n 0, 1) := by decide +kernel
theorem dX5_leave_68 : decode cX5_leave 68 = .ok (.aload_n 1, 1) := by decide +kernel
theorem dX5_leave_69 : decode cX5_leave 69 = .ok (.iload_n 2, 1) := by decide +kernel
theorem dX5_leave_70 : decode cX5_leave 70 = .ok (.invokevirtual 149, 3) := by decide +kernel
theorem dX5_leave_73 : decode cX5_leave 73 = .ok (.return_, 1) := by decide +kernel
theorem dX5_slipOn_0 : decode cX5_slipOn 0 = .ok (.aload_n 0, 1) := by decide +kernel
theorem dX5_slipOn_1 : decode cX5_slipOn 1 = .ok (.getfield 13, 3) := by decide +kernel
theorem dX5_slipOn_4 : decode cX5_slipOn 4 = .ok (.iconst 1, 1) := by decide +kernel
theorem dX5_slipOn_5 : decode cX5_slipOn 5 = .ok (.isub, 1) := by decide +kernel
theorem dX5_slipOn_6 : decode cX5_slipOn 6 = .ok (.istore_n 2, 1) := by decide +kernel
theorem dX5_slipOn_7 : decode cX5_slipOn 7 = .ok (.iload_n 2, 1) := by decide +kernel
theorem dX5_slipOn_8 : decode cX5_slipOn 8 = .ok (.ifCond .le 23, 3) := by decide +kernel
theorem dX5_slipOn_11 : decode cX5_slipOn 11 = .ok (.aload_n 1, 1) := by decide +kernel
theorem dX5_slipOn_12 : decode cX5_slipOn 12 = .ok (.bipush 54, 2) := by decide +kernel
theorem dX5_slipOn_14 : decode cX5_slipOn 14 = .ok (.iload_n 2, 1) := by decide +kernel
theorem dX5_slipOn_15 : decode cX5_slipOn 15 = .ok (.iadd, 1) := by decide +kernel
theorem dX5_slipOn_16 : decode cX5_slipOn 16 = .ok (.aload_n 1, 1) := by decide +kernel
theorem dX5_slipOn_17 : decode cX5_slipOn 17 = .ok (.bipush 54, 2) := by decide +kernel
theorem dX5_slipOn_19 : decode cX5_slipOn 19 = .ok (.iload_n 2, 1) := by decide +kernel
theorem dX5_slipOn_20 : decode cX5_slipOn 20 = .ok (.iadd, 1) := by decide +kernel
theorem dX5_slipOn_21 : decode cX5_slipOn 21 = .ok (.iconst 1, 1) := by decide +kernel
theorem dX5_slipOn_22 : decode cX5_slipOn 22 = .ok (.isub, 1) := by decide +kernel
theorem dX5_slipOn_23 : decode cX5_slipOn 23 = .ok (.iaload, 1) := by decide +kernel
theorem dX5_slipOn_24 : decode cX5_slipOn 24 = .ok (.iastore, 1) := by decide +kernel
theorem dX5_slipOn_25 : decode cX5_slipOn 25 = .ok (.iinc 2 (-1), 3) := by decide +kernel
theorem dX5_slipOn_28 : decode cX5_slipOn 28 = .ok (.goto (-21), 3) := by decide +kernel
theorem dX5_slipOn_31 : decode cX5_slipOn 31 = .ok (.aload_n 1, 1) := by decide +kernel
theorem dX5_slipOn_32 : decode cX5_slipOn 32 = .ok (.bipush 54, 2) := by decide +kernel
theorem dX5_slipOn_34 : decode cX5_slipOn 34 = .ok (.iconst 0, 1) := by decide +kernel
theorem dX5_slipOn_35 : decode cX5_slipOn 35 = .ok (.iastore, 1) := by decide +kernel
theorem dX5_slipOn_36 : decode cX5_slipOn 36 = .ok (.return_, 1) := by decide +kernel
theorem dX5_moveOn_0 : decode cX5_moveOn 0 = .ok (.aload_n 0, 1) := by decide +kernel
theorem dX5_moveOn_1 : decode cX5_moveOn 1 = .ok (.getfield 13, 3) := by decide +kernel
theorem dX5_moveOn_4 : decode cX5_moveOn 4 = .ok (.iconst 1, 1) := by decide +kernel
theorem dX5_moveOn_5 : decode cX5_moveOn 5 = .ok (.isub, 1) := by decide +kernel
theorem dX5_moveOn_6 : decode cX5_moveOn 6 = .ok (.istore_n 2, 1) := by decide +kernel
theorem dX5_moveOn_7 : decode cX5_moveOn 7 = .ok (.iload_n 2, 1) := by decide +kernel
theorem dX5_moveOn_8 : decode cX5_moveOn 8 = .ok (.ifCond .le 35, 3) := by decide +kernel
theorem dX5_moveOn_11 : decode cX5_moveOn 11 = .ok (.iconst 0, 1) := by decide +kernel
theorem dX5_moveOn_12 : decode cX5_moveOn 12 = .ok (.istore_n 3, 1) := by decide +kernel
theorem dX5_moveOn_13 : decode cX5_moveOn 13 = .ok (.iload_n 3, 1) := by decide +kernel
theorem dX5_moveOn_14 : decode cX5_moveOn 14 = .ok (.bipush 54, 2) := by decide +kernel
theorem dX5_moveOn_16 : decode cX5_moveOn 16 = .ok (.if_icmp .ge 21, 3) := by decide +kernel
theorem dX5_moveOn_19 : decode cX5_moveOn 19 = .ok (.aload_n 1, 1) := by decide +kernel
theorem dX5_moveOn_20 : decode cX5_moveOn 20 = .ok (.iload_n 3, 1) := by decide +kernel
theorem dX5_moveOn_21 : decode cX5_moveOn 21 = .ok (.iload_n 2, 1) := by decide +kernel
theorem dX5_moveOn_22 : decode cX5_moveOn 22 = .ok (.iadd, 1) := by decide +kernel
theorem dX5_moveOn_23 : decode cX5_moveOn 23 = .ok (.aload_n 1, 1) := by decide +kernel
theorem dX5_moveOn_24 : decode cX5_moveOn 24 = .ok (.iload_n 3, 1) := by decide +kernel
theorem dX5_moveOn_25 : decode cX5_moveOn 25 = .ok (.iload_n 2, 1) := by decide +kernel
theorem dX5_moveOn_26 : decode cX5_moveOn 26 = .ok (.iadd, 1) := by decide +kernel
theorem dX5_moveOn_27 : decode cX5_moveOn 27 = .ok (.iconst 1, 1) := by decide +kernel
theorem dX5_moveOn_28 : decode cX5_moveOn 28 = .ok (.isub, 1) := by decide +kernel
theorem dX5_moveOn_29 : decode cX5_moveOn 29 = .ok (.iaload, 1) := by decide +kernel
theorem dX5_moveOn_30 : decode cX5_moveOn 30 = .ok (.iastore, 1) := by decide +kernel
theorem dX5_moveOn_31 : decode cX5_moveOn 31 = .ok (.iinc 3 9, 3) := by decide +kernel
theorem dX5_moveOn_34 : decode cX5_moveOn 34 = .ok (.goto (-21), 3) := by decide +kernel
theorem dX5_moveOn_37 : decode cX5_moveOn 37 = .ok (.iinc 2 (-1), 3) := by decide +kernel
theorem dX5_moveOn_40 : decode cX5_moveOn 40 = .ok (.goto (-33), 3) := by decide +kernel
theorem dX5_moveOn_43 : decode cX5_moveOn 43 = .ok (.aload_n 0, 1) := by decide +kernel
theorem dX5_moveOn_44 : decode cX5_moveOn 44 = .ok (.aload_n 1, 1) := by decide +kernel
theorem dX5_moveOn_45 : decode cX5_moveOn 45 = .ok (.invokevirtual 153, 3) := by decide +kernel
theorem dX5_moveOn_48 : decode cX5_moveOn 48 = .ok (.aload_n 0, 1) := by decide +kernel
theorem dX5_moveOn_49 : decode cX5_moveOn 49 = .ok (.aload_n 1, 1) := by decide +kernel
theorem dX5_moveOn_50 : decode cX5_moveOn 50 = .ok (.iconst 0, 1) := by decide +kernel
theorem dX5_moveOn_51 : decode cX5_moveOn 51 = .ok (.invokevirtual 149, 3) := by decide +kernel
theorem dX5_moveOn_54 : decode cX5_moveOn 54 = .ok (.aload_n 0, 1) := by decide +kernel
theorem dX5_moveOn_55 : decode cX5_moveOn 55 = .ok (.dup, 1) := by decide +kernel
theorem dX5_moveOn_56 : decode cX5_moveOn 56 = .ok (.getfield 69, 3) := by decide +kernel
theorem dX5_moveOn_59 : decode cX5_moveOn 59 = .ok (.aload_n 0, 1) := by decide +kernel
theorem dX5_moveOn_60 : decode cX5_moveOn 60 = .ok (.getfield 69, 3) := by decide +kernel
theorem dX5_moveOn_63 : decode cX5_moveOn 63 = .ok (.bipush (-9), 2) := by decide +kernel
theorem dX5_moveOn_65 : decode cX5_moveOn 65 = .ok (.if_icmp .ne 7, 3) := by decide +kernel
theorem dX5_moveOn_68 : decode cX5_moveOn 68 = .ok (.iconst 0, 1) := by decide +kernel
theorem dX5_moveOn_69 : decode cX5_moveOn 69 = .ok (.goto 4, 3) := by decide +kernel
theorem dX5_moveOn_72 : decode cX5_moveOn 72 = .ok (.iconst 1, 1) := by decide +kernel
theorem dX5_moveOn_73 : decode cX5_moveOn 73 = .ok (.iadd, 1) := by decide +kernel
theorem dX5_moveOn_74 : decode cX5_moveOn 74 = .ok (.putfield 69, 3) := by decide +kernel
theorem dX5_moveOn_77 : decode cX5_moveOn 77 = .ok (.aload_n 1, 1) := by decide +kernel
theorem dX5_moveOn_78 : decode cX5_moveOn 78 = .ok (.bipush 78, 2) := by decide +kernel
theorem dX5_moveOn_80 : decode cX5_moveOn 80 = .ok (.iaload, 1) := by decide +kernel
theorem dX5_moveOn_81 : decode cX5_moveOn 81 = .ok (.ifCond .le 73, 3) := by decide +kernel
theorem dX5_moveOn_84 : decode cX5_moveOn 84 = .ok (.aload_n 1, 1) := by decide +kernel
theorem dX5_moveOn_85 : decode cX5_moveOn 85 = .ok (.iconst 0, 1) := by decide +kernel
theorem dX5_moveOn_86 : decode cX5_moveOn 86 = .ok (.aload_n 1, 1) := by decide +kernel
theorem dX5_moveOn_87 : decode cX5_moveOn 87 = .ok (.bipush 79, 2) := by decide +kernel
theorem dX5_moveOn_89 : decode cX5_moveOn 89 = .ok (.iaload, 1) := by decide +kernel
theorem dX5_moveOn_90 : decode cX5_moveOn 90 = .ok (.ifCond .le 7, 3) := by decide +kernel
theorem dX5_moveOn_93 : decode cX5_moveOn 93 = .ok (.iconst 1, 1) := by decide +kernel
theorem dX5_moveOn_94 : decode cX5_moveOn 94 = .ok (.goto 4, 3) := by decide +kernel
theorem dX5_moveOn_97 : decode cX5_moveOn 97 = .ok (.iconst 0, 1) := by decide +kernel
theorem dX5_moveOn_98 : decode cX5_moveOn 98 = .ok (.iastore, 1) := by decide +kernel
theorem dX5_moveOn_99 : decode cX5_moveOn 99 = .ok (.aload_n 1, 1) := by decide +kernel
theorem dX5_moveOn_100 : decode cX5_moveOn 100 = .ok (.bipush 45, 2) := by decide +kernel
theorem dX5_moveOn_102 : decode cX5_moveOn 102 = .ok (.aload_n 1, 1) := by decide +kernel
theorem dX5_moveOn_103 : decode cX5_moveOn 103 = .ok (.bipush 79, 2) := by decide +kernel
theorem dX5_moveOn_105 : decode cX5_moveOn 105 = .ok (.iaload, 1) := by decide +kernel
theorem dX5_moveOn_106 : decode cX5_moveOn 106 = .ok (.iconst 2, 1) := by decide +kernel
theorem dX5_moveOn_107 : decode cX5_moveOn 107 = .ok (.if_icmp .ne 7, 3) := by decide +kernel
theorem dX5_moveOn_110 : decode cX5_moveOn 110 = .ok (.iconst 1, 1) := by decide +kernel
theorem dX5_moveOn_111 : decode cX5_moveOn 111 = .ok (.goto 4, 3) := by decide +kernel
theorem dX5_moveOn_114 : decode cX5_moveOn 114 = .ok (.iconst 0, 1) := by decide +kernel
theorem dX5_moveOn_115 : decode cX5_moveOn 115 = .ok (.iastore, 1) := by decide +kernel
theorem dX5_moveOn_116 : decode cX5_moveOn 116 = .ok (.aload_n 1, 1) := by decide +kernel
theorem dX5_moveOn_117 : decode cX5_moveOn 117 = .ok (.bipush 78, 2) := by decide +kernel
theorem dX5_moveOn_119 : decode cX5_moveOn 119 = .ok (.dup2, 1) := by decide +kernel
theorem dX5_moveOn_120 : decode cX5_moveOn 120 = .ok (.iaload, 1) := by decide +kernel
theorem dX5_moveOn_121 : decode cX5_moveOn 121 = .ok (.iconst 1, 1) := by decide +kernel
theorem dX5_moveOn_122 : decode cX5_moveOn 122 = .ok (.isub, 1) := by decide +kernel
theorem dX5_moveOn_123 : decode cX5_moveOn 123 = .ok (.iastore, 1) := by decide +kernel
theorem dX5_moveOn_124 : decode cX5_moveOn 124 = .ok (.iconst 0, 1) := by decide +kernel
theorem dX5_moveOn_125 : decode cX5_moveOn 125 = .ok (.istore_n 2, 1) := by decide +kernel
theorem dX5_moveOn_126 : decode cX5_moveOn 126 = .ok (.iload_n 2, 1) := by decide +kernel
theorem dX5_moveOn_127 : decode cX5_moveOn 127 = .ok (.aload_n 1, 1) := by decide +kernel
theorem dX5_moveOn_128 : decode cX5_moveOn 128 = .ok (.bipush 78, 2) := by decide +kernel
theorem dX5_moveOn_130 : decode cX5_moveOn 130 = .ok (.iaload, 1) := by decide +kernel
theorem dX5_moveOn_131 : decode cX5_moveOn 131 = .ok (.if_icmp .ge 23, 3) := by decide +kernel
theorem dX5_moveOn_134 : decode cX5_moveOn 134 = .ok (.aload_n 1, 1) := by decide +kernel
theorem dX5_moveOn_135 : decode cX5_moveOn 135 = .ok (.bipush 79, 2) := by decide +kernel
theorem dX5_moveOn_137 : decode cX5_moveOn 137 = .ok (.iload_n 2, 1) := by decide +kernel
theorem dX5_moveOn_138 : decode cX5_moveOn 138 = .ok (.iadd, 1) := by decide +kernel
theorem dX5_moveOn_139 : decode cX5_moveOn 139 = .ok (.aload_n 1, 1) := by decide +kernel
theorem dX5_moveOn_140 : decode cX5_moveOn 140 = .ok (.bipush 79, 2) := by decide +kernel
theorem dX5_moveOn_142 : decode cX5_moveOn 142 = .ok (.iload_n 2, 1) := by decide +kernel
theorem dX5_moveOn_143 : decode cX5_moveOn 143 = .ok (.iadd, 1) := by decide +kernel
theorem dX5_moveOn_144 : decode cX5_moveOn 144 = .ok (.iconst 1, 1) := by decide +kernel
theorem dX5_moveOn_145 : decode cX5_moveOn 145 = .ok (.iadd, 1) := by decide +kernel
theorem dX5_moveOn_146 : decode cX5_moveOn 146 = .ok (.iaload, 1) := by decide +kernel
theorem dX5_moveOn_147 : decode cX5_moveOn 147 = .ok (.iastore, 1) := by decide +kernel
theorem dX5_moveOn_148 : decode cX5_moveOn 148 = .ok (.iinc 2 1, 3) := by decide +kernel
theorem dX5_moveOn_151 : decode cX5_moveOn 151 = .ok (.goto (-25), 3) := by decide +kernel
theorem dX5_moveOn_154 : decode cX5_moveOn 154 = .ok (.return_, 1) := by decide +kernel
theorem dX5_fillOn_0 : decode cX5_fillOn 0 = .ok (.iconst 0, 1) := by decide +kernel
theorem dX5_fillOn_1 : decode cX5_fillOn 1 = .ok (.istore_n 2, 1) := by decide +kernel
theorem dX5_fillOn_2 : decode cX5_fillOn 2 = .ok (.iload_n 2, 1) := by decide +kernel
theorem dX5_fillOn_3 : decode cX5_fillOn 3 = .ok (.aload_n 0, 1) := by decide +kernel
theorem dX5_fillOn_4 : decode cX5_fillOn 4 = .ok (.getfield 13, 3) := by decide +kernel
theorem dX5_fillOn_7 : decode cX5_fillOn 7 = .ok (.if_icmp .ge 38, 3) := by decide +kernel
theorem dX5_fillOn_10 : decode cX5_fillOn 10 = .ok (.aload_n 1, 1) := by decide +kernel
theorem dX5_fillOn_11 : decode cX5_fillOn 11 = .ok (.bipush 45, 2) := by decide +kernel
theorem dX5_fillOn_13 : decode cX5_fillOn 13 = .ok (.iload_n 2, 1) := by decide +kernel
theorem dX5_fillOn_14 : decode cX5_fillOn 14 = .ok (.iadd, 1) := by decide +kernel
theorem dX5_fillOn_15 : decode cX5_fillOn 15 = .ok (.iaload, 1) := by decide +kernel
theorem dX5_fillOn_16 : decode cX5_fillOn 16 = .ok (.iconst 1, 1) := by decide +kernel
theorem dX5_fillOn_17 : decode cX5_fillOn 17 = .ok (.if_icmp .ne 22, 3) := by decide +kernel
theorem dX5_fillOn_20 : decode cX5_fillOn 20 = .ok (.aload_n 1, 1) := by decide +kernel
theorem dX5_fillOn_21 : decode cX5_fillOn 21 = .ok (.bipush 9, 2) := by decide +kernel
theorem dX5_fillOn_23 : decode cX5_fillOn 23 = .ok (.iload_n 2, 1) := by decide +kernel
theorem dX5_fillOn_24 : decode cX5_fillOn 24 = .ok (.iadd, 1) := by decide +kernel
theorem dX5_fillOn_25 : decode cX5_fillOn 25 = .ok (.iaload, 1) := by decide +kernel
theorem dX5_fillOn_26 : decode cX5_fillOn 26 = .ok (.ifCond .le 13, 3) := by decide +kernel
theorem dX5_fillOn_29 : decode cX5_fillOn 29 = .ok (.aload_n 1, 1) := by decide +kernel
theorem dX5_fillOn_30 : decode cX5_fillOn 30 = .ok (.bipush 9, 2) := by decide +kernel
theorem dX5_fillOn_32 : decode cX5_fillOn 32 = .ok (.iload_n 2, 1) := by decide +kernel
theorem dX5_fillOn_33 : decode cX5_fillOn 33 = .ok (.iadd, 1) := by decide +kernel
theorem dX5_fillOn_34 : decode cX5_fillOn 34 = .ok (.dup2, 1) := by decide +kernel
theorem dX5_fillOn_35 : decode cX5_fillOn 35 = .ok (.iaload, 1) := by decide +kernel
theorem dX5_fillOn_36 : decode cX5_fillOn 36 = .ok (.iconst 1, 1) := by decide +kernel
theorem dX5_fillOn_37 : decode cX5_fillOn 37 = .ok (.isub, 1) := by decide +kernel
theorem dX5_fillOn_38 : decode cX5_fillOn 38 = .ok (.iastore, 1) := by decide +kernel
theorem dX5_fillOn_39 : decode cX5_fillOn 39 = .ok (.iinc 2 1, 3) := by decide +kernel
theorem dX5_fillOn_42 : decode cX5_fillOn 42 = .ok (.goto (-40), 3) := by decide +kernel
theorem dX5_fillOn_45 : decode cX5_fillOn 45 = .ok (.aload_n 1, 1) := by decide +kernel
theorem dX5_fillOn_46 : decode cX5_fillOn 46 = .ok (.iconst 0, 1) := by decide +kernel
theorem dX5_fillOn_47 : decode cX5_fillOn 47 = .ok (.iaload, 1) := by decide +kernel
theorem dX5_fillOn_48 : decode cX5_fillOn 48 = .ok (.iconst 1, 1) := by decide +kernel
theorem dX5_fillOn_49 : decode cX5_fillOn 49 = .ok (.if_icmp .ne 60, 3) := by decide +kernel
theorem dX5_fillOn_52 : decode cX5_fillOn 52 = .ok (.aload_n 0, 1) := by decide +kernel
theorem dX5_fillOn_53 : decode cX5_fillOn 53 = .ok (.getfield 76, 3) := by decide +kernel
theorem dX5_fillOn_56 : decode cX5_fillOn 56 = .ok (.ifCond .le 53, 3) := by decide +kernel
theorem dX5_fillOn_59 : decode cX5_fillOn 59 = .ok (.aload_n 1, 1) := by decide +kernel
theorem dX5_fillOn_60 : decode cX5_fillOn 60 = .ok (.bipush 71, 2) := by decide +kernel
theorem dX5_fillOn_62 : decode cX5_fillOn 62 = .ok (.iaload, 1) := by decide +kernel
theorem dX5_fillOn_63 : decode cX5_fillOn 63 = .ok (.aload_n 0, 1) := by decide +kernel
theorem dX5_fillOn_64 : decode cX5_fillOn 64 = .ok (.getfield 76, 3) := by decide +kernel
theorem dX5_fillOn_67 : decode cX5_fillOn 67 = .ok (.irem, 1) := by decide +kernel
theorem dX5_fillOn_68 : decode cX5_fillOn 68 = .ok (.istore_n 2, 1) := by decide +kernel
theorem dX5_fillOn_69 : decode cX5_fillOn 69 = .ok (.aload_n 1, 1) := by decide +kernel
theorem dX5_fillOn_70 : decode cX5_fillOn 70 = .ok (.bipush 9, 2) := by decide +kernel
theorem dX5_fillOn_72 : decode cX5_fillOn 72 = .ok (.aload_n 0, 1) := by decide +kernel
theorem dX5_fillOn_73 : decode cX5_fillOn 73 = .ok (.getfield 66, 3) := by decide +kernel
theorem dX5_fillOn_76 : decode cX5_fillOn 76 = .ok (.iload_n 2, 1) := by decide +kernel
theorem dX5_fillOn_77 : decode cX5_fillOn 77 = .ok (.invokestatic 157, 3) := by decide +kernel
theorem dX5_fillOn_80 : decode cX5_fillOn 80 = .ok (.ifCond .eq 22, 3) := by decide +kernel
theorem dX5_fillOn_83 : decode cX5_fillOn 83 = .ok (.aload_n 1, 1) := by decide +kernel
theorem dX5_fillOn_84 : decode cX5_fillOn 84 = .ok (.bipush 63, 2) := by decide +kernel
theorem dX5_fillOn_86 : decode cX5_fillOn 86 = .ok (.iload_n 2, 1) := by decide +kernel
theorem dX5_fillOn_87 : decode cX5_fillOn 87 = .ok (.iadd, 1) := by decide +kernel
theorem dX5_fillOn_88 : decode cX5_fillOn 88 = .ok (.iaload, 1) := by decide +kernel
theorem dX5_fillOn_89 : decode cX5_fillOn 89 = .ok (.aload_n 0, 1) := by decide +kernel
theorem dX5_fillOn_90 : decode cX5_fillOn 90 = .ok (.getfield 20, 3) := by decide +kernel
theorem dX5_fillOn_93 : decode cX5_fillOn 93 = .ok (.iload_n 2, 1) := by decide +kernel
theorem dX5_fillOn_94 : decode cX5_fillOn 94 = .ok (.iaload, 1) := by decide +kernel
theorem dX5_fillOn_95 : decode cX5_fillOn 95 = .ok (.iadd, 1) := by decide +kernel
theorem dX5_fillOn_96 : decode cX5_fillOn 96 = .ok (.invokestatic 160, 3) := by decide +kernel
theorem dX5_fillOn_99 : decode cX5_fillOn 99 = .ok (.goto 4, 3) := by decide +kernel
theorem dX5_fillOn_102 : decode cX5_fillOn 102 = .ok (.iconst 0, 1) := by decide +kernel
theorem dX5_fillOn_103 : decode cX5_fillOn 103 = .ok (.iastore, 1) := by decide +kernel
theorem dX5_fillOn_104 : decode cX5_fillOn 104 = .ok (.aload_n 1, 1) := by decide +kernel
theorem dX5_fillOn_105 : decode cX5_fillOn 105 = .ok (.bipush 18, 2) := by decide +kernel
theorem dX5_fillOn_107 : decode cX5_fillOn 107 = .ok (.iload_n 2, 1) := by decide +kernel
theorem dX5_fillOn_108 : decode cX5_fillOn 108 = .ok (.iastore, 1) := by decide +kernel
theorem dX5_fillOn_109 : decode cX5_fillOn 109 = .ok (.aload_n 0, 1) := by decide +kernel
theorem dX5_fillOn_110 : decode cX5_fillOn 110 = .ok (.getfield 17, 3) := by decide +kernel
theorem dX5_fillOn_113 : decode cX5_fillOn 113 = .ok (.iconst 0, 1) := by decide +kernel
theorem dX5_fillOn_114 : decode cX5_fillOn 114 = .ok (.iaload, 1) := by decide +kernel
theorem dX5_fillOn_115 : decode cX5_fillOn 115 = .ok (.istore_n 2, 1) := by decide +kernel
theorem dX5_fillOn_116 : decode cX5_fillOn 116 = .ok (.aload_n 1, 1) := by decide +kernel
theorem dX5_fillOn_117 : decode cX5_fillOn 117 = .ok (.bipush 18, 2) := by decide +kernel
theorem dX5_fillOn_119 : decode cX5_fillOn 119 = .ok (.iload_n 2, 1) := by decide +kernel
theorem dX5_fillOn_120 : decode cX5_fillOn 120 = .ok (.iadd, 1) := by decide +kernel
theorem dX5_fillOn_121 : decode cX5_fillOn 121 = .ok (.iaload, 1) := by decide +kernel
theorem dX5_fillOn_122 : decode cX5_fillOn 122 = .ok (.istore_n 3, 1) := by decide +kernel
theorem dX5_fillOn_123 : decode cX5_fillOn 123 = .ok (.aload_n 1, 1) := by decide +kernel
theorem dX5_fillOn_124 : decode cX5_fillOn 124 = .ok (.iconst 0, 1) := by decide +kernel
theorem dX5_fillOn_125 : decode cX5_fillOn 125 = .ok (.iload_n 2, 1) := by decide +kernel
theorem dX5_fillOn_126 : decode cX5_fillOn 126 = .ok (.iadd, 1) := by decide +kernel
theorem dX5_fillOn_127 : decode cX5_fillOn 127 = .ok (.iaload, 1) := by decide +kernel
theorem dX5_fillOn_128 : decode cX5_fillOn 128 = .ok (.iconst 1, 1) := by decide +kernel
theorem dX5_fillOn_129 : decode cX5_fillOn 129 = .ok (.if_icmp .ne 49, 3) := by decide +kernel
theorem dX5_fillOn_132 : decode cX5_fillOn 132 = .ok (.iload_n 3, 1) := by decide +kernel
theorem dX5_fillOn_133 : decode cX5_fillOn 133 = .ok (.bipush (-9), 2) := by decide +kernel
theorem dX5_fillOn_135 : decode cX5_fillOn 135 = .ok (.if_icmp .eq 43, 3) := by decide +kernel
theorem dX5_fillOn_138 : decode cX5_fillOn 138 = .ok (.aload_n 0, 1) := by decide +kernel
theorem dX5_fillOn_139 : decode cX5_fillOn 139 = .ok (.getfield 66, 3) := by decide +kernel
theorem dX5_fillOn_142 : decode cX5_fillOn 142 = .ok (.iload_n 3, 1) := by decide +kernel
theorem dX5_fillOn_143 : decode cX5_fillOn 143 = .ok (.invokestatic 157, 3) := by decide +kernel
theorem dX5_fillOn_146 : decode cX5_fillOn 146 = .ok (.ifCond .eq 32, 3) := by decide +kernel
theorem dX5_fillOn_149 : decode cX5_fillOn 149 = .ok (.aload_n 1, 1) := by decide +kernel
theorem dX5_fillOn_150 : decode cX5_fillOn 150 = .ok (.bipush 63, 2) := by decide +kernel
theorem dX5_fillOn_152 : decode cX5_fillOn 152 = .ok (.iload_n 3, 1) := by decide +kernel
theorem dX5_fillOn_153 : decode cX5_fillOn 153 = .ok (.iadd, 1) := by decide +kernel
theorem dX5_fillOn_154 : decode cX5_fillOn 154 = .ok (.aload_n 1, 1) := by decide +kernel
theorem dX5_fillOn_155 : decode cX5_fillOn 155 = .ok (.bipush 63, 2) := by decide +kernel
theorem dX5_fillOn_157 : decode cX5_fillOn 157 = .ok (.iload_n 3, 1) := by decide +kernel
theorem dX5_fillOn_158 : decode cX5_fillOn 158 = .ok (.iadd, 1) := by decide +kernel
theorem dX5_fillOn_159 : decode cX5_fillOn 159 = .ok (.iaload, 1) := by decide +kernel
theorem dX5_fillOn_160 : decode cX5_fillOn 160 = .ok (.aload_n 0, 1) := by decide +kernel
theorem dX5_fillOn_161 : decode cX5_fillOn 161 = .ok (.getfield 130, 3) := by decide +kernel
theorem dX5_fillOn_164 : decode cX5_fillOn 164 = .ok (.aload_n 1, 1) := by decide +kernel
theorem dX5_fillOn_165 : decode cX5_fillOn 165 = .ok (.bipush 9, 2) := by decide +kernel
theorem dX5_fillOn_167 : decode cX5_fillOn 167 = .ok (.iload_n 2, 1) := by decide +kernel
theorem dX5_fillOn_168 : decode cX5_fillOn 168 = .ok (.iadd, 1) := by decide +kernel
theorem dX5_fillOn_169 : decode cX5_fillOn 169 = .ok (.iaload, 1) := by decide +kernel
theorem dX5_fillOn_170 : decode cX5_fillOn 170 = .ok (.isub, 1) := by decide +kernel
theorem dX5_fillOn_171 : decode cX5_fillOn 171 = .ok (.iconst 2, 1) := by decide +kernel
theorem dX5_fillOn_172 : decode cX5_fillOn 172 = .ok (.idiv, 1) := by decide +kernel
theorem dX5_fillOn_173 : decode cX5_fillOn 173 = .ok (.iadd, 1) := by decide +kernel
theorem dX5_fillOn_174 : decode cX5_fillOn 174 = .ok (.invokestatic 160, 3) := by decide +kernel
theorem dX5_fillOn_177 : decode cX5_fillOn 177 = .ok (.iastore, 1) := by decide +kernel
theorem dX5_fillOn_178 : decode cX5_fillOn 178 = .ok (.return_, 1) := by decide +kernel
theorem dX5_dress_0 : decode cX5_dress 0 = .ok (.aload_n 1, 1) := by decide +kernel
theorem dX5_dress_1 : decode cX5_dress 1 = .ok (.iconst 0, 1) := by decide +kernel
theorem dX5_dress_2 : decode cX5_dress 2 = .ok (.iload_n 2, 1) := by decide +kernel
theorem dX5_dress_3 : decode cX5_dress 3 = .ok (.iadd, 1) := by decide +kernel
theorem dX5_dress_4 : decode cX5_dress 4 = .ok (.iaload, 1) := by decide +kernel
theorem dX5_dress_5 : decode cX5_dress 5 = .ok (.iconst 1, 1) := by decide +kernel
theorem dX5_dress_6 : decode cX5_dress 6 = .ok (.if_icmp .ne 24, 3) := by decide +kernel
theorem dX5_dress_9 : decode cX5_dress 9 = .ok (.aload_n 1, 1) := by decide +kernel
theorem dX5_dress_10 : decode cX5_dress 10 = .ok (.iload 4, 2) := by decide +kernel
theorem dX5_dress_12 : decode cX5_dress 12 = .ok (.iaload, 1) := by decide +kernel
theorem dX5_dress_13 : decode cX5_dress 13 = .ok (.ifCond .le 17, 3) := by decide +kernel
theorem dX5_dress_16 : decode cX5_dress 16 = .ok (.aload_n 1, 1) := by decide +kernel
theorem dX5_dress_17 : decode cX5_dress 17 = .ok (.iload_n 3, 1) := by decide +kernel
theorem dX5_dress_18 : decode cX5_dress 18 = .ok (.iload_n 2, 1) := by decide +kernel
theorem dX5_dress_19 : decode cX5_dress 19 = .ok (.iadd, 1) := by decide +kernel
theorem dX5_dress_20 : decode cX5_dress 20 = .ok (.iconst 1, 1) := by decide +kernel
theorem dX5_dress_21 : decode cX5_dress 21 = .ok (.iastore, 1) := by decide +kernel
theorem dX5_dress_22 : decode cX5_dress 22 = .ok (.aload_n 1, 1) := by decide +kernel
theorem dX5_dress_23 : decode cX5_dress 23 = .ok (.iload 4, 2) := by decide +kernel
theorem dX5_dress_25 : decode cX5_dress 25 = .ok (.dup2, 1) := by decide +kernel
theorem dX5_dress_26 : decode cX5_dress 26 = .ok (.iaload, 1) := by decide +kernel
theorem dX5_dress_27 : decode cX5_dress 27 = .ok (.iconst 1, 1) := by decide +kernel
theorem dX5_dress_28 : decode cX5_dress 28 = .ok (.isub, 1) := by decide +kernel
theorem dX5_dress_29 : decode cX5_dress 29 = .ok (.iastore, 1) := by decide +kernel
theorem dX5_dress_30 : decode cX5_dress 30 = .ok (.return_, 1) := by decide +kernel
theorem dX5_check_0 : decode cX5_check 0 = .ok (.aload_n 0, 1) := by decide +kernel
theorem dX5_check_1 : decode cX5_check 1 = .ok (.getfield 17, 3) := by decide +kernel
theorem dX5_check_4 : decode cX5_check 4 = .ok (.iconst 3, 1) := by decide +kernel
theorem dX5_check_5 : decode cX5_check 5 = .ok (.iaload, 1) := by decide +kernel
theorem dX5_check_6 : decode cX5_check 6 = .ok (.istore_n 2, 1) := by decide +kernel
theorem dX5_check_7 : decode cX5_check 7 = .ok (.aload_n 1, 1) := by decide +kernel
theorem dX5_check_8 : decode cX5_check 8 = .ok (.iconst 0, 1) := by decide +kernel
theorem dX5_check_9 : decode cX5_check 9 = .ok (.iload_n 2, 1) := by decide +kernel
theorem dX5_check_10 : decode cX5_check 10 = .ok (.iadd, 1) := by decide +kernel
theorem dX5_check_11 : decode cX5_check 11 = .ok (.iaload, 1) := by decide +kernel
theorem dX5_check_12 : decode cX5_check 12 = .ok (.ifCond .ne 4, 3) := by decide +kernel
theorem dX5_check_15 : decode cX5_check 15 = .ok (.return_, 1) := by decide +kernel
theorem dX5_check_16 : decode cX5_check 16 = .ok (.aload_n 0, 1) := by decide +kernel
theorem dX5_check_17 : decode cX5_check 17 = .ok (.aload_n 1, 1) := by decide +kernel
theorem dX5_check_18 : decode cX5_check 18 = .ok (.iload_n 2, 1) := by decide +kernel
theorem dX5_check_19 : decode cX5_check 19 = .ok (.invokevirtual 142, 3) := by decide +kernel
theorem dX5_check_22 : decode cX5_check 22 = .ok (.ifCond .ne 13, 3) := by decide +kernel
theorem dX5_check_25 : decode cX5_check 25 = .ok (.aload_n 1, 1) := by decide +kernel
theorem dX5_check_26 : decode cX5_check 26 = .ok (.bipush 54, 2) := by decide +kernel
theorem dX5_check_28 : decode cX5_check 28 = .ok (.iload_n 2, 1) := by decide +kernel
theorem dX5_check_29 : decode cX5_check 29 = .ok (.iadd, 1) := by decide +kernel
theorem dX5_check_30 : decode cX5_check 30 = .ok (.iconst 1, 1) := by decide +kernel
theorem dX5_check_31 : decode cX5_check 31 = .ok (.iastore, 1) := by decide +kernel
theorem dX5_check_32 : decode cX5_check 32 = .ok (.goto 50, 3) := by decide +kernel
theorem dX5_check_35 : decode cX5_check 35 = .ok (.aload_n 1, 1) := by decide +kernel
theorem dX5_check_36 : decode cX5_check 36 = .ok (.bipush 54, 2) := by decide +kernel
theorem dX5_check_38 : decode cX5_check 38 = .ok (.iload_n 2, 1) := by decide +kernel
theorem dX5_check_39 : decode cX5_check 39 = .ok (.iadd, 1) := by decide +kernel
theorem dX5_check_40 : decode cX5_check 40 = .ok (.iaload, 1) := by decide +kernel
theorem dX5_check_41 : decode cX5_check 41 = .ok (.ifCond .ne 41, 3) := by decide +kernel
theorem dX5_check_44 : decode cX5_check 44 = .ok (.aload_n 1, 1) := by decide +kernel
theorem dX5_check_45 : decode cX5_check 45 = .ok (.bipush 77, 2) := by decide +kernel
theorem dX5_check_47 : decode cX5_check 47 = .ok (.dup2, 1) := by decide +kernel
theorem dX5_check_48 : decode cX5_check 48 = .ok (.iaload, 1) := by decide +kernel
theorem dX5_check_49 : decode cX5_check 49 = .ok (.iconst 1, 1) := by decide +kernel
theorem dX5_check_50 : decode cX5_check 50 = .ok (.iadd, 1) := by decide +kernel
theorem dX5_check_51 : decode cX5_check 51 = .ok (.iastore, 1) := by decide +kernel
theorem dX5_check_52 : decode cX5_check 52 = .ok (.aload_n 1, 1) := by decide +kernel
theorem dX5_check_53 : decode cX5_check 53 = .ok (.bipush 54, 2) := by decide +kernel
theorem dX5_check_55 : decode cX5_check 55 = .ok (.iload_n 2, 1) := by decide +kernel
theorem dX5_check_56 : decode cX5_check 56 = .ok (.iadd, 1) := by decide +kernel
theorem dX5_check_57 : decode cX5_check 57 = .ok (.aload_n 0, 1) := by decide +kernel
theorem dX5_check_58 : decode cX5_check 58 = .ok (.getfield 136, 3) := by decide +kernel
theorem dX5_check_61 : decode cX5_check 61 = .ok (.ifCond .le 19, 3) := by decide +kernel
theorem dX5_check_64 : decode cX5_check 64 = .ok (.aload_n 1, 1) := by decide +kernel
theorem dX5_check_65 : decode cX5_check 65 = .ok (.bipush 77, 2) := by decide +kernel
theorem dX5_check_67 : decode cX5_check 67 = .ok (.iaload, 1) := by decide +kernel
theorem dX5_check_68 : decode cX5_check 68 = .ok (.aload_n 0, 1) := by decide +kernel
theorem dX5_check_69 : decode cX5_check 69 = .ok (.getfield 136, 3) := by decide +kernel
theorem dX5_check_72 : decode cX5_check 72 = .ok (.irem, 1) := by decide +kernel
theorem dX5_check_73 : decode cX5_check 73 = .ok (.ifCond .ne 7, 3) := by decide +kernel
theorem dX5_check_76 : decode cX5_check 76 = .ok (.iconst 2, 1) := by decide +kernel
theorem dX5_check_77 : decode cX5_check 77 = .ok (.goto 4, 3) := by decide +kernel
theorem dX5_check_80 : decode cX5_check 80 = .ok (.iconst 0, 1) := by decide +kernel
theorem dX5_check_81 : decode cX5_check 81 = .ok (.iastore, 1) := by decide +kernel
theorem dX5_check_82 : decode cX5_check 82 = .ok (.return_, 1) := by decide +kernel
theorem dX5_push_0 : decode cX5_push 0 = .ok (.aload_n 0, 1) := by decide +kernel
theorem dX5_push_1 : decode cX5_push 1 = .ok (.getfield 17, 3) := by decide +kernel
theorem dX5_push_4 : decode cX5_push 4 = .ok (.iconst 4, 1) := by decide +kernel
theorem dX5_push_5 : decode cX5_push 5 = .ok (.iaload, 1) := by decide +kernel
theorem dX5_push_6 : decode cX5_push 6 = .ok (.istore_n 3, 1) := by decide +kernel
theorem dX5_push_7 : decode cX5_push 7 = .ok (.aload_n 1, 1) := by decide +kernel
theorem dX5_push_8 : decode cX5_push 8 = .ok (.bipush 54, 2) := by decide +kernel
theorem dX5_push_10 : decode cX5_push 10 = .ok (.iload_n 3, 1) := by decide +kernel
theorem dX5_push_11 : decode cX5_push 11 = .ok (.iadd, 1) := by decide +kernel
theorem dX5_push_12 : decode cX5_push 12 = .ok (.iaload, 1) := by decide +kernel
theorem dX5_push_13 : decode cX5_push 13 = .ok (.istore 4, 2) := by decide +kernel
theorem dX5_push_15 : decode cX5_push 15 = .ok (.iload 4, 2) := by decide +kernel
theorem dX5_push_17 : decode cX5_push 17 = .ok (.ifCond .ne 4, 3) := by decide +kernel
theorem dX5_push_20 : decode cX5_push 20 = .ok (.return_, 1) := by decide +kernel
theorem dX5_push_21 : decode cX5_push 21 = .ok (.aload_n 1, 1) := by decide +kernel
theorem dX5_push_22 : decode cX5_push 22 = .ok (.iconst 0, 1) := by decide +kernel
theorem dX5_push_23 : decode cX5_push 23 = .ok (.iload_n 3, 1) := by decide +kernel
theorem dX5_push_24 : decode cX5_push 24 = .ok (.iadd, 1) := by decide +kernel
theorem dX5_push_25 : decode cX5_push 25 = .ok (.iaload, 1) := by decide +kernel
theorem dX5_push_26 : decode cX5_push 26 = .ok (.ifCond .eq 7, 3) := by decide +kernel
theorem dX5_push_29 : decode cX5_push 29 = .ok (.iload_n 2, 1) := by decide +kernel
theorem dX5_push_30 : decode cX5_push 30 = .ok (.ifCond .eq 9, 3) := by decide +kernel
theorem dX5_push_33 : decode cX5_push 33 = .ok (.aload_n 1, 1) := by decide +kernel
theorem dX5_push_34 : decode cX5_push 34 = .ok (.bipush 70, 2) := by decide +kernel
theorem dX5_push_36 : decode cX5_push 36 = .ok (.iconst 1, 1) := by decide +kernel
theorem dX5_push_37 : decode cX5_push 37 = .ok (.iastore, 1) := by decide +kernel
theorem dX5_push_38 : decode cX5_push 38 = .ok (.return_, 1) := by decide +kernel
theorem dX5_push_39 : decode cX5_push 39 = .ok (.aload_n 1, 1) := by decide +kernel
theorem dX5_push_40 : decode cX5_push 40 = .ok (.iload 4, 2) := by decide +kernel
theorem dX5_push_42 : decode cX5_push 42 = .ok (.iconst 1, 1) := by decide +kernel
theorem dX5_push_43 : decode cX5_push 43 = .ok (.if_icmp .ne 8, 3) := by decide +kernel
theorem dX5_push_46 : decode cX5_push 46 = .ok (.bipush 74, 2) := by decide +kernel
theorem dX5_push_48 : decode cX5_push 48 = .ok (.goto 5, 3) := by decide +kernel
theorem dX5_push_51 : decode cX5_push 51 = .ok (.bipush 75, 2) := by decide +kernel
theorem dX5_push_53 : decode cX5_push 53 = .ok (.dup2, 1) := by decide +kernel
theorem dX5_push_54 : decode cX5_push 54 = .ok (.iaload, 1) := by decide +kernel
theorem dX5_push_55 : decode cX5_push 55 = .ok (.iconst 1, 1) := by decide +kernel
theorem dX5_push_56 : decode cX5_push 56 = .ok (.iadd, 1) := by decide +kernel
theorem dX5_push_57 : decode cX5_push 57 = .ok (.iastore, 1) := by decide +kernel
theorem dX5_push_58 : decode cX5_push 58 = .ok (.aload_n 0, 1) := by decide +kernel
theorem dX5_push_59 : decode cX5_push 59 = .ok (.getfield 69, 3) := by decide +kernel
theorem dX5_push_62 : decode cX5_push 62 = .ok (.iload_n 3, 1) := by decide +kernel
theorem dX5_push_63 : decode cX5_push 63 = .ok (.if_icmp .ne 24, 3) := by decide +kernel
theorem dX5_push_66 : decode cX5_push 66 = .ok (.aload_n 0, 1) := by decide +kernel
theorem dX5_push_67 : decode cX5_push 67 = .ok (.iload 4, 2) := by decide +kernel
theorem dX5_push_69 : decode cX5_push 69 = .ok (.iconst 1, 1) := by decide +kernel
theorem dX5_push_70 : decode cX5_push 70 = .ok (.if_icmp .ne 7, 3) := by decide +kernel
theorem dX5_push_73 : decode cX5_push 73 = .ok (.iconst 3, 1) := by decide +kernel
theorem dX5_push_74 : decode cX5_push 74 = .ok (.goto 4, 3) := by decide +kernel
theorem dX5_push_77 : decode cX5_push 77 = .ok (.iconst 4, 1) := by decide +kernel
theorem dX5_push_78 : decode cX5_push 78 = .ok (.putfield 146, 3) := by decide +kernel
theorem dX5_push_81 : decode cX5_push 81 = .ok (.aload_n 0, 1) := by decide +kernel
theorem dX5_push_82 : decode cX5_push 82 = .ok (.bipush (-9), 2) := by decide +kernel
theorem dX5_push_84 : decode cX5_push 84 = .ok (.putfield 69, 3) := by decide +kernel
theorem dX5_push_87 : decode cX5_push 87 = .ok (.aload_n 0, 1) := by decide +kernel
theorem dX5_push_88 : decode cX5_push 88 = .ok (.aload_n 1, 1) := by decide +kernel
theorem dX5_push_89 : decode cX5_push 89 = .ok (.iload_n 3, 1) := by decide +kernel
theorem dX5_push_90 : decode cX5_push 90 = .ok (.invokevirtual 149, 3) := by decide +kernel
theorem dX5_push_93 : decode cX5_push 93 = .ok (.aload_n 1, 1) := by decide +kernel
theorem dX5_push_94 : decode cX5_push 94 = .ok (.bipush 54, 2) := by decide +kernel
theorem dX5_push_96 : decode cX5_push 96 = .ok (.iload_n 3, 1) := by decide +kernel
theorem dX5_push_97 : decode cX5_push 97 = .ok (.iadd, 1) := by decide +kernel
theorem dX5_push_98 : decode cX5_push 98 = .ok (.iconst 0, 1) := by decide +kernel
theorem dX5_push_99 : decode cX5_push 99 = .ok (.iastore, 1) := by decide +kernel
theorem dX5_push_100 : decode cX5_push 100 = .ok (.return_, 1) := by decide +kernel
theorem dX5_stepBy_0 : decode cX5_stepBy 0 = .ok (.aload_n 0, 1) := by decide +kernel
theorem dX5_stepBy_1 : decode cX5_stepBy 1 = .ok (.aload_n 1, 1) := by decide +kernel
theorem dX5_stepBy_2 : decode cX5_stepBy 2 = .ok (.invokevirtual 164, 3) := by decide +kernel
theorem dX5_stepBy_5 : decode cX5_stepBy 5 = .ok (.aload_n 0, 1) := by decide +kernel
theorem dX5_stepBy_6 : decode cX5_stepBy 6 = .ok (.aload_n 1, 1) := by decide +kernel
theorem dX5_stepBy_7 : decode cX5_stepBy 7 = .ok (.invokevirtual 167, 3) := by decide +kernel
theorem dX5_stepBy_10 : decode cX5_stepBy 10 = .ok (.aload_n 0, 1) := by decide +kernel
theorem dX5_stepBy_11 : decode cX5_stepBy 11 = .ok (.aload_n 1, 1) := by decide +kernel
theorem dX5_stepBy_12 : decode cX5_stepBy 12 = .ok (.invokevirtual 170, 3) := by decide +kernel
theorem dX5_stepBy_15 : decode cX5_stepBy 15 = .ok (.aload_n 0, 1) := by decide +kernel
theorem dX5_stepBy_16 : decode cX5_stepBy 16 = .ok (.aload_n 1, 1) := by decide +kernel
theorem dX5_stepBy_17 : decode cX5_stepBy 17 = .ok (.aload_n 0, 1) := by decide +kernel
theorem dX5_stepBy_18 : decode cX5_stepBy 18 = .ok (.getfield 17, 3) := by decide +kernel
theorem dX5_stepBy_21 : decode cX5_stepBy 21 = .ok (.iconst 1, 1) := by decide +kernel
theorem dX5_stepBy_22 : decode cX5_stepBy 22 = .ok (.iaload, 1) := by decide +kernel
theorem dX5_stepBy_23 : decode cX5_stepBy 23 = .ok (.bipush 27, 2) := by decide +kernel
theorem dX5_stepBy_25 : decode cX5_stepBy 25 = .ok (.bipush 67, 2) := by decide +kernel
theorem dX5_stepBy_27 : decode cX5_stepBy 27 = .ok (.invokevirtual 173, 3) := by decide +kernel
theorem dX5_stepBy_30 : decode cX5_stepBy 30 = .ok (.aload_n 0, 1) := by decide +kernel
theorem dX5_stepBy_31 : decode cX5_stepBy 31 = .ok (.aload_n 1, 1) := by decide +kernel
theorem dX5_stepBy_32 : decode cX5_stepBy 32 = .ok (.aload_n 0, 1) := by decide +kernel
theorem dX5_stepBy_33 : decode cX5_stepBy 33 = .ok (.getfield 17, 3) := by decide +kernel
theorem dX5_stepBy_36 : decode cX5_stepBy 36 = .ok (.iconst 2, 1) := by decide +kernel
theorem dX5_stepBy_37 : decode cX5_stepBy 37 = .ok (.iaload, 1) := by decide +kernel
theorem dX5_stepBy_38 : decode cX5_stepBy 38 = .ok (.bipush 36, 2) := by decide +kernel
theorem dX5_stepBy_40 : decode cX5_stepBy 40 = .ok (.bipush 68, 2) := by decide +kernel
theorem dX5_stepBy_42 : decode cX5_stepBy 42 = .ok (.invokevirtual 173, 3) := by decide +kernel
theorem dX5_stepBy_45 : decode cX5_stepBy 45 = .ok (.aload_n 0, 1) := by decide +kernel
theorem dX5_stepBy_46 : decode cX5_stepBy 46 = .ok (.aload_n 1, 1) := by decide +kernel
theorem dX5_stepBy_47 : decode cX5_stepBy 47 = .ok (.invokevirtual 177, 3) := by decide +kernel
theorem dX5_stepBy_50 : decode cX5_stepBy 50 = .ok (.aload_n 0, 1) := by decide +kernel
theorem dX5_stepBy_51 : decode cX5_stepBy 51 = .ok (.aload_n 1, 1) := by decide +kernel
theorem dX5_stepBy_52 : decode cX5_stepBy 52 = .ok (.iload_n 2, 1) := by decide +kernel
theorem dX5_stepBy_53 : decode cX5_stepBy 53 = .ok (.invokevirtual 180, 3) := by decide +kernel
theorem dX5_stepBy_56 : decode cX5_stepBy 56 = .ok (.aload_n 1, 1) := by decide +kernel
theorem dX5_stepBy_57 : decode cX5_stepBy 57 = .ok (.bipush 71, 2) := by decide +kernel
theorem dX5_stepBy_59 : decode cX5_stepBy 59 = .ok (.dup2, 1) := by decide +kernel
theorem dX5_stepBy_60 : decode cX5_stepBy 60 = .ok (.iaload, 1) := by decide +kernel
theorem dX5_stepBy_61 : decode cX5_stepBy 61 = .ok (.iconst 1, 1) := by decide +kernel
theorem dX5_stepBy_62 : decode cX5_stepBy 62 = .ok (.iadd, 1) := by decide +kernel
theorem dX5_stepBy_63 : decode cX5_stepBy 63 = .ok (.iastore, 1) := by decide +kernel
theorem dX5_stepBy_64 : decode cX5_stepBy 64 = .ok (.return_, 1) := by decide +kernel
theorem dX5_goOn_0 : decode cX5_goOn 0 = .ok (.iconst 0, 1) := by decide +kernel
theorem dX5_goOn_1 : decode cX5_goOn 1 = .ok (.istore_n 3, 1) := by decide +kernel
theorem dX5_goOn_2 : decode cX5_goOn 2 = .ok (.iload_n 3, 1) := by decide +kernel
theorem dX5_goOn_3 : decode cX5_goOn 3 = .ok (.iload_n 2, 1) := by decide +kernel
theorem dX5_goOn_4 : decode cX5_goOn 4 = .ok (.if_icmp .ge 34, 3) := by decide +kernel
theorem dX5_goOn_7 : decode cX5_goOn 7 = .ok (.aload_n 1, 1) := by decide +kernel
theorem dX5_goOn_8 : decode cX5_goOn 8 = .ok (.bipush 70, 2) := by decide +kernel
theorem dX5_goOn_10 : decode cX5_goOn 10 = .ok (.iaload, 1) := by decide +kernel
theorem dX5_goOn_11 : decode cX5_goOn 11 = .ok (.ifCond .ne 27, 3) := by decide +kernel
theorem dX5_goOn_14 : decode cX5_goOn 14 = .ok (.aload_n 0, 1) := by decide +kernel
theorem dX5_goOn_15 : decode cX5_goOn 15 = .ok (.aload_n 1, 1) := by decide +kernel
theorem dX5_goOn_16 : decode cX5_goOn 16 = .ok (.aload_n 1, 1) := by decide +kernel
theorem dX5_goOn_17 : decode cX5_goOn 17 = .ok (.bipush 69, 2) := by decide +kernel
theorem dX5_goOn_19 : decode cX5_goOn 19 = .ok (.iaload, 1) := by decide +kernel
theorem dX5_goOn_20 : decode cX5_goOn 20 = .ok (.iconst 1, 1) := by decide +kernel
theorem dX5_goOn_21 : decode cX5_goOn 21 = .ok (.if_icmp .ne 7, 3) := by decide +kernel
theorem dX5_goOn_24 : decode cX5_goOn 24 = .ok (.iconst 1, 1) := by decide +kernel
theorem dX5_goOn_25 : decode cX5_goOn 25 = .ok (.goto 4, 3) := by decide +kernel
theorem dX5_goOn_28 : decode cX5_goOn 28 = .ok (.iconst 0, 1) := by decide +kernel
theorem dX5_goOn_29 : decode cX5_goOn 29 = .ok (.invokevirtual 184, 3) := by decide +kernel
theorem dX5_goOn_32 : decode cX5_goOn 32 = .ok (.iinc 3 1, 3) := by decide +kernel
theorem dX5_goOn_35 : decode cX5_goOn 35 = .ok (.goto (-33), 3) := by decide +kernel
theorem dX5_goOn_38 : decode cX5_goOn 38 = .ok (.iload_n 3, 1) := by decide +kernel
theorem dX5_goOn_39 : decode cX5_goOn 39 = .ok (.ireturn, 1) := by decide +kernel
theorem dX5_bottles_0 : decode cX5_bottles 0 = .ok (.iconst 0, 1) := by decide +kernel
theorem dX5_bottles_1 : decode cX5_bottles 1 = .ok (.istore_n 2, 1) := by decide +kernel
theorem dX5_bottles_2 : decode cX5_bottles 2 = .ok (.iconst 0, 1) := by decide +kernel
theorem dX5_bottles_3 : decode cX5_bottles 3 = .ok (.istore_n 3, 1) := by decide +kernel
theorem dX5_bottles_4 : decode cX5_bottles 4 = .ok (.iload_n 3, 1) := by decide +kernel
theorem dX5_bottles_5 : decode cX5_bottles 5 = .ok (.aload_n 0, 1) := by decide +kernel
theorem dX5_bottles_6 : decode cX5_bottles 6 = .ok (.getfield 13, 3) := by decide +kernel
theorem dX5_bottles_9 : decode cX5_bottles 9 = .ok (.if_icmp .ge 19, 3) := by decide +kernel
theorem dX5_bottles_12 : decode cX5_bottles 12 = .ok (.iload_n 2, 1) := by decide +kernel
theorem dX5_bottles_13 : decode cX5_bottles 13 = .ok (.aload_n 1, 1) := by decide +kernel
theorem dX5_bottles_14 : decode cX5_bottles 14 = .ok (.iconst 0, 1) := by decide +kernel
theorem dX5_bottles_15 : decode cX5_bottles 15 = .ok (.iload_n 3, 1) := by decide +kernel
theorem dX5_bottles_16 : decode cX5_bottles 16 = .ok (.iadd, 1) := by decide +kernel
theorem dX5_bottles_17 : decode cX5_bottles 17 = .ok (.iaload, 1) := by decide +kernel
theorem dX5_bottles_18 : decode cX5_bottles 18 = .ok (.iload_n 3, 1) := by decide +kernel
theorem dX5_bottles_19 : decode cX5_bottles 19 = .ok (.ishl, 1) := by decide +kernel
theorem dX5_bottles_20 : decode cX5_bottles 20 = .ok (.ior, 1) := by decide +kernel
theorem dX5_bottles_21 : decode cX5_bottles 21 = .ok (.istore_n 2, 1) := by decide +kernel
theorem dX5_bottles_22 : decode cX5_bottles 22 = .ok (.iinc 3 1, 3) := by decide +kernel
theorem dX5_bottles_25 : decode cX5_bottles 25 = .ok (.goto (-21), 3) := by decide +kernel
theorem dX5_bottles_28 : decode cX5_bottles 28 = .ok (.iload_n 2, 1) := by decide +kernel
theorem dX5_bottles_29 : decode cX5_bottles 29 = .ok (.ireturn, 1) := by decide +kernel
theorem dX5_marks_0 : decode cX5_marks 0 = .ok (.iconst 0, 1) := by decide +kernel
theorem dX5_marks_1 : decode cX5_marks 1 = .ok (.istore_n 2, 1) := by decide +kernel
theorem dX5_marks_2 : decode cX5_marks 2 = .ok (.iconst 0, 1) := by decide +kernel
theorem dX5_marks_3 : decode cX5_marks 3 = .ok (.istore_n 3, 1) := by decide +kernel
theorem dX5_marks_4 : decode cX5_marks 4 = .ok (.iload_n 3, 1) := by decide +kernel
theorem dX5_marks_5 : decode cX5_marks 5 = .ok (.aload_n 0, 1) := by decide +kernel
theorem dX5_marks_6 : decode cX5_marks 6 = .ok (.getfield 13, 3) := by decide +kernel
theorem dX5_marks_9 : decode cX5_marks 9 = .ok (.if_icmp .ge 26, 3) := by decide +kernel
theorem dX5_marks_12 : decode cX5_marks 12 = .ok (.iload_n 2, 1) := by decide +kernel
theorem dX5_marks_13 : decode cX5_marks 13 = .ok (.aload_n 1, 1) := by decide +kernel
theorem dX5_marks_14 : decode cX5_marks 14 = .ok (.bipush 54, 2) := by decide +kernel
theorem dX5_marks_16 : decode cX5_marks 16 = .ok (.iload_n 3, 1) := by decide +kernel
theorem dX5_marks_17 : decode cX5_marks 17 = .ok (.iadd, 1) := by decide +kernel
theorem dX5_marks_18 : decode cX5_marks 18 = .ok (.iaload, 1) := by decide +kernel
theorem dX5_marks_19 : decode cX5_marks 19 = .ok (.ifCond .le 7, 3) := by decide +kernel
theorem dX5_marks_22 : decode cX5_marks 22 = .ok (.iconst 1, 1) := by decide +kernel
theorem dX5_marks_23 : decode cX5_marks 23 = .ok (.goto 4, 3) := by decide +kernel
theorem dX5_marks_26 : decode cX5_marks 26 = .ok (.iconst 0, 1) := by decide +kernel
theorem dX5_marks_27 : decode cX5_marks 27 = .ok (.iadd, 1) := by decide +kernel
theorem dX5_marks_28 : decode cX5_marks 28 = .ok (.istore_n 2, 1) := by decide +kernel
theorem dX5_marks_29 : decode cX5_marks 29 = .ok (.iinc 3 1, 3) := by decide +kernel
theorem dX5_marks_32 : decode cX5_marks 32 = .ok (.goto (-28), 3) := by decide +kernel
theorem dX5_marks_35 : decode cX5_marks 35 = .ok (.iload_n 2, 1) := by decide +kernel
theorem dX5_marks_36 : decode cX5_marks 36 = .ok (.ireturn, 1) := by decide +kernel
theorem dX5_tell_0 : decode cX5_tell 0 = .ok (.iload_n 2, 1) := by decide +kernel
theorem dX5_tell_1 : decode cX5_tell 1 = .ok (.tableswitch 103 5 17 #[67, 72, 77, 82, 87, 92, 103, 103, 103, 103, 103, 103, 97], 67) := by decide +kernel
theorem dX5_tell_68 : decode cX5_tell 68 = .ok (.aload_n 1, 1) := by decide +kernel
theorem dX5_tell_69 : decode cX5_tell 69 = .ok (.bipush 67, 2) := by decide +kernel
theorem dX5_tell_71 : decode cX5_tell 71 = .ok (.iaload, 1) := by decide +kernel
theorem dX5_tell_72 : decode cX5_tell 72 = .ok (.ireturn, 1) := by decide +kernel
theorem dX5_tell_73 : decode cX5_tell 73 = .ok (.aload_n 1, 1) := by decide +kernel
theorem dX5_tell_74 : decode cX5_tell 74 = .ok (.bipush 68, 2) := by decide +kernel
theorem dX5_tell_76 : decode cX5_tell 76 = .ok (.iaload, 1) := by decide +kernel
theorem dX5_tell_77 : decode cX5_tell 77 = .ok (.ireturn, 1) := by decide +kernel
theorem dX5_tell_78 : decode cX5_tell 78 = .ok (.aload_n 1, 1) := by decide +kernel
theorem dX5_tell_79 : decode cX5_tell 79 = .ok (.bipush 78, 2) := by decide +kernel
theorem dX5_tell_81 : decode cX5_tell 81 = .ok (.iaload, 1) := by decide +kernel
theorem dX5_tell_82 : decode cX5_tell 82 = .ok (.ireturn, 1) := by decide +kernel
theorem dX5_tell_83 : decode cX5_tell 83 = .ok (.aload_n 1, 1) := by decide +kernel
theorem dX5_tell_84 : decode cX5_tell 84 = .ok (.bipush 71, 2) := by decide +kernel
theorem dX5_tell_86 : decode cX5_tell 86 = .ok (.iaload, 1) := by decide +kernel
theorem dX5_tell_87 : decode cX5_tell 87 = .ok (.ireturn, 1) := by decide +kernel
theorem dX5_tell_88 : decode cX5_tell 88 = .ok (.aload_n 1, 1) := by decide +kernel
theorem dX5_tell_89 : decode cX5_tell 89 = .ok (.bipush 70, 2) := by decide +kernel
theorem dX5_tell_91 : decode cX5_tell 91 = .ok (.iaload, 1) := by decide +kernel
theorem dX5_tell_92 : decode cX5_tell 92 = .ok (.ireturn, 1) := by decide +kernel
theorem dX5_tell_93 : decode cX5_tell 93 = .ok (.aload_n 1, 1) := by decide +kernel
theorem dX5_tell_94 : decode cX5_tell 94 = .ok (.bipush 69, 2) := by decide +kernel
theorem dX5_tell_96 : decode cX5_tell 96 = .ok (.iaload, 1) := by decide +kernel
theorem dX5_tell_97 : decode cX5_tell 97 = .ok (.ireturn, 1) := by decide +kernel
theorem dX5_tell_98 : decode cX5_tell 98 = .ok (.aload_n 0, 1) := by decide +kernel
theorem dX5_tell_99 : decode cX5_tell 99 = .ok (.aload_n 1, 1) := by decide +kernel
theorem dX5_tell_100 : decode cX5_tell 100 = .ok (.invokevirtual 187, 3) := by decide +kernel
theorem dX5_tell_103 : decode cX5_tell 103 = .ok (.ireturn, 1) := by decide +kernel
theorem dX5_tell_104 : decode cX5_tell 104 = .ok (.aload_n 1, 1) := by decide +kernel
theorem dX5_tell_105 : decode cX5_tell 105 = .ok (.bipush 72, 2) := by decide +kernel
theorem dX5_tell_107 : decode cX5_tell 107 = .ok (.iload_n 2, 1) := by decide +kernel
theorem dX5_tell_108 : decode cX5_tell 108 = .ok (.iadd, 1) := by decide +kernel
theorem dX5_tell_109 : decode cX5_tell 109 = .ok (.bipush 11, 2) := by decide +kernel
theorem dX5_tell_111 : decode cX5_tell 111 = .ok (.isub, 1) := by decide +kernel
theorem dX5_tell_112 : decode cX5_tell 112 = .ok (.iaload, 1) := by decide +kernel
theorem dX5_tell_113 : decode cX5_tell 113 = .ok (.ireturn, 1) := by decide +kernel
theorem dX5_about_0 : decode cX5_about 0 = .ok (.iload_n 1, 1) := by decide +kernel
theorem dX5_about_1 : decode cX5_about 1 = .ok (.tableswitch 139 0 20 #[99, 104, 109, 114, 119, 139, 139, 139, 139, 139, 139, 139, 139, 139, 139, 139, 139, 139, 124, 129, 134], 99) := by decide +kernel
theorem dX5_about_100 : decode cX5_about 100 = .ok (.aload_n 0, 1) := by decide +kernel
theorem dX5_about_101 : decode cX5_about 101 = .ok (.getfield 13, 3) := by decide +kernel
theorem dX5_about_104 : decode cX5_about 104 = .ok (.ireturn, 1) := by decide +kernel
theorem dX5_about_105 : decode cX5_about 105 = .ok (.aload_n 0, 1) := by decide +kernel
theorem dX5_about_106 : decode cX5_about 106 = .ok (.getfield 76, 3) := by decide +kernel
theorem dX5_about_109 : decode cX5_about 109 = .ok (.ireturn, 1) := by decide +kernel
theorem dX5_about_110 : decode cX5_about 110 = .ok (.aload_n 0, 1) := by decide +kernel
theorem dX5_about_111 : decode cX5_about 111 = .ok (.getfield 130, 3) := by decide +kernel
theorem dX5_about_114 : decode cX5_about 114 = .ok (.ireturn, 1) := by decide +kernel
theorem dX5_about_115 : decode cX5_about 115 = .ok (.aload_n 0, 1) := by decide +kernel
theorem dX5_about_116 : decode cX5_about 116 = .ok (.getfield 133, 3) := by decide +kernel
theorem dX5_about_119 : decode cX5_about 119 = .ok (.ireturn, 1) := by decide +kernel
theorem dX5_about_120 : decode cX5_about 120 = .ok (.aload_n 0, 1) := by decide +kernel
theorem dX5_about_121 : decode cX5_about 121 = .ok (.getfield 136, 3) := by decide +kernel
theorem dX5_about_124 : decode cX5_about 124 = .ok (.ireturn, 1) := by decide +kernel
theorem dX5_about_125 : decode cX5_about 125 = .ok (.aload_n 0, 1) := by decide +kernel
theorem dX5_about_126 : decode cX5_about 126 = .ok (.getfield 139, 3) := by decide +kernel
theorem dX5_about_129 : decode cX5_about 129 = .ok (.ireturn, 1) := by decide +kernel
theorem dX5_about_130 : decode cX5_about 130 = .ok (.aload_n 0, 1) := by decide +kernel
theorem dX5_about_131 : decode cX5_about 131 = .ok (.getfield 191, 3) := by decide +kernel
theorem dX5_about_134 : decode cX5_about 134 = .ok (.ireturn, 1) := by decide +kernel
end
section
theorem dX5_about_135 : decode cX5_about 135 = .ok (.aload_n 0, 1) := by decide +kernel
theorem dX5_about_136 : decode cX5_about 136 = .ok (.getfield 79, 3) := by decide +kernel
theorem dX5_about_139 : decode cX5_about 139 = .ok (.ireturn, 1) := by decide +kernel
theorem dX5_about_140 : decode cX5_about 140 = .ok (.iload_n 1, 1) := by decide +kernel
theorem dX5_about_141 : decode cX5_about 141 = .ok (.iconst 5, 1) := by decide +kernel
theorem dX5_about_142 : decode cX5_about 142 = .ok (.bipush 17, 2) := by decide +kernel
theorem dX5_about_144 : decode cX5_about 144 = .ok (.invokestatic 72, 3) := by decide +kernel
theorem dX5_about_147 : decode cX5_about 147 = .ok (.ifCond .eq 15, 3) := by decide +kernel
theorem dX5_about_150 : decode cX5_about 150 = .ok (.aload_n 0, 1) := by decide +kernel
theorem dX5_about_151 : decode cX5_about 151 = .ok (.aload_n 0, 1) := by decide +kernel
theorem dX5_about_152 : decode cX5_about 152 = .ok (.getfield 23, 3) := by decide +kernel
theorem dX5_about_155 : decode cX5_about 155 = .ok (.iload_n 1, 1) := by decide +kernel
theorem dX5_about_156 : decode cX5_about 156 = .ok (.invokevirtual 194, 3) := by decide +kernel
theorem dX5_about_159 : decode cX5_about 159 = .ok (.goto 5, 3) := by decide +kernel
theorem dX5_about_162 : decode cX5_about 162 = .ok (.bipush (-2), 2) := by decide +kernel
theorem dX5_about_164 : decode cX5_about 164 = .ok (.ireturn, 1) := by decide +kernel
theorem dX5_place_0 : decode cX5_place 0 = .ok (.iload_n 1, 1) := by decide +kernel
theorem dX5_place_1 : decode cX5_place 1 = .ok (.iconst 0, 1) := by decide +kernel
theorem dX5_place_2 : decode cX5_place 2 = .ok (.iconst 4, 1) := by decide +kernel
theorem dX5_place_3 : decode cX5_place 3 = .ok (.invokestatic 72, 3) := by decide +kernel
theorem dX5_place_6 : decode cX5_place 6 = .ok (.ifCond .eq 12, 3) := by decide +kernel
theorem dX5_place_9 : decode cX5_place 9 = .ok (.aload_n 0, 1) := by decide +kernel
theorem dX5_place_10 : decode cX5_place 10 = .ok (.getfield 17, 3) := by decide +kernel
theorem dX5_place_13 : decode cX5_place 13 = .ok (.iload_n 1, 1) := by decide +kernel
theorem dX5_place_14 : decode cX5_place 14 = .ok (.iaload, 1) := by decide +kernel
theorem dX5_place_15 : decode cX5_place 15 = .ok (.goto 5, 3) := by decide +kernel
theorem dX5_place_18 : decode cX5_place 18 = .ok (.bipush (-2), 2) := by decide +kernel
theorem dX5_place_20 : decode cX5_place 20 = .ok (.ireturn, 1) := by decide +kernel
theorem dX5_cell_0 : decode cX5_cell 0 = .ok (.aload_n 0, 1) := by decide +kernel
theorem dX5_cell_1 : decode cX5_cell 1 = .ok (.iload_n 1, 1) := by decide +kernel
theorem dX5_cell_2 : decode cX5_cell 2 = .ok (.invokevirtual 198, 3) := by decide +kernel
theorem dX5_cell_5 : decode cX5_cell 5 = .ok (.ifCond .ne 5, 3) := by decide +kernel
theorem dX5_cell_8 : decode cX5_cell 8 = .ok (.iconst (-1), 1) := by decide +kernel
theorem dX5_cell_9 : decode cX5_cell 9 = .ok (.ireturn, 1) := by decide +kernel
theorem dX5_cell_10 : decode cX5_cell 10 = .ok (.aload_n 0, 1) := by decide +kernel
theorem dX5_cell_11 : decode cX5_cell 11 = .ok (.getfield 23, 3) := by decide +kernel
theorem dX5_cell_14 : decode cX5_cell 14 = .ok (.iconst 0, 1) := by decide +kernel
theorem dX5_cell_15 : decode cX5_cell 15 = .ok (.iload_n 1, 1) := by decide +kernel
theorem dX5_cell_16 : decode cX5_cell 16 = .ok (.iadd, 1) := by decide +kernel
theorem dX5_cell_17 : decode cX5_cell 17 = .ok (.iaload, 1) := by decide +kernel
theorem dX5_cell_18 : decode cX5_cell 18 = .ok (.iconst 1, 1) := by decide +kernel
theorem dX5_cell_19 : decode cX5_cell 19 = .ok (.if_icmp .ne 7, 3) := by decide +kernel
theorem dX5_cell_22 : decode cX5_cell 22 = .ok (.iconst 1, 1) := by decide +kernel
theorem dX5_cell_23 : decode cX5_cell 23 = .ok (.goto 4, 3) := by decide +kernel
theorem dX5_cell_26 : decode cX5_cell 26 = .ok (.iconst 0, 1) := by decide +kernel
theorem dX5_cell_27 : decode cX5_cell 27 = .ok (.istore_n 3, 1) := by decide +kernel
theorem dX5_cell_28 : decode cX5_cell 28 = .ok (.iload_n 2, 1) := by decide +kernel
theorem dX5_cell_29 : decode cX5_cell 29 = .ok (.tableswitch 152 0 7 #[47, 57, 66, 85, 104, 114, 124, 134], 47) := by decide +kernel
theorem dX5_cell_76 : decode cX5_cell 76 = .ok (.aload_n 0, 1) := by decide +kernel
theorem dX5_cell_77 : decode cX5_cell 77 = .ok (.getfield 23, 3) := by decide +kernel
theorem dX5_cell_80 : decode cX5_cell 80 = .ok (.bipush 54, 2) := by decide +kernel
theorem dX5_cell_82 : decode cX5_cell 82 = .ok (.iload_n 1, 1) := by decide +kernel
theorem dX5_cell_83 : decode cX5_cell 83 = .ok (.iadd, 1) := by decide +kernel
theorem dX5_cell_84 : decode cX5_cell 84 = .ok (.iaload, 1) := by decide +kernel
theorem dX5_cell_85 : decode cX5_cell 85 = .ok (.ireturn, 1) := by decide +kernel
theorem dX5_cell_86 : decode cX5_cell 86 = .ok (.aload_n 0, 1) := by decide +kernel
theorem dX5_cell_87 : decode cX5_cell 87 = .ok (.getfield 23, 3) := by decide +kernel
theorem dX5_cell_90 : decode cX5_cell 90 = .ok (.iconst 0, 1) := by decide +kernel
theorem dX5_cell_91 : decode cX5_cell 91 = .ok (.iload_n 1, 1) := by decide +kernel
theorem dX5_cell_92 : decode cX5_cell 92 = .ok (.iadd, 1) := by decide +kernel
theorem dX5_cell_93 : decode cX5_cell 93 = .ok (.iaload, 1) := by decide +kernel
theorem dX5_cell_94 : decode cX5_cell 94 = .ok (.ireturn, 1) := by decide +kernel
theorem dX5_cell_95 : decode cX5_cell 95 = .ok (.iload_n 3, 1) := by decide +kernel
theorem dX5_cell_96 : decode cX5_cell 96 = .ok (.ifCond .eq 15, 3) := by decide +kernel
theorem dX5_cell_99 : decode cX5_cell 99 = .ok (.aload_n 0, 1) := by decide +kernel
theorem dX5_cell_100 : decode cX5_cell 100 = .ok (.getfield 23, 3) := by decide +kernel
theorem dX5_cell_103 : decode cX5_cell 103 = .ok (.bipush 9, 2) := by decide +kernel
theorem dX5_cell_105 : decode cX5_cell 105 = .ok (.iload_n 1, 1) := by decide +kernel
theorem dX5_cell_106 : decode cX5_cell 106 = .ok (.iadd, 1) := by decide +kernel
theorem dX5_cell_107 : decode cX5_cell 107 = .ok (.iaload, 1) := by decide +kernel
theorem dX5_cell_108 : decode cX5_cell 108 = .ok (.goto 5, 3) := by decide +kernel
theorem dX5_cell_111 : decode cX5_cell 111 = .ok (.bipush (-9), 2) := by decide +kernel
theorem dX5_cell_113 : decode cX5_cell 113 = .ok (.ireturn, 1) := by decide +kernel
theorem dX5_cell_114 : decode cX5_cell 114 = .ok (.iload_n 3, 1) := by decide +kernel
theorem dX5_cell_115 : decode cX5_cell 115 = .ok (.ifCond .eq 15, 3) := by decide +kernel
theorem dX5_cell_118 : decode cX5_cell 118 = .ok (.aload_n 0, 1) := by decide +kernel
theorem dX5_cell_119 : decode cX5_cell 119 = .ok (.getfield 23, 3) := by decide +kernel
theorem dX5_cell_122 : decode cX5_cell 122 = .ok (.bipush 18, 2) := by decide +kernel
theorem dX5_cell_124 : decode cX5_cell 124 = .ok (.iload_n 1, 1) := by decide +kernel
theorem dX5_cell_125 : decode cX5_cell 125 = .ok (.iadd, 1) := by decide +kernel
theorem dX5_cell_126 : decode cX5_cell 126 = .ok (.iaload, 1) := by decide +kernel
theorem dX5_cell_127 : decode cX5_cell 127 = .ok (.goto 5, 3) := by decide +kernel
theorem dX5_cell_130 : decode cX5_cell 130 = .ok (.bipush (-9), 2) := by decide +kernel
theorem dX5_cell_132 : decode cX5_cell 132 = .ok (.ireturn, 1) := by decide +kernel
theorem dX5_cell_133 : decode cX5_cell 133 = .ok (.aload_n 0, 1) := by decide +kernel
theorem dX5_cell_134 : decode cX5_cell 134 = .ok (.getfield 23, 3) := by decide +kernel
theorem dX5_cell_137 : decode cX5_cell 137 = .ok (.bipush 27, 2) := by decide +kernel
theorem dX5_cell_139 : decode cX5_cell 139 = .ok (.iload_n 1, 1) := by decide +kernel
theorem dX5_cell_140 : decode cX5_cell 140 = .ok (.iadd, 1) := by decide +kernel
theorem dX5_cell_141 : decode cX5_cell 141 = .ok (.iaload, 1) := by decide +kernel
theorem dX5_cell_142 : decode cX5_cell 142 = .ok (.ireturn, 1) := by decide +kernel
theorem dX5_cell_143 : decode cX5_cell 143 = .ok (.aload_n 0, 1) := by decide +kernel
theorem dX5_cell_144 : decode cX5_cell 144 = .ok (.getfield 23, 3) := by decide +kernel
theorem dX5_cell_147 : decode cX5_cell 147 = .ok (.bipush 36, 2) := by decide +kernel
theorem dX5_cell_149 : decode cX5_cell 149 = .ok (.iload_n 1, 1) := by decide +kernel
theorem dX5_cell_150 : decode cX5_cell 150 = .ok (.iadd, 1) := by decide +kernel
theorem dX5_cell_151 : decode cX5_cell 151 = .ok (.iaload, 1) := by decide +kernel
theorem dX5_cell_152 : decode cX5_cell 152 = .ok (.ireturn, 1) := by decide +kernel
theorem dX5_cell_153 : decode cX5_cell 153 = .ok (.aload_n 0, 1) := by decide +kernel
theorem dX5_cell_154 : decode cX5_cell 154 = .ok (.getfield 23, 3) := by decide +kernel
theorem dX5_cell_157 : decode cX5_cell 157 = .ok (.bipush 45, 2) := by decide +kernel
theorem dX5_cell_159 : decode cX5_cell 159 = .ok (.iload_n 1, 1) := by decide +kernel
theorem dX5_cell_160 : decode cX5_cell 160 = .ok (.iadd, 1) := by decide +kernel
theorem dX5_cell_161 : decode cX5_cell 161 = .ok (.iaload, 1) := by decide +kernel
theorem dX5_cell_162 : decode cX5_cell 162 = .ok (.ireturn, 1) := by decide +kernel
theorem dX5_cell_163 : decode cX5_cell 163 = .ok (.aload_n 0, 1) := by decide +kernel
theorem dX5_cell_164 : decode cX5_cell 164 = .ok (.aload_n 0, 1) := by decide +kernel
theorem dX5_cell_165 : decode cX5_cell 165 = .ok (.getfield 23, 3) := by decide +kernel
theorem dX5_cell_168 : decode cX5_cell 168 = .ok (.iload_n 1, 1) := by decide +kernel
theorem dX5_cell_169 : decode cX5_cell 169 = .ok (.invokevirtual 142, 3) := by decide +kernel
theorem dX5_cell_172 : decode cX5_cell 172 = .ok (.ifCond .eq 7, 3) := by decide +kernel
theorem dX5_cell_175 : decode cX5_cell 175 = .ok (.iconst 1, 1) := by decide +kernel
theorem dX5_cell_176 : decode cX5_cell 176 = .ok (.goto 4, 3) := by decide +kernel
theorem dX5_cell_179 : decode cX5_cell 179 = .ok (.iconst 0, 1) := by decide +kernel
theorem dX5_cell_180 : decode cX5_cell 180 = .ok (.ireturn, 1) := by decide +kernel
theorem dX5_cell_181 : decode cX5_cell 181 = .ok (.bipush (-2), 2) := by decide +kernel
theorem dX5_cell_183 : decode cX5_cell 183 = .ok (.ireturn, 1) := by decide +kernel
theorem dX5_valve_0 : decode cX5_valve 0 = .ok (.aload_n 0, 1) := by decide +kernel
theorem dX5_valve_1 : decode cX5_valve 1 = .ok (.iload_n 1, 1) := by decide +kernel
theorem dX5_valve_2 : decode cX5_valve 2 = .ok (.invokevirtual 201, 3) := by decide +kernel
theorem dX5_valve_5 : decode cX5_valve 5 = .ok (.ifCond .ne 5, 3) := by decide +kernel
theorem dX5_valve_8 : decode cX5_valve 8 = .ok (.iconst (-1), 1) := by decide +kernel
theorem dX5_valve_9 : decode cX5_valve 9 = .ok (.ireturn, 1) := by decide +kernel
theorem dX5_valve_10 : decode cX5_valve 10 = .ok (.iload_n 2, 1) := by decide +kernel
theorem dX5_valve_11 : decode cX5_valve 11 = .ok (.ifCond .ne 15, 3) := by decide +kernel
theorem dX5_valve_14 : decode cX5_valve 14 = .ok (.aload_n 0, 1) := by decide +kernel
theorem dX5_valve_15 : decode cX5_valve 15 = .ok (.getfield 23, 3) := by decide +kernel
theorem dX5_valve_18 : decode cX5_valve 18 = .ok (.bipush 63, 2) := by decide +kernel
theorem dX5_valve_20 : decode cX5_valve 20 = .ok (.iload_n 1, 1) := by decide +kernel
theorem dX5_valve_21 : decode cX5_valve 21 = .ok (.iadd, 1) := by decide +kernel
theorem dX5_valve_22 : decode cX5_valve 22 = .ok (.iaload, 1) := by decide +kernel
theorem dX5_valve_23 : decode cX5_valve 23 = .ok (.goto 21, 3) := by decide +kernel
theorem dX5_valve_26 : decode cX5_valve 26 = .ok (.iload_n 2, 1) := by decide +kernel
theorem dX5_valve_27 : decode cX5_valve 27 = .ok (.iconst 1, 1) := by decide +kernel
theorem dX5_valve_28 : decode cX5_valve 28 = .ok (.if_icmp .ne 14, 3) := by decide +kernel
theorem dX5_valve_31 : decode cX5_valve 31 = .ok (.aload_n 0, 1) := by decide +kernel
theorem dX5_valve_32 : decode cX5_valve 32 = .ok (.getfield 20, 3) := by decide +kernel
theorem dX5_valve_35 : decode cX5_valve 35 = .ok (.iload_n 1, 1) := by decide +kernel
theorem dX5_valve_36 : decode cX5_valve 36 = .ok (.iaload, 1) := by decide +kernel
theorem dX5_valve_37 : decode cX5_valve 37 = .ok (.iconst 4, 1) := by decide +kernel
theorem dX5_valve_38 : decode cX5_valve 38 = .ok (.iadd, 1) := by decide +kernel
theorem dX5_valve_39 : decode cX5_valve 39 = .ok (.goto 5, 3) := by decide +kernel
theorem dX5_valve_42 : decode cX5_valve 42 = .ok (.bipush (-2), 2) := by decide +kernel
theorem dX5_valve_44 : decode cX5_valve 44 = .ok (.ireturn, 1) := by decide +kernel
theorem dX5_queue_0 : decode cX5_queue 0 = .ok (.iload_n 1, 1) := by decide +kernel
theorem dX5_queue_1 : decode cX5_queue 1 = .ok (.iconst 0, 1) := by decide +kernel
theorem dX5_queue_2 : decode cX5_queue 2 = .ok (.bipush 23, 2) := by decide +kernel
theorem dX5_queue_4 : decode cX5_queue 4 = .ok (.invokestatic 72, 3) := by decide +kernel
theorem dX5_queue_7 : decode cX5_queue 7 = .ok (.ifCond .ne 6, 3) := by decide +kernel
theorem dX5_queue_10 : decode cX5_queue 10 = .ok (.bipush (-2), 2) := by decide +kernel
theorem dX5_queue_12 : decode cX5_queue 12 = .ok (.ireturn, 1) := by decide +kernel
theorem dX5_queue_13 : decode cX5_queue 13 = .ok (.iload_n 1, 1) := by decide +kernel
theorem dX5_queue_14 : decode cX5_queue 14 = .ok (.aload_n 0, 1) := by decide +kernel
theorem dX5_queue_15 : decode cX5_queue 15 = .ok (.getfield 23, 3) := by decide +kernel
theorem dX5_queue_18 : decode cX5_queue 18 = .ok (.bipush 78, 2) := by decide +kernel
theorem dX5_queue_20 : decode cX5_queue 20 = .ok (.iaload, 1) := by decide +kernel
theorem dX5_queue_21 : decode cX5_queue 21 = .ok (.if_icmp .ge 15, 3) := by decide +kernel
theorem dX5_queue_24 : decode cX5_queue 24 = .ok (.aload_n 0, 1) := by decide +kernel
theorem dX5_queue_25 : decode cX5_queue 25 = .ok (.getfield 23, 3) := by decide +kernel
theorem dX5_queue_28 : decode cX5_queue 28 = .ok (.bipush 79, 2) := by decide +kernel
theorem dX5_queue_30 : decode cX5_queue 30 = .ok (.iload_n 1, 1) := by decide +kernel
theorem dX5_queue_31 : decode cX5_queue 31 = .ok (.iadd, 1) := by decide +kernel
theorem dX5_queue_32 : decode cX5_queue 32 = .ok (.iaload, 1) := by decide +kernel
theorem dX5_queue_33 : decode cX5_queue 33 = .ok (.goto 5, 3) := by decide +kernel
theorem dX5_queue_36 : decode cX5_queue 36 = .ok (.bipush (-9), 2) := by decide +kernel
theorem dX5_queue_38 : decode cX5_queue 38 = .ok (.ireturn, 1) := by decide +kernel
theorem dX5_note_0 : decode cX5_note 0 = .ok (.iconst 0, 1) := by decide +kernel
theorem dX5_note_1 : decode cX5_note 1 = .ok (.istore_n 1, 1) := by decide +kernel
theorem dX5_note_2 : decode cX5_note 2 = .ok (.iload_n 1, 1) := by decide +kernel
theorem dX5_note_3 : decode cX5_note 3 = .ok (.bipush 103, 2) := by decide +kernel
theorem dX5_note_5 : decode cX5_note 5 = .ok (.if_icmp .ge 29, 3) := by decide +kernel
theorem dX5_note_8 : decode cX5_note 8 = .ok (.aload_n 0, 1) := by decide +kernel
theorem dX5_note_9 : decode cX5_note 9 = .ok (.getfield 29, 3) := by decide +kernel
theorem dX5_note_12 : decode cX5_note 12 = .ok (.bipush 103, 2) := by decide +kernel
theorem dX5_note_14 : decode cX5_note 14 = .ok (.aload_n 0, 1) := by decide +kernel
theorem dX5_note_15 : decode cX5_note 15 = .ok (.getfield 204, 3) := by decide +kernel
theorem dX5_note_18 : decode cX5_note 18 = .ok (.imul, 1) := by decide +kernel
theorem dX5_note_19 : decode cX5_note 19 = .ok (.iload_n 1, 1) := by decide +kernel
theorem dX5_note_20 : decode cX5_note 20 = .ok (.iadd, 1) := by decide +kernel
theorem dX5_note_21 : decode cX5_note 21 = .ok (.aload_n 0, 1) := by decide +kernel
theorem dX5_note_22 : decode cX5_note 22 = .ok (.getfield 23, 3) := by decide +kernel
theorem dX5_note_25 : decode cX5_note 25 = .ok (.iload_n 1, 1) := by decide +kernel
theorem dX5_note_26 : decode cX5_note 26 = .ok (.iaload, 1) := by decide +kernel
theorem dX5_note_27 : decode cX5_note 27 = .ok (.iastore, 1) := by decide +kernel
theorem dX5_note_28 : decode cX5_note 28 = .ok (.iinc 1 1, 3) := by decide +kernel
theorem dX5_note_31 : decode cX5_note 31 = .ok (.goto (-29), 3) := by decide +kernel
theorem dX5_note_34 : decode cX5_note 34 = .ok (.aload_n 0, 1) := by decide +kernel
theorem dX5_note_35 : decode cX5_note 35 = .ok (.aload_n 0, 1) := by decide +kernel
theorem dX5_note_36 : decode cX5_note 36 = .ok (.getfield 204, 3) := by decide +kernel
theorem dX5_note_39 : decode cX5_note 39 = .ok (.iconst 1, 1) := by decide +kernel
theorem dX5_note_40 : decode cX5_note 40 = .ok (.iadd, 1) := by decide +kernel
theorem dX5_note_41 : decode cX5_note 41 = .ok (.bipush 14, 2) := by decide +kernel
theorem dX5_note_43 : decode cX5_note 43 = .ok (.irem, 1) := by decide +kernel
theorem dX5_note_44 : decode cX5_note 44 = .ok (.putfield 204, 3) := by decide +kernel
theorem dX5_note_47 : decode cX5_note 47 = .ok (.aload_n 0, 1) := by decide +kernel
theorem dX5_note_48 : decode cX5_note 48 = .ok (.aload_n 0, 1) := by decide +kernel
theorem dX5_note_49 : decode cX5_note 49 = .ok (.getfield 139, 3) := by decide +kernel
theorem dX5_note_52 : decode cX5_note 52 = .ok (.bipush 14, 2) := by decide +kernel
theorem dX5_note_54 : decode cX5_note 54 = .ok (.if_icmp .ge 12, 3) := by decide +kernel
theorem dX5_note_57 : decode cX5_note 57 = .ok (.aload_n 0, 1) := by decide +kernel
theorem dX5_note_58 : decode cX5_note 58 = .ok (.getfield 139, 3) := by decide +kernel
theorem dX5_note_61 : decode cX5_note 61 = .ok (.iconst 1, 1) := by decide +kernel
theorem dX5_note_62 : decode cX5_note 62 = .ok (.iadd, 1) := by decide +kernel
theorem dX5_note_63 : decode cX5_note 63 = .ok (.goto 5, 3) := by decide +kernel
theorem dX5_note_66 : decode cX5_note 66 = .ok (.bipush 14, 2) := by decide +kernel
theorem dX5_note_68 : decode cX5_note 68 = .ok (.putfield 139, 3) := by decide +kernel
theorem dX5_note_71 : decode cX5_note 71 = .ok (.return_, 1) := by decide +kernel
theorem dX5_step_0 : decode cX5_step 0 = .ok (.iload_n 1, 1) := by decide +kernel
theorem dX5_step_1 : decode cX5_step 1 = .ok (.iconst 1, 1) := by decide +kernel
theorem dX5_step_2 : decode cX5_step 2 = .ok (.bipush 99, 2) := by decide +kernel
theorem dX5_step_4 : decode cX5_step 4 = .ok (.invokestatic 72, 3) := by decide +kernel
theorem dX5_step_7 : decode cX5_step 7 = .ok (.ifCond .ne 6, 3) := by decide +kernel
theorem dX5_step_10 : decode cX5_step 10 = .ok (.bipush (-2), 2) := by decide +kernel
theorem dX5_step_12 : decode cX5_step 12 = .ok (.ireturn, 1) := by decide +kernel
theorem dX5_step_13 : decode cX5_step 13 = .ok (.aload_n 0, 1) := by decide +kernel
theorem dX5_step_14 : decode cX5_step 14 = .ok (.getfield 23, 3) := by decide +kernel
theorem dX5_step_17 : decode cX5_step 17 = .ok (.bipush 70, 2) := by decide +kernel
theorem dX5_step_19 : decode cX5_step 19 = .ok (.iaload, 1) := by decide +kernel
theorem dX5_step_20 : decode cX5_step 20 = .ok (.iconst 1, 1) := by decide +kernel
theorem dX5_step_21 : decode cX5_step 21 = .ok (.if_icmp .ne 6, 3) := by decide +kernel
theorem dX5_step_24 : decode cX5_step 24 = .ok (.bipush (-3), 2) := by decide +kernel
theorem dX5_step_26 : decode cX5_step 26 = .ok (.ireturn, 1) := by decide +kernel
theorem dX5_step_27 : decode cX5_step 27 = .ok (.aload_n 0, 1) := by decide +kernel
theorem dX5_step_28 : decode cX5_step 28 = .ok (.invokevirtual 207, 3) := by decide +kernel
theorem dX5_step_31 : decode cX5_step 31 = .ok (.aload_n 0, 1) := by decide +kernel
theorem dX5_step_32 : decode cX5_step 32 = .ok (.aload_n 0, 1) := by decide +kernel
theorem dX5_step_33 : decode cX5_step 33 = .ok (.getfield 23, 3) := by decide +kernel
theorem dX5_step_36 : decode cX5_step 36 = .ok (.iload_n 1, 1) := by decide +kernel
theorem dX5_step_37 : decode cX5_step 37 = .ok (.invokevirtual 210, 3) := by decide +kernel
theorem dX5_step_40 : decode cX5_step 40 = .ok (.ireturn, 1) := by decide +kernel
theorem dX5_slip_0 : decode cX5_slip 0 = .ok (.aload_n 0, 1) := by decide +kernel
theorem dX5_slip_1 : decode cX5_slip 1 = .ok (.invokevirtual 207, 3) := by decide +kernel
theorem dX5_slip_4 : decode cX5_slip 4 = .ok (.aload_n 0, 1) := by decide +kernel
theorem dX5_slip_5 : decode cX5_slip 5 = .ok (.aload_n 0, 1) := by decide +kernel
theorem dX5_slip_6 : decode cX5_slip 6 = .ok (.getfield 23, 3) := by decide +kernel
theorem dX5_slip_9 : decode cX5_slip 9 = .ok (.invokevirtual 153, 3) := by decide +kernel
theorem dX5_slip_12 : decode cX5_slip 12 = .ok (.aload_n 0, 1) := by decide +kernel
theorem dX5_slip_13 : decode cX5_slip 13 = .ok (.aload_n 0, 1) := by decide +kernel
theorem dX5_slip_14 : decode cX5_slip 14 = .ok (.getfield 23, 3) := by decide +kernel
theorem dX5_slip_17 : decode cX5_slip 17 = .ok (.invokevirtual 213, 3) := by decide +kernel
theorem dX5_slip_20 : decode cX5_slip 20 = .ok (.ireturn, 1) := by decide +kernel
theorem dX5_jam_0 : decode cX5_jam 0 = .ok (.aload_n 0, 1) := by decide +kernel
theorem dX5_jam_1 : decode cX5_jam 1 = .ok (.invokevirtual 207, 3) := by decide +kernel
theorem dX5_jam_4 : decode cX5_jam 4 = .ok (.aload_n 0, 1) := by decide +kernel
theorem dX5_jam_5 : decode cX5_jam 5 = .ok (.getfield 23, 3) := by decide +kernel
theorem dX5_jam_8 : decode cX5_jam 8 = .ok (.bipush 69, 2) := by decide +kernel
theorem dX5_jam_10 : decode cX5_jam 10 = .ok (.iconst 1, 1) := by decide +kernel
theorem dX5_jam_11 : decode cX5_jam 11 = .ok (.aload_n 0, 1) := by decide +kernel
theorem dX5_jam_12 : decode cX5_jam 12 = .ok (.getfield 23, 3) := by decide +kernel
theorem dX5_jam_15 : decode cX5_jam 15 = .ok (.bipush 69, 2) := by decide +kernel
theorem dX5_jam_17 : decode cX5_jam 17 = .ok (.iaload, 1) := by decide +kernel
theorem dX5_jam_18 : decode cX5_jam 18 = .ok (.isub, 1) := by decide +kernel
theorem dX5_jam_19 : decode cX5_jam 19 = .ok (.iastore, 1) := by decide +kernel
theorem dX5_jam_20 : decode cX5_jam 20 = .ok (.aload_n 0, 1) := by decide +kernel
theorem dX5_jam_21 : decode cX5_jam 21 = .ok (.getfield 23, 3) := by decide +kernel
theorem dX5_jam_24 : decode cX5_jam 24 = .ok (.bipush 69, 2) := by decide +kernel
theorem dX5_jam_26 : decode cX5_jam 26 = .ok (.iaload, 1) := by decide +kernel
theorem dX5_jam_27 : decode cX5_jam 27 = .ok (.ireturn, 1) := by decide +kernel
theorem dX5_clearOn_0 : decode cX5_clearOn 0 = .ok (.aload_n 0, 1) := by decide +kernel
theorem dX5_clearOn_1 : decode cX5_clearOn 1 = .ok (.getfield 17, 3) := by decide +kernel
theorem dX5_clearOn_4 : decode cX5_clearOn 4 = .ok (.iconst 4, 1) := by decide +kernel
theorem dX5_clearOn_5 : decode cX5_clearOn 5 = .ok (.iaload, 1) := by decide +kernel
theorem dX5_clearOn_6 : decode cX5_clearOn 6 = .ok (.istore_n 2, 1) := by decide +kernel
theorem dX5_clearOn_7 : decode cX5_clearOn 7 = .ok (.aload_n 1, 1) := by decide +kernel
theorem dX5_clearOn_8 : decode cX5_clearOn 8 = .ok (.iconst 0, 1) := by decide +kernel
theorem dX5_clearOn_9 : decode cX5_clearOn 9 = .ok (.iload_n 2, 1) := by decide +kernel
theorem dX5_clearOn_10 : decode cX5_clearOn 10 = .ok (.iadd, 1) := by decide +kernel
theorem dX5_clearOn_11 : decode cX5_clearOn 11 = .ok (.iaload, 1) := by decide +kernel
theorem dX5_clearOn_12 : decode cX5_clearOn 12 = .ok (.istore_n 3, 1) := by decide +kernel
theorem dX5_clearOn_13 : decode cX5_clearOn 13 = .ok (.aload_n 1, 1) := by decide +kernel
theorem dX5_clearOn_14 : decode cX5_clearOn 14 = .ok (.bipush 76, 2) := by decide +kernel
theorem dX5_clearOn_16 : decode cX5_clearOn 16 = .ok (.dup2, 1) := by decide +kernel
theorem dX5_clearOn_17 : decode cX5_clearOn 17 = .ok (.iaload, 1) := by decide +kernel
theorem dX5_clearOn_18 : decode cX5_clearOn 18 = .ok (.iload_n 3, 1) := by decide +kernel
theorem dX5_clearOn_19 : decode cX5_clearOn 19 = .ok (.iadd, 1) := by decide +kernel
theorem dX5_clearOn_20 : decode cX5_clearOn 20 = .ok (.iastore, 1) := by decide +kernel
theorem dX5_clearOn_21 : decode cX5_clearOn 21 = .ok (.aload_n 0, 1) := by decide +kernel
theorem dX5_clearOn_22 : decode cX5_clearOn 22 = .ok (.aload_n 1, 1) := by decide +kernel
theorem dX5_clearOn_23 : decode cX5_clearOn 23 = .ok (.iload_n 2, 1) := by decide +kernel
theorem dX5_clearOn_24 : decode cX5_clearOn 24 = .ok (.invokevirtual 149, 3) := by decide +kernel
theorem dX5_clearOn_27 : decode cX5_clearOn 27 = .ok (.aload_n 1, 1) := by decide +kernel
theorem dX5_clearOn_28 : decode cX5_clearOn 28 = .ok (.bipush 54, 2) := by decide +kernel
theorem dX5_clearOn_30 : decode cX5_clearOn 30 = .ok (.iload_n 2, 1) := by decide +kernel
theorem dX5_clearOn_31 : decode cX5_clearOn 31 = .ok (.iadd, 1) := by decide +kernel
theorem dX5_clearOn_32 : decode cX5_clearOn 32 = .ok (.iconst 0, 1) := by decide +kernel
theorem dX5_clearOn_33 : decode cX5_clearOn 33 = .ok (.iastore, 1) := by decide +kernel
theorem dX5_clearOn_34 : decode cX5_clearOn 34 = .ok (.aload_n 1, 1) := by decide +kernel
theorem dX5_clearOn_35 : decode cX5_clearOn 35 = .ok (.bipush 70, 2) := by decide +kernel
theorem dX5_clearOn_37 : decode cX5_clearOn 37 = .ok (.iconst 0, 1) := by decide +kernel
theorem dX5_clearOn_38 : decode cX5_clearOn 38 = .ok (.iastore, 1) := by decide +kernel
theorem dX5_clearOn_39 : decode cX5_clearOn 39 = .ok (.iload_n 3, 1) := by decide +kernel
theorem dX5_clearOn_40 : decode cX5_clearOn 40 = .ok (.ireturn, 1) := by decide +kernel
theorem dX5_clear_0 : decode cX5_clear 0 = .ok (.aload_n 0, 1) := by decide +kernel
theorem dX5_clear_1 : decode cX5_clear 1 = .ok (.getfield 23, 3) := by decide +kernel
theorem dX5_clear_4 : decode cX5_clear 4 = .ok (.bipush 70, 2) := by decide +kernel
theorem dX5_clear_6 : decode cX5_clear 6 = .ok (.iaload, 1) := by decide +kernel
theorem dX5_clear_7 : decode cX5_clear 7 = .ok (.ifCond .ne 6, 3) := by decide +kernel
theorem dX5_clear_10 : decode cX5_clear 10 = .ok (.bipush (-3), 2) := by decide +kernel
theorem dX5_clear_12 : decode cX5_clear 12 = .ok (.ireturn, 1) := by decide +kernel
theorem dX5_clear_13 : decode cX5_clear 13 = .ok (.aload_n 0, 1) := by decide +kernel
theorem dX5_clear_14 : decode cX5_clear 14 = .ok (.invokevirtual 207, 3) := by decide +kernel
theorem dX5_clear_17 : decode cX5_clear 17 = .ok (.aload_n 0, 1) := by decide +kernel
theorem dX5_clear_18 : decode cX5_clear 18 = .ok (.aload_n 0, 1) := by decide +kernel
theorem dX5_clear_19 : decode cX5_clear 19 = .ok (.getfield 23, 3) := by decide +kernel
theorem dX5_clear_22 : decode cX5_clear 22 = .ok (.invokevirtual 216, 3) := by decide +kernel
theorem dX5_clear_25 : decode cX5_clear 25 = .ok (.ireturn, 1) := by decide +kernel
theorem dX5_restartOn_0 : decode cX5_restartOn 0 = .ok (.iconst 0, 1) := by decide +kernel
theorem dX5_restartOn_1 : decode cX5_restartOn 1 = .ok (.istore_n 2, 1) := by decide +kernel
theorem dX5_restartOn_2 : decode cX5_restartOn 2 = .ok (.iload_n 2, 1) := by decide +kernel
theorem dX5_restartOn_3 : decode cX5_restartOn 3 = .ok (.aload_n 0, 1) := by decide +kernel
theorem dX5_restartOn_4 : decode cX5_restartOn 4 = .ok (.getfield 17, 3) := by decide +kernel
theorem dX5_restartOn_7 : decode cX5_restartOn 7 = .ok (.iconst 0, 1) := by decide +kernel
theorem dX5_restartOn_8 : decode cX5_restartOn 8 = .ok (.iaload, 1) := by decide +kernel
theorem dX5_restartOn_9 : decode cX5_restartOn 9 = .ok (.if_icmp .gt 34, 3) := by decide +kernel
theorem dX5_restartOn_12 : decode cX5_restartOn 12 = .ok (.aload_n 1, 1) := by decide +kernel
theorem dX5_restartOn_13 : decode cX5_restartOn 13 = .ok (.bipush 54, 2) := by decide +kernel
theorem dX5_restartOn_15 : decode cX5_restartOn 15 = .ok (.iload_n 2, 1) := by decide +kernel
theorem dX5_restartOn_16 : decode cX5_restartOn 16 = .ok (.iadd, 1) := by decide +kernel
theorem dX5_restartOn_17 : decode cX5_restartOn 17 = .ok (.aload_n 1, 1) := by decide +kernel
theorem dX5_restartOn_18 : decode cX5_restartOn 18 = .ok (.iconst 0, 1) := by decide +kernel
theorem dX5_restartOn_19 : decode cX5_restartOn 19 = .ok (.iload_n 2, 1) := by decide +kernel
theorem dX5_restartOn_20 : decode cX5_restartOn 20 = .ok (.iadd, 1) := by decide +kernel
theorem dX5_restartOn_21 : decode cX5_restartOn 21 = .ok (.iaload, 1) := by decide +kernel
theorem dX5_restartOn_22 : decode cX5_restartOn 22 = .ok (.iconst 1, 1) := by decide +kernel
theorem dX5_restartOn_23 : decode cX5_restartOn 23 = .ok (.if_icmp .ne 7, 3) := by decide +kernel
theorem dX5_restartOn_26 : decode cX5_restartOn 26 = .ok (.iconst 1, 1) := by decide +kernel
theorem dX5_restartOn_27 : decode cX5_restartOn 27 = .ok (.goto 9, 3) := by decide +kernel
theorem dX5_restartOn_30 : decode cX5_restartOn 30 = .ok (.aload_n 1, 1) := by decide +kernel
theorem dX5_restartOn_31 : decode cX5_restartOn 31 = .ok (.bipush 54, 2) := by decide +kernel
theorem dX5_restartOn_33 : decode cX5_restartOn 33 = .ok (.iload_n 2, 1) := by decide +kernel
theorem dX5_restartOn_34 : decode cX5_restartOn 34 = .ok (.iadd, 1) := by decide +kernel
theorem dX5_restartOn_35 : decode cX5_restartOn 35 = .ok (.iaload, 1) := by decide +kernel
theorem dX5_restartOn_36 : decode cX5_restartOn 36 = .ok (.iastore, 1) := by decide +kernel
theorem dX5_restartOn_37 : decode cX5_restartOn 37 = .ok (.iinc 2 1, 3) := by decide +kernel
theorem dX5_restartOn_40 : decode cX5_restartOn 40 = .ok (.goto (-38), 3) := by decide +kernel
theorem dX5_restartOn_43 : decode cX5_restartOn 43 = .ok (.return_, 1) := by decide +kernel
theorem dX5_restart_0 : decode cX5_restart 0 = .ok (.aload_n 0, 1) := by decide +kernel
theorem dX5_restart_1 : decode cX5_restart 1 = .ok (.invokevirtual 207, 3) := by decide +kernel
theorem dX5_restart_4 : decode cX5_restart 4 = .ok (.aload_n 0, 1) := by decide +kernel
theorem dX5_restart_5 : decode cX5_restart 5 = .ok (.aload_n 0, 1) := by decide +kernel
theorem dX5_restart_6 : decode cX5_restart 6 = .ok (.getfield 23, 3) := by decide +kernel
theorem dX5_restart_9 : decode cX5_restart 9 = .ok (.invokevirtual 219, 3) := by decide +kernel
theorem dX5_restart_12 : decode cX5_restart 12 = .ok (.aload_n 0, 1) := by decide +kernel
theorem dX5_restart_13 : decode cX5_restart 13 = .ok (.aload_n 0, 1) := by decide +kernel
theorem dX5_restart_14 : decode cX5_restart 14 = .ok (.getfield 23, 3) := by decide +kernel
theorem dX5_restart_17 : decode cX5_restart 17 = .ok (.invokevirtual 213, 3) := by decide +kernel
theorem dX5_restart_20 : decode cX5_restart 20 = .ok (.ireturn, 1) := by decide +kernel
theorem dX5_lay_0 : decode cX5_lay 0 = .ok (.iload_n 2, 1) := by decide +kernel
theorem dX5_lay_1 : decode cX5_lay 1 = .ok (.iconst 1, 1) := by decide +kernel
theorem dX5_lay_2 : decode cX5_lay 2 = .ok (.bipush 9, 2) := by decide +kernel
theorem dX5_lay_4 : decode cX5_lay 4 = .ok (.invokestatic 72, 3) := by decide +kernel
theorem dX5_lay_7 : decode cX5_lay 7 = .ok (.ifCond .ne 6, 3) := by decide +kernel
theorem dX5_lay_10 : decode cX5_lay 10 = .ok (.bipush (-2), 2) := by decide +kernel
theorem dX5_lay_12 : decode cX5_lay 12 = .ok (.ireturn, 1) := by decide +kernel
theorem dX5_lay_13 : decode cX5_lay 13 = .ok (.iload_n 1, 1) := by decide +kernel
theorem dX5_lay_14 : decode cX5_lay 14 = .ok (.ifCond .eq 8, 3) := by decide +kernel
theorem dX5_lay_17 : decode cX5_lay 17 = .ok (.bipush 68, 2) := by decide +kernel
theorem dX5_lay_19 : decode cX5_lay 19 = .ok (.goto 5, 3) := by decide +kernel
theorem dX5_lay_22 : decode cX5_lay 22 = .ok (.bipush 67, 2) := by decide +kernel
theorem dX5_lay_24 : decode cX5_lay 24 = .ok (.istore_n 3, 1) := by decide +kernel
theorem dX5_lay_25 : decode cX5_lay 25 = .ok (.aload_n 0, 1) := by decide +kernel
theorem dX5_lay_26 : decode cX5_lay 26 = .ok (.getfield 23, 3) := by decide +kernel
theorem dX5_lay_29 : decode cX5_lay 29 = .ok (.iload_n 3, 1) := by decide +kernel
theorem dX5_lay_30 : decode cX5_lay 30 = .ok (.iaload, 1) := by decide +kernel
theorem dX5_lay_31 : decode cX5_lay 31 = .ok (.iload_n 2, 1) := by decide +kernel
theorem dX5_lay_32 : decode cX5_lay 32 = .ok (.iadd, 1) := by decide +kernel
theorem dX5_lay_33 : decode cX5_lay 33 = .ok (.bipush 99, 2) := by decide +kernel
theorem dX5_lay_35 : decode cX5_lay 35 = .ok (.if_icmp .le 6, 3) := by decide +kernel
theorem dX5_lay_38 : decode cX5_lay 38 = .ok (.bipush (-4), 2) := by decide +kernel
theorem dX5_lay_40 : decode cX5_lay 40 = .ok (.ireturn, 1) := by decide +kernel
theorem dX5_lay_41 : decode cX5_lay 41 = .ok (.aload_n 0, 1) := by decide +kernel
theorem dX5_lay_42 : decode cX5_lay 42 = .ok (.invokevirtual 207, 3) := by decide +kernel
theorem dX5_lay_45 : decode cX5_lay 45 = .ok (.aload_n 0, 1) := by decide +kernel
theorem dX5_lay_46 : decode cX5_lay 46 = .ok (.getfield 23, 3) := by decide +kernel
theorem dX5_lay_49 : decode cX5_lay 49 = .ok (.iload_n 3, 1) := by decide +kernel
theorem dX5_lay_50 : decode cX5_lay 50 = .ok (.dup2, 1) := by decide +kernel
theorem dX5_lay_51 : decode cX5_lay 51 = .ok (.iaload, 1) := by decide +kernel
theorem dX5_lay_52 : decode cX5_lay 52 = .ok (.iload_n 2, 1) := by decide +kernel
theorem dX5_lay_53 : decode cX5_lay 53 = .ok (.iadd, 1) := by decide +kernel
theorem dX5_lay_54 : decode cX5_lay 54 = .ok (.iastore, 1) := by decide +kernel
theorem dX5_lay_55 : decode cX5_lay 55 = .ok (.aload_n 0, 1) := by decide +kernel
theorem dX5_lay_56 : decode cX5_lay 56 = .ok (.getfield 23, 3) := by decide +kernel
theorem dX5_lay_59 : decode cX5_lay 59 = .ok (.iload_n 3, 1) := by decide +kernel
theorem dX5_lay_60 : decode cX5_lay 60 = .ok (.iaload, 1) := by decide +kernel
theorem dX5_lay_61 : decode cX5_lay 61 = .ok (.ireturn, 1) := by decide +kernel
theorem dX5_set_0 : decode cX5_set 0 = .ok (.aload_n 0, 1) := by decide +kernel
theorem dX5_set_1 : decode cX5_set 1 = .ok (.iload_n 1, 1) := by decide +kernel
theorem dX5_set_2 : decode cX5_set 2 = .ok (.invokevirtual 201, 3) := by decide +kernel
theorem dX5_set_5 : decode cX5_set 5 = .ok (.ifCond .ne 5, 3) := by decide +kernel
theorem dX5_set_8 : decode cX5_set 8 = .ok (.iconst (-1), 1) := by decide +kernel
theorem dX5_set_9 : decode cX5_set 9 = .ok (.ireturn, 1) := by decide +kernel
theorem dX5_set_10 : decode cX5_set 10 = .ok (.iload_n 2, 1) := by decide +kernel
theorem dX5_set_11 : decode cX5_set 11 = .ok (.iconst 0, 1) := by decide +kernel
theorem dX5_set_12 : decode cX5_set 12 = .ok (.bipush 99, 2) := by decide +kernel
theorem dX5_set_14 : decode cX5_set 14 = .ok (.invokestatic 72, 3) := by decide +kernel
theorem dX5_set_17 : decode cX5_set 17 = .ok (.ifCond .ne 6, 3) := by decide +kernel
theorem dX5_set_20 : decode cX5_set 20 = .ok (.bipush (-2), 2) := by decide +kernel
theorem dX5_set_22 : decode cX5_set 22 = .ok (.ireturn, 1) := by decide +kernel
theorem dX5_set_23 : decode cX5_set 23 = .ok (.aload_n 0, 1) := by decide +kernel
theorem dX5_set_24 : decode cX5_set 24 = .ok (.invokevirtual 207, 3) := by decide +kernel
theorem dX5_set_27 : decode cX5_set 27 = .ok (.aload_n 0, 1) := by decide +kernel
theorem dX5_set_28 : decode cX5_set 28 = .ok (.getfield 23, 3) := by decide +kernel
theorem dX5_set_31 : decode cX5_set 31 = .ok (.bipush 63, 2) := by decide +kernel
theorem dX5_set_33 : decode cX5_set 33 = .ok (.iload_n 1, 1) := by decide +kernel
theorem dX5_set_34 : decode cX5_set 34 = .ok (.iadd, 1) := by decide +kernel
theorem dX5_set_35 : decode cX5_set 35 = .ok (.iaload, 1) := by decide +kernel
theorem dX5_set_36 : decode cX5_set 36 = .ok (.istore_n 3, 1) := by decide +kernel
theorem dX5_set_37 : decode cX5_set 37 = .ok (.aload_n 0, 1) := by decide +kernel
theorem dX5_set_38 : decode cX5_set 38 = .ok (.getfield 23, 3) := by decide +kernel
theorem dX5_set_41 : decode cX5_set 41 = .ok (.bipush 63, 2) := by decide +kernel
theorem dX5_set_43 : decode cX5_set 43 = .ok (.iload_n 1, 1) := by decide +kernel
theorem dX5_set_44 : decode cX5_set 44 = .ok (.iadd, 1) := by decide +kernel
theorem dX5_set_45 : decode cX5_set 45 = .ok (.iload_n 2, 1) := by decide +kernel
theorem dX5_set_46 : decode cX5_set 46 = .ok (.iastore, 1) := by decide +kernel
theorem dX5_set_47 : decode cX5_set 47 = .ok (.iload_n 3, 1) := by decide +kernel
theorem dX5_set_48 : decode cX5_set 48 = .ok (.ireturn, 1) := by decide +kernel
theorem dX5_come_0 : decode cX5_come 0 = .ok (.iload_n 1, 1) := by decide +kernel
theorem dX5_come_1 : decode cX5_come 1 = .ok (.iconst 0, 1) := by decide +kernel
theorem dX5_come_2 : decode cX5_come 2 = .ok (.iconst 2, 1) := by decide +kernel
theorem dX5_come_3 : decode cX5_come 3 = .ok (.invokestatic 72, 3) := by decide +kernel
theorem dX5_come_6 : decode cX5_come 6 = .ok (.ifCond .ne 6, 3) := by decide +kernel
theorem dX5_come_9 : decode cX5_come 9 = .ok (.bipush (-2), 2) := by decide +kernel
theorem dX5_come_11 : decode cX5_come 11 = .ok (.ireturn, 1) := by decide +kernel
theorem dX5_come_12 : decode cX5_come 12 = .ok (.aload_n 0, 1) := by decide +kernel
theorem dX5_come_13 : decode cX5_come 13 = .ok (.getfield 23, 3) := by decide +kernel
theorem dX5_come_16 : decode cX5_come 16 = .ok (.bipush 78, 2) := by decide +kernel
theorem dX5_come_18 : decode cX5_come 18 = .ok (.iaload, 1) := by decide +kernel
theorem dX5_come_19 : decode cX5_come 19 = .ok (.bipush 24, 2) := by decide +kernel
theorem dX5_come_21 : decode cX5_come 21 = .ok (.if_icmp .ne 6, 3) := by decide +kernel
theorem dX5_come_24 : decode cX5_come 24 = .ok (.bipush (-4), 2) := by decide +kernel
theorem dX5_come_26 : decode cX5_come 26 = .ok (.ireturn, 1) := by decide +kernel
theorem dX5_come_27 : decode cX5_come 27 = .ok (.aload_n 0, 1) := by decide +kernel
theorem dX5_come_28 : decode cX5_come 28 = .ok (.invokevirtual 207, 3) := by decide +kernel
theorem dX5_come_31 : decode cX5_come 31 = .ok (.aload_n 0, 1) := by decide +kernel
theorem dX5_come_32 : decode cX5_come 32 = .ok (.getfield 23, 3) := by decide +kernel
theorem dX5_come_35 : decode cX5_come 35 = .ok (.bipush 79, 2) := by decide +kernel
theorem dX5_come_37 : decode cX5_come 37 = .ok (.aload_n 0, 1) := by decide +kernel
theorem dX5_come_38 : decode cX5_come 38 = .ok (.getfield 23, 3) := by decide +kernel
theorem dX5_come_41 : decode cX5_come 41 = .ok (.bipush 78, 2) := by decide +kernel
theorem dX5_come_43 : decode cX5_come 43 = .ok (.iaload, 1) := by decide +kernel
theorem dX5_come_44 : decode cX5_come 44 = .ok (.iadd, 1) := by decide +kernel
theorem dX5_come_45 : decode cX5_come 45 = .ok (.iload_n 1, 1) := by decide +kernel
theorem dX5_come_46 : decode cX5_come 46 = .ok (.iastore, 1) := by decide +kernel
theorem dX5_come_47 : decode cX5_come 47 = .ok (.aload_n 0, 1) := by decide +kernel
theorem dX5_come_48 : decode cX5_come 48 = .ok (.getfield 23, 3) := by decide +kernel
theorem dX5_come_51 : decode cX5_come 51 = .ok (.bipush 78, 2) := by decide +kernel
theorem dX5_come_53 : decode cX5_come 53 = .ok (.dup2, 1) := by decide +kernel
theorem dX5_come_54 : decode cX5_come 54 = .ok (.iaload, 1) := by decide +kernel
theorem dX5_come_55 : decode cX5_come 55 = .ok (.iconst 1, 1) := by decide +kernel
theorem dX5_come_56 : decode cX5_come 56 = .ok (.iadd, 1) := by decide +kernel
theorem dX5_come_57 : decode cX5_come 57 = .ok (.iastore, 1) := by decide +kernel
theorem dX5_come_58 : decode cX5_come 58 = .ok (.aload_n 0, 1) := by decide +kernel
theorem dX5_come_59 : decode cX5_come 59 = .ok (.getfield 23, 3) := by decide +kernel
theorem dX5_come_62 : decode cX5_come 62 = .ok (.bipush 78, 2) := by decide +kernel
theorem dX5_come_64 : decode cX5_come 64 = .ok (.iaload, 1) := by decide +kernel
theorem dX5_come_65 : decode cX5_come 65 = .ok (.ireturn, 1) := by decide +kernel
theorem dX5_undo_0 : decode cX5_undo 0 = .ok (.aload_n 0, 1) := by decide +kernel
theorem dX5_undo_1 : decode cX5_undo 1 = .ok (.getfield 139, 3) := by decide +kernel
theorem dX5_undo_4 : decode cX5_undo 4 = .ok (.ifCond .ne 6, 3) := by decide +kernel
theorem dX5_undo_7 : decode cX5_undo 7 = .ok (.bipush (-3), 2) := by decide +kernel
theorem dX5_undo_9 : decode cX5_undo 9 = .ok (.ireturn, 1) := by decide +kernel
theorem dX5_undo_10 : decode cX5_undo 10 = .ok (.aload_n 0, 1) := by decide +kernel
theorem dX5_undo_11 : decode cX5_undo 11 = .ok (.dup, 1) := by decide +kernel
theorem dX5_undo_12 : decode cX5_undo 12 = .ok (.getfield 139, 3) := by decide +kernel
theorem dX5_undo_15 : decode cX5_undo 15 = .ok (.iconst 1, 1) := by decide +kernel
theorem dX5_undo_16 : decode cX5_undo 16 = .ok (.isub, 1) := by decide +kernel
theorem dX5_undo_17 : decode cX5_undo 17 = .ok (.putfield 139, 3) := by decide +kernel
theorem dX5_undo_20 : decode cX5_undo 20 = .ok (.aload_n 0, 1) := by decide +kernel
theorem dX5_undo_21 : decode cX5_undo 21 = .ok (.aload_n 0, 1) := by decide +kernel
theorem dX5_undo_22 : decode cX5_undo 22 = .ok (.getfield 204, 3) := by decide +kernel
theorem dX5_undo_25 : decode cX5_undo 25 = .ok (.bipush 14, 2) := by decide +kernel
theorem dX5_undo_27 : decode cX5_undo 27 = .ok (.iadd, 1) := by decide +kernel
theorem dX5_undo_28 : decode cX5_undo 28 = .ok (.iconst 1, 1) := by decide +kernel
theorem dX5_undo_29 : decode cX5_undo 29 = .ok (.isub, 1) := by decide +kernel
theorem dX5_undo_30 : decode cX5_undo 30 = .ok (.bipush 14, 2) := by decide +kernel
theorem dX5_undo_32 : decode cX5_undo 32 = .ok (.irem, 1) := by decide +kernel
theorem dX5_undo_33 : decode cX5_undo 33 = .ok (.putfield 204, 3) := by decide +kernel
theorem dX5_undo_36 : decode cX5_undo 36 = .ok (.iconst 0, 1) := by decide +kernel
theorem dX5_undo_37 : decode cX5_undo 37 = .ok (.istore_n 1, 1) := by decide +kernel
theorem dX5_undo_38 : decode cX5_undo 38 = .ok (.iload_n 1, 1) := by decide +kernel
theorem dX5_undo_39 : decode cX5_undo 39 = .ok (.bipush 103, 2) := by decide +kernel
theorem dX5_undo_41 : decode cX5_undo 41 = .ok (.if_icmp .ge 29, 3) := by decide +kernel
theorem dX5_undo_44 : decode cX5_undo 44 = .ok (.aload_n 0, 1) := by decide +kernel
theorem dX5_undo_45 : decode cX5_undo 45 = .ok (.getfield 23, 3) := by decide +kernel
theorem dX5_undo_48 : decode cX5_undo 48 = .ok (.iload_n 1, 1) := by decide +kernel
theorem dX5_undo_49 : decode cX5_undo 49 = .ok (.aload_n 0, 1) := by decide +kernel
theorem dX5_undo_50 : decode cX5_undo 50 = .ok (.getfield 29, 3) := by decide +kernel
theorem dX5_undo_53 : decode cX5_undo 53 = .ok (.bipush 103, 2) := by decide +kernel
theorem dX5_undo_55 : decode cX5_undo 55 = .ok (.aload_n 0, 1) := by decide +kernel
theorem dX5_undo_56 : decode cX5_undo 56 = .ok (.getfield 204, 3) := by decide +kernel
theorem dX5_undo_59 : decode cX5_undo 59 = .ok (.imul, 1) := by decide +kernel
theorem dX5_undo_60 : decode cX5_undo 60 = .ok (.iload_n 1, 1) := by decide +kernel
theorem dX5_undo_61 : decode cX5_undo 61 = .ok (.iadd, 1) := by decide +kernel
theorem dX5_undo_62 : decode cX5_undo 62 = .ok (.iaload, 1) := by decide +kernel
theorem dX5_undo_63 : decode cX5_undo 63 = .ok (.iastore, 1) := by decide +kernel
theorem dX5_undo_64 : decode cX5_undo 64 = .ok (.iinc 1 1, 3) := by decide +kernel
theorem dX5_undo_67 : decode cX5_undo 67 = .ok (.goto (-29), 3) := by decide +kernel
theorem dX5_undo_70 : decode cX5_undo 70 = .ok (.aload_n 0, 1) := by decide +kernel
theorem dX5_undo_71 : decode cX5_undo 71 = .ok (.getfield 139, 3) := by decide +kernel
theorem dX5_undo_74 : decode cX5_undo 74 = .ok (.ireturn, 1) := by decide +kernel
theorem dX5_ahead_0 : decode cX5_ahead 0 = .ok (.iload_n 1, 1) := by decide +kernel
theorem dX5_ahead_1 : decode cX5_ahead 1 = .ok (.iconst 0, 1) := by decide +kernel
theorem dX5_ahead_2 : decode cX5_ahead 2 = .ok (.bipush 99, 2) := by decide +kernel
theorem dX5_ahead_4 : decode cX5_ahead 4 = .ok (.invokestatic 72, 3) := by decide +kernel
theorem dX5_ahead_7 : decode cX5_ahead 7 = .ok (.ifCond .eq 13, 3) := by decide +kernel
theorem dX5_ahead_10 : decode cX5_ahead 10 = .ok (.iload_n 2, 1) := by decide +kernel
theorem dX5_ahead_11 : decode cX5_ahead 11 = .ok (.iconst 5, 1) := by decide +kernel
theorem dX5_ahead_12 : decode cX5_ahead 12 = .ok (.bipush 17, 2) := by decide +kernel
theorem dX5_ahead_14 : decode cX5_ahead 14 = .ok (.invokestatic 72, 3) := by decide +kernel
theorem dX5_ahead_17 : decode cX5_ahead 17 = .ok (.ifCond .ne 6, 3) := by decide +kernel
theorem dX5_ahead_20 : decode cX5_ahead 20 = .ok (.bipush (-2), 2) := by decide +kernel
theorem dX5_ahead_22 : decode cX5_ahead 22 = .ok (.ireturn, 1) := by decide +kernel
theorem dX5_ahead_23 : decode cX5_ahead 23 = .ok (.aload_n 0, 1) := by decide +kernel
theorem dX5_ahead_24 : decode cX5_ahead 24 = .ok (.getfield 23, 3) := by decide +kernel
theorem dX5_ahead_27 : decode cX5_ahead 27 = .ok (.aload_n 0, 1) := by decide +kernel
theorem dX5_ahead_28 : decode cX5_ahead 28 = .ok (.getfield 26, 3) := by decide +kernel
theorem dX5_ahead_31 : decode cX5_ahead 31 = .ok (.invokestatic 222, 3) := by decide +kernel
theorem dX5_ahead_34 : decode cX5_ahead 34 = .ok (.aload_n 0, 1) := by decide +kernel
theorem dX5_ahead_35 : decode cX5_ahead 35 = .ok (.aload_n 0, 1) := by decide +kernel
theorem dX5_ahead_36 : decode cX5_ahead 36 = .ok (.getfield 26, 3) := by decide +kernel
theorem dX5_ahead_39 : decode cX5_ahead 39 = .ok (.iload_n 1, 1) := by decide +kernel
theorem dX5_ahead_40 : decode cX5_ahead 40 = .ok (.invokevirtual 210, 3) := by decide +kernel
theorem dX5_ahead_43 : decode cX5_ahead 43 = .ok (.pop, 1) := by decide +kernel
theorem dX5_ahead_44 : decode cX5_ahead 44 = .ok (.aload_n 0, 1) := by decide +kernel
theorem dX5_ahead_45 : decode cX5_ahead 45 = .ok (.aload_n 0, 1) := by decide +kernel
theorem dX5_ahead_46 : decode cX5_ahead 46 = .ok (.getfield 26, 3) := by decide +kernel
theorem dX5_ahead_49 : decode cX5_ahead 49 = .ok (.iload_n 2, 1) := by decide +kernel
theorem dX5_ahead_50 : decode cX5_ahead 50 = .ok (.invokevirtual 194, 3) := by decide +kernel
theorem dX5_ahead_53 : decode cX5_ahead 53 = .ok (.ireturn, 1) := by decide +kernel
theorem dX5_goes_0 : decode cX5_goes 0 = .ok (.aload_n 0, 1) := by decide +kernel
theorem dX5_goes_1 : decode cX5_goes 1 = .ok (.iload_n 1, 1) := by decide +kernel
theorem dX5_goes_2 : decode cX5_goes 2 = .ok (.invokevirtual 198, 3) := by decide +kernel
theorem dX5_goes_5 : decode cX5_goes 5 = .ok (.ifCond .ne 5, 3) := by decide +kernel
theorem dX5_goes_8 : decode cX5_goes 8 = .ok (.iconst (-1), 1) := by decide +kernel
theorem dX5_goes_9 : decode cX5_goes 9 = .ok (.ireturn, 1) := by decide +kernel
theorem dX5_goes_10 : decode cX5_goes 10 = .ok (.iload_n 2, 1) := by decide +kernel
theorem dX5_goes_11 : decode cX5_goes 11 = .ok (.iconst 0, 1) := by decide +kernel
theorem dX5_goes_12 : decode cX5_goes 12 = .ok (.iconst 1, 1) := by decide +kernel
theorem dX5_goes_13 : decode cX5_goes 13 = .ok (.invokestatic 72, 3) := by decide +kernel
theorem dX5_goes_16 : decode cX5_goes 16 = .ok (.ifCond .ne 6, 3) := by decide +kernel
theorem dX5_goes_19 : decode cX5_goes 19 = .ok (.bipush (-2), 2) := by decide +kernel
theorem dX5_goes_21 : decode cX5_goes 21 = .ok (.ireturn, 1) := by decide +kernel
theorem dX5_goes_22 : decode cX5_goes 22 = .ok (.aload_n 0, 1) := by decide +kernel
theorem dX5_goes_23 : decode cX5_goes 23 = .ok (.getfield 23, 3) := by decide +kernel
theorem dX5_goes_26 : decode cX5_goes 26 = .ok (.iconst 0, 1) := by decide +kernel
theorem dX5_goes_27 : decode cX5_goes 27 = .ok (.iload_n 1, 1) := by decide +kernel
theorem dX5_goes_28 : decode cX5_goes 28 = .ok (.iadd, 1) := by decide +kernel
theorem dX5_goes_29 : decode cX5_goes 29 = .ok (.iaload, 1) := by decide +kernel
theorem dX5_goes_30 : decode cX5_goes 30 = .ok (.ifCond .ne 6, 3) := by decide +kernel
theorem dX5_goes_33 : decode cX5_goes 33 = .ok (.bipush (-3), 2) := by decide +kernel
theorem dX5_goes_35 : decode cX5_goes 35 = .ok (.ireturn, 1) := by decide +kernel
theorem dX5_goes_36 : decode cX5_goes 36 = .ok (.aload_n 0, 1) := by decide +kernel
theorem dX5_goes_37 : decode cX5_goes 37 = .ok (.getfield 23, 3) := by decide +kernel
theorem dX5_goes_40 : decode cX5_goes 40 = .ok (.aload_n 0, 1) := by decide +kernel
theorem dX5_goes_41 : decode cX5_goes 41 = .ok (.getfield 26, 3) := by decide +kernel
theorem dX5_goes_44 : decode cX5_goes 44 = .ok (.invokestatic 222, 3) := by decide +kernel
theorem dX5_goes_47 : decode cX5_goes 47 = .ok (.aload_n 0, 1) := by decide +kernel
theorem dX5_goes_48 : decode cX5_goes 48 = .ok (.iload_n 1, 1) := by decide +kernel
theorem dX5_goes_49 : decode cX5_goes 49 = .ok (.putfield 69, 3) := by decide +kernel
theorem dX5_goes_52 : decode cX5_goes 52 = .ok (.aload_n 0, 1) := by decide +kernel
theorem dX5_goes_53 : decode cX5_goes 53 = .ok (.bipush (-9), 2) := by decide +kernel
theorem dX5_goes_55 : decode cX5_goes 55 = .ok (.putfield 146, 3) := by decide +kernel
theorem dX5_goes_58 : decode cX5_goes 58 = .ok (.iconst 0, 1) := by decide +kernel
theorem dX5_goes_59 : decode cX5_goes 59 = .ok (.istore_n 3, 1) := by decide +kernel
theorem dX5_goes_60 : decode cX5_goes 60 = .ok (.iload_n 3, 1) := by decide +kernel
theorem dX5_goes_61 : decode cX5_goes 61 = .ok (.bipush 60, 2) := by decide +kernel
theorem dX5_goes_63 : decode cX5_goes 63 = .ok (.if_icmp .ge 38, 3) := by decide +kernel
theorem dX5_goes_66 : decode cX5_goes 66 = .ok (.aload_n 0, 1) := by decide +kernel
theorem dX5_goes_67 : decode cX5_goes 67 = .ok (.getfield 69, 3) := by decide +kernel
theorem dX5_goes_70 : decode cX5_goes 70 = .ok (.bipush (-9), 2) := by decide +kernel
theorem dX5_goes_72 : decode cX5_goes 72 = .ok (.if_icmp .eq 29, 3) := by decide +kernel
theorem dX5_goes_75 : decode cX5_goes 75 = .ok (.aload_n 0, 1) := by decide +kernel
theorem dX5_goes_76 : decode cX5_goes 76 = .ok (.getfield 26, 3) := by decide +kernel
theorem dX5_goes_79 : decode cX5_goes 79 = .ok (.bipush 70, 2) := by decide +kernel
theorem dX5_goes_81 : decode cX5_goes 81 = .ok (.iaload, 1) := by decide +kernel
theorem dX5_goes_82 : decode cX5_goes 82 = .ok (.ifCond .ne 19, 3) := by decide +kernel
theorem dX5_goes_85 : decode cX5_goes 85 = .ok (.aload_n 0, 1) := by decide +kernel
theorem dX5_goes_86 : decode cX5_goes 86 = .ok (.aload_n 0, 1) := by decide +kernel
theorem dX5_goes_87 : decode cX5_goes 87 = .ok (.getfield 26, 3) := by decide +kernel
theorem dX5_goes_90 : decode cX5_goes 90 = .ok (.iconst 1, 1) := by decide +kernel
theorem dX5_goes_91 : decode cX5_goes 91 = .ok (.invokevirtual 210, 3) := by decide +kernel
theorem dX5_goes_94 : decode cX5_goes 94 = .ok (.pop, 1) := by decide +kernel
theorem dX5_goes_95 : decode cX5_goes 95 = .ok (.iinc 3 1, 3) := by decide +kernel
theorem dX5_goes_98 : decode cX5_goes 98 = .ok (.goto (-38), 3) := by decide +kernel
theorem dX5_goes_101 : decode cX5_goes 101 = .ok (.aload_n 0, 1) := by decide +kernel
theorem dX5_goes_102 : decode cX5_goes 102 = .ok (.getfield 69, 3) := by decide +kernel
theorem dX5_goes_105 : decode cX5_goes 105 = .ok (.bipush (-9), 2) := by decide +kernel
theorem dX5_goes_107 : decode cX5_goes 107 = .ok (.if_icmp .ne 7, 3) := by decide +kernel
theorem dX5_goes_110 : decode cX5_goes 110 = .ok (.iconst 1, 1) := by decide +kernel
theorem dX5_goes_111 : decode cX5_goes 111 = .ok (.goto 4, 3) := by decide +kernel
theorem dX5_goes_114 : decode cX5_goes 114 = .ok (.iconst 0, 1) := by decide +kernel
theorem dX5_goes_115 : decode cX5_goes 115 = .ok (.istore 4, 2) := by decide +kernel
theorem dX5_goes_117 : decode cX5_goes 117 = .ok (.aload_n 0, 1) := by decide +kernel
theorem dX5_goes_118 : decode cX5_goes 118 = .ok (.bipush (-9), 2) := by decide +kernel
theorem dX5_goes_120 : decode cX5_goes 120 = .ok (.putfield 69, 3) := by decide +kernel
theorem dX5_goes_123 : decode cX5_goes 123 = .ok (.iload 4, 2) := by decide +kernel
theorem dX5_goes_125 : decode cX5_goes 125 = .ok (.ifCond .ne 8, 3) := by decide +kernel
theorem dX5_goes_128 : decode cX5_goes 128 = .ok (.bipush (-9), 2) := by decide +kernel
theorem dX5_goes_130 : decode cX5_goes 130 = .ok (.goto 15, 3) := by decide +kernel
theorem dX5_goes_133 : decode cX5_goes 133 = .ok (.iload_n 2, 1) := by decide +kernel
theorem dX5_goes_134 : decode cX5_goes 134 = .ok (.ifCond .ne 7, 3) := by decide +kernel
theorem dX5_goes_137 : decode cX5_goes 137 = .ok (.iload_n 3, 1) := by decide +kernel
theorem dX5_goes_138 : decode cX5_goes 138 = .ok (.goto 7, 3) := by decide +kernel
theorem dX5_goes_141 : decode cX5_goes 141 = .ok (.aload_n 0, 1) := by decide +kernel
theorem dX5_goes_142 : decode cX5_goes 142 = .ok (.getfield 146, 3) := by decide +kernel
theorem dX5_goes_145 : decode cX5_goes 145 = .ok (.ireturn, 1) := by decide +kernel
theorem dX5_best_0 : decode cX5_best 0 = .ok (.aload_n 0, 1) := by decide +kernel
theorem dX5_best_1 : decode cX5_best 1 = .ok (.iload_n 1, 1) := by decide +kernel
theorem dX5_best_2 : decode cX5_best 2 = .ok (.invokevirtual 201, 3) := by decide +kernel
theorem dX5_best_5 : decode cX5_best 5 = .ok (.ifCond .ne 5, 3) := by decide +kernel
theorem dX5_best_8 : decode cX5_best 8 = .ok (.iconst (-1), 1) := by decide +kernel
theorem dX5_best_9 : decode cX5_best 9 = .ok (.ireturn, 1) := by decide +kernel
theorem dX5_best_10 : decode cX5_best 10 = .ok (.iconst 0, 1) := by decide +kernel
theorem dX5_best_11 : decode cX5_best 11 = .ok (.istore_n 2, 1) := by decide +kernel
theorem dX5_best_12 : decode cX5_best 12 = .ok (.iconst (-1), 1) := by decide +kernel
theorem dX5_best_13 : decode cX5_best 13 = .ok (.istore_n 3, 1) := by decide +kernel
theorem dX5_best_14 : decode cX5_best 14 = .ok (.iconst 0, 1) := by decide +kernel
theorem dX5_best_15 : decode cX5_best 15 = .ok (.istore 4, 2) := by decide +kernel
theorem dX5_best_17 : decode cX5_best 17 = .ok (.iload 4, 2) := by decide +kernel
theorem dX5_best_19 : decode cX5_best 19 = .ok (.bipush 100, 2) := by decide +kernel
theorem dX5_best_21 : decode cX5_best 21 = .ok (.if_icmp .ge 83, 3) := by decide +kernel
theorem dX5_best_24 : decode cX5_best 24 = .ok (.aload_n 0, 1) := by decide +kernel
theorem dX5_best_25 : decode cX5_best 25 = .ok (.getfield 23, 3) := by decide +kernel
theorem dX5_best_28 : decode cX5_best 28 = .ok (.aload_n 0, 1) := by decide +kernel
theorem dX5_best_29 : decode cX5_best 29 = .ok (.getfield 26, 3) := by decide +kernel
theorem dX5_best_32 : decode cX5_best 32 = .ok (.invokestatic 222, 3) := by decide +kernel
theorem dX5_best_35 : decode cX5_best 35 = .ok (.aload_n 0, 1) := by decide +kernel
theorem dX5_best_36 : decode cX5_best 36 = .ok (.getfield 26, 3) := by decide +kernel
theorem dX5_best_39 : decode cX5_best 39 = .ok (.bipush 63, 2) := by decide +kernel
theorem dX5_best_41 : decode cX5_best 41 = .ok (.iload_n 1, 1) := by decide +kernel
theorem dX5_best_42 : decode cX5_best 42 = .ok (.iadd, 1) := by decide +kernel
theorem dX5_best_43 : decode cX5_best 43 = .ok (.iload 4, 2) := by decide +kernel
theorem dX5_best_45 : decode cX5_best 45 = .ok (.iastore, 1) := by decide +kernel
theorem dX5_best_46 : decode cX5_best 46 = .ok (.aload_n 0, 1) := by decide +kernel
theorem dX5_best_47 : decode cX5_best 47 = .ok (.aload_n 0, 1) := by decide +kernel
theorem dX5_best_48 : decode cX5_best 48 = .ok (.getfield 26, 3) := by decide +kernel
theorem dX5_best_51 : decode cX5_best 51 = .ok (.bipush 30, 2) := by decide +kernel
theorem dX5_best_53 : decode cX5_best 53 = .ok (.invokevirtual 210, 3) := by decide +kernel
theorem dX5_best_56 : decode cX5_best 56 = .ok (.pop, 1) := by decide +kernel
theorem dX5_best_57 : decode cX5_best 57 = .ok (.aload_n 0, 1) := by decide +kernel
theorem dX5_best_58 : decode cX5_best 58 = .ok (.getfield 26, 3) := by decide +kernel
theorem dX5_best_61 : decode cX5_best 61 = .ok (.bipush 72, 2) := by decide +kernel
theorem dX5_best_63 : decode cX5_best 63 = .ok (.iaload, 1) := by decide +kernel
theorem dX5_best_64 : decode cX5_best 64 = .ok (.iload_n 3, 1) := by decide +kernel
theorem dX5_best_65 : decode cX5_best 65 = .ok (.if_icmp .le 8, 3) := by decide +kernel
theorem dX5_best_68 : decode cX5_best 68 = .ok (.iload 4, 2) := by decide +kernel
theorem dX5_best_70 : decode cX5_best 70 = .ok (.goto 4, 3) := by decide +kernel
theorem dX5_best_73 : decode cX5_best 73 = .ok (.iload_n 2, 1) := by decide +kernel
theorem dX5_best_74 : decode cX5_best 74 = .ok (.istore_n 2, 1) := by decide +kernel
theorem dX5_best_75 : decode cX5_best 75 = .ok (.aload_n 0, 1) := by decide +kernel
theorem dX5_best_76 : decode cX5_best 76 = .ok (.getfield 26, 3) := by decide +kernel
theorem dX5_best_79 : decode cX5_best 79 = .ok (.bipush 72, 2) := by decide +kernel
theorem dX5_best_81 : decode cX5_best 81 = .ok (.iaload, 1) := by decide +kernel
theorem dX5_best_82 : decode cX5_best 82 = .ok (.iload_n 3, 1) := by decide +kernel
theorem dX5_best_83 : decode cX5_best 83 = .ok (.if_icmp .le 13, 3) := by decide +kernel
theorem dX5_best_86 : decode cX5_best 86 = .ok (.aload_n 0, 1) := by decide +kernel
theorem dX5_best_87 : decode cX5_best 87 = .ok (.getfield 26, 3) := by decide +kernel
theorem dX5_best_90 : decode cX5_best 90 = .ok (.bipush 72, 2) := by decide +kernel
theorem dX5_best_92 : decode cX5_best 92 = .ok (.iaload, 1) := by decide +kernel
theorem dX5_best_93 : decode cX5_best 93 = .ok (.goto 4, 3) := by decide +kernel
theorem dX5_best_96 : decode cX5_best 96 = .ok (.iload_n 3, 1) := by decide +kernel
theorem dX5_best_97 : decode cX5_best 97 = .ok (.istore_n 3, 1) := by decide +kernel
theorem dX5_best_98 : decode cX5_best 98 = .ok (.iinc 4 1, 3) := by decide +kernel
theorem dX5_best_101 : decode cX5_best 101 = .ok (.goto (-84), 3) := by decide +kernel
theorem dX5_best_104 : decode cX5_best 104 = .ok (.iload_n 2, 1) := by decide +kernel
theorem dX5_best_105 : decode cX5_best 105 = .ok (.ireturn, 1) := by decide +kernel
theorem dX5_outWith_0 : decode cX5_outWith 0 = .ok (.aload_n 0, 1) := by decide +kernel
theorem dX5_outWith_1 : decode cX5_outWith 1 = .ok (.getfield 23, 3) := by decide +kernel
theorem dX5_outWith_4 : decode cX5_outWith 4 = .ok (.aload_n 0, 1) := by decide +kernel
theorem dX5_outWith_5 : decode cX5_outWith 5 = .ok (.getfield 26, 3) := by decide +kernel
theorem dX5_outWith_8 : decode cX5_outWith 8 = .ok (.invokestatic 222, 3) := by decide +kernel
theorem dX5_outWith_11 : decode cX5_outWith 11 = .ok (.aload_n 0, 1) := by decide +kernel
theorem dX5_outWith_12 : decode cX5_outWith 12 = .ok (.getfield 26, 3) := by decide +kernel
theorem dX5_outWith_15 : decode cX5_outWith 15 = .ok (.iload_n 1, 1) := by decide +kernel
theorem dX5_outWith_16 : decode cX5_outWith 16 = .ok (.aload_n 0, 1) := by decide +kernel
theorem dX5_outWith_17 : decode cX5_outWith 17 = .ok (.getfield 26, 3) := by decide +kernel
theorem dX5_outWith_20 : decode cX5_outWith 20 = .ok (.iload_n 1, 1) := by decide +kernel
theorem dX5_outWith_21 : decode cX5_outWith 21 = .ok (.iaload, 1) := by decide +kernel
theorem dX5_outWith_22 : decode cX5_outWith 22 = .ok (.iload_n 2, 1) := by decide +kernel
theorem dX5_outWith_23 : decode cX5_outWith 23 = .ok (.iadd, 1) := by decide +kernel
theorem dX5_outWith_24 : decode cX5_outWith 24 = .ok (.invokestatic 160, 3) := by decide +kernel
theorem dX5_outWith_27 : decode cX5_outWith 27 = .ok (.iastore, 1) := by decide +kernel
theorem dX5_outWith_28 : decode cX5_outWith 28 = .ok (.aload_n 0, 1) := by decide +kernel
theorem dX5_outWith_29 : decode cX5_outWith 29 = .ok (.aload_n 0, 1) := by decide +kernel
theorem dX5_outWith_30 : decode cX5_outWith 30 = .ok (.getfield 26, 3) := by decide +kernel
theorem dX5_outWith_33 : decode cX5_outWith 33 = .ok (.bipush 40, 2) := by decide +kernel
theorem dX5_outWith_35 : decode cX5_outWith 35 = .ok (.invokevirtual 210, 3) := by decide +kernel
theorem dX5_outWith_38 : decode cX5_outWith 38 = .ok (.pop, 1) := by decide +kernel
theorem dX5_outWith_39 : decode cX5_outWith 39 = .ok (.aload_n 0, 1) := by decide +kernel
theorem dX5_outWith_40 : decode cX5_outWith 40 = .ok (.getfield 26, 3) := by decide +kernel
theorem dX5_outWith_43 : decode cX5_outWith 43 = .ok (.bipush 72, 2) := by decide +kernel
theorem dX5_outWith_45 : decode cX5_outWith 45 = .ok (.iaload, 1) := by decide +kernel
theorem dX5_outWith_46 : decode cX5_outWith 46 = .ok (.ireturn, 1) := by decide +kernel
theorem dX5_needs_0 : decode cX5_needs 0 = .ok (.iload_n 1, 1) := by decide +kernel
theorem dX5_needs_1 : decode cX5_needs 1 = .ok (.ifCond .eq 8, 3) := by decide +kernel
theorem dX5_needs_4 : decode cX5_needs 4 = .ok (.bipush 68, 2) := by decide +kernel
theorem dX5_needs_6 : decode cX5_needs 6 = .ok (.goto 5, 3) := by decide +kernel
theorem dX5_needs_9 : decode cX5_needs 9 = .ok (.bipush 67, 2) := by decide +kernel
theorem dX5_needs_11 : decode cX5_needs 11 = .ok (.istore_n 2, 1) := by decide +kernel
theorem dX5_needs_12 : decode cX5_needs 12 = .ok (.aload_n 0, 1) := by decide +kernel
theorem dX5_needs_13 : decode cX5_needs 13 = .ok (.iload_n 2, 1) := by decide +kernel
theorem dX5_needs_14 : decode cX5_needs 14 = .ok (.bipush 40, 2) := by decide +kernel
theorem dX5_needs_16 : decode cX5_needs 16 = .ok (.invokevirtual 226, 3) := by decide +kernel
theorem dX5_needs_19 : decode cX5_needs 19 = .ok (.istore_n 3, 1) := by decide +kernel
theorem dX5_needs_20 : decode cX5_needs 20 = .ok (.iconst 0, 1) := by decide +kernel
theorem dX5_needs_21 : decode cX5_needs 21 = .ok (.istore 4, 2) := by decide +kernel
theorem dX5_needs_23 : decode cX5_needs 23 = .ok (.aload_n 0, 1) := by decide +kernel
theorem dX5_needs_24 : decode cX5_needs 24 = .ok (.iload_n 2, 1) := by decide +kernel
theorem dX5_needs_25 : decode cX5_needs 25 = .ok (.iload 4, 2) := by decide +kernel
theorem dX5_needs_27 : decode cX5_needs 27 = .ok (.invokevirtual 226, 3) := by decide +kernel
theorem dX5_needs_30 : decode cX5_needs 30 = .ok (.iload_n 3, 1) := by decide +kernel
theorem dX5_needs_31 : decode cX5_needs 31 = .ok (.if_icmp .eq 9, 3) := by decide +kernel
theorem dX5_needs_34 : decode cX5_needs 34 = .ok (.iinc 4 1, 3) := by decide +kernel
theorem dX5_needs_37 : decode cX5_needs 37 = .ok (.goto (-14), 3) := by decide +kernel
theorem dX5_needs_40 : decode cX5_needs 40 = .ok (.iload 4, 2) := by decide +kernel
theorem dX5_needs_42 : decode cX5_needs 42 = .ok (.ireturn, 1) := by decide +kernel
theorem dX5_judged_0 : decode cX5_judged 0 = .ok (.iload_n 2, 1) := by decide +kernel
theorem dX5_judged_1 : decode cX5_judged 1 = .ok (.ifCond .ne 11, 3) := by decide +kernel
theorem dX5_judged_4 : decode cX5_judged 4 = .ok (.iload_n 3, 1) := by decide +kernel
theorem dX5_judged_5 : decode cX5_judged 5 = .ok (.ifCond .ne 7, 3) := by decide +kernel
theorem dX5_judged_8 : decode cX5_judged 8 = .ok (.iconst 1, 1) := by decide +kernel
theorem dX5_judged_9 : decode cX5_judged 9 = .ok (.goto 4, 3) := by decide +kernel
theorem dX5_judged_12 : decode cX5_judged 12 = .ok (.iconst 0, 1) := by decide +kernel
theorem dX5_judged_13 : decode cX5_judged 13 = .ok (.istore 4, 2) := by decide +kernel
theorem dX5_judged_15 : decode cX5_judged 15 = .ok (.bipush 10, 2) := by decide +kernel
theorem dX5_judged_17 : decode cX5_judged 17 = .ok (.iload_n 2, 1) := by decide +kernel
theorem dX5_judged_18 : decode cX5_judged 18 = .ok (.imul, 1) := by decide +kernel
theorem dX5_judged_19 : decode cX5_judged 19 = .ok (.iload_n 3, 1) := by decide +kernel
theorem dX5_judged_20 : decode cX5_judged 20 = .ok (.iadd, 1) := by decide +kernel
theorem dX5_judged_21 : decode cX5_judged 21 = .ok (.istore 5, 2) := by decide +kernel
theorem dX5_judged_23 : decode cX5_judged 23 = .ok (.iload_n 1, 1) := by decide +kernel
theorem dX5_judged_24 : decode cX5_judged 24 = .ok (.tableswitch 304 1 9 #[52, 78, 94, 128, 156, 172, 206, 224, 251], 52) := by decide +kernel
theorem dX5_judged_76 : decode cX5_judged 76 = .ok (.iload 5, 2) := by decide +kernel
theorem dX5_judged_78 : decode cX5_judged 78 = .ok (.ifCond .le 22, 3) := by decide +kernel
theorem dX5_judged_81 : decode cX5_judged 81 = .ok (.aload_n 0, 1) := by decide +kernel
theorem dX5_judged_82 : decode cX5_judged 82 = .ok (.aload_n 0, 1) := by decide +kernel
theorem dX5_judged_83 : decode cX5_judged 83 = .ok (.getfield 26, 3) := by decide +kernel
theorem dX5_judged_86 : decode cX5_judged 86 = .ok (.iload 5, 2) := by decide +kernel
theorem dX5_judged_88 : decode cX5_judged 88 = .ok (.invokevirtual 210, 3) := by decide +kernel
theorem dX5_judged_91 : decode cX5_judged 91 = .ok (.iload 5, 2) := by decide +kernel
theorem dX5_judged_93 : decode cX5_judged 93 = .ok (.if_icmp .ne 7, 3) := by decide +kernel
theorem dX5_judged_96 : decode cX5_judged 96 = .ok (.iconst 1, 1) := by decide +kernel
theorem dX5_judged_97 : decode cX5_judged 97 = .ok (.goto 4, 3) := by decide +kernel
theorem dX5_judged_100 : decode cX5_judged 100 = .ok (.iconst 0, 1) := by decide +kernel
theorem dX5_judged_101 : decode cX5_judged 101 = .ok (.ireturn, 1) := by decide +kernel
theorem dX5_judged_102 : decode cX5_judged 102 = .ok (.iload 4, 2) := by decide +kernel
theorem dX5_judged_104 : decode cX5_judged 104 = .ok (.ifCond .eq 11, 3) := by decide +kernel
theorem dX5_judged_107 : decode cX5_judged 107 = .ok (.aload_n 0, 1) := by decide +kernel
theorem dX5_judged_108 : decode cX5_judged 108 = .ok (.aload_n 0, 1) := by decide +kernel
theorem dX5_judged_109 : decode cX5_judged 109 = .ok (.getfield 26, 3) := by decide +kernel
theorem dX5_judged_112 : decode cX5_judged 112 = .ok (.invokevirtual 153, 3) := by decide +kernel
theorem dX5_judged_115 : decode cX5_judged 115 = .ok (.iload 4, 2) := by decide +kernel
theorem dX5_judged_117 : decode cX5_judged 117 = .ok (.ireturn, 1) := by decide +kernel
theorem dX5_judged_118 : decode cX5_judged 118 = .ok (.aload_n 0, 1) := by decide +kernel
theorem dX5_judged_119 : decode cX5_judged 119 = .ok (.getfield 26, 3) := by decide +kernel
theorem dX5_judged_122 : decode cX5_judged 122 = .ok (.bipush 69, 2) := by decide +kernel
theorem dX5_judged_124 : decode cX5_judged 124 = .ok (.iload 4, 2) := by decide +kernel
theorem dX5_judged_126 : decode cX5_judged 126 = .ok (.ifCond .eq 15, 3) := by decide +kernel
theorem dX5_judged_129 : decode cX5_judged 129 = .ok (.iconst 1, 1) := by decide +kernel
theorem dX5_judged_130 : decode cX5_judged 130 = .ok (.aload_n 0, 1) := by decide +kernel
theorem dX5_judged_131 : decode cX5_judged 131 = .ok (.getfield 26, 3) := by decide +kernel
theorem dX5_judged_134 : decode cX5_judged 134 = .ok (.bipush 69, 2) := by decide +kernel
theorem dX5_judged_136 : decode cX5_judged 136 = .ok (.iaload, 1) := by decide +kernel
theorem dX5_judged_137 : decode cX5_judged 137 = .ok (.isub, 1) := by decide +kernel
theorem dX5_judged_138 : decode cX5_judged 138 = .ok (.goto 10, 3) := by decide +kernel
theorem dX5_judged_141 : decode cX5_judged 141 = .ok (.aload_n 0, 1) := by decide +kernel
theorem dX5_judged_142 : decode cX5_judged 142 = .ok (.getfield 26, 3) := by decide +kernel
theorem dX5_judged_145 : decode cX5_judged 145 = .ok (.bipush 69, 2) := by decide +kernel
theorem dX5_judged_147 : decode cX5_judged 147 = .ok (.iaload, 1) := by decide +kernel
theorem dX5_judged_148 : decode cX5_judged 148 = .ok (.iastore, 1) := by decide +kernel
theorem dX5_judged_149 : decode cX5_judged 149 = .ok (.iload 4, 2) := by decide +kernel
theorem dX5_judged_151 : decode cX5_judged 151 = .ok (.ireturn, 1) := by decide +kernel
theorem dX5_judged_152 : decode cX5_judged 152 = .ok (.iload 4, 2) := by decide +kernel
theorem dX5_judged_154 : decode cX5_judged 154 = .ok (.ifCond .eq 13, 3) := by decide +kernel
theorem dX5_judged_157 : decode cX5_judged 157 = .ok (.aload_n 0, 1) := by decide +kernel
theorem dX5_judged_158 : decode cX5_judged 158 = .ok (.getfield 26, 3) := by decide +kernel
theorem dX5_judged_161 : decode cX5_judged 161 = .ok (.bipush 70, 2) := by decide +kernel
theorem dX5_judged_163 : decode cX5_judged 163 = .ok (.iaload, 1) := by decide +kernel
theorem dX5_judged_164 : decode cX5_judged 164 = .ok (.ifCond .ne 5, 3) := by decide +kernel
theorem dX5_judged_167 : decode cX5_judged 167 = .ok (.iconst 0, 1) := by decide +kernel
theorem dX5_judged_168 : decode cX5_judged 168 = .ok (.ireturn, 1) := by decide +kernel
theorem dX5_judged_169 : decode cX5_judged 169 = .ok (.aload_n 0, 1) := by decide +kernel
theorem dX5_judged_170 : decode cX5_judged 170 = .ok (.aload_n 0, 1) := by decide +kernel
theorem dX5_judged_171 : decode cX5_judged 171 = .ok (.getfield 26, 3) := by decide +kernel
theorem dX5_judged_174 : decode cX5_judged 174 = .ok (.invokevirtual 216, 3) := by decide +kernel
theorem dX5_judged_177 : decode cX5_judged 177 = .ok (.pop, 1) := by decide +kernel
theorem dX5_judged_178 : decode cX5_judged 178 = .ok (.iconst 1, 1) := by decide +kernel
theorem dX5_judged_179 : decode cX5_judged 179 = .ok (.ireturn, 1) := by decide +kernel
theorem dX5_judged_180 : decode cX5_judged 180 = .ok (.iload 4, 2) := by decide +kernel
theorem dX5_judged_182 : decode cX5_judged 182 = .ok (.ifCond .eq 11, 3) := by decide +kernel
theorem dX5_judged_185 : decode cX5_judged 185 = .ok (.aload_n 0, 1) := by decide +kernel
theorem dX5_judged_186 : decode cX5_judged 186 = .ok (.aload_n 0, 1) := by decide +kernel
theorem dX5_judged_187 : decode cX5_judged 187 = .ok (.getfield 26, 3) := by decide +kernel
theorem dX5_judged_190 : decode cX5_judged 190 = .ok (.invokevirtual 219, 3) := by decide +kernel
theorem dX5_judged_193 : decode cX5_judged 193 = .ok (.iload 4, 2) := by decide +kernel
theorem dX5_judged_195 : decode cX5_judged 195 = .ok (.ireturn, 1) := by decide +kernel
theorem dX5_judged_196 : decode cX5_judged 196 = .ok (.aload_n 0, 1) := by decide +kernel
theorem dX5_judged_197 : decode cX5_judged 197 = .ok (.iload_n 2, 1) := by decide +kernel
theorem dX5_judged_198 : decode cX5_judged 198 = .ok (.invokevirtual 201, 3) := by decide +kernel
theorem dX5_judged_201 : decode cX5_judged 201 = .ok (.ifCond .eq 27, 3) := by decide +kernel
theorem dX5_judged_204 : decode cX5_judged 204 = .ok (.iload_n 3, 1) := by decide +kernel
theorem dX5_judged_205 : decode cX5_judged 205 = .ok (.ifCond .ne 23, 3) := by decide +kernel
theorem dX5_judged_208 : decode cX5_judged 208 = .ok (.aload_n 0, 1) := by decide +kernel
theorem dX5_judged_209 : decode cX5_judged 209 = .ok (.getfield 26, 3) := by decide +kernel
theorem dX5_judged_212 : decode cX5_judged 212 = .ok (.bipush 71, 2) := by decide +kernel
theorem dX5_judged_214 : decode cX5_judged 214 = .ok (.iaload, 1) := by decide +kernel
theorem dX5_judged_215 : decode cX5_judged 215 = .ok (.aload_n 0, 1) := by decide +kernel
theorem dX5_judged_216 : decode cX5_judged 216 = .ok (.getfield 76, 3) := by decide +kernel
theorem dX5_judged_219 : decode cX5_judged 219 = .ok (.irem, 1) := by decide +kernel
theorem dX5_judged_220 : decode cX5_judged 220 = .ok (.iload_n 2, 1) := by decide +kernel
theorem dX5_judged_221 : decode cX5_judged 221 = .ok (.if_icmp .ne 7, 3) := by decide +kernel
theorem dX5_judged_224 : decode cX5_judged 224 = .ok (.iconst 1, 1) := by decide +kernel
theorem dX5_judged_225 : decode cX5_judged 225 = .ok (.goto 4, 3) := by decide +kernel
theorem dX5_judged_228 : decode cX5_judged 228 = .ok (.iconst 0, 1) := by decide +kernel
theorem dX5_judged_229 : decode cX5_judged 229 = .ok (.ireturn, 1) := by decide +kernel
theorem dX5_judged_230 : decode cX5_judged 230 = .ok (.aload_n 0, 1) := by decide +kernel
theorem dX5_judged_231 : decode cX5_judged 231 = .ok (.getfield 26, 3) := by decide +kernel
theorem dX5_judged_234 : decode cX5_judged 234 = .ok (.bipush 72, 2) := by decide +kernel
theorem dX5_judged_236 : decode cX5_judged 236 = .ok (.iaload, 1) := by decide +kernel
theorem dX5_judged_237 : decode cX5_judged 237 = .ok (.iload 5, 2) := by decide +kernel
theorem dX5_judged_239 : decode cX5_judged 239 = .ok (.if_icmp .ne 7, 3) := by decide +kernel
theorem dX5_judged_242 : decode cX5_judged 242 = .ok (.iconst 1, 1) := by decide +kernel
theorem dX5_judged_243 : decode cX5_judged 243 = .ok (.goto 4, 3) := by decide +kernel
theorem dX5_judged_246 : decode cX5_judged 246 = .ok (.iconst 0, 1) := by decide +kernel
theorem dX5_judged_247 : decode cX5_judged 247 = .ok (.ireturn, 1) := by decide +kernel
theorem dX5_judged_248 : decode cX5_judged 248 = .ok (.aload_n 0, 1) := by decide +kernel
theorem dX5_judged_249 : decode cX5_judged 249 = .ok (.iload_n 2, 1) := by decide +kernel
theorem dX5_judged_250 : decode cX5_judged 250 = .ok (.invokevirtual 198, 3) := by decide +kernel
theorem dX5_judged_253 : decode cX5_judged 253 = .ok (.ifCond .eq 20, 3) := by decide +kernel
theorem dX5_judged_256 : decode cX5_judged 256 = .ok (.aload_n 0, 1) := by decide +kernel
theorem dX5_judged_257 : decode cX5_judged 257 = .ok (.getfield 26, 3) := by decide +kernel
theorem dX5_judged_260 : decode cX5_judged 260 = .ok (.bipush 54, 2) := by decide +kernel
theorem dX5_judged_262 : decode cX5_judged 262 = .ok (.iload_n 2, 1) := by decide +kernel
theorem dX5_judged_263 : decode cX5_judged 263 = .ok (.iadd, 1) := by decide +kernel
theorem dX5_judged_264 : decode cX5_judged 264 = .ok (.iaload, 1) := by decide +kernel
theorem dX5_judged_265 : decode cX5_judged 265 = .ok (.iload_n 3, 1) := by decide +kernel
theorem dX5_judged_266 : decode cX5_judged 266 = .ok (.if_icmp .ne 7, 3) := by decide +kernel
theorem dX5_judged_269 : decode cX5_judged 269 = .ok (.iconst 1, 1) := by decide +kernel
theorem dX5_judged_270 : decode cX5_judged 270 = .ok (.goto 4, 3) := by decide +kernel
theorem dX5_judged_273 : decode cX5_judged 273 = .ok (.iconst 0, 1) := by decide +kernel
theorem dX5_judged_274 : decode cX5_judged 274 = .ok (.ireturn, 1) := by decide +kernel
theorem dX5_judged_275 : decode cX5_judged 275 = .ok (.aload_n 0, 1) := by decide +kernel
theorem dX5_judged_276 : decode cX5_judged 276 = .ok (.iload_n 2, 1) := by decide +kernel
theorem dX5_judged_277 : decode cX5_judged 277 = .ok (.invokevirtual 198, 3) := by decide +kernel
theorem dX5_judged_280 : decode cX5_judged 280 = .ok (.ifCond .eq 46, 3) := by decide +kernel
theorem dX5_judged_283 : decode cX5_judged 283 = .ok (.iload_n 3, 1) := by decide +kernel
theorem dX5_judged_284 : decode cX5_judged 284 = .ok (.iconst 2, 1) := by decide +kernel
theorem dX5_judged_285 : decode cX5_judged 285 = .ok (.if_icmp .ge 41, 3) := by decide +kernel
theorem dX5_judged_288 : decode cX5_judged 288 = .ok (.aload_n 0, 1) := by decide +kernel
theorem dX5_judged_289 : decode cX5_judged 289 = .ok (.getfield 26, 3) := by decide +kernel
theorem dX5_judged_292 : decode cX5_judged 292 = .ok (.iconst 0, 1) := by decide +kernel
theorem dX5_judged_293 : decode cX5_judged 293 = .ok (.iload_n 2, 1) := by decide +kernel
theorem dX5_judged_294 : decode cX5_judged 294 = .ok (.iadd, 1) := by decide +kernel
theorem dX5_judged_295 : decode cX5_judged 295 = .ok (.iaload, 1) := by decide +kernel
theorem dX5_judged_296 : decode cX5_judged 296 = .ok (.iconst 1, 1) := by decide +kernel
theorem dX5_judged_297 : decode cX5_judged 297 = .ok (.if_icmp .ne 29, 3) := by decide +kernel
theorem dX5_judged_300 : decode cX5_judged 300 = .ok (.aload_n 0, 1) := by decide +kernel
theorem dX5_judged_301 : decode cX5_judged 301 = .ok (.aload_n 0, 1) := by decide +kernel
theorem dX5_judged_302 : decode cX5_judged 302 = .ok (.getfield 26, 3) := by decide +kernel
theorem dX5_judged_305 : decode cX5_judged 305 = .ok (.iload_n 2, 1) := by decide +kernel
theorem dX5_judged_306 : decode cX5_judged 306 = .ok (.invokevirtual 142, 3) := by decide +kernel
theorem dX5_judged_309 : decode cX5_judged 309 = .ok (.iload_n 3, 1) := by decide +kernel
theorem dX5_judged_310 : decode cX5_judged 310 = .ok (.iconst 1, 1) := by decide +kernel
theorem dX5_judged_311 : decode cX5_judged 311 = .ok (.if_icmp .ne 7, 3) := by decide +kernel
theorem dX5_judged_314 : decode cX5_judged 314 = .ok (.iconst 1, 1) := by decide +kernel
theorem dX5_judged_315 : decode cX5_judged 315 = .ok (.goto 4, 3) := by decide +kernel
theorem dX5_judged_318 : decode cX5_judged 318 = .ok (.iconst 0, 1) := by decide +kernel
theorem dX5_judged_319 : decode cX5_judged 319 = .ok (.if_icmp .ne 7, 3) := by decide +kernel
theorem dX5_judged_322 : decode cX5_judged 322 = .ok (.iconst 1, 1) := by decide +kernel
theorem dX5_judged_323 : decode cX5_judged 323 = .ok (.goto 4, 3) := by decide +kernel
theorem dX5_judged_326 : decode cX5_judged 326 = .ok (.iconst 0, 1) := by decide +kernel
theorem dX5_judged_327 : decode cX5_judged 327 = .ok (.ireturn, 1) := by decide +kernel
theorem dX5_judged_328 : decode cX5_judged 328 = .ok (.iconst 0, 1) := by decide +kernel
theorem dX5_judged_329 : decode cX5_judged 329 = .ok (.ireturn, 1) := by decide +kernel
theorem dX5_judge_0 : decode cX5_judge 0 = .ok (.iload_n 1, 1) := by decide +kernel
theorem dX5_judge_1 : decode cX5_judge 1 = .ok (.iconst 1, 1) := by decide +kernel
theorem dX5_judge_2 : decode cX5_judge 2 = .ok (.iconst 3, 1) := by decide +kernel
theorem dX5_judge_3 : decode cX5_judge 3 = .ok (.invokestatic 72, 3) := by decide +kernel
theorem dX5_judge_6 : decode cX5_judge 6 = .ok (.ifCond .eq 20, 3) := by decide +kernel
theorem dX5_judge_9 : decode cX5_judge 9 = .ok (.iload_n 2, 1) := by decide +kernel
theorem dX5_judge_10 : decode cX5_judge 10 = .ok (.iconst 0, 1) := by decide +kernel
theorem dX5_judge_11 : decode cX5_judge 11 = .ok (.sipush 1000, 3) := by decide +kernel
theorem dX5_judge_14 : decode cX5_judge 14 = .ok (.iload_n 1, 1) := by decide +kernel
theorem dX5_judge_15 : decode cX5_judge 15 = .ok (.invokestatic 230, 3) := by decide +kernel
theorem dX5_judge_18 : decode cX5_judge 18 = .ok (.iconst 1, 1) := by decide +kernel
theorem dX5_judge_19 : decode cX5_judge 19 = .ok (.isub, 1) := by decide +kernel
theorem dX5_judge_20 : decode cX5_judge 20 = .ok (.invokestatic 72, 3) := by decide +kernel
theorem dX5_judge_23 : decode cX5_judge 23 = .ok (.ifCond .ne 6, 3) := by decide +kernel
theorem dX5_judge_26 : decode cX5_judge 26 = .ok (.bipush (-2), 2) := by decide +kernel
theorem dX5_judge_28 : decode cX5_judge 28 = .ok (.ireturn, 1) := by decide +kernel
theorem dX5_judge_29 : decode cX5_judge 29 = .ok (.aload_n 0, 1) := by decide +kernel
theorem dX5_judge_30 : decode cX5_judge 30 = .ok (.getfield 23, 3) := by decide +kernel
theorem dX5_judge_33 : decode cX5_judge 33 = .ok (.aload_n 0, 1) := by decide +kernel
theorem dX5_judge_34 : decode cX5_judge 34 = .ok (.getfield 26, 3) := by decide +kernel
theorem dX5_judge_37 : decode cX5_judge 37 = .ok (.invokestatic 222, 3) := by decide +kernel
theorem dX5_judge_40 : decode cX5_judge 40 = .ok (.iconst 0, 1) := by decide +kernel
theorem dX5_judge_41 : decode cX5_judge 41 = .ok (.istore_n 3, 1) := by decide +kernel
theorem dX5_judge_42 : decode cX5_judge 42 = .ok (.iload_n 3, 1) := by decide +kernel
theorem dX5_judge_43 : decode cX5_judge 43 = .ok (.iload_n 1, 1) := by decide +kernel
theorem dX5_judge_44 : decode cX5_judge 44 = .ok (.if_icmp .ge 55, 3) := by decide +kernel
theorem dX5_judge_47 : decode cX5_judge 47 = .ok (.iload_n 2, 1) := by decide +kernel
theorem dX5_judge_48 : decode cX5_judge 48 = .ok (.sipush 1000, 3) := by decide +kernel
theorem dX5_judge_51 : decode cX5_judge 51 = .ok (.iload_n 1, 1) := by decide +kernel
theorem dX5_judge_52 : decode cX5_judge 52 = .ok (.iconst 1, 1) := by decide +kernel
theorem dX5_judge_53 : decode cX5_judge 53 = .ok (.isub, 1) := by decide +kernel
theorem dX5_judge_54 : decode cX5_judge 54 = .ok (.iload_n 3, 1) := by decide +kernel
theorem dX5_judge_55 : decode cX5_judge 55 = .ok (.isub, 1) := by decide +kernel
theorem dX5_judge_56 : decode cX5_judge 56 = .ok (.invokestatic 230, 3) := by decide +kernel
theorem dX5_judge_59 : decode cX5_judge 59 = .ok (.idiv, 1) := by decide +kernel
theorem dX5_judge_60 : decode cX5_judge 60 = .ok (.sipush 1000, 3) := by decide +kernel
theorem dX5_judge_63 : decode cX5_judge 63 = .ok (.irem, 1) := by decide +kernel
theorem dX5_judge_64 : decode cX5_judge 64 = .ok (.istore 4, 2) := by decide +kernel
theorem dX5_judge_66 : decode cX5_judge 66 = .ok (.aload_n 0, 1) := by decide +kernel
theorem dX5_judge_67 : decode cX5_judge 67 = .ok (.iload 4, 2) := by decide +kernel
theorem dX5_judge_69 : decode cX5_judge 69 = .ok (.bipush 100, 2) := by decide +kernel
theorem dX5_judge_71 : decode cX5_judge 71 = .ok (.idiv, 1) := by decide +kernel
theorem dX5_judge_72 : decode cX5_judge 72 = .ok (.iload 4, 2) := by decide +kernel
theorem dX5_judge_74 : decode cX5_judge 74 = .ok (.bipush 10, 2) := by decide +kernel
theorem dX5_judge_76 : decode cX5_judge 76 = .ok (.idiv, 1) := by decide +kernel
theorem dX5_judge_77 : decode cX5_judge 77 = .ok (.bipush 10, 2) := by decide +kernel
theorem dX5_judge_79 : decode cX5_judge 79 = .ok (.irem, 1) := by decide +kernel
theorem dX5_judge_80 : decode cX5_judge 80 = .ok (.iload 4, 2) := by decide +kernel
theorem dX5_judge_82 : decode cX5_judge 82 = .ok (.bipush 10, 2) := by decide +kernel
theorem dX5_judge_84 : decode cX5_judge 84 = .ok (.irem, 1) := by decide +kernel
theorem dX5_judge_85 : decode cX5_judge 85 = .ok (.invokevirtual 233, 3) := by decide +kernel
theorem dX5_judge_88 : decode cX5_judge 88 = .ok (.ifCond .ne 5, 3) := by decide +kernel
theorem dX5_judge_91 : decode cX5_judge 91 = .ok (.iload_n 3, 1) := by decide +kernel
theorem dX5_judge_92 : decode cX5_judge 92 = .ok (.ireturn, 1) := by decide +kernel
theorem dX5_judge_93 : decode cX5_judge 93 = .ok (.iinc 3 1, 3) := by decide +kernel
theorem dX5_judge_96 : decode cX5_judge 96 = .ok (.goto (-54), 3) := by decide +kernel
theorem dX5_judge_99 : decode cX5_judge 99 = .ok (.bipush (-9), 2) := by decide +kernel
theorem dX5_judge_101 : decode cX5_judge 101 = .ok (.ireturn, 1) := by decide +kernel
theorem dX5_see_0 : decode cX5_see 0 = .ok (.iload_n 1, 1) := by decide +kernel
theorem dX5_see_1 : decode cX5_see 1 = .ok (.iconst 0, 1) := by decide +kernel
theorem dX5_see_2 : decode cX5_see 2 = .ok (.iconst 2, 1) := by decide +kernel
theorem dX5_see_3 : decode cX5_see 3 = .ok (.invokestatic 72, 3) := by decide +kernel
theorem dX5_see_6 : decode cX5_see 6 = .ok (.ifCond .eq 23, 3) := by decide +kernel
theorem dX5_see_9 : decode cX5_see 9 = .ok (.iload_n 2, 1) := by decide +kernel
theorem dX5_see_10 : decode cX5_see 10 = .ok (.iconst 0, 1) := by decide +kernel
theorem dX5_see_11 : decode cX5_see 11 = .ok (.bipush 20, 2) := by decide +kernel
theorem dX5_see_13 : decode cX5_see 13 = .ok (.invokestatic 72, 3) := by decide +kernel
theorem dX5_see_16 : decode cX5_see 16 = .ok (.ifCond .eq 13, 3) := by decide +kernel
theorem dX5_see_19 : decode cX5_see 19 = .ok (.iload_n 3, 1) := by decide +kernel
theorem dX5_see_20 : decode cX5_see 20 = .ok (.iconst 0, 1) := by decide +kernel
theorem dX5_see_21 : decode cX5_see 21 = .ok (.bipush 99, 2) := by decide +kernel
theorem dX5_see_23 : decode cX5_see 23 = .ok (.invokestatic 72, 3) := by decide +kernel
theorem dX5_see_26 : decode cX5_see 26 = .ok (.ifCond .ne 6, 3) := by decide +kernel
theorem dX5_see_29 : decode cX5_see 29 = .ok (.bipush (-2), 2) := by decide +kernel
theorem dX5_see_31 : decode cX5_see 31 = .ok (.ireturn, 1) := by decide +kernel
theorem dX5_see_32 : decode cX5_see 32 = .ok (.aload_n 0, 1) := by decide +kernel
theorem dX5_see_33 : decode cX5_see 33 = .ok (.getfield 191, 3) := by decide +kernel
theorem dX5_see_36 : decode cX5_see 36 = .ok (.bipush 6, 2) := by decide +kernel
theorem dX5_see_38 : decode cX5_see 38 = .ok (.if_icmp .ne 6, 3) := by decide +kernel
theorem dX5_see_41 : decode cX5_see 41 = .ok (.bipush (-4), 2) := by decide +kernel
theorem dX5_see_43 : decode cX5_see 43 = .ok (.ireturn, 1) := by decide +kernel
theorem dX5_see_44 : decode cX5_see 44 = .ok (.aload_n 0, 1) := by decide +kernel
theorem dX5_see_45 : decode cX5_see 45 = .ok (.getfield 39, 3) := by decide +kernel
theorem dX5_see_48 : decode cX5_see 48 = .ok (.aload_n 0, 1) := by decide +kernel
theorem dX5_see_49 : decode cX5_see 49 = .ok (.getfield 191, 3) := by decide +kernel
theorem dX5_see_52 : decode cX5_see 52 = .ok (.iload_n 1, 1) := by decide +kernel
theorem dX5_see_53 : decode cX5_see 53 = .ok (.iastore, 1) := by decide +kernel
theorem dX5_see_54 : decode cX5_see 54 = .ok (.aload_n 0, 1) := by decide +kernel
theorem dX5_see_55 : decode cX5_see 55 = .ok (.getfield 42, 3) := by decide +kernel
theorem dX5_see_58 : decode cX5_see 58 = .ok (.aload_n 0, 1) := by decide +kernel
theorem dX5_see_59 : decode cX5_see 59 = .ok (.getfield 191, 3) := by decide +kernel
theorem dX5_see_62 : decode cX5_see 62 = .ok (.iload_n 2, 1) := by decide +kernel
theorem dX5_see_63 : decode cX5_see 63 = .ok (.iastore, 1) := by decide +kernel
theorem dX5_see_64 : decode cX5_see 64 = .ok (.aload_n 0, 1) := by decide +kernel
theorem dX5_see_65 : decode cX5_see 65 = .ok (.getfield 45, 3) := by decide +kernel
theorem dX5_see_68 : decode cX5_see 68 = .ok (.aload_n 0, 1) := by decide +kernel
theorem dX5_see_69 : decode cX5_see 69 = .ok (.getfield 191, 3) := by decide +kernel
theorem dX5_see_72 : decode cX5_see 72 = .ok (.iload_n 3, 1) := by decide +kernel
theorem dX5_see_73 : decode cX5_see 73 = .ok (.iastore, 1) := by decide +kernel
theorem dX5_see_74 : decode cX5_see 74 = .ok (.aload_n 0, 1) := by decide +kernel
theorem dX5_see_75 : decode cX5_see 75 = .ok (.dup, 1) := by decide +kernel
theorem dX5_see_76 : decode cX5_see 76 = .ok (.getfield 191, 3) := by decide +kernel
theorem dX5_see_79 : decode cX5_see 79 = .ok (.iconst 1, 1) := by decide +kernel
theorem dX5_see_80 : decode cX5_see 80 = .ok (.iadd, 1) := by decide +kernel
theorem dX5_see_81 : decode cX5_see 81 = .ok (.putfield 191, 3) := by decide +kernel
theorem dX5_see_84 : decode cX5_see 84 = .ok (.aload_n 0, 1) := by decide +kernel
theorem dX5_see_85 : decode cX5_see 85 = .ok (.getfield 191, 3) := by decide +kernel
theorem dX5_see_88 : decode cX5_see 88 = .ok (.ireturn, 1) := by decide +kernel
theorem dX5_unsee_0 : decode cX5_unsee 0 = .ok (.aload_n 0, 1) := by decide +kernel
theorem dX5_unsee_1 : decode cX5_unsee 1 = .ok (.getfield 191, 3) := by decide +kernel
theorem dX5_unsee_4 : decode cX5_unsee 4 = .ok (.istore_n 1, 1) := by decide +kernel
theorem dX5_unsee_5 : decode cX5_unsee 5 = .ok (.aload_n 0, 1) := by decide +kernel
theorem dX5_unsee_6 : decode cX5_unsee 6 = .ok (.iconst 0, 1) := by decide +kernel
theorem dX5_unsee_7 : decode cX5_unsee 7 = .ok (.putfield 191, 3) := by decide +kernel
theorem dX5_unsee_10 : decode cX5_unsee 10 = .ok (.iload_n 1, 1) := by decide +kernel
theorem dX5_unsee_11 : decode cX5_unsee 11 = .ok (.ireturn, 1) := by decide +kernel
theorem dX5_isSoBy_0 : decode cX5_isSoBy 0 = .ok (.aload_n 0, 1) := by decide +kernel
theorem dX5_isSoBy_1 : decode cX5_isSoBy 1 = .ok (.getfield 23, 3) := by decide +kernel
theorem dX5_isSoBy_4 : decode cX5_isSoBy 4 = .ok (.aload_n 0, 1) := by decide +kernel
theorem dX5_isSoBy_5 : decode cX5_isSoBy 5 = .ok (.getfield 26, 3) := by decide +kernel
theorem dX5_isSoBy_8 : decode cX5_isSoBy 8 = .ok (.invokestatic 222, 3) := by decide +kernel
theorem dX5_isSoBy_11 : decode cX5_isSoBy 11 = .ok (.iconst 0, 1) := by decide +kernel
theorem dX5_isSoBy_12 : decode cX5_isSoBy 12 = .ok (.istore_n 3, 1) := by decide +kernel
theorem dX5_isSoBy_13 : decode cX5_isSoBy 13 = .ok (.iload_n 3, 1) := by decide +kernel
theorem dX5_isSoBy_14 : decode cX5_isSoBy 14 = .ok (.aload_n 0, 1) := by decide +kernel
theorem dX5_isSoBy_15 : decode cX5_isSoBy 15 = .ok (.getfield 42, 3) := by decide +kernel
theorem dX5_isSoBy_18 : decode cX5_isSoBy 18 = .ok (.iload_n 2, 1) := by decide +kernel
theorem dX5_isSoBy_19 : decode cX5_isSoBy 19 = .ok (.iaload, 1) := by decide +kernel
theorem dX5_isSoBy_20 : decode cX5_isSoBy 20 = .ok (.if_icmp .ge 32, 3) := by decide +kernel
theorem dX5_isSoBy_23 : decode cX5_isSoBy 23 = .ok (.iload_n 3, 1) := by decide +kernel
theorem dX5_isSoBy_24 : decode cX5_isSoBy 24 = .ok (.iload_n 1, 1) := by decide +kernel
theorem dX5_isSoBy_25 : decode cX5_isSoBy 25 = .ok (.if_icmp .ne 11, 3) := by decide +kernel
theorem dX5_isSoBy_28 : decode cX5_isSoBy 28 = .ok (.aload_n 0, 1) := by decide +kernel
theorem dX5_isSoBy_29 : decode cX5_isSoBy 29 = .ok (.aload_n 0, 1) := by decide +kernel
theorem dX5_isSoBy_30 : decode cX5_isSoBy 30 = .ok (.getfield 26, 3) := by decide +kernel
theorem dX5_isSoBy_33 : decode cX5_isSoBy 33 = .ok (.invokevirtual 153, 3) := by decide +kernel
theorem dX5_isSoBy_36 : decode cX5_isSoBy 36 = .ok (.aload_n 0, 1) := by decide +kernel
theorem dX5_isSoBy_37 : decode cX5_isSoBy 37 = .ok (.aload_n 0, 1) := by decide +kernel
theorem dX5_isSoBy_38 : decode cX5_isSoBy 38 = .ok (.getfield 26, 3) := by decide +kernel
theorem dX5_isSoBy_41 : decode cX5_isSoBy 41 = .ok (.iconst 1, 1) := by decide +kernel
theorem dX5_isSoBy_42 : decode cX5_isSoBy 42 = .ok (.invokevirtual 210, 3) := by decide +kernel
theorem dX5_isSoBy_45 : decode cX5_isSoBy 45 = .ok (.pop, 1) := by decide +kernel
theorem dX5_isSoBy_46 : decode cX5_isSoBy 46 = .ok (.iinc 3 1, 3) := by decide +kernel
theorem dX5_isSoBy_49 : decode cX5_isSoBy 49 = .ok (.goto (-36), 3) := by decide +kernel
theorem dX5_isSoBy_52 : decode cX5_isSoBy 52 = .ok (.aload_n 0, 1) := by decide +kernel
theorem dX5_isSoBy_53 : decode cX5_isSoBy 53 = .ok (.getfield 39, 3) := by decide +kernel
theorem dX5_isSoBy_56 : decode cX5_isSoBy 56 = .ok (.iload_n 2, 1) := by decide +kernel
theorem dX5_isSoBy_57 : decode cX5_isSoBy 57 = .ok (.iaload, 1) := by decide +kernel
theorem dX5_isSoBy_58 : decode cX5_isSoBy 58 = .ok (.istore_n 3, 1) := by decide +kernel
theorem dX5_isSoBy_59 : decode cX5_isSoBy 59 = .ok (.aload_n 0, 1) := by decide +kernel
theorem dX5_isSoBy_60 : decode cX5_isSoBy 60 = .ok (.getfield 26, 3) := by decide +kernel
theorem dX5_isSoBy_63 : decode cX5_isSoBy 63 = .ok (.iload_n 3, 1) := by decide +kernel
theorem dX5_isSoBy_64 : decode cX5_isSoBy 64 = .ok (.ifCond .ne 8, 3) := by decide +kernel
theorem dX5_isSoBy_67 : decode cX5_isSoBy 67 = .ok (.bipush 72, 2) := by decide +kernel
theorem dX5_isSoBy_69 : decode cX5_isSoBy 69 = .ok (.goto 15, 3) := by decide +kernel
theorem dX5_isSoBy_72 : decode cX5_isSoBy 72 = .ok (.iload_n 3, 1) := by decide +kernel
theorem dX5_isSoBy_73 : decode cX5_isSoBy 73 = .ok (.iconst 1, 1) := by decide +kernel
theorem dX5_isSoBy_74 : decode cX5_isSoBy 74 = .ok (.if_icmp .ne 8, 3) := by decide +kernel
theorem dX5_isSoBy_77 : decode cX5_isSoBy 77 = .ok (.bipush 74, 2) := by decide +kernel
theorem dX5_isSoBy_79 : decode cX5_isSoBy 79 = .ok (.goto 5, 3) := by decide +kernel
theorem dX5_isSoBy_82 : decode cX5_isSoBy 82 = .ok (.bipush 73, 2) := by decide +kernel
theorem dX5_isSoBy_84 : decode cX5_isSoBy 84 = .ok (.iaload, 1) := by decide +kernel
theorem dX5_isSoBy_85 : decode cX5_isSoBy 85 = .ok (.aload_n 0, 1) := by decide +kernel
theorem dX5_isSoBy_86 : decode cX5_isSoBy 86 = .ok (.getfield 45, 3) := by decide +kernel
theorem dX5_isSoBy_89 : decode cX5_isSoBy 89 = .ok (.iload_n 2, 1) := by decide +kernel
theorem dX5_isSoBy_90 : decode cX5_isSoBy 90 = .ok (.iaload, 1) := by decide +kernel
theorem dX5_isSoBy_91 : decode cX5_isSoBy 91 = .ok (.if_icmp .ne 7, 3) := by decide +kernel
theorem dX5_isSoBy_94 : decode cX5_isSoBy 94 = .ok (.iconst 1, 1) := by decide +kernel
theorem dX5_isSoBy_95 : decode cX5_isSoBy 95 = .ok (.goto 4, 3) := by decide +kernel
theorem dX5_isSoBy_98 : decode cX5_isSoBy 98 = .ok (.iconst 0, 1) := by decide +kernel
theorem dX5_isSoBy_99 : decode cX5_isSoBy 99 = .ok (.ireturn, 1) := by decide +kernel
theorem dX5_which_0 : decode cX5_which 0 = .ok (.iconst 0, 1) := by decide +kernel
theorem dX5_which_1 : decode cX5_which 1 = .ok (.istore_n 1, 1) := by decide +kernel
theorem dX5_which_2 : decode cX5_which 2 = .ok (.iconst 0, 1) := by decide +kernel
theorem dX5_which_3 : decode cX5_which 3 = .ok (.istore_n 2, 1) := by decide +kernel
theorem dX5_which_4 : decode cX5_which 4 = .ok (.iload_n 2, 1) := by decide +kernel
theorem dX5_which_5 : decode cX5_which 5 = .ok (.bipush 10, 2) := by decide +kernel
theorem dX5_which_7 : decode cX5_which 7 = .ok (.if_icmp .ge 63, 3) := by decide +kernel
theorem dX5_which_10 : decode cX5_which 10 = .ok (.iconst 1, 1) := by decide +kernel
theorem dX5_which_11 : decode cX5_which 11 = .ok (.istore_n 3, 1) := by decide +kernel
theorem dX5_which_12 : decode cX5_which 12 = .ok (.iconst 0, 1) := by decide +kernel
theorem dX5_which_13 : decode cX5_which 13 = .ok (.istore 4, 2) := by decide +kernel
theorem dX5_which_15 : decode cX5_which 15 = .ok (.iload 4, 2) := by decide +kernel
theorem dX5_which_17 : decode cX5_which 17 = .ok (.aload_n 0, 1) := by decide +kernel
theorem dX5_which_18 : decode cX5_which 18 = .ok (.getfield 191, 3) := by decide +kernel
theorem dX5_which_21 : decode cX5_which 21 = .ok (.if_icmp .ge 29, 3) := by decide +kernel
theorem dX5_which_24 : decode cX5_which 24 = .ok (.iload_n 3, 1) := by decide +kernel
theorem dX5_which_25 : decode cX5_which 25 = .ok (.ifCond .eq 17, 3) := by decide +kernel
theorem dX5_which_28 : decode cX5_which 28 = .ok (.aload_n 0, 1) := by decide +kernel
theorem dX5_which_29 : decode cX5_which 29 = .ok (.iload_n 2, 1) := by decide +kernel
theorem dX5_which_30 : decode cX5_which 30 = .ok (.iload 4, 2) := by decide +kernel
theorem dX5_which_32 : decode cX5_which 32 = .ok (.invokevirtual 236, 3) := by decide +kernel
theorem dX5_which_35 : decode cX5_which 35 = .ok (.ifCond .eq 7, 3) := by decide +kernel
theorem dX5_which_38 : decode cX5_which 38 = .ok (.iconst 1, 1) := by decide +kernel
theorem dX5_which_39 : decode cX5_which 39 = .ok (.goto 4, 3) := by decide +kernel
theorem dX5_which_42 : decode cX5_which 42 = .ok (.iconst 0, 1) := by decide +kernel
theorem dX5_which_43 : decode cX5_which 43 = .ok (.istore_n 3, 1) := by decide +kernel
theorem dX5_which_44 : decode cX5_which 44 = .ok (.iinc 4 1, 3) := by decide +kernel
theorem dX5_which_47 : decode cX5_which 47 = .ok (.goto (-32), 3) := by decide +kernel
theorem dX5_which_50 : decode cX5_which 50 = .ok (.iload_n 1, 1) := by decide +kernel
theorem dX5_which_51 : decode cX5_which 51 = .ok (.iload_n 3, 1) := by decide +kernel
theorem dX5_which_52 : decode cX5_which 52 = .ok (.ifCond .eq 9, 3) := by decide +kernel
theorem dX5_which_55 : decode cX5_which 55 = .ok (.iconst 1, 1) := by decide +kernel
theorem dX5_which_56 : decode cX5_which 56 = .ok (.iload_n 2, 1) := by decide +kernel
theorem dX5_which_57 : decode cX5_which 57 = .ok (.ishl, 1) := by decide +kernel
theorem dX5_which_58 : decode cX5_which 58 = .ok (.goto 4, 3) := by decide +kernel
theorem dX5_which_61 : decode cX5_which 61 = .ok (.iconst 0, 1) := by decide +kernel
theorem dX5_which_62 : decode cX5_which 62 = .ok (.ior, 1) := by decide +kernel
theorem dX5_which_63 : decode cX5_which 63 = .ok (.istore_n 1, 1) := by decide +kernel
theorem dX5_which_64 : decode cX5_which 64 = .ok (.iinc 2 1, 3) := by decide +kernel
theorem dX5_which_67 : decode cX5_which 67 = .ok (.goto (-63), 3) := by decide +kernel
theorem dX5_which_70 : decode cX5_which 70 = .ok (.iload_n 1, 1) := by decide +kernel
theorem dX5_which_71 : decode cX5_which 71 = .ok (.ireturn, 1) := by decide +kernel
theorem dX5_outBy_0 : decode cX5_outBy 0 = .ok (.aload_n 0, 1) := by decide +kernel
theorem dX5_outBy_1 : decode cX5_outBy 1 = .ok (.iload_n 1, 1) := by decide +kernel
theorem dX5_outBy_2 : decode cX5_outBy 2 = .ok (.putfield 66, 3) := by decide +kernel
theorem dX5_outBy_5 : decode cX5_outBy 5 = .ok (.aload_n 0, 1) := by decide +kernel
theorem dX5_outBy_6 : decode cX5_outBy 6 = .ok (.getfield 23, 3) := by decide +kernel
theorem dX5_outBy_9 : decode cX5_outBy 9 = .ok (.aload_n 0, 1) := by decide +kernel
theorem dX5_outBy_10 : decode cX5_outBy 10 = .ok (.getfield 26, 3) := by decide +kernel
theorem dX5_outBy_13 : decode cX5_outBy 13 = .ok (.invokestatic 222, 3) := by decide +kernel
theorem dX5_outBy_16 : decode cX5_outBy 16 = .ok (.aload_n 0, 1) := by decide +kernel
theorem dX5_outBy_17 : decode cX5_outBy 17 = .ok (.aload_n 0, 1) := by decide +kernel
theorem dX5_outBy_18 : decode cX5_outBy 18 = .ok (.getfield 26, 3) := by decide +kernel
theorem dX5_outBy_21 : decode cX5_outBy 21 = .ok (.bipush 30, 2) := by decide +kernel
theorem dX5_outBy_23 : decode cX5_outBy 23 = .ok (.invokevirtual 210, 3) := by decide +kernel
theorem dX5_outBy_26 : decode cX5_outBy 26 = .ok (.pop, 1) := by decide +kernel
theorem dX5_outBy_27 : decode cX5_outBy 27 = .ok (.aload_n 0, 1) := by decide +kernel
theorem dX5_outBy_28 : decode cX5_outBy 28 = .ok (.bipush 15, 2) := by decide +kernel
theorem dX5_outBy_30 : decode cX5_outBy 30 = .ok (.putfield 66, 3) := by decide +kernel
theorem dX5_outBy_33 : decode cX5_outBy 33 = .ok (.aload_n 0, 1) := by decide +kernel
theorem dX5_outBy_34 : decode cX5_outBy 34 = .ok (.getfield 26, 3) := by decide +kernel
theorem dX5_outBy_37 : decode cX5_outBy 37 = .ok (.bipush 72, 2) := by decide +kernel
theorem dX5_outBy_39 : decode cX5_outBy 39 = .ok (.iaload, 1) := by decide +kernel
theorem dX5_outBy_40 : decode cX5_outBy 40 = .ok (.ireturn, 1) := by decide +kernel
theorem dX5_share_0 : decode cX5_share 0 = .ok (.aload_n 0, 1) := by decide +kernel
theorem dX5_share_1 : decode cX5_share 1 = .ok (.iload_n 1, 1) := by decide +kernel
theorem dX5_share_2 : decode cX5_share 2 = .ok (.invokevirtual 201, 3) := by decide +kernel
theorem dX5_share_5 : decode cX5_share 5 = .ok (.ifCond .ne 5, 3) := by decide +kernel
theorem dX5_share_8 : decode cX5_share 8 = .ok (.iconst (-1), 1) := by decide +kernel
theorem dX5_share_9 : decode cX5_share 9 = .ok (.ireturn, 1) := by decide +kernel
theorem dX5_share_10 : decode cX5_share 10 = .ok (.iconst 0, 1) := by decide +kernel
theorem dX5_share_11 : decode cX5_share 11 = .ok (.istore_n 3, 1) := by decide +kernel
theorem dX5_share_12 : decode cX5_share 12 = .ok (.iload_n 3, 1) := by decide +kernel
theorem dX5_share_13 : decode cX5_share 13 = .ok (.iconst 1, 1) := by decide +kernel
theorem dX5_share_14 : decode cX5_share 14 = .ok (.aload_n 0, 1) := by decide +kernel
theorem dX5_share_15 : decode cX5_share 15 = .ok (.getfield 76, 3) := by decide +kernel
theorem dX5_share_18 : decode cX5_share 18 = .ok (.ishl, 1) := by decide +kernel
theorem dX5_share_19 : decode cX5_share 19 = .ok (.if_icmp .ge 20, 3) := by decide +kernel
theorem dX5_share_22 : decode cX5_share 22 = .ok (.aload_n 0, 1) := by decide +kernel
theorem dX5_share_23 : decode cX5_share 23 = .ok (.getfield 48, 3) := by decide +kernel
theorem dX5_share_26 : decode cX5_share 26 = .ok (.iload_n 3, 1) := by decide +kernel
theorem dX5_share_27 : decode cX5_share 27 = .ok (.aload_n 0, 1) := by decide +kernel
theorem dX5_share_28 : decode cX5_share 28 = .ok (.iload_n 3, 1) := by decide +kernel
theorem dX5_share_29 : decode cX5_share 29 = .ok (.invokevirtual 239, 3) := by decide +kernel
theorem dX5_share_32 : decode cX5_share 32 = .ok (.iastore, 1) := by decide +kernel
theorem dX5_share_33 : decode cX5_share 33 = .ok (.iinc 3 1, 3) := by decide +kernel
theorem dX5_share_36 : decode cX5_share 36 = .ok (.goto (-24), 3) := by decide +kernel
theorem dX5_share_39 : decode cX5_share 39 = .ok (.iconst 0, 1) := by decide +kernel
theorem dX5_share_40 : decode cX5_share 40 = .ok (.istore_n 3, 1) := by decide +kernel
theorem dX5_share_41 : decode cX5_share 41 = .ok (.iconst 0, 1) := by decide +kernel
theorem dX5_share_42 : decode cX5_share 42 = .ok (.istore 4, 2) := by decide +kernel
theorem dX5_share_44 : decode cX5_share 44 = .ok (.iload 4, 2) := by decide +kernel
theorem dX5_share_46 : decode cX5_share 46 = .ok (.iconst 1, 1) := by decide +kernel
theorem dX5_share_47 : decode cX5_share 47 = .ok (.aload_n 0, 1) := by decide +kernel
theorem dX5_share_48 : decode cX5_share 48 = .ok (.getfield 76, 3) := by decide +kernel
theorem dX5_share_51 : decode cX5_share 51 = .ok (.ishl, 1) := by decide +kernel
theorem dX5_share_52 : decode cX5_share 52 = .ok (.if_icmp .ge 66, 3) := by decide +kernel
theorem dX5_share_55 : decode cX5_share 55 = .ok (.iload 4, 2) := by decide +kernel
theorem dX5_share_57 : decode cX5_share 57 = .ok (.iload_n 1, 1) := by decide +kernel
theorem dX5_share_58 : decode cX5_share 58 = .ok (.invokestatic 157, 3) := by decide +kernel
theorem dX5_share_61 : decode cX5_share 61 = .ok (.ifCond .ne 51, 3) := by decide +kernel
theorem dX5_share_64 : decode cX5_share 64 = .ok (.iload 4, 2) := by decide +kernel
theorem dX5_share_66 : decode cX5_share 66 = .ok (.invokestatic 242, 3) := by decide +kernel
theorem dX5_share_69 : decode cX5_share 69 = .ok (.istore 5, 2) := by decide +kernel
theorem dX5_share_71 : decode cX5_share 71 = .ok (.iload_n 3, 1) := by decide +kernel
theorem dX5_share_72 : decode cX5_share 72 = .ok (.iload 5, 2) := by decide +kernel
theorem dX5_share_74 : decode cX5_share 74 = .ok (.invokestatic 245, 3) := by decide +kernel
theorem dX5_share_77 : decode cX5_share 77 = .ok (.aload_n 0, 1) := by decide +kernel
theorem dX5_share_78 : decode cX5_share 78 = .ok (.getfield 76, 3) := by decide +kernel
theorem dX5_share_81 : decode cX5_share 81 = .ok (.iconst 1, 1) := by decide +kernel
theorem dX5_share_82 : decode cX5_share 82 = .ok (.isub, 1) := by decide +kernel
theorem dX5_share_83 : decode cX5_share 83 = .ok (.iload 5, 2) := by decide +kernel
theorem dX5_share_85 : decode cX5_share 85 = .ok (.isub, 1) := by decide +kernel
theorem dX5_share_86 : decode cX5_share 86 = .ok (.invokestatic 245, 3) := by decide +kernel
theorem dX5_share_89 : decode cX5_share 89 = .ok (.imul, 1) := by decide +kernel
theorem dX5_share_90 : decode cX5_share 90 = .ok (.aload_n 0, 1) := by decide +kernel
theorem dX5_share_91 : decode cX5_share 91 = .ok (.getfield 48, 3) := by decide +kernel
theorem dX5_share_94 : decode cX5_share 94 = .ok (.iload 4, 2) := by decide +kernel
theorem dX5_share_96 : decode cX5_share 96 = .ok (.iconst 1, 1) := by decide +kernel
theorem dX5_share_97 : decode cX5_share 97 = .ok (.iload_n 1, 1) := by decide +kernel
theorem dX5_share_98 : decode cX5_share 98 = .ok (.ishl, 1) := by decide +kernel
theorem dX5_share_99 : decode cX5_share 99 = .ok (.ior, 1) := by decide +kernel
theorem dX5_share_100 : decode cX5_share 100 = .ok (.iaload, 1) := by decide +kernel
theorem dX5_share_101 : decode cX5_share 101 = .ok (.aload_n 0, 1) := by decide +kernel
theorem dX5_share_102 : decode cX5_share 102 = .ok (.getfield 48, 3) := by decide +kernel
theorem dX5_share_105 : decode cX5_share 105 = .ok (.iload 4, 2) := by decide +kernel
theorem dX5_share_107 : decode cX5_share 107 = .ok (.iaload, 1) := by decide +kernel
theorem dX5_share_108 : decode cX5_share 108 = .ok (.isub, 1) := by decide +kernel
theorem dX5_share_109 : decode cX5_share 109 = .ok (.imul, 1) := by decide +kernel
theorem dX5_share_110 : decode cX5_share 110 = .ok (.iadd, 1) := by decide +kernel
theorem dX5_share_111 : decode cX5_share 111 = .ok (.istore_n 3, 1) := by decide +kernel
theorem dX5_share_112 : decode cX5_share 112 = .ok (.iinc 4 1, 3) := by decide +kernel
theorem dX5_share_115 : decode cX5_share 115 = .ok (.goto (-71), 3) := by decide +kernel
theorem dX5_share_118 : decode cX5_share 118 = .ok (.iload_n 3, 1) := by decide +kernel
theorem dX5_share_119 : decode cX5_share 119 = .ok (.aload_n 0, 1) := by decide +kernel
theorem dX5_share_120 : decode cX5_share 120 = .ok (.getfield 76, 3) := by decide +kernel
theorem dX5_share_123 : decode cX5_share 123 = .ok (.invokestatic 245, 3) := by decide +kernel
theorem dX5_share_126 : decode cX5_share 126 = .ok (.iload_n 2, 1) := by decide +kernel
theorem dX5_share_127 : decode cX5_share 127 = .ok (.invokestatic 248, 3) := by decide +kernel
theorem dX5_share_130 : decode cX5_share 130 = .ok (.ireturn, 1) := by decide +kernel
theorem dX5_chance_0 : decode cX5_chance 0 = .ok (.iload_n 1, 1) := by decide +kernel
theorem dX5_chance_1 : decode cX5_chance 1 = .ok (.iconst 1, 1) := by decide +kernel
theorem dX5_chance_2 : decode cX5_chance 2 = .ok (.bipush 6, 2) := by decide +kernel
theorem dX5_chance_4 : decode cX5_chance 4 = .ok (.invokestatic 72, 3) := by decide +kernel
theorem dX5_chance_7 : decode cX5_chance 7 = .ok (.ifCond .eq 13, 3) := by decide +kernel
theorem dX5_chance_10 : decode cX5_chance 10 = .ok (.iload_n 2, 1) := by decide +kernel
theorem dX5_chance_11 : decode cX5_chance 11 = .ok (.iconst 0, 1) := by decide +kernel
theorem dX5_chance_12 : decode cX5_chance 12 = .ok (.bipush 10, 2) := by decide +kernel
theorem dX5_chance_14 : decode cX5_chance 14 = .ok (.invokestatic 72, 3) := by decide +kernel
theorem dX5_chance_17 : decode cX5_chance 17 = .ok (.ifCond .ne 6, 3) := by decide +kernel
theorem dX5_chance_20 : decode cX5_chance 20 = .ok (.bipush (-2), 2) := by decide +kernel
theorem dX5_chance_22 : decode cX5_chance 22 = .ok (.ireturn, 1) := by decide +kernel
theorem dX5_chance_23 : decode cX5_chance 23 = .ok (.iconst 0, 1) := by decide +kernel
theorem dX5_chance_24 : decode cX5_chance 24 = .ok (.istore 4, 2) := by decide +kernel
theorem dX5_chance_26 : decode cX5_chance 26 = .ok (.iconst 0, 1) := by decide +kernel
theorem dX5_chance_27 : decode cX5_chance 27 = .ok (.istore 5, 2) := by decide +kernel
theorem dX5_chance_29 : decode cX5_chance 29 = .ok (.iload 5, 2) := by decide +kernel
theorem dX5_chance_31 : decode cX5_chance 31 = .ok (.iconst 1, 1) := by decide +kernel
theorem dX5_chance_32 : decode cX5_chance 32 = .ok (.iload_n 1, 1) := by decide +kernel
theorem dX5_chance_33 : decode cX5_chance 33 = .ok (.ishl, 1) := by decide +kernel
theorem dX5_chance_34 : decode cX5_chance 34 = .ok (.if_icmp .ge 122, 3) := by decide +kernel
theorem dX5_chance_37 : decode cX5_chance 37 = .ok (.aload_n 0, 1) := by decide +kernel
theorem dX5_chance_38 : decode cX5_chance 38 = .ok (.getfield 23, 3) := by decide +kernel
theorem dX5_chance_41 : decode cX5_chance 41 = .ok (.aload_n 0, 1) := by decide +kernel
theorem dX5_chance_42 : decode cX5_chance 42 = .ok (.getfield 26, 3) := by decide +kernel
theorem dX5_chance_45 : decode cX5_chance 45 = .ok (.invokestatic 222, 3) := by decide +kernel
theorem dX5_chance_48 : decode cX5_chance 48 = .ok (.iconst 0, 1) := by decide +kernel
theorem dX5_chance_49 : decode cX5_chance 49 = .ok (.istore 6, 2) := by decide +kernel
theorem dX5_chance_51 : decode cX5_chance 51 = .ok (.iload 6, 2) := by decide +kernel
theorem dX5_chance_53 : decode cX5_chance 53 = .ok (.iload_n 1, 1) := by decide +kernel
theorem dX5_chance_54 : decode cX5_chance 54 = .ok (.if_icmp .ge 53, 3) := by decide +kernel
theorem dX5_chance_57 : decode cX5_chance 57 = .ok (.aload_n 0, 1) := by decide +kernel
theorem dX5_chance_58 : decode cX5_chance 58 = .ok (.getfield 26, 3) := by decide +kernel
theorem dX5_chance_61 : decode cX5_chance 61 = .ok (.bipush 70, 2) := by decide +kernel
theorem dX5_chance_63 : decode cX5_chance 63 = .ok (.iaload, 1) := by decide +kernel
theorem dX5_chance_64 : decode cX5_chance 64 = .ok (.ifCond .ne 43, 3) := by decide +kernel
theorem dX5_chance_67 : decode cX5_chance 67 = .ok (.aload_n 0, 1) := by decide +kernel
theorem dX5_chance_68 : decode cX5_chance 68 = .ok (.aload_n 0, 1) := by decide +kernel
theorem dX5_chance_69 : decode cX5_chance 69 = .ok (.getfield 26, 3) := by decide +kernel
theorem dX5_chance_72 : decode cX5_chance 72 = .ok (.iload 5, 2) := by decide +kernel
theorem dX5_chance_74 : decode cX5_chance 74 = .ok (.iload 6, 2) := by decide +kernel
theorem dX5_chance_76 : decode cX5_chance 76 = .ok (.invokestatic 157, 3) := by decide +kernel
theorem dX5_chance_79 : decode cX5_chance 79 = .ok (.ifCond .ne 14, 3) := by decide +kernel
theorem dX5_chance_82 : decode cX5_chance 82 = .ok (.aload_n 0, 1) := by decide +kernel
theorem dX5_chance_83 : decode cX5_chance 83 = .ok (.getfield 26, 3) := by decide +kernel
theorem dX5_chance_86 : decode cX5_chance 86 = .ok (.bipush 69, 2) := by decide +kernel
theorem dX5_chance_88 : decode cX5_chance 88 = .ok (.iaload, 1) := by decide +kernel
theorem dX5_chance_89 : decode cX5_chance 89 = .ok (.iconst 1, 1) := by decide +kernel
theorem dX5_chance_90 : decode cX5_chance 90 = .ok (.if_icmp .ne 7, 3) := by decide +kernel
theorem dX5_chance_93 : decode cX5_chance 93 = .ok (.iconst 1, 1) := by decide +kernel
theorem dX5_chance_94 : decode cX5_chance 94 = .ok (.goto 4, 3) := by decide +kernel
theorem dX5_chance_97 : decode cX5_chance 97 = .ok (.iconst 0, 1) := by decide +kernel
theorem dX5_chance_98 : decode cX5_chance 98 = .ok (.invokevirtual 184, 3) := by decide +kernel
theorem dX5_chance_101 : decode cX5_chance 101 = .ok (.iinc 6 1, 3) := by decide +kernel
theorem dX5_chance_104 : decode cX5_chance 104 = .ok (.goto (-53), 3) := by decide +kernel
theorem dX5_chance_107 : decode cX5_chance 107 = .ok (.iload 4, 2) := by decide +kernel
theorem dX5_chance_109 : decode cX5_chance 109 = .ok (.aload_n 0, 1) := by decide +kernel
theorem dX5_chance_110 : decode cX5_chance 110 = .ok (.getfield 26, 3) := by decide +kernel
theorem dX5_chance_113 : decode cX5_chance 113 = .ok (.bipush 70, 2) := by decide +kernel
theorem dX5_chance_115 : decode cX5_chance 115 = .ok (.iaload, 1) := by decide +kernel
theorem dX5_chance_116 : decode cX5_chance 116 = .ok (.ifCond .ne 30, 3) := by decide +kernel
theorem dX5_chance_119 : decode cX5_chance 119 = .ok (.iload_n 2, 1) := by decide +kernel
theorem dX5_chance_120 : decode cX5_chance 120 = .ok (.iload 5, 2) := by decide +kernel
theorem dX5_chance_122 : decode cX5_chance 122 = .ok (.invokestatic 242, 3) := by decide +kernel
theorem dX5_chance_125 : decode cX5_chance 125 = .ok (.invokestatic 230, 3) := by decide +kernel
theorem dX5_chance_128 : decode cX5_chance 128 = .ok (.bipush 10, 2) := by decide +kernel
theorem dX5_chance_130 : decode cX5_chance 130 = .ok (.iload_n 2, 1) := by decide +kernel
theorem dX5_chance_131 : decode cX5_chance 131 = .ok (.isub, 1) := by decide +kernel
theorem dX5_chance_132 : decode cX5_chance 132 = .ok (.iload_n 1, 1) := by decide +kernel
theorem dX5_chance_133 : decode cX5_chance 133 = .ok (.iload 5, 2) := by decide +kernel
theorem dX5_chance_135 : decode cX5_chance 135 = .ok (.invokestatic 242, 3) := by decide +kernel
theorem dX5_chance_138 : decode cX5_chance 138 = .ok (.isub, 1) := by decide +kernel
theorem dX5_chance_139 : decode cX5_chance 139 = .ok (.invokestatic 230, 3) := by decide +kernel
theorem dX5_chance_142 : decode cX5_chance 142 = .ok (.imul, 1) := by decide +kernel
theorem dX5_chance_143 : decode cX5_chance 143 = .ok (.goto 4, 3) := by decide +kernel
theorem dX5_chance_146 : decode cX5_chance 146 = .ok (.iconst 0, 1) := by decide +kernel
theorem dX5_chance_147 : decode cX5_chance 147 = .ok (.iadd, 1) := by decide +kernel
theorem dX5_chance_148 : decode cX5_chance 148 = .ok (.istore 4, 2) := by decide +kernel
theorem dX5_chance_150 : decode cX5_chance 150 = .ok (.iinc 5 1, 3) := by decide +kernel
theorem dX5_chance_153 : decode cX5_chance 153 = .ok (.goto (-124), 3) := by decide +kernel
theorem dX5_chance_156 : decode cX5_chance 156 = .ok (.iload 4, 2) := by decide +kernel
theorem dX5_chance_158 : decode cX5_chance 158 = .ok (.bipush 10, 2) := by decide +kernel
theorem dX5_chance_160 : decode cX5_chance 160 = .ok (.iload_n 1, 1) := by decide +kernel
theorem dX5_chance_161 : decode cX5_chance 161 = .ok (.invokestatic 230, 3) := by decide +kernel
theorem dX5_chance_164 : decode cX5_chance 164 = .ok (.iload_n 3, 1) := by decide +kernel
theorem dX5_chance_165 : decode cX5_chance 165 = .ok (.invokestatic 248, 3) := by decide +kernel
theorem dX5_chance_168 : decode cX5_chance 168 = .ok (.ireturn, 1) := by decide +kernel
theorem dX5_seed_0 : decode cX5_seed 0 = .ok (.aload_n 0, 1) := by decide +kernel
theorem dX5_seed_1 : decode cX5_seed 1 = .ok (.getfield 252, 3) := by decide +kernel
theorem dX5_seed_4 : decode cX5_seed 4 = .ok (.lstore_n 3, 1) := by decide +kernel
theorem dX5_seed_5 : decode cX5_seed 5 = .ok (.aload_n 0, 1) := by decide +kernel
theorem dX5_seed_6 : decode cX5_seed 6 = .ok (.lload_n 1, 1) := by decide +kernel
theorem dX5_seed_7 : decode cX5_seed 7 = .ok (.putfield 252, 3) := by decide +kernel
theorem dX5_seed_10 : decode cX5_seed 10 = .ok (.lload_n 3, 1) := by decide +kernel
theorem dX5_seed_11 : decode cX5_seed 11 = .ok (.lreturn, 1) := by decide +kernel
theorem dX5_drawn_0 : decode cX5_drawn 0 = .ok (.iload_n 1, 1) := by decide +kernel
theorem dX5_drawn_1 : decode cX5_drawn 1 = .ok (.iconst 1, 1) := by decide +kernel
theorem dX5_drawn_2 : decode cX5_drawn 2 = .ok (.bipush 20, 2) := by decide +kernel
theorem dX5_drawn_4 : decode cX5_drawn 4 = .ok (.invokestatic 72, 3) := by decide +kernel
theorem dX5_drawn_7 : decode cX5_drawn 7 = .ok (.ifCond .ne 6, 3) := by decide +kernel
theorem dX5_drawn_10 : decode cX5_drawn 10 = .ok (.bipush (-2), 2) := by decide +kernel
theorem dX5_drawn_12 : decode cX5_drawn 12 = .ok (.ireturn, 1) := by decide +kernel
theorem dX5_drawn_13 : decode cX5_drawn 13 = .ok (.aload_n 0, 1) := by decide +kernel
theorem dX5_drawn_14 : decode cX5_drawn 14 = .ok (.getfield 23, 3) := by decide +kernel
theorem dX5_drawn_17 : decode cX5_drawn 17 = .ok (.aload_n 0, 1) := by decide +kernel
theorem dX5_drawn_18 : decode cX5_drawn 18 = .ok (.getfield 26, 3) := by decide +kernel
theorem dX5_drawn_21 : decode cX5_drawn 21 = .ok (.invokestatic 222, 3) := by decide +kernel
theorem dX5_drawn_24 : decode cX5_drawn 24 = .ok (.iconst 0, 1) := by decide +kernel
theorem dX5_drawn_25 : decode cX5_drawn 25 = .ok (.istore_n 2, 1) := by decide +kernel
theorem dX5_drawn_26 : decode cX5_drawn 26 = .ok (.iconst 0, 1) := by decide +kernel
theorem dX5_drawn_27 : decode cX5_drawn 27 = .ok (.istore_n 3, 1) := by decide +kernel
theorem dX5_drawn_28 : decode cX5_drawn 28 = .ok (.iload_n 3, 1) := by decide +kernel
theorem dX5_drawn_29 : decode cX5_drawn 29 = .ok (.iload_n 1, 1) := by decide +kernel
theorem dX5_drawn_30 : decode cX5_drawn 30 = .ok (.if_icmp .ge 147, 3) := by decide +kernel
theorem dX5_drawn_33 : decode cX5_drawn 33 = .ok (.aload_n 0, 1) := by decide +kernel
theorem dX5_drawn_34 : decode cX5_drawn 34 = .ok (.aload_n 0, 1) := by decide +kernel
theorem dX5_drawn_35 : decode cX5_drawn 35 = .ok (.getfield 252, 3) := by decide +kernel
theorem dX5_drawn_38 : decode cX5_drawn 38 = .ok (.ldc2_w 256, 3) := by decide +kernel
theorem dX5_drawn_41 : decode cX5_drawn 41 = .ok (.lmul, 1) := by decide +kernel
theorem dX5_drawn_42 : decode cX5_drawn 42 = .ok (.ldc2_w 258, 3) := by decide +kernel
theorem dX5_drawn_45 : decode cX5_drawn 45 = .ok (.ladd, 1) := by decide +kernel
theorem dX5_drawn_46 : decode cX5_drawn 46 = .ok (.putfield 252, 3) := by decide +kernel
theorem dX5_drawn_49 : decode cX5_drawn 49 = .ok (.aload_n 0, 1) := by decide +kernel
theorem dX5_drawn_50 : decode cX5_drawn 50 = .ok (.getfield 252, 3) := by decide +kernel
theorem dX5_drawn_53 : decode cX5_drawn 53 = .ok (.bipush 33, 2) := by decide +kernel
theorem dX5_drawn_55 : decode cX5_drawn 55 = .ok (.lushr, 1) := by decide +kernel
theorem dX5_drawn_56 : decode cX5_drawn 56 = .ok (.l2i, 1) := by decide +kernel
theorem dX5_drawn_57 : decode cX5_drawn 57 = .ok (.bipush 10, 2) := by decide +kernel
theorem dX5_drawn_59 : decode cX5_drawn 59 = .ok (.irem, 1) := by decide +kernel
theorem dX5_drawn_60 : decode cX5_drawn 60 = .ok (.istore 4, 2) := by decide +kernel
theorem dX5_drawn_62 : decode cX5_drawn 62 = .ok (.iload 4, 2) := by decide +kernel
theorem dX5_drawn_64 : decode cX5_drawn 64 = .ok (.ifCond .ne 14, 3) := by decide +kernel
theorem dX5_drawn_67 : decode cX5_drawn 67 = .ok (.aload_n 0, 1) := by decide +kernel
theorem dX5_drawn_68 : decode cX5_drawn 68 = .ok (.aload_n 0, 1) := by decide +kernel
theorem dX5_drawn_69 : decode cX5_drawn 69 = .ok (.getfield 26, 3) := by decide +kernel
theorem dX5_drawn_72 : decode cX5_drawn 72 = .ok (.invokevirtual 153, 3) := by decide +kernel
theorem dX5_drawn_75 : decode cX5_drawn 75 = .ok (.goto 78, 3) := by decide +kernel
theorem dX5_drawn_78 : decode cX5_drawn 78 = .ok (.iload 4, 2) := by decide +kernel
theorem dX5_drawn_80 : decode cX5_drawn 80 = .ok (.iconst 1, 1) := by decide +kernel
theorem dX5_drawn_81 : decode cX5_drawn 81 = .ok (.if_icmp .ne 22, 3) := by decide +kernel
theorem dX5_drawn_84 : decode cX5_drawn 84 = .ok (.aload_n 0, 1) := by decide +kernel
theorem dX5_drawn_85 : decode cX5_drawn 85 = .ok (.getfield 26, 3) := by decide +kernel
theorem dX5_drawn_88 : decode cX5_drawn 88 = .ok (.bipush 69, 2) := by decide +kernel
theorem dX5_drawn_90 : decode cX5_drawn 90 = .ok (.iconst 1, 1) := by decide +kernel
theorem dX5_drawn_91 : decode cX5_drawn 91 = .ok (.aload_n 0, 1) := by decide +kernel
theorem dX5_drawn_92 : decode cX5_drawn 92 = .ok (.getfield 26, 3) := by decide +kernel
theorem dX5_drawn_95 : decode cX5_drawn 95 = .ok (.bipush 69, 2) := by decide +kernel
theorem dX5_drawn_97 : decode cX5_drawn 97 = .ok (.iaload, 1) := by decide +kernel
theorem dX5_drawn_98 : decode cX5_drawn 98 = .ok (.isub, 1) := by decide +kernel
theorem dX5_drawn_99 : decode cX5_drawn 99 = .ok (.iastore, 1) := by decide +kernel
theorem dX5_drawn_100 : decode cX5_drawn 100 = .ok (.goto 53, 3) := by decide +kernel
theorem dX5_drawn_103 : decode cX5_drawn 103 = .ok (.iload 4, 2) := by decide +kernel
theorem dX5_drawn_105 : decode cX5_drawn 105 = .ok (.iconst 2, 1) := by decide +kernel
theorem dX5_drawn_106 : decode cX5_drawn 106 = .ok (.if_icmp .le 16, 3) := by decide +kernel
theorem dX5_drawn_109 : decode cX5_drawn 109 = .ok (.aload_n 0, 1) := by decide +kernel
theorem dX5_drawn_110 : decode cX5_drawn 110 = .ok (.aload_n 0, 1) := by decide +kernel
theorem dX5_drawn_111 : decode cX5_drawn 111 = .ok (.getfield 26, 3) := by decide +kernel
theorem dX5_drawn_114 : decode cX5_drawn 114 = .ok (.iconst 1, 1) := by decide +kernel
theorem dX5_drawn_115 : decode cX5_drawn 115 = .ok (.invokevirtual 210, 3) := by decide +kernel
theorem dX5_drawn_118 : decode cX5_drawn 118 = .ok (.pop, 1) := by decide +kernel
theorem dX5_drawn_119 : decode cX5_drawn 119 = .ok (.goto 34, 3) := by decide +kernel
theorem dX5_drawn_122 : decode cX5_drawn 122 = .ok (.aload_n 0, 1) := by decide +kernel
theorem dX5_drawn_123 : decode cX5_drawn 123 = .ok (.getfield 26, 3) := by decide +kernel
theorem dX5_drawn_126 : decode cX5_drawn 126 = .ok (.bipush 70, 2) := by decide +kernel
theorem dX5_drawn_128 : decode cX5_drawn 128 = .ok (.iaload, 1) := by decide +kernel
theorem dX5_drawn_129 : decode cX5_drawn 129 = .ok (.iconst 1, 1) := by decide +kernel
theorem dX5_drawn_130 : decode cX5_drawn 130 = .ok (.if_icmp .ne 15, 3) := by decide +kernel
theorem dX5_drawn_133 : decode cX5_drawn 133 = .ok (.aload_n 0, 1) := by decide +kernel
theorem dX5_drawn_134 : decode cX5_drawn 134 = .ok (.aload_n 0, 1) := by decide +kernel
theorem dX5_drawn_135 : decode cX5_drawn 135 = .ok (.getfield 26, 3) := by decide +kernel
theorem dX5_drawn_138 : decode cX5_drawn 138 = .ok (.invokevirtual 216, 3) := by decide +kernel
theorem dX5_drawn_141 : decode cX5_drawn 141 = .ok (.pop, 1) := by decide +kernel
theorem dX5_drawn_142 : decode cX5_drawn 142 = .ok (.goto 11, 3) := by decide +kernel
theorem dX5_drawn_145 : decode cX5_drawn 145 = .ok (.aload_n 0, 1) := by decide +kernel
theorem dX5_drawn_146 : decode cX5_drawn 146 = .ok (.aload_n 0, 1) := by decide +kernel
theorem dX5_drawn_147 : decode cX5_drawn 147 = .ok (.getfield 26, 3) := by decide +kernel
theorem dX5_drawn_150 : decode cX5_drawn 150 = .ok (.invokevirtual 219, 3) := by decide +kernel
theorem dX5_drawn_153 : decode cX5_drawn 153 = .ok (.iload_n 2, 1) := by decide +kernel
theorem dX5_drawn_154 : decode cX5_drawn 154 = .ok (.aload_n 0, 1) := by decide +kernel
theorem dX5_drawn_155 : decode cX5_drawn 155 = .ok (.getfield 26, 3) := by decide +kernel
theorem dX5_drawn_158 : decode cX5_drawn 158 = .ok (.bipush 72, 2) := by decide +kernel
theorem dX5_drawn_160 : decode cX5_drawn 160 = .ok (.iaload, 1) := by decide +kernel
theorem dX5_drawn_161 : decode cX5_drawn 161 = .ok (.aload_n 0, 1) := by decide +kernel
theorem dX5_drawn_162 : decode cX5_drawn 162 = .ok (.getfield 26, 3) := by decide +kernel
theorem dX5_drawn_165 : decode cX5_drawn 165 = .ok (.bipush 73, 2) := by decide +kernel
theorem dX5_drawn_167 : decode cX5_drawn 167 = .ok (.iaload, 1) := by decide +kernel
theorem dX5_drawn_168 : decode cX5_drawn 168 = .ok (.isub, 1) := by decide +kernel
theorem dX5_drawn_169 : decode cX5_drawn 169 = .ok (.iadd, 1) := by decide +kernel
theorem dX5_drawn_170 : decode cX5_drawn 170 = .ok (.istore_n 2, 1) := by decide +kernel
theorem dX5_drawn_171 : decode cX5_drawn 171 = .ok (.iinc 3 1, 3) := by decide +kernel
theorem dX5_drawn_174 : decode cX5_drawn 174 = .ok (.goto (-146), 3) := by decide +kernel
theorem dX5_drawn_177 : decode cX5_drawn 177 = .ok (.iload_n 2, 1) := by decide +kernel
theorem dX5_drawn_178 : decode cX5_drawn 178 = .ok (.ireturn, 1) := by decide +kernel
theorem dX5_keep_0 : decode cX5_keep 0 = .ok (.iload_n 1, 1) := by decide +kernel
theorem dX5_keep_1 : decode cX5_keep 1 = .ok (.iconst 0, 1) := by decide +kernel
theorem dX5_keep_2 : decode cX5_keep 2 = .ok (.iconst 1, 1) := by decide +kernel
theorem dX5_keep_3 : decode cX5_keep 3 = .ok (.invokestatic 72, 3) := by decide +kernel
theorem dX5_keep_6 : decode cX5_keep 6 = .ok (.ifCond .ne 5, 3) := by decide +kernel
theorem dX5_keep_9 : decode cX5_keep 9 = .ok (.iconst (-1), 1) := by decide +kernel
theorem dX5_keep_10 : decode cX5_keep 10 = .ok (.ireturn, 1) := by decide +kernel
theorem dX5_keep_11 : decode cX5_keep 11 = .ok (.aload_n 0, 1) := by decide +kernel
theorem dX5_keep_12 : decode cX5_keep 12 = .ok (.getfield 35, 3) := by decide +kernel
theorem dX5_keep_15 : decode cX5_keep 15 = .ok (.iload_n 1, 1) := by decide +kernel
theorem dX5_keep_16 : decode cX5_keep 16 = .ok (.iconst 1, 1) := by decide +kernel
theorem dX5_keep_17 : decode cX5_keep 17 = .ok (.bastore, 1) := by decide +kernel
theorem dX5_keep_18 : decode cX5_keep 18 = .ok (.iconst 0, 1) := by decide +kernel
theorem dX5_keep_19 : decode cX5_keep 19 = .ok (.istore_n 2, 1) := by decide +kernel
theorem dX5_keep_20 : decode cX5_keep 20 = .ok (.iload_n 2, 1) := by decide +kernel
theorem dX5_keep_21 : decode cX5_keep 21 = .ok (.bipush 103, 2) := by decide +kernel
theorem dX5_keep_23 : decode cX5_keep 23 = .ok (.if_icmp .ge 26, 3) := by decide +kernel
theorem dX5_keep_26 : decode cX5_keep 26 = .ok (.aload_n 0, 1) := by decide +kernel
theorem dX5_keep_27 : decode cX5_keep 27 = .ok (.getfield 32, 3) := by decide +kernel
theorem dX5_keep_30 : decode cX5_keep 30 = .ok (.bipush 103, 2) := by decide +kernel
theorem dX5_keep_32 : decode cX5_keep 32 = .ok (.iload_n 1, 1) := by decide +kernel
theorem dX5_keep_33 : decode cX5_keep 33 = .ok (.imul, 1) := by decide +kernel
theorem dX5_keep_34 : decode cX5_keep 34 = .ok (.iload_n 2, 1) := by decide +kernel
theorem dX5_keep_35 : decode cX5_keep 35 = .ok (.iadd, 1) := by decide +kernel
theorem dX5_keep_36 : decode cX5_keep 36 = .ok (.aload_n 0, 1) := by decide +kernel
theorem dX5_keep_37 : decode cX5_keep 37 = .ok (.getfield 23, 3) := by decide +kernel
theorem dX5_keep_40 : decode cX5_keep 40 = .ok (.iload_n 2, 1) := by decide +kernel
theorem dX5_keep_41 : decode cX5_keep 41 = .ok (.iaload, 1) := by decide +kernel
theorem dX5_keep_42 : decode cX5_keep 42 = .ok (.iastore, 1) := by decide +kernel
theorem dX5_keep_43 : decode cX5_keep 43 = .ok (.iinc 2 1, 3) := by decide +kernel
theorem dX5_keep_46 : decode cX5_keep 46 = .ok (.goto (-26), 3) := by decide +kernel
theorem dX5_keep_49 : decode cX5_keep 49 = .ok (.aload_n 0, 1) := by decide +kernel
theorem dX5_keep_50 : decode cX5_keep 50 = .ok (.getfield 23, 3) := by decide +kernel
theorem dX5_keep_53 : decode cX5_keep 53 = .ok (.bipush 71, 2) := by decide +kernel
theorem dX5_keep_55 : decode cX5_keep 55 = .ok (.iaload, 1) := by decide +kernel
theorem dX5_keep_56 : decode cX5_keep 56 = .ok (.ireturn, 1) := by decide +kernel
theorem dX5_again_0 : decode cX5_again 0 = .ok (.iload_n 1, 1) := by decide +kernel
theorem dX5_again_1 : decode cX5_again 1 = .ok (.iconst 0, 1) := by decide +kernel
theorem dX5_again_2 : decode cX5_again 2 = .ok (.iconst 1, 1) := by decide +kernel
theorem dX5_again_3 : decode cX5_again 3 = .ok (.invokestatic 72, 3) := by decide +kernel
theorem dX5_again_6 : decode cX5_again 6 = .ok (.ifCond .ne 5, 3) := by decide +kernel
theorem dX5_again_9 : decode cX5_again 9 = .ok (.iconst (-1), 1) := by decide +kernel
theorem dX5_again_10 : decode cX5_again 10 = .ok (.ireturn, 1) := by decide +kernel
theorem dX5_again_11 : decode cX5_again 11 = .ok (.aload_n 0, 1) := by decide +kernel
theorem dX5_again_12 : decode cX5_again 12 = .ok (.getfield 35, 3) := by decide +kernel
theorem dX5_again_15 : decode cX5_again 15 = .ok (.iload_n 1, 1) := by decide +kernel
theorem dX5_again_16 : decode cX5_again 16 = .ok (.baload, 1) := by decide +kernel
theorem dX5_again_17 : decode cX5_again 17 = .ok (.ifCond .ne 6, 3) := by decide +kernel
theorem dX5_again_20 : decode cX5_again 20 = .ok (.bipush (-3), 2) := by decide +kernel
theorem dX5_again_22 : decode cX5_again 22 = .ok (.ireturn, 1) := by decide +kernel
theorem dX5_again_23 : decode cX5_again 23 = .ok (.iconst 0, 1) := by decide +kernel
theorem dX5_again_24 : decode cX5_again 24 = .ok (.istore_n 2, 1) := by decide +kernel
theorem dX5_again_25 : decode cX5_again 25 = .ok (.iload_n 2, 1) := by decide +kernel
theorem dX5_again_26 : decode cX5_again 26 = .ok (.bipush 103, 2) := by decide +kernel
theorem dX5_again_28 : decode cX5_again 28 = .ok (.if_icmp .ge 26, 3) := by decide +kernel
theorem dX5_again_31 : decode cX5_again 31 = .ok (.aload_n 0, 1) := by decide +kernel
theorem dX5_again_32 : decode cX5_again 32 = .ok (.getfield 23, 3) := by decide +kernel
theorem dX5_again_35 : decode cX5_again 35 = .ok (.iload_n 2, 1) := by decide +kernel
theorem dX5_again_36 : decode cX5_again 36 = .ok (.aload_n 0, 1) := by decide +kernel
theorem dX5_again_37 : decode cX5_again 37 = .ok (.getfield 32, 3) := by decide +kernel
theorem dX5_again_40 : decode cX5_again 40 = .ok (.bipush 103, 2) := by decide +kernel
theorem dX5_again_42 : decode cX5_again 42 = .ok (.iload_n 1, 1) := by decide +kernel
theorem dX5_again_43 : decode cX5_again 43 = .ok (.imul, 1) := by decide +kernel
theorem dX5_again_44 : decode cX5_again 44 = .ok (.iload_n 2, 1) := by decide +kernel
theorem dX5_again_45 : decode cX5_again 45 = .ok (.iadd, 1) := by decide +kernel
theorem dX5_again_46 : decode cX5_again 46 = .ok (.iaload, 1) := by decide +kernel
theorem dX5_again_47 : decode cX5_again 47 = .ok (.iastore, 1) := by decide +kernel
theorem dX5_again_48 : decode cX5_again 48 = .ok (.iinc 2 1, 3) := by decide +kernel
theorem dX5_again_51 : decode cX5_again 51 = .ok (.goto (-26), 3) := by decide +kernel
theorem dX5_again_54 : decode cX5_again 54 = .ok (.aload_n 0, 1) := by decide +kernel
theorem dX5_again_55 : decode cX5_again 55 = .ok (.iconst 0, 1) := by decide +kernel
theorem dX5_again_56 : decode cX5_again 56 = .ok (.putfield 139, 3) := by decide +kernel
theorem dX5_again_59 : decode cX5_again 59 = .ok (.aload_n 0, 1) := by decide +kernel
theorem dX5_again_60 : decode cX5_again 60 = .ok (.getfield 23, 3) := by decide +kernel
theorem dX5_again_63 : decode cX5_again 63 = .ok (.bipush 71, 2) := by decide +kernel
theorem dX5_again_65 : decode cX5_again 65 = .ok (.iaload, 1) := by decide +kernel
theorem dX5_again_66 : decode cX5_again 66 = .ok (.ireturn, 1) := by decide +kernel
end
section
theorem dJ6_bitCount_0f7a4_0 : decode cJ6_bitCount_0f7a4 0 = .ok (.iload_n 0, 1) := by decide +kernel
theorem dJ6_bitCount_0f7a4_1 : decode cJ6_bitCount_0f7a4 1 = .ok (.iload_n 0, 1) := by decide +kernel
theorem dJ6_bitCount_0f7a4_2 : decode cJ6_bitCount_0f7a4 2 = .ok (.iconst 1, 1) := by decide +kernel
theorem dJ6_bitCount_0f7a4_3 : decode cJ6_bitCount_0f7a4 3 = .ok (.iushr, 1) := by decide +kernel
theorem dJ6_bitCount_0f7a4_4 : decode cJ6_bitCount_0f7a4 4 = .ok (.ldc_w 265, 3) := by decide +kernel
theorem dJ6_bitCount_0f7a4_7 : decode cJ6_bitCount_0f7a4 7 = .ok (.iand, 1) := by decide +kernel
theorem dJ6_bitCount_0f7a4_8 : decode cJ6_bitCount_0f7a4 8 = .ok (.isub, 1) := by decide +kernel
theorem dJ6_bitCount_0f7a4_9 : decode cJ6_bitCount_0f7a4 9 = .ok (.istore_n 0, 1) := by decide +kernel
theorem dJ6_bitCount_0f7a4_10 : decode cJ6_bitCount_0f7a4 10 = .ok (.iload_n 0, 1) := by decide +kernel
theorem dJ6_bitCount_0f7a4_11 : decode cJ6_bitCount_0f7a4 11 = .ok (.ldc_w 266, 3) := by decide +kernel
theorem dJ6_bitCount_0f7a4_14 : decode cJ6_bitCount_0f7a4 14 = .ok (.iand, 1) := by decide +kernel
theorem dJ6_bitCount_0f7a4_15 : decode cJ6_bitCount_0f7a4 15 = .ok (.iload_n 0, 1) := by decide +kernel
theorem dJ6_bitCount_0f7a4_16 : decode cJ6_bitCount_0f7a4 16 = .ok (.iconst 2, 1) := by decide +kernel
theorem dJ6_bitCount_0f7a4_17 : decode cJ6_bitCount_0f7a4 17 = .ok (.iushr, 1) := by decide +kernel
theorem dJ6_bitCount_0f7a4_18 : decode cJ6_bitCount_0f7a4 18 = .ok (.ldc_w 266, 3) := by decide +kernel
theorem dJ6_bitCount_0f7a4_21 : decode cJ6_bitCount_0f7a4 21 = .ok (.iand, 1) := by decide +kernel
theorem dJ6_bitCount_0f7a4_22 : decode cJ6_bitCount_0f7a4 22 = .ok (.iadd, 1) := by decide +kernel
theorem dJ6_bitCount_0f7a4_23 : decode cJ6_bitCount_0f7a4 23 = .ok (.istore_n 0, 1) := by decide +kernel
theorem dJ6_bitCount_0f7a4_24 : decode cJ6_bitCount_0f7a4 24 = .ok (.iload_n 0, 1) := by decide +kernel
theorem dJ6_bitCount_0f7a4_25 : decode cJ6_bitCount_0f7a4 25 = .ok (.iload_n 0, 1) := by decide +kernel
theorem dJ6_bitCount_0f7a4_26 : decode cJ6_bitCount_0f7a4 26 = .ok (.iconst 4, 1) := by decide +kernel
theorem dJ6_bitCount_0f7a4_27 : decode cJ6_bitCount_0f7a4 27 = .ok (.iushr, 1) := by decide +kernel
theorem dJ6_bitCount_0f7a4_28 : decode cJ6_bitCount_0f7a4 28 = .ok (.iadd, 1) := by decide +kernel
theorem dJ6_bitCount_0f7a4_29 : decode cJ6_bitCount_0f7a4 29 = .ok (.ldc_w 267, 3) := by decide +kernel
theorem dJ6_bitCount_0f7a4_32 : decode cJ6_bitCount_0f7a4 32 = .ok (.iand, 1) := by decide +kernel
theorem dJ6_bitCount_0f7a4_33 : decode cJ6_bitCount_0f7a4 33 = .ok (.istore_n 0, 1) := by decide +kernel
theorem dJ6_bitCount_0f7a4_34 : decode cJ6_bitCount_0f7a4 34 = .ok (.iload_n 0, 1) := by decide +kernel
theorem dJ6_bitCount_0f7a4_35 : decode cJ6_bitCount_0f7a4 35 = .ok (.iload_n 0, 1) := by decide +kernel
theorem dJ6_bitCount_0f7a4_36 : decode cJ6_bitCount_0f7a4 36 = .ok (.bipush 8, 2) := by decide +kernel
theorem dJ6_bitCount_0f7a4_38 : decode cJ6_bitCount_0f7a4 38 = .ok (.iushr, 1) := by decide +kernel
theorem dJ6_bitCount_0f7a4_39 : decode cJ6_bitCount_0f7a4 39 = .ok (.iadd, 1) := by decide +kernel
theorem dJ6_bitCount_0f7a4_40 : decode cJ6_bitCount_0f7a4 40 = .ok (.istore_n 0, 1) := by decide +kernel
theorem dJ6_bitCount_0f7a4_41 : decode cJ6_bitCount_0f7a4 41 = .ok (.iload_n 0, 1) := by decide +kernel
theorem dJ6_bitCount_0f7a4_42 : decode cJ6_bitCount_0f7a4 42 = .ok (.iload_n 0, 1) := by decide +kernel
theorem dJ6_bitCount_0f7a4_43 : decode cJ6_bitCount_0f7a4 43 = .ok (.bipush 16, 2) := by decide +kernel
theorem dJ6_bitCount_0f7a4_45 : decode cJ6_bitCount_0f7a4 45 = .ok (.iushr, 1) := by decide +kernel
theorem dJ6_bitCount_0f7a4_46 : decode cJ6_bitCount_0f7a4 46 = .ok (.iadd, 1) := by decide +kernel
theorem dJ6_bitCount_0f7a4_47 : decode cJ6_bitCount_0f7a4 47 = .ok (.istore_n 0, 1) := by decide +kernel
theorem dJ6_bitCount_0f7a4_48 : decode cJ6_bitCount_0f7a4 48 = .ok (.iload_n 0, 1) := by decide +kernel
theorem dJ6_bitCount_0f7a4_49 : decode cJ6_bitCount_0f7a4 49 = .ok (.bipush 63, 2) := by decide +kernel
theorem dJ6_bitCount_0f7a4_51 : decode cJ6_bitCount_0f7a4 51 = .ok (.iand, 1) := by decide +kernel
theorem dJ6_bitCount_0f7a4_52 : decode cJ6_bitCount_0f7a4 52 = .ok (.ireturn, 1) := by decide +kernel
theorem dJ9_floorMod_7cf53_0 : decode cJ9_floorMod_7cf53 0 = .ok (.iload_n 0, 1) := by decide +kernel
theorem dJ9_floorMod_7cf53_1 : decode cJ9_floorMod_7cf53 1 = .ok (.iload_n 1, 1) := by decide +kernel
theorem dJ9_floorMod_7cf53_2 : decode cJ9_floorMod_7cf53 2 = .ok (.irem, 1) := by decide +kernel
theorem dJ9_floorMod_7cf53_3 : decode cJ9_floorMod_7cf53 3 = .ok (.istore_n 2, 1) := by decide +kernel
theorem dJ9_floorMod_7cf53_4 : decode cJ9_floorMod_7cf53 4 = .ok (.iload_n 0, 1) := by decide +kernel
theorem dJ9_floorMod_7cf53_5 : decode cJ9_floorMod_7cf53 5 = .ok (.iload_n 1, 1) := by decide +kernel
theorem dJ9_floorMod_7cf53_6 : decode cJ9_floorMod_7cf53 6 = .ok (.ixor, 1) := by decide +kernel
theorem dJ9_floorMod_7cf53_7 : decode cJ9_floorMod_7cf53 7 = .ok (.ifCond .ge 11, 3) := by decide +kernel
theorem dJ9_floorMod_7cf53_10 : decode cJ9_floorMod_7cf53 10 = .ok (.iload_n 2, 1) := by decide +kernel
theorem dJ9_floorMod_7cf53_11 : decode cJ9_floorMod_7cf53 11 = .ok (.ifCond .eq 7, 3) := by decide +kernel
theorem dJ9_floorMod_7cf53_14 : decode cJ9_floorMod_7cf53 14 = .ok (.iload_n 2, 1) := by decide +kernel
theorem dJ9_floorMod_7cf53_15 : decode cJ9_floorMod_7cf53 15 = .ok (.iload_n 1, 1) := by decide +kernel
theorem dJ9_floorMod_7cf53_16 : decode cJ9_floorMod_7cf53 16 = .ok (.iadd, 1) := by decide +kernel
theorem dJ9_floorMod_7cf53_17 : decode cJ9_floorMod_7cf53 17 = .ok (.ireturn, 1) := by decide +kernel
theorem dJ9_floorMod_7cf53_18 : decode cJ9_floorMod_7cf53 18 = .ok (.iload_n 2, 1) := by decide +kernel
theorem dJ9_floorMod_7cf53_19 : decode cJ9_floorMod_7cf53 19 = .ok (.ireturn, 1) := by decide +kernel
theorem dJ9_abs_0f7a4_0 : decode cJ9_abs_0f7a4 0 = .ok (.iload_n 0, 1) := by decide +kernel
theorem dJ9_abs_0f7a4_1 : decode cJ9_abs_0f7a4 1 = .ok (.ifCond .ge 8, 3) := by decide +kernel
theorem dJ9_abs_0f7a4_4 : decode cJ9_abs_0f7a4 4 = .ok (.iload_n 0, 1) := by decide +kernel
theorem dJ9_abs_0f7a4_5 : decode cJ9_abs_0f7a4 5 = .ok (.ineg, 1) := by decide +kernel
theorem dJ9_abs_0f7a4_6 : decode cJ9_abs_0f7a4 6 = .ok (.goto 4, 3) := by decide +kernel
theorem dJ9_abs_0f7a4_9 : decode cJ9_abs_0f7a4 9 = .ok (.iload_n 0, 1) := by decide +kernel
theorem dJ9_abs_0f7a4_10 : decode cJ9_abs_0f7a4 10 = .ok (.ireturn, 1) := by decide +kernel
theorem dJ9_max_7cf53_0 : decode cJ9_max_7cf53 0 = .ok (.iload_n 0, 1) := by decide +kernel
theorem dJ9_max_7cf53_1 : decode cJ9_max_7cf53 1 = .ok (.iload_n 1, 1) := by decide +kernel
theorem dJ9_max_7cf53_2 : decode cJ9_max_7cf53 2 = .ok (.if_icmp .lt 7, 3) := by decide +kernel
theorem dJ9_max_7cf53_5 : decode cJ9_max_7cf53 5 = .ok (.iload_n 0, 1) := by decide +kernel
theorem dJ9_max_7cf53_6 : decode cJ9_max_7cf53 6 = .ok (.goto 4, 3) := by decide +kernel
theorem dJ9_max_7cf53_9 : decode cJ9_max_7cf53 9 = .ok (.iload_n 1, 1) := by decide +kernel
theorem dJ9_max_7cf53_10 : decode cJ9_max_7cf53 10 = .ok (.ireturn, 1) := by decide +kernel
theorem dJ9_min_7cf53_0 : decode cJ9_min_7cf53 0 = .ok (.iload_n 0, 1) := by decide +kernel
theorem dJ9_min_7cf53_1 : decode cJ9_min_7cf53 1 = .ok (.iload_n 1, 1) := by decide +kernel
theorem dJ9_min_7cf53_2 : decode cJ9_min_7cf53 2 = .ok (.if_icmp .gt 7, 3) := by decide +kernel
theorem dJ9_min_7cf53_5 : decode cJ9_min_7cf53 5 = .ok (.iload_n 0, 1) := by decide +kernel
theorem dJ9_min_7cf53_6 : decode cJ9_min_7cf53 6 = .ok (.goto 4, 3) := by decide +kernel
theorem dJ9_min_7cf53_9 : decode cJ9_min_7cf53 9 = .ok (.iload_n 1, 1) := by decide +kernel
theorem dJ9_min_7cf53_10 : decode cJ9_min_7cf53 10 = .ok (.ireturn, 1) := by decide +kernel
theorem dL_law_0 : decode cL_law 0 = .ok (.new 7, 3) := by decide +kernel
theorem dL_law_3 : decode cL_law 3 = .ok (.dup, 1) := by decide +kernel
theorem dL_law_4 : decode cL_law 4 = .ok (.invokespecial 9, 3) := by decide +kernel
theorem dL_law_7 : decode cL_law 7 = .ok (.astore_n 1, 1) := by decide +kernel
theorem dL_law_8 : decode cL_law 8 = .ok (.new 10, 3) := by decide +kernel
theorem dL_law_11 : decode cL_law 11 = .ok (.dup, 1) := by decide +kernel
theorem dL_law_12 : decode cL_law 12 = .ok (.invokespecial 12, 3) := by decide +kernel
theorem dL_law_15 : decode cL_law 15 = .ok (.astore_n 2, 1) := by decide +kernel
theorem dL_law_16 : decode cL_law 16 = .ok (.iconst 0, 1) := by decide +kernel
theorem dL_law_17 : decode cL_law 17 = .ok (.istore_n 3, 1) := by decide +kernel
theorem dL_law_18 : decode cL_law 18 = .ok (.iload_n 3, 1) := by decide +kernel
theorem dL_law_19 : decode cL_law 19 = .ok (.aload_n 0, 1) := by decide +kernel
theorem dL_law_20 : decode cL_law 20 = .ok (.arraylength, 1) := by decide +kernel
theorem dL_law_21 : decode cL_law 21 = .ok (.iconst 4, 1) := by decide +kernel
theorem dL_law_22 : decode cL_law 22 = .ok (.isub, 1) := by decide +kernel
theorem dL_law_23 : decode cL_law 23 = .ok (.if_icmp .gt 1010, 3) := by decide +kernel
theorem dL_law_26 : decode cL_law 26 = .ok (.aload_n 0, 1) := by decide +kernel
theorem dL_law_27 : decode cL_law 27 = .ok (.iload_n 3, 1) := by decide +kernel
theorem dL_law_28 : decode cL_law 28 = .ok (.iaload, 1) := by decide +kernel
theorem dL_law_29 : decode cL_law 29 = .ok (.bipush 31, 2) := by decide +kernel
theorem dL_law_31 : decode cL_law 31 = .ok (.iand, 1) := by decide +kernel
theorem dL_law_32 : decode cL_law 32 = .ok (.tableswitch 995 0 31 #[144, 167, 180, 193, 206, 229, 252, 285, 318, 341, 364, 377, 390, 403, 416, 465, 498, 521, 534, 567, 600, 623, 662, 695, 738, 751, 764, 813, 872, 926, 949, 972], 144) := by decide +kernel
theorem dL_law_176 : decode cL_law 176 = .ok (.aload_n 1, 1) := by decide +kernel
theorem dL_law_177 : decode cL_law 177 = .ok (.aload_n 0, 1) := by decide +kernel
theorem dL_law_178 : decode cL_law 178 = .ok (.iload_n 3, 1) := by decide +kernel
theorem dL_law_179 : decode cL_law 179 = .ok (.iconst 1, 1) := by decide +kernel
theorem dL_law_180 : decode cL_law 180 = .ok (.iadd, 1) := by decide +kernel
theorem dL_law_181 : decode cL_law 181 = .ok (.iaload, 1) := by decide +kernel
theorem dL_law_182 : decode cL_law 182 = .ok (.invokevirtual 13, 3) := by decide +kernel
theorem dL_law_185 : decode cL_law 185 = .ok (.aload_n 2, 1) := by decide +kernel
theorem dL_law_186 : decode cL_law 186 = .ok (.aload_n 0, 1) := by decide +kernel
theorem dL_law_187 : decode cL_law 187 = .ok (.iload_n 3, 1) := by decide +kernel
theorem dL_law_188 : decode cL_law 188 = .ok (.iconst 1, 1) := by decide +kernel
theorem dL_law_189 : decode cL_law 189 = .ok (.iadd, 1) := by decide +kernel
theorem dL_law_190 : decode cL_law 190 = .ok (.iaload, 1) := by decide +kernel
theorem dL_law_191 : decode cL_law 191 = .ok (.invokevirtual 17, 3) := by decide +kernel
theorem dL_law_194 : decode cL_law 194 = .ok (.if_icmp .eq 833, 3) := by decide +kernel
theorem dL_law_197 : decode cL_law 197 = .ok (.iconst 0, 1) := by decide +kernel
theorem dL_law_198 : decode cL_law 198 = .ok (.ireturn, 1) := by decide +kernel
theorem dL_law_199 : decode cL_law 199 = .ok (.aload_n 1, 1) := by decide +kernel
theorem dL_law_200 : decode cL_law 200 = .ok (.invokevirtual 18, 3) := by decide +kernel
theorem dL_law_203 : decode cL_law 203 = .ok (.aload_n 2, 1) := by decide +kernel
theorem dL_law_204 : decode cL_law 204 = .ok (.invokevirtual 22, 3) := by decide +kernel
theorem dL_law_207 : decode cL_law 207 = .ok (.if_icmp .eq 820, 3) := by decide +kernel
theorem dL_law_210 : decode cL_law 210 = .ok (.iconst 0, 1) := by decide +kernel
theorem dL_law_211 : decode cL_law 211 = .ok (.ireturn, 1) := by decide +kernel
theorem dL_law_212 : decode cL_law 212 = .ok (.aload_n 1, 1) := by decide +kernel
theorem dL_law_213 : decode cL_law 213 = .ok (.invokevirtual 23, 3) := by decide +kernel
theorem dL_law_216 : decode cL_law 216 = .ok (.aload_n 2, 1) := by decide +kernel
theorem dL_law_217 : decode cL_law 217 = .ok (.invokevirtual 26, 3) := by decide +kernel
theorem dL_law_220 : decode cL_law 220 = .ok (.if_icmp .eq 807, 3) := by decide +kernel
theorem dL_law_223 : decode cL_law 223 = .ok (.iconst 0, 1) := by decide +kernel
theorem dL_law_224 : decode cL_law 224 = .ok (.ireturn, 1) := by decide +kernel
theorem dL_law_225 : decode cL_law 225 = .ok (.aload_n 1, 1) := by decide +kernel
theorem dL_law_226 : decode cL_law 226 = .ok (.invokevirtual 27, 3) := by decide +kernel
theorem dL_law_229 : decode cL_law 229 = .ok (.aload_n 2, 1) := by decide +kernel
theorem dL_law_230 : decode cL_law 230 = .ok (.invokevirtual 30, 3) := by decide +kernel
theorem dL_law_233 : decode cL_law 233 = .ok (.if_icmp .eq 794, 3) := by decide +kernel
theorem dL_law_236 : decode cL_law 236 = .ok (.iconst 0, 1) := by decide +kernel
theorem dL_law_237 : decode cL_law 237 = .ok (.ireturn, 1) := by decide +kernel
theorem dL_law_238 : decode cL_law 238 = .ok (.aload_n 1, 1) := by decide +kernel
theorem dL_law_239 : decode cL_law 239 = .ok (.aload_n 0, 1) := by decide +kernel
theorem dL_law_240 : decode cL_law 240 = .ok (.iload_n 3, 1) := by decide +kernel
theorem dL_law_241 : decode cL_law 241 = .ok (.iconst 1, 1) := by decide +kernel
theorem dL_law_242 : decode cL_law 242 = .ok (.iadd, 1) := by decide +kernel
theorem dL_law_243 : decode cL_law 243 = .ok (.iaload, 1) := by decide +kernel
theorem dL_law_244 : decode cL_law 244 = .ok (.invokevirtual 31, 3) := by decide +kernel
theorem dL_law_247 : decode cL_law 247 = .ok (.aload_n 2, 1) := by decide +kernel
theorem dL_law_248 : decode cL_law 248 = .ok (.aload_n 0, 1) := by decide +kernel
theorem dL_law_249 : decode cL_law 249 = .ok (.iload_n 3, 1) := by decide +kernel
theorem dL_law_250 : decode cL_law 250 = .ok (.iconst 1, 1) := by decide +kernel
theorem dL_law_251 : decode cL_law 251 = .ok (.iadd, 1) := by decide +kernel
theorem dL_law_252 : decode cL_law 252 = .ok (.iaload, 1) := by decide +kernel
theorem dL_law_253 : decode cL_law 253 = .ok (.invokevirtual 34, 3) := by decide +kernel
theorem dL_law_256 : decode cL_law 256 = .ok (.if_icmp .eq 771, 3) := by decide +kernel
theorem dL_law_259 : decode cL_law 259 = .ok (.iconst 0, 1) := by decide +kernel
theorem dL_law_260 : decode cL_law 260 = .ok (.ireturn, 1) := by decide +kernel
theorem dL_law_261 : decode cL_law 261 = .ok (.aload_n 1, 1) := by decide +kernel
theorem dL_law_262 : decode cL_law 262 = .ok (.aload_n 0, 1) := by decide +kernel
theorem dL_law_263 : decode cL_law 263 = .ok (.iload_n 3, 1) := by decide +kernel
theorem dL_law_264 : decode cL_law 264 = .ok (.iconst 1, 1) := by decide +kernel
theorem dL_law_265 : decode cL_law 265 = .ok (.iadd, 1) := by decide +kernel
theorem dL_law_266 : decode cL_law 266 = .ok (.iaload, 1) := by decide +kernel
theorem dL_law_267 : decode cL_law 267 = .ok (.invokevirtual 35, 3) := by decide +kernel
theorem dL_law_270 : decode cL_law 270 = .ok (.aload_n 2, 1) := by decide +kernel
theorem dL_law_271 : decode cL_law 271 = .ok (.aload_n 0, 1) := by decide +kernel
theorem dL_law_272 : decode cL_law 272 = .ok (.iload_n 3, 1) := by decide +kernel
theorem dL_law_273 : decode cL_law 273 = .ok (.iconst 1, 1) := by decide +kernel
theorem dL_law_274 : decode cL_law 274 = .ok (.iadd, 1) := by decide +kernel
theorem dL_law_275 : decode cL_law 275 = .ok (.iaload, 1) := by decide +kernel
theorem dL_law_276 : decode cL_law 276 = .ok (.invokevirtual 38, 3) := by decide +kernel
theorem dL_law_279 : decode cL_law 279 = .ok (.if_icmp .eq 748, 3) := by decide +kernel
theorem dL_law_282 : decode cL_law 282 = .ok (.iconst 0, 1) := by decide +kernel
theorem dL_law_283 : decode cL_law 283 = .ok (.ireturn, 1) := by decide +kernel
theorem dL_law_284 : decode cL_law 284 = .ok (.aload_n 1, 1) := by decide +kernel
theorem dL_law_285 : decode cL_law 285 = .ok (.aload_n 0, 1) := by decide +kernel
theorem dL_law_286 : decode cL_law 286 = .ok (.iload_n 3, 1) := by decide +kernel
theorem dL_law_287 : decode cL_law 287 = .ok (.iconst 1, 1) := by decide +kernel
theorem dL_law_288 : decode cL_law 288 = .ok (.iadd, 1) := by decide +kernel
theorem dL_law_289 : decode cL_law 289 = .ok (.iaload, 1) := by decide +kernel
theorem dL_law_290 : decode cL_law 290 = .ok (.aload_n 0, 1) := by decide +kernel
theorem dL_law_291 : decode cL_law 291 = .ok (.iload_n 3, 1) := by decide +kernel
theorem dL_law_292 : decode cL_law 292 = .ok (.iconst 2, 1) := by decide +kernel
theorem dL_law_293 : decode cL_law 293 = .ok (.iadd, 1) := by decide +kernel
theorem dL_law_294 : decode cL_law 294 = .ok (.iaload, 1) := by decide +kernel
theorem dL_law_295 : decode cL_law 295 = .ok (.invokevirtual 39, 3) := by decide +kernel
theorem dL_law_298 : decode cL_law 298 = .ok (.aload_n 2, 1) := by decide +kernel
theorem dL_law_299 : decode cL_law 299 = .ok (.aload_n 0, 1) := by decide +kernel
theorem dL_law_300 : decode cL_law 300 = .ok (.iload_n 3, 1) := by decide +kernel
theorem dL_law_301 : decode cL_law 301 = .ok (.iconst 1, 1) := by decide +kernel
theorem dL_law_302 : decode cL_law 302 = .ok (.iadd, 1) := by decide +kernel
theorem dL_law_303 : decode cL_law 303 = .ok (.iaload, 1) := by decide +kernel
theorem dL_law_304 : decode cL_law 304 = .ok (.aload_n 0, 1) := by decide +kernel
theorem dL_law_305 : decode cL_law 305 = .ok (.iload_n 3, 1) := by decide +kernel
theorem dL_law_306 : decode cL_law 306 = .ok (.iconst 2, 1) := by decide +kernel
theorem dL_law_307 : decode cL_law 307 = .ok (.iadd, 1) := by decide +kernel
theorem dL_law_308 : decode cL_law 308 = .ok (.iaload, 1) := by decide +kernel
theorem dL_law_309 : decode cL_law 309 = .ok (.invokevirtual 43, 3) := by decide +kernel
theorem dL_law_312 : decode cL_law 312 = .ok (.if_icmp .eq 715, 3) := by decide +kernel
theorem dL_law_315 : decode cL_law 315 = .ok (.iconst 0, 1) := by decide +kernel
theorem dL_law_316 : decode cL_law 316 = .ok (.ireturn, 1) := by decide +kernel
theorem dL_law_317 : decode cL_law 317 = .ok (.aload_n 1, 1) := by decide +kernel
theorem dL_law_318 : decode cL_law 318 = .ok (.aload_n 0, 1) := by decide +kernel
theorem dL_law_319 : decode cL_law 319 = .ok (.iload_n 3, 1) := by decide +kernel
theorem dL_law_320 : decode cL_law 320 = .ok (.iconst 1, 1) := by decide +kernel
theorem dL_law_321 : decode cL_law 321 = .ok (.iadd, 1) := by decide +kernel
theorem dL_law_322 : decode cL_law 322 = .ok (.iaload, 1) := by decide +kernel
theorem dL_law_323 : decode cL_law 323 = .ok (.aload_n 0, 1) := by decide +kernel
theorem dL_law_324 : decode cL_law 324 = .ok (.iload_n 3, 1) := by decide +kernel
theorem dL_law_325 : decode cL_law 325 = .ok (.iconst 2, 1) := by decide +kernel
theorem dL_law_326 : decode cL_law 326 = .ok (.iadd, 1) := by decide +kernel
theorem dL_law_327 : decode cL_law 327 = .ok (.iaload, 1) := by decide +kernel
theorem dL_law_328 : decode cL_law 328 = .ok (.invokevirtual 44, 3) := by decide +kernel
theorem dL_law_331 : decode cL_law 331 = .ok (.aload_n 2, 1) := by decide +kernel
theorem dL_law_332 : decode cL_law 332 = .ok (.aload_n 0, 1) := by decide +kernel
theorem dL_law_333 : decode cL_law 333 = .ok (.iload_n 3, 1) := by decide +kernel
theorem dL_law_334 : decode cL_law 334 = .ok (.iconst 1, 1) := by decide +kernel
theorem dL_law_335 : decode cL_law 335 = .ok (.iadd, 1) := by decide +kernel
theorem dL_law_336 : decode cL_law 336 = .ok (.iaload, 1) := by decide +kernel
theorem dL_law_337 : decode cL_law 337 = .ok (.aload_n 0, 1) := by decide +kernel
theorem dL_law_338 : decode cL_law 338 = .ok (.iload_n 3, 1) := by decide +kernel
theorem dL_law_339 : decode cL_law 339 = .ok (.iconst 2, 1) := by decide +kernel
theorem dL_law_340 : decode cL_law 340 = .ok (.iadd, 1) := by decide +kernel
theorem dL_law_341 : decode cL_law 341 = .ok (.iaload, 1) := by decide +kernel
theorem dL_law_342 : decode cL_law 342 = .ok (.invokevirtual 47, 3) := by decide +kernel
theorem dL_law_345 : decode cL_law 345 = .ok (.if_icmp .eq 682, 3) := by decide +kernel
theorem dL_law_348 : decode cL_law 348 = .ok (.iconst 0, 1) := by decide +kernel
theorem dL_law_349 : decode cL_law 349 = .ok (.ireturn, 1) := by decide +kernel
theorem dL_law_350 : decode cL_law 350 = .ok (.aload_n 1, 1) := by decide +kernel
theorem dL_law_351 : decode cL_law 351 = .ok (.aload_n 0, 1) := by decide +kernel
theorem dL_law_352 : decode cL_law 352 = .ok (.iload_n 3, 1) := by decide +kernel
theorem dL_law_353 : decode cL_law 353 = .ok (.iconst 1, 1) := by decide +kernel
theorem dL_law_354 : decode cL_law 354 = .ok (.iadd, 1) := by decide +kernel
theorem dL_law_355 : decode cL_law 355 = .ok (.iaload, 1) := by decide +kernel
theorem dL_law_356 : decode cL_law 356 = .ok (.invokevirtual 48, 3) := by decide +kernel
theorem dL_law_359 : decode cL_law 359 = .ok (.aload_n 2, 1) := by decide +kernel
theorem dL_law_360 : decode cL_law 360 = .ok (.aload_n 0, 1) := by decide +kernel
theorem dL_law_361 : decode cL_law 361 = .ok (.iload_n 3, 1) := by decide +kernel
theorem dL_law_362 : decode cL_law 362 = .ok (.iconst 1, 1) := by decide +kernel
theorem dL_law_363 : decode cL_law 363 = .ok (.iadd, 1) := by decide +kernel
theorem dL_law_364 : decode cL_law 364 = .ok (.iaload, 1) := by decide +kernel
theorem dL_law_365 : decode cL_law 365 = .ok (.invokevirtual 51, 3) := by decide +kernel
theorem dL_law_368 : decode cL_law 368 = .ok (.if_icmp .eq 659, 3) := by decide +kernel
theorem dL_law_371 : decode cL_law 371 = .ok (.iconst 0, 1) := by decide +kernel
theorem dL_law_372 : decode cL_law 372 = .ok (.ireturn, 1) := by decide +kernel
theorem dL_law_373 : decode cL_law 373 = .ok (.aload_n 1, 1) := by decide +kernel
theorem dL_law_374 : decode cL_law 374 = .ok (.aload_n 0, 1) := by decide +kernel
theorem dL_law_375 : decode cL_law 375 = .ok (.iload_n 3, 1) := by decide +kernel
theorem dL_law_376 : decode cL_law 376 = .ok (.iconst 1, 1) := by decide +kernel
theorem dL_law_377 : decode cL_law 377 = .ok (.iadd, 1) := by decide +kernel
theorem dL_law_378 : decode cL_law 378 = .ok (.iaload, 1) := by decide +kernel
theorem dL_law_379 : decode cL_law 379 = .ok (.invokevirtual 52, 3) := by decide +kernel
theorem dL_law_382 : decode cL_law 382 = .ok (.aload_n 2, 1) := by decide +kernel
theorem dL_law_383 : decode cL_law 383 = .ok (.aload_n 0, 1) := by decide +kernel
theorem dL_law_384 : decode cL_law 384 = .ok (.iload_n 3, 1) := by decide +kernel
theorem dL_law_385 : decode cL_law 385 = .ok (.iconst 1, 1) := by decide +kernel
theorem dL_law_386 : decode cL_law 386 = .ok (.iadd, 1) := by decide +kernel
theorem dL_law_387 : decode cL_law 387 = .ok (.iaload, 1) := by decide +kernel
theorem dL_law_388 : decode cL_law 388 = .ok (.invokevirtual 55, 3) := by decide +kernel
theorem dL_law_391 : decode cL_law 391 = .ok (.if_icmp .eq 636, 3) := by decide +kernel
theorem dL_law_394 : decode cL_law 394 = .ok (.iconst 0, 1) := by decide +kernel
theorem dL_law_395 : decode cL_law 395 = .ok (.ireturn, 1) := by decide +kernel
theorem dL_law_396 : decode cL_law 396 = .ok (.aload_n 1, 1) := by decide +kernel
theorem dL_law_397 : decode cL_law 397 = .ok (.invokevirtual 56, 3) := by decide +kernel
theorem dL_law_400 : decode cL_law 400 = .ok (.aload_n 2, 1) := by decide +kernel
theorem dL_law_401 : decode cL_law 401 = .ok (.invokevirtual 59, 3) := by decide +kernel
theorem dL_law_404 : decode cL_law 404 = .ok (.if_icmp .eq 623, 3) := by decide +kernel
theorem dL_law_407 : decode cL_law 407 = .ok (.iconst 0, 1) := by decide +kernel
theorem dL_law_408 : decode cL_law 408 = .ok (.ireturn, 1) := by decide +kernel
theorem dL_law_409 : decode cL_law 409 = .ok (.aload_n 1, 1) := by decide +kernel
theorem dL_law_410 : decode cL_law 410 = .ok (.invokevirtual 60, 3) := by decide +kernel
theorem dL_law_413 : decode cL_law 413 = .ok (.aload_n 2, 1) := by decide +kernel
theorem dL_law_414 : decode cL_law 414 = .ok (.invokevirtual 63, 3) := by decide +kernel
theorem dL_law_417 : decode cL_law 417 = .ok (.if_icmp .eq 610, 3) := by decide +kernel
theorem dL_law_420 : decode cL_law 420 = .ok (.iconst 0, 1) := by decide +kernel
theorem dL_law_421 : decode cL_law 421 = .ok (.ireturn, 1) := by decide +kernel
theorem dL_law_422 : decode cL_law 422 = .ok (.aload_n 1, 1) := by decide +kernel
theorem dL_law_423 : decode cL_law 423 = .ok (.invokevirtual 64, 3) := by decide +kernel
theorem dL_law_426 : decode cL_law 426 = .ok (.aload_n 2, 1) := by decide +kernel
theorem dL_law_427 : decode cL_law 427 = .ok (.invokevirtual 67, 3) := by decide +kernel
theorem dL_law_430 : decode cL_law 430 = .ok (.if_icmp .eq 597, 3) := by decide +kernel
theorem dL_law_433 : decode cL_law 433 = .ok (.iconst 0, 1) := by decide +kernel
theorem dL_law_434 : decode cL_law 434 = .ok (.ireturn, 1) := by decide +kernel
theorem dL_law_435 : decode cL_law 435 = .ok (.aload_n 1, 1) := by decide +kernel
theorem dL_law_436 : decode cL_law 436 = .ok (.invokevirtual 68, 3) := by decide +kernel
theorem dL_law_439 : decode cL_law 439 = .ok (.aload_n 2, 1) := by decide +kernel
theorem dL_law_440 : decode cL_law 440 = .ok (.invokevirtual 71, 3) := by decide +kernel
theorem dL_law_443 : decode cL_law 443 = .ok (.if_icmp .eq 584, 3) := by decide +kernel
theorem dL_law_446 : decode cL_law 446 = .ok (.iconst 0, 1) := by decide +kernel
theorem dL_law_447 : decode cL_law 447 = .ok (.ireturn, 1) := by decide +kernel
theorem dL_law_448 : decode cL_law 448 = .ok (.aload_n 1, 1) := by decide +kernel
theorem dL_law_449 : decode cL_law 449 = .ok (.aload_n 0, 1) := by decide +kernel
theorem dL_law_450 : decode cL_law 450 = .ok (.iload_n 3, 1) := by decide +kernel
theorem dL_law_451 : decode cL_law 451 = .ok (.iconst 1, 1) := by decide +kernel
theorem dL_law_452 : decode cL_law 452 = .ok (.iadd, 1) := by decide +kernel
theorem dL_law_453 : decode cL_law 453 = .ok (.iaload, 1) := by decide +kernel
theorem dL_law_454 : decode cL_law 454 = .ok (.ifCond .eq 7, 3) := by decide +kernel
theorem dL_law_457 : decode cL_law 457 = .ok (.iconst 1, 1) := by decide +kernel
theorem dL_law_458 : decode cL_law 458 = .ok (.goto 4, 3) := by decide +kernel
theorem dL_law_461 : decode cL_law 461 = .ok (.iconst 0, 1) := by decide +kernel
theorem dL_law_462 : decode cL_law 462 = .ok (.aload_n 0, 1) := by decide +kernel
theorem dL_law_463 : decode cL_law 463 = .ok (.iload_n 3, 1) := by decide +kernel
theorem dL_law_464 : decode cL_law 464 = .ok (.iconst 2, 1) := by decide +kernel
theorem dL_law_465 : decode cL_law 465 = .ok (.iadd, 1) := by decide +kernel
theorem dL_law_466 : decode cL_law 466 = .ok (.iaload, 1) := by decide +kernel
theorem dL_law_467 : decode cL_law 467 = .ok (.invokevirtual 72, 3) := by decide +kernel
theorem dL_law_470 : decode cL_law 470 = .ok (.aload_n 2, 1) := by decide +kernel
theorem dL_law_471 : decode cL_law 471 = .ok (.aload_n 0, 1) := by decide +kernel
theorem dL_law_472 : decode cL_law 472 = .ok (.iload_n 3, 1) := by decide +kernel
theorem dL_law_473 : decode cL_law 473 = .ok (.iconst 1, 1) := by decide +kernel
theorem dL_law_474 : decode cL_law 474 = .ok (.iadd, 1) := by decide +kernel
theorem dL_law_475 : decode cL_law 475 = .ok (.iaload, 1) := by decide +kernel
theorem dL_law_476 : decode cL_law 476 = .ok (.ifCond .eq 7, 3) := by decide +kernel
theorem dL_law_479 : decode cL_law 479 = .ok (.iconst 1, 1) := by decide +kernel
theorem dL_law_480 : decode cL_law 480 = .ok (.goto 4, 3) := by decide +kernel
theorem dL_law_483 : decode cL_law 483 = .ok (.iconst 0, 1) := by decide +kernel
theorem dL_law_484 : decode cL_law 484 = .ok (.aload_n 0, 1) := by decide +kernel
theorem dL_law_485 : decode cL_law 485 = .ok (.iload_n 3, 1) := by decide +kernel
theorem dL_law_486 : decode cL_law 486 = .ok (.iconst 2, 1) := by decide +kernel
theorem dL_law_487 : decode cL_law 487 = .ok (.iadd, 1) := by decide +kernel
theorem dL_law_488 : decode cL_law 488 = .ok (.iaload, 1) := by decide +kernel
theorem dL_law_489 : decode cL_law 489 = .ok (.invokevirtual 76, 3) := by decide +kernel
theorem dL_law_492 : decode cL_law 492 = .ok (.if_icmp .eq 535, 3) := by decide +kernel
theorem dL_law_495 : decode cL_law 495 = .ok (.iconst 0, 1) := by decide +kernel
theorem dL_law_496 : decode cL_law 496 = .ok (.ireturn, 1) := by decide +kernel
theorem dL_law_497 : decode cL_law 497 = .ok (.aload_n 1, 1) := by decide +kernel
theorem dL_law_498 : decode cL_law 498 = .ok (.aload_n 0, 1) := by decide +kernel
theorem dL_law_499 : decode cL_law 499 = .ok (.iload_n 3, 1) := by decide +kernel
theorem dL_law_500 : decode cL_law 500 = .ok (.iconst 1, 1) := by decide +kernel
theorem dL_law_501 : decode cL_law 501 = .ok (.iadd, 1) := by decide +kernel
theorem dL_law_502 : decode cL_law 502 = .ok (.iaload, 1) := by decide +kernel
theorem dL_law_503 : decode cL_law 503 = .ok (.aload_n 0, 1) := by decide +kernel
theorem dL_law_504 : decode cL_law 504 = .ok (.iload_n 3, 1) := by decide +kernel
theorem dL_law_505 : decode cL_law 505 = .ok (.iconst 2, 1) := by decide +kernel
theorem dL_law_506 : decode cL_law 506 = .ok (.iadd, 1) := by decide +kernel
theorem dL_law_507 : decode cL_law 507 = .ok (.iaload, 1) := by decide +kernel
theorem dL_law_508 : decode cL_law 508 = .ok (.invokevirtual 77, 3) := by decide +kernel
theorem dL_law_511 : decode cL_law 511 = .ok (.aload_n 2, 1) := by decide +kernel
theorem dL_law_512 : decode cL_law 512 = .ok (.aload_n 0, 1) := by decide +kernel
theorem dL_law_513 : decode cL_law 513 = .ok (.iload_n 3, 1) := by decide +kernel
theorem dL_law_514 : decode cL_law 514 = .ok (.iconst 1, 1) := by decide +kernel
theorem dL_law_515 : decode cL_law 515 = .ok (.iadd, 1) := by decide +kernel
theorem dL_law_516 : decode cL_law 516 = .ok (.iaload, 1) := by decide +kernel
theorem dL_law_517 : decode cL_law 517 = .ok (.aload_n 0, 1) := by decide +kernel
theorem dL_law_518 : decode cL_law 518 = .ok (.iload_n 3, 1) := by decide +kernel
theorem dL_law_519 : decode cL_law 519 = .ok (.iconst 2, 1) := by decide +kernel
theorem dL_law_520 : decode cL_law 520 = .ok (.iadd, 1) := by decide +kernel
theorem dL_law_521 : decode cL_law 521 = .ok (.iaload, 1) := by decide +kernel
theorem dL_law_522 : decode cL_law 522 = .ok (.invokevirtual 80, 3) := by decide +kernel
theorem dL_law_525 : decode cL_law 525 = .ok (.if_icmp .eq 502, 3) := by decide +kernel
theorem dL_law_528 : decode cL_law 528 = .ok (.iconst 0, 1) := by decide +kernel
theorem dL_law_529 : decode cL_law 529 = .ok (.ireturn, 1) := by decide +kernel
theorem dL_law_530 : decode cL_law 530 = .ok (.aload_n 1, 1) := by decide +kernel
theorem dL_law_531 : decode cL_law 531 = .ok (.aload_n 0, 1) := by decide +kernel
theorem dL_law_532 : decode cL_law 532 = .ok (.iload_n 3, 1) := by decide +kernel
theorem dL_law_533 : decode cL_law 533 = .ok (.iconst 1, 1) := by decide +kernel
theorem dL_law_534 : decode cL_law 534 = .ok (.iadd, 1) := by decide +kernel
theorem dL_law_535 : decode cL_law 535 = .ok (.iaload, 1) := by decide +kernel
theorem dL_law_536 : decode cL_law 536 = .ok (.invokevirtual 81, 3) := by decide +kernel
theorem dL_law_539 : decode cL_law 539 = .ok (.aload_n 2, 1) := by decide +kernel
theorem dL_law_540 : decode cL_law 540 = .ok (.aload_n 0, 1) := by decide +kernel
theorem dL_law_541 : decode cL_law 541 = .ok (.iload_n 3, 1) := by decide +kernel
theorem dL_law_542 : decode cL_law 542 = .ok (.iconst 1, 1) := by decide +kernel
theorem dL_law_543 : decode cL_law 543 = .ok (.iadd, 1) := by decide +kernel
theorem dL_law_544 : decode cL_law 544 = .ok (.iaload, 1) := by decide +kernel
theorem dL_law_545 : decode cL_law 545 = .ok (.invokevirtual 84, 3) := by decide +kernel
theorem dL_law_548 : decode cL_law 548 = .ok (.if_icmp .eq 479, 3) := by decide +kernel
theorem dL_law_551 : decode cL_law 551 = .ok (.iconst 0, 1) := by decide +kernel
theorem dL_law_552 : decode cL_law 552 = .ok (.ireturn, 1) := by decide +kernel
theorem dL_law_553 : decode cL_law 553 = .ok (.aload_n 1, 1) := by decide +kernel
theorem dL_law_554 : decode cL_law 554 = .ok (.invokevirtual 85, 3) := by decide +kernel
theorem dL_law_557 : decode cL_law 557 = .ok (.aload_n 2, 1) := by decide +kernel
theorem dL_law_558 : decode cL_law 558 = .ok (.invokevirtual 88, 3) := by decide +kernel
theorem dL_law_561 : decode cL_law 561 = .ok (.if_icmp .eq 466, 3) := by decide +kernel
theorem dL_law_564 : decode cL_law 564 = .ok (.iconst 0, 1) := by decide +kernel
theorem dL_law_565 : decode cL_law 565 = .ok (.ireturn, 1) := by decide +kernel
theorem dL_law_566 : decode cL_law 566 = .ok (.aload_n 1, 1) := by decide +kernel
theorem dL_law_567 : decode cL_law 567 = .ok (.aload_n 0, 1) := by decide +kernel
theorem dL_law_568 : decode cL_law 568 = .ok (.iload_n 3, 1) := by decide +kernel
theorem dL_law_569 : decode cL_law 569 = .ok (.iconst 1, 1) := by decide +kernel
theorem dL_law_570 : decode cL_law 570 = .ok (.iadd, 1) := by decide +kernel
theorem dL_law_571 : decode cL_law 571 = .ok (.iaload, 1) := by decide +kernel
theorem dL_law_572 : decode cL_law 572 = .ok (.aload_n 0, 1) := by decide +kernel
theorem dL_law_573 : decode cL_law 573 = .ok (.iload_n 3, 1) := by decide +kernel
theorem dL_law_574 : decode cL_law 574 = .ok (.iconst 2, 1) := by decide +kernel
theorem dL_law_575 : decode cL_law 575 = .ok (.iadd, 1) := by decide +kernel
theorem dL_law_576 : decode cL_law 576 = .ok (.iaload, 1) := by decide +kernel
theorem dL_law_577 : decode cL_law 577 = .ok (.invokevirtual 89, 3) := by decide +kernel
theorem dL_law_580 : decode cL_law 580 = .ok (.aload_n 2, 1) := by decide +kernel
theorem dL_law_581 : decode cL_law 581 = .ok (.aload_n 0, 1) := by decide +kernel
theorem dL_law_582 : decode cL_law 582 = .ok (.iload_n 3, 1) := by decide +kernel
theorem dL_law_583 : decode cL_law 583 = .ok (.iconst 1, 1) := by decide +kernel
theorem dL_law_584 : decode cL_law 584 = .ok (.iadd, 1) := by decide +kernel
theorem dL_law_585 : decode cL_law 585 = .ok (.iaload, 1) := by decide +kernel
theorem dL_law_586 : decode cL_law 586 = .ok (.aload_n 0, 1) := by decide +kernel
theorem dL_law_587 : decode cL_law 587 = .ok (.iload_n 3, 1) := by decide +kernel
theorem dL_law_588 : decode cL_law 588 = .ok (.iconst 2, 1) := by decide +kernel
theorem dL_law_589 : decode cL_law 589 = .ok (.iadd, 1) := by decide +kernel
theorem dL_law_590 : decode cL_law 590 = .ok (.iaload, 1) := by decide +kernel
theorem dL_law_591 : decode cL_law 591 = .ok (.invokevirtual 92, 3) := by decide +kernel
theorem dL_law_594 : decode cL_law 594 = .ok (.if_icmp .eq 433, 3) := by decide +kernel
theorem dL_law_597 : decode cL_law 597 = .ok (.iconst 0, 1) := by decide +kernel
theorem dL_law_598 : decode cL_law 598 = .ok (.ireturn, 1) := by decide +kernel
theorem dL_law_599 : decode cL_law 599 = .ok (.aload_n 1, 1) := by decide +kernel
theorem dL_law_600 : decode cL_law 600 = .ok (.aload_n 0, 1) := by decide +kernel
theorem dL_law_601 : decode cL_law 601 = .ok (.iload_n 3, 1) := by decide +kernel
theorem dL_law_602 : decode cL_law 602 = .ok (.iconst 1, 1) := by decide +kernel
theorem dL_law_603 : decode cL_law 603 = .ok (.iadd, 1) := by decide +kernel
theorem dL_law_604 : decode cL_law 604 = .ok (.iaload, 1) := by decide +kernel
theorem dL_law_605 : decode cL_law 605 = .ok (.aload_n 0, 1) := by decide +kernel
theorem dL_law_606 : decode cL_law 606 = .ok (.iload_n 3, 1) := by decide +kernel
theorem dL_law_607 : decode cL_law 607 = .ok (.iconst 2, 1) := by decide +kernel
theorem dL_law_608 : decode cL_law 608 = .ok (.iadd, 1) := by decide +kernel
theorem dL_law_609 : decode cL_law 609 = .ok (.iaload, 1) := by decide +kernel
theorem dL_law_610 : decode cL_law 610 = .ok (.invokevirtual 93, 3) := by decide +kernel
theorem dL_law_613 : decode cL_law 613 = .ok (.aload_n 2, 1) := by decide +kernel
theorem dL_law_614 : decode cL_law 614 = .ok (.aload_n 0, 1) := by decide +kernel
theorem dL_law_615 : decode cL_law 615 = .ok (.iload_n 3, 1) := by decide +kernel
theorem dL_law_616 : decode cL_law 616 = .ok (.iconst 1, 1) := by decide +kernel
theorem dL_law_617 : decode cL_law 617 = .ok (.iadd, 1) := by decide +kernel
theorem dL_law_618 : decode cL_law 618 = .ok (.iaload, 1) := by decide +kernel
theorem dL_law_619 : decode cL_law 619 = .ok (.aload_n 0, 1) := by decide +kernel
theorem dL_law_620 : decode cL_law 620 = .ok (.iload_n 3, 1) := by decide +kernel
theorem dL_law_621 : decode cL_law 621 = .ok (.iconst 2, 1) := by decide +kernel
theorem dL_law_622 : decode cL_law 622 = .ok (.iadd, 1) := by decide +kernel
theorem dL_law_623 : decode cL_law 623 = .ok (.iaload, 1) := by decide +kernel
theorem dL_law_624 : decode cL_law 624 = .ok (.invokevirtual 96, 3) := by decide +kernel
theorem dL_law_627 : decode cL_law 627 = .ok (.if_icmp .eq 400, 3) := by decide +kernel
theorem dL_law_630 : decode cL_law 630 = .ok (.iconst 0, 1) := by decide +kernel
theorem dL_law_631 : decode cL_law 631 = .ok (.ireturn, 1) := by decide +kernel
theorem dL_law_632 : decode cL_law 632 = .ok (.aload_n 1, 1) := by decide +kernel
theorem dL_law_633 : decode cL_law 633 = .ok (.aload_n 0, 1) := by decide +kernel
theorem dL_law_634 : decode cL_law 634 = .ok (.iload_n 3, 1) := by decide +kernel
theorem dL_law_635 : decode cL_law 635 = .ok (.iconst 1, 1) := by decide +kernel
theorem dL_law_636 : decode cL_law 636 = .ok (.iadd, 1) := by decide +kernel
theorem dL_law_637 : decode cL_law 637 = .ok (.iaload, 1) := by decide +kernel
theorem dL_law_638 : decode cL_law 638 = .ok (.invokevirtual 97, 3) := by decide +kernel
theorem dL_law_641 : decode cL_law 641 = .ok (.aload_n 2, 1) := by decide +kernel
theorem dL_law_642 : decode cL_law 642 = .ok (.aload_n 0, 1) := by decide +kernel
theorem dL_law_643 : decode cL_law 643 = .ok (.iload_n 3, 1) := by decide +kernel
theorem dL_law_644 : decode cL_law 644 = .ok (.iconst 1, 1) := by decide +kernel
theorem dL_law_645 : decode cL_law 645 = .ok (.iadd, 1) := by decide +kernel
theorem dL_law_646 : decode cL_law 646 = .ok (.iaload, 1) := by decide +kernel
theorem dL_law_647 : decode cL_law 647 = .ok (.invokevirtual 100, 3) := by decide +kernel
theorem dL_law_650 : decode cL_law 650 = .ok (.if_icmp .eq 377, 3) := by decide +kernel
theorem dL_law_653 : decode cL_law 653 = .ok (.iconst 0, 1) := by decide +kernel
theorem dL_law_654 : decode cL_law 654 = .ok (.ireturn, 1) := by decide +kernel
theorem dL_law_655 : decode cL_law 655 = .ok (.aload_n 1, 1) := by decide +kernel
theorem dL_law_656 : decode cL_law 656 = .ok (.aload_n 0, 1) := by decide +kernel
theorem dL_law_657 : decode cL_law 657 = .ok (.iload_n 3, 1) := by decide +kernel
theorem dL_law_658 : decode cL_law 658 = .ok (.iconst 1, 1) := by decide +kernel
theorem dL_law_659 : decode cL_law 659 = .ok (.iadd, 1) := by decide +kernel
theorem dL_law_660 : decode cL_law 660 = .ok (.iaload, 1) := by decide +kernel
theorem dL_law_661 : decode cL_law 661 = .ok (.ifCond .eq 7, 3) := by decide +kernel
theorem dL_law_664 : decode cL_law 664 = .ok (.iconst 1, 1) := by decide +kernel
theorem dL_law_665 : decode cL_law 665 = .ok (.goto 4, 3) := by decide +kernel
theorem dL_law_668 : decode cL_law 668 = .ok (.iconst 0, 1) := by decide +kernel
theorem dL_law_669 : decode cL_law 669 = .ok (.invokevirtual 101, 3) := by decide +kernel
theorem dL_law_672 : decode cL_law 672 = .ok (.aload_n 2, 1) := by decide +kernel
theorem dL_law_673 : decode cL_law 673 = .ok (.aload_n 0, 1) := by decide +kernel
theorem dL_law_674 : decode cL_law 674 = .ok (.iload_n 3, 1) := by decide +kernel
theorem dL_law_675 : decode cL_law 675 = .ok (.iconst 1, 1) := by decide +kernel
theorem dL_law_676 : decode cL_law 676 = .ok (.iadd, 1) := by decide +kernel
theorem dL_law_677 : decode cL_law 677 = .ok (.iaload, 1) := by decide +kernel
theorem dL_law_678 : decode cL_law 678 = .ok (.ifCond .eq 7, 3) := by decide +kernel
theorem dL_law_681 : decode cL_law 681 = .ok (.iconst 1, 1) := by decide +kernel
theorem dL_law_682 : decode cL_law 682 = .ok (.goto 4, 3) := by decide +kernel
theorem dL_law_685 : decode cL_law 685 = .ok (.iconst 0, 1) := by decide +kernel
theorem dL_law_686 : decode cL_law 686 = .ok (.invokevirtual 105, 3) := by decide +kernel
theorem dL_law_689 : decode cL_law 689 = .ok (.if_icmp .eq 338, 3) := by decide +kernel
theorem dL_law_692 : decode cL_law 692 = .ok (.iconst 0, 1) := by decide +kernel
theorem dL_law_693 : decode cL_law 693 = .ok (.ireturn, 1) := by decide +kernel
theorem dL_law_694 : decode cL_law 694 = .ok (.aload_n 1, 1) := by decide +kernel
theorem dL_law_695 : decode cL_law 695 = .ok (.aload_n 0, 1) := by decide +kernel
theorem dL_law_696 : decode cL_law 696 = .ok (.iload_n 3, 1) := by decide +kernel
theorem dL_law_697 : decode cL_law 697 = .ok (.iconst 1, 1) := by decide +kernel
theorem dL_law_698 : decode cL_law 698 = .ok (.iadd, 1) := by decide +kernel
theorem dL_law_699 : decode cL_law 699 = .ok (.iaload, 1) := by decide +kernel
theorem dL_law_700 : decode cL_law 700 = .ok (.aload_n 0, 1) := by decide +kernel
theorem dL_law_701 : decode cL_law 701 = .ok (.iload_n 3, 1) := by decide +kernel
theorem dL_law_702 : decode cL_law 702 = .ok (.iconst 2, 1) := by decide +kernel
theorem dL_law_703 : decode cL_law 703 = .ok (.iadd, 1) := by decide +kernel
theorem dL_law_704 : decode cL_law 704 = .ok (.iaload, 1) := by decide +kernel
theorem dL_law_705 : decode cL_law 705 = .ok (.invokevirtual 106, 3) := by decide +kernel
theorem dL_law_708 : decode cL_law 708 = .ok (.aload_n 2, 1) := by decide +kernel
theorem dL_law_709 : decode cL_law 709 = .ok (.aload_n 0, 1) := by decide +kernel
theorem dL_law_710 : decode cL_law 710 = .ok (.iload_n 3, 1) := by decide +kernel
theorem dL_law_711 : decode cL_law 711 = .ok (.iconst 1, 1) := by decide +kernel
theorem dL_law_712 : decode cL_law 712 = .ok (.iadd, 1) := by decide +kernel
theorem dL_law_713 : decode cL_law 713 = .ok (.iaload, 1) := by decide +kernel
theorem dL_law_714 : decode cL_law 714 = .ok (.aload_n 0, 1) := by decide +kernel
theorem dL_law_715 : decode cL_law 715 = .ok (.iload_n 3, 1) := by decide +kernel
theorem dL_law_716 : decode cL_law 716 = .ok (.iconst 2, 1) := by decide +kernel
theorem dL_law_717 : decode cL_law 717 = .ok (.iadd, 1) := by decide +kernel
theorem dL_law_718 : decode cL_law 718 = .ok (.iaload, 1) := by decide +kernel
theorem dL_law_719 : decode cL_law 719 = .ok (.invokevirtual 109, 3) := by decide +kernel
theorem dL_law_722 : decode cL_law 722 = .ok (.if_icmp .eq 305, 3) := by decide +kernel
theorem dL_law_725 : decode cL_law 725 = .ok (.iconst 0, 1) := by decide +kernel
theorem dL_law_726 : decode cL_law 726 = .ok (.ireturn, 1) := by decide +kernel
theorem dL_law_727 : decode cL_law 727 = .ok (.aload_n 1, 1) := by decide +kernel
theorem dL_law_728 : decode cL_law 728 = .ok (.aload_n 0, 1) := by decide +kernel
theorem dL_law_729 : decode cL_law 729 = .ok (.iload_n 3, 1) := by decide +kernel
theorem dL_law_730 : decode cL_law 730 = .ok (.iconst 1, 1) := by decide +kernel
theorem dL_law_731 : decode cL_law 731 = .ok (.iadd, 1) := by decide +kernel
theorem dL_law_732 : decode cL_law 732 = .ok (.iaload, 1) := by decide +kernel
theorem dL_law_733 : decode cL_law 733 = .ok (.aload_n 0, 1) := by decide +kernel
theorem dL_law_734 : decode cL_law 734 = .ok (.iload_n 3, 1) := by decide +kernel
theorem dL_law_735 : decode cL_law 735 = .ok (.iconst 2, 1) := by decide +kernel
theorem dL_law_736 : decode cL_law 736 = .ok (.iadd, 1) := by decide +kernel
theorem dL_law_737 : decode cL_law 737 = .ok (.iaload, 1) := by decide +kernel
theorem dL_law_738 : decode cL_law 738 = .ok (.aload_n 0, 1) := by decide +kernel
theorem dL_law_739 : decode cL_law 739 = .ok (.iload_n 3, 1) := by decide +kernel
theorem dL_law_740 : decode cL_law 740 = .ok (.iconst 3, 1) := by decide +kernel
theorem dL_law_741 : decode cL_law 741 = .ok (.iadd, 1) := by decide +kernel
theorem dL_law_742 : decode cL_law 742 = .ok (.iaload, 1) := by decide +kernel
theorem dL_law_743 : decode cL_law 743 = .ok (.invokevirtual 110, 3) := by decide +kernel
theorem dL_law_746 : decode cL_law 746 = .ok (.aload_n 2, 1) := by decide +kernel
theorem dL_law_747 : decode cL_law 747 = .ok (.aload_n 0, 1) := by decide +kernel
theorem dL_law_748 : decode cL_law 748 = .ok (.iload_n 3, 1) := by decide +kernel
theorem dL_law_749 : decode cL_law 749 = .ok (.iconst 1, 1) := by decide +kernel
theorem dL_law_750 : decode cL_law 750 = .ok (.iadd, 1) := by decide +kernel
theorem dL_law_751 : decode cL_law 751 = .ok (.iaload, 1) := by decide +kernel
theorem dL_law_752 : decode cL_law 752 = .ok (.aload_n 0, 1) := by decide +kernel
theorem dL_law_753 : decode cL_law 753 = .ok (.iload_n 3, 1) := by decide +kernel
theorem dL_law_754 : decode cL_law 754 = .ok (.iconst 2, 1) := by decide +kernel
theorem dL_law_755 : decode cL_law 755 = .ok (.iadd, 1) := by decide +kernel
theorem dL_law_756 : decode cL_law 756 = .ok (.iaload, 1) := by decide +kernel
theorem dL_law_757 : decode cL_law 757 = .ok (.aload_n 0, 1) := by decide +kernel
theorem dL_law_758 : decode cL_law 758 = .ok (.iload_n 3, 1) := by decide +kernel
theorem dL_law_759 : decode cL_law 759 = .ok (.iconst 3, 1) := by decide +kernel
theorem dL_law_760 : decode cL_law 760 = .ok (.iadd, 1) := by decide +kernel
theorem dL_law_761 : decode cL_law 761 = .ok (.iaload, 1) := by decide +kernel
theorem dL_law_762 : decode cL_law 762 = .ok (.invokevirtual 114, 3) := by decide +kernel
theorem dL_law_765 : decode cL_law 765 = .ok (.if_icmp .eq 262, 3) := by decide +kernel
theorem dL_law_768 : decode cL_law 768 = .ok (.iconst 0, 1) := by decide +kernel
theorem dL_law_769 : decode cL_law 769 = .ok (.ireturn, 1) := by decide +kernel
theorem dL_law_770 : decode cL_law 770 = .ok (.aload_n 1, 1) := by decide +kernel
theorem dL_law_771 : decode cL_law 771 = .ok (.invokevirtual 115, 3) := by decide +kernel
theorem dL_law_774 : decode cL_law 774 = .ok (.aload_n 2, 1) := by decide +kernel
theorem dL_law_775 : decode cL_law 775 = .ok (.invokevirtual 118, 3) := by decide +kernel
theorem dL_law_778 : decode cL_law 778 = .ok (.if_icmp .eq 249, 3) := by decide +kernel
theorem dL_law_781 : decode cL_law 781 = .ok (.iconst 0, 1) := by decide +kernel
theorem dL_law_782 : decode cL_law 782 = .ok (.ireturn, 1) := by decide +kernel
theorem dL_law_783 : decode cL_law 783 = .ok (.aload_n 1, 1) := by decide +kernel
theorem dL_law_784 : decode cL_law 784 = .ok (.invokevirtual 119, 3) := by decide +kernel
theorem dL_law_787 : decode cL_law 787 = .ok (.aload_n 2, 1) := by decide +kernel
theorem dL_law_788 : decode cL_law 788 = .ok (.invokevirtual 122, 3) := by decide +kernel
theorem dL_law_791 : decode cL_law 791 = .ok (.if_icmp .eq 236, 3) := by decide +kernel
theorem dL_law_794 : decode cL_law 794 = .ok (.iconst 0, 1) := by decide +kernel
theorem dL_law_795 : decode cL_law 795 = .ok (.ireturn, 1) := by decide +kernel
theorem dL_law_796 : decode cL_law 796 = .ok (.aload_n 1, 1) := by decide +kernel
theorem dL_law_797 : decode cL_law 797 = .ok (.aload_n 0, 1) := by decide +kernel
theorem dL_law_798 : decode cL_law 798 = .ok (.iload_n 3, 1) := by decide +kernel
theorem dL_law_799 : decode cL_law 799 = .ok (.iconst 1, 1) := by decide +kernel
theorem dL_law_800 : decode cL_law 800 = .ok (.iadd, 1) := by decide +kernel
theorem dL_law_801 : decode cL_law 801 = .ok (.iaload, 1) := by decide +kernel
theorem dL_law_802 : decode cL_law 802 = .ok (.aload_n 0, 1) := by decide +kernel
theorem dL_law_803 : decode cL_law 803 = .ok (.iload_n 3, 1) := by decide +kernel
theorem dL_law_804 : decode cL_law 804 = .ok (.iconst 2, 1) := by decide +kernel
theorem dL_law_805 : decode cL_law 805 = .ok (.iadd, 1) := by decide +kernel
theorem dL_law_806 : decode cL_law 806 = .ok (.iaload, 1) := by decide +kernel
theorem dL_law_807 : decode cL_law 807 = .ok (.ifCond .eq 7, 3) := by decide +kernel
theorem dL_law_810 : decode cL_law 810 = .ok (.iconst 1, 1) := by decide +kernel
theorem dL_law_811 : decode cL_law 811 = .ok (.goto 4, 3) := by decide +kernel
theorem dL_law_814 : decode cL_law 814 = .ok (.iconst 0, 1) := by decide +kernel
theorem dL_law_815 : decode cL_law 815 = .ok (.invokevirtual 123, 3) := by decide +kernel
theorem dL_law_818 : decode cL_law 818 = .ok (.aload_n 2, 1) := by decide +kernel
theorem dL_law_819 : decode cL_law 819 = .ok (.aload_n 0, 1) := by decide +kernel
theorem dL_law_820 : decode cL_law 820 = .ok (.iload_n 3, 1) := by decide +kernel
theorem dL_law_821 : decode cL_law 821 = .ok (.iconst 1, 1) := by decide +kernel
theorem dL_law_822 : decode cL_law 822 = .ok (.iadd, 1) := by decide +kernel
theorem dL_law_823 : decode cL_law 823 = .ok (.iaload, 1) := by decide +kernel
theorem dL_law_824 : decode cL_law 824 = .ok (.aload_n 0, 1) := by decide +kernel
theorem dL_law_825 : decode cL_law 825 = .ok (.iload_n 3, 1) := by decide +kernel
theorem dL_law_826 : decode cL_law 826 = .ok (.iconst 2, 1) := by decide +kernel
theorem dL_law_827 : decode cL_law 827 = .ok (.iadd, 1) := by decide +kernel
theorem dL_law_828 : decode cL_law 828 = .ok (.iaload, 1) := by decide +kernel
theorem dL_law_829 : decode cL_law 829 = .ok (.ifCond .eq 7, 3) := by decide +kernel
theorem dL_law_832 : decode cL_law 832 = .ok (.iconst 1, 1) := by decide +kernel
theorem dL_law_833 : decode cL_law 833 = .ok (.goto 4, 3) := by decide +kernel
theorem dL_law_836 : decode cL_law 836 = .ok (.iconst 0, 1) := by decide +kernel
theorem dL_law_837 : decode cL_law 837 = .ok (.invokevirtual 127, 3) := by decide +kernel
theorem dL_law_840 : decode cL_law 840 = .ok (.if_icmp .eq 187, 3) := by decide +kernel
theorem dL_law_843 : decode cL_law 843 = .ok (.iconst 0, 1) := by decide +kernel
theorem dL_law_844 : decode cL_law 844 = .ok (.ireturn, 1) := by decide +kernel
theorem dL_law_845 : decode cL_law 845 = .ok (.aload_n 1, 1) := by decide +kernel
theorem dL_law_846 : decode cL_law 846 = .ok (.aload_n 0, 1) := by decide +kernel
theorem dL_law_847 : decode cL_law 847 = .ok (.iload_n 3, 1) := by decide +kernel
theorem dL_law_848 : decode cL_law 848 = .ok (.iconst 1, 1) := by decide +kernel
theorem dL_law_849 : decode cL_law 849 = .ok (.iadd, 1) := by decide +kernel
theorem dL_law_850 : decode cL_law 850 = .ok (.iaload, 1) := by decide +kernel
theorem dL_law_851 : decode cL_law 851 = .ok (.aload_n 0, 1) := by decide +kernel
theorem dL_law_852 : decode cL_law 852 = .ok (.iload_n 3, 1) := by decide +kernel
theorem dL_law_853 : decode cL_law 853 = .ok (.iconst 2, 1) := by decide +kernel
theorem dL_law_854 : decode cL_law 854 = .ok (.iadd, 1) := by decide +kernel
theorem dL_law_855 : decode cL_law 855 = .ok (.iaload, 1) := by decide +kernel
theorem dL_law_856 : decode cL_law 856 = .ok (.aload_n 0, 1) := by decide +kernel
theorem dL_law_857 : decode cL_law 857 = .ok (.iload_n 3, 1) := by decide +kernel
theorem dL_law_858 : decode cL_law 858 = .ok (.iconst 3, 1) := by decide +kernel
theorem dL_law_859 : decode cL_law 859 = .ok (.iadd, 1) := by decide +kernel
theorem dL_law_860 : decode cL_law 860 = .ok (.iaload, 1) := by decide +kernel
theorem dL_law_861 : decode cL_law 861 = .ok (.ifCond .eq 7, 3) := by decide +kernel
theorem dL_law_864 : decode cL_law 864 = .ok (.iconst 1, 1) := by decide +kernel
theorem dL_law_865 : decode cL_law 865 = .ok (.goto 4, 3) := by decide +kernel
theorem dL_law_868 : decode cL_law 868 = .ok (.iconst 0, 1) := by decide +kernel
theorem dL_law_869 : decode cL_law 869 = .ok (.invokevirtual 128, 3) := by decide +kernel
theorem dL_law_872 : decode cL_law 872 = .ok (.aload_n 2, 1) := by decide +kernel
theorem dL_law_873 : decode cL_law 873 = .ok (.aload_n 0, 1) := by decide +kernel
theorem dL_law_874 : decode cL_law 874 = .ok (.iload_n 3, 1) := by decide +kernel
theorem dL_law_875 : decode cL_law 875 = .ok (.iconst 1, 1) := by decide +kernel
theorem dL_law_876 : decode cL_law 876 = .ok (.iadd, 1) := by decide +kernel
theorem dL_law_877 : decode cL_law 877 = .ok (.iaload, 1) := by decide +kernel
theorem dL_law_878 : decode cL_law 878 = .ok (.aload_n 0, 1) := by decide +kernel
theorem dL_law_879 : decode cL_law 879 = .ok (.iload_n 3, 1) := by decide +kernel
theorem dL_law_880 : decode cL_law 880 = .ok (.iconst 2, 1) := by decide +kernel
theorem dL_law_881 : decode cL_law 881 = .ok (.iadd, 1) := by decide +kernel
theorem dL_law_882 : decode cL_law 882 = .ok (.iaload, 1) := by decide +kernel
theorem dL_law_883 : decode cL_law 883 = .ok (.aload_n 0, 1) := by decide +kernel
theorem dL_law_884 : decode cL_law 884 = .ok (.iload_n 3, 1) := by decide +kernel
theorem dL_law_885 : decode cL_law 885 = .ok (.iconst 3, 1) := by decide +kernel
theorem dL_law_886 : decode cL_law 886 = .ok (.iadd, 1) := by decide +kernel
theorem dL_law_887 : decode cL_law 887 = .ok (.iaload, 1) := by decide +kernel
theorem dL_law_888 : decode cL_law 888 = .ok (.ifCond .eq 7, 3) := by decide +kernel
theorem dL_law_891 : decode cL_law 891 = .ok (.iconst 1, 1) := by decide +kernel
theorem dL_law_892 : decode cL_law 892 = .ok (.goto 4, 3) := by decide +kernel
theorem dL_law_895 : decode cL_law 895 = .ok (.iconst 0, 1) := by decide +kernel
theorem dL_law_896 : decode cL_law 896 = .ok (.invokevirtual 132, 3) := by decide +kernel
theorem dL_law_899 : decode cL_law 899 = .ok (.if_icmp .eq 128, 3) := by decide +kernel
theorem dL_law_902 : decode cL_law 902 = .ok (.iconst 0, 1) := by decide +kernel
theorem dL_law_903 : decode cL_law 903 = .ok (.ireturn, 1) := by decide +kernel
theorem dL_law_904 : decode cL_law 904 = .ok (.aload_n 1, 1) := by decide +kernel
theorem dL_law_905 : decode cL_law 905 = .ok (.aload_n 0, 1) := by decide +kernel
theorem dL_law_906 : decode cL_law 906 = .ok (.iload_n 3, 1) := by decide +kernel
theorem dL_law_907 : decode cL_law 907 = .ok (.iconst 1, 1) := by decide +kernel
theorem dL_law_908 : decode cL_law 908 = .ok (.iadd, 1) := by decide +kernel
theorem dL_law_909 : decode cL_law 909 = .ok (.iaload, 1) := by decide +kernel
theorem dL_law_910 : decode cL_law 910 = .ok (.i2l, 1) := by decide +kernel
theorem dL_law_911 : decode cL_law 911 = .ok (.bipush 32, 2) := by decide +kernel
theorem dL_law_913 : decode cL_law 913 = .ok (.lshl, 1) := by decide +kernel
theorem dL_law_914 : decode cL_law 914 = .ok (.aload_n 0, 1) := by decide +kernel
theorem dL_law_915 : decode cL_law 915 = .ok (.iload_n 3, 1) := by decide +kernel
theorem dL_law_916 : decode cL_law 916 = .ok (.iconst 2, 1) := by decide +kernel
theorem dL_law_917 : decode cL_law 917 = .ok (.iadd, 1) := by decide +kernel
theorem dL_law_918 : decode cL_law 918 = .ok (.iaload, 1) := by decide +kernel
theorem dL_law_919 : decode cL_law 919 = .ok (.i2l, 1) := by decide +kernel
theorem dL_law_920 : decode cL_law 920 = .ok (.ldc2_w 133, 3) := by decide +kernel
theorem dL_law_923 : decode cL_law 923 = .ok (.land, 1) := by decide +kernel
theorem dL_law_924 : decode cL_law 924 = .ok (.lor, 1) := by decide +kernel
theorem dL_law_925 : decode cL_law 925 = .ok (.invokevirtual 135, 3) := by decide +kernel
theorem dL_law_928 : decode cL_law 928 = .ok (.aload_n 2, 1) := by decide +kernel
theorem dL_law_929 : decode cL_law 929 = .ok (.aload_n 0, 1) := by decide +kernel
theorem dL_law_930 : decode cL_law 930 = .ok (.iload_n 3, 1) := by decide +kernel
theorem dL_law_931 : decode cL_law 931 = .ok (.iconst 1, 1) := by decide +kernel
theorem dL_law_932 : decode cL_law 932 = .ok (.iadd, 1) := by decide +kernel
theorem dL_law_933 : decode cL_law 933 = .ok (.iaload, 1) := by decide +kernel
theorem dL_law_934 : decode cL_law 934 = .ok (.i2l, 1) := by decide +kernel
theorem dL_law_935 : decode cL_law 935 = .ok (.bipush 32, 2) := by decide +kernel
theorem dL_law_937 : decode cL_law 937 = .ok (.lshl, 1) := by decide +kernel
theorem dL_law_938 : decode cL_law 938 = .ok (.aload_n 0, 1) := by decide +kernel
theorem dL_law_939 : decode cL_law 939 = .ok (.iload_n 3, 1) := by decide +kernel
theorem dL_law_940 : decode cL_law 940 = .ok (.iconst 2, 1) := by decide +kernel
theorem dL_law_941 : decode cL_law 941 = .ok (.iadd, 1) := by decide +kernel
theorem dL_law_942 : decode cL_law 942 = .ok (.iaload, 1) := by decide +kernel
theorem dL_law_943 : decode cL_law 943 = .ok (.i2l, 1) := by decide +kernel
theorem dL_law_944 : decode cL_law 944 = .ok (.ldc2_w 133, 3) := by decide +kernel
theorem dL_law_947 : decode cL_law 947 = .ok (.land, 1) := by decide +kernel
theorem dL_law_948 : decode cL_law 948 = .ok (.lor, 1) := by decide +kernel
theorem dL_law_949 : decode cL_law 949 = .ok (.invokevirtual 139, 3) := by decide +kernel
theorem dL_law_952 : decode cL_law 952 = .ok (.lcmp, 1) := by decide +kernel
theorem dL_law_953 : decode cL_law 953 = .ok (.ifCond .eq 74, 3) := by decide +kernel
theorem dL_law_956 : decode cL_law 956 = .ok (.iconst 0, 1) := by decide +kernel
theorem dL_law_957 : decode cL_law 957 = .ok (.ireturn, 1) := by decide +kernel
theorem dL_law_958 : decode cL_law 958 = .ok (.aload_n 1, 1) := by decide +kernel
theorem dL_law_959 : decode cL_law 959 = .ok (.aload_n 0, 1) := by decide +kernel
theorem dL_law_960 : decode cL_law 960 = .ok (.iload_n 3, 1) := by decide +kernel
theorem dL_law_961 : decode cL_law 961 = .ok (.iconst 1, 1) := by decide +kernel
theorem dL_law_962 : decode cL_law 962 = .ok (.iadd, 1) := by decide +kernel
theorem dL_law_963 : decode cL_law 963 = .ok (.iaload, 1) := by decide +kernel
theorem dL_law_964 : decode cL_law 964 = .ok (.invokevirtual 140, 3) := by decide +kernel
theorem dL_law_967 : decode cL_law 967 = .ok (.aload_n 2, 1) := by decide +kernel
theorem dL_law_968 : decode cL_law 968 = .ok (.aload_n 0, 1) := by decide +kernel
theorem dL_law_969 : decode cL_law 969 = .ok (.iload_n 3, 1) := by decide +kernel
theorem dL_law_970 : decode cL_law 970 = .ok (.iconst 1, 1) := by decide +kernel
theorem dL_law_971 : decode cL_law 971 = .ok (.iadd, 1) := by decide +kernel
theorem dL_law_972 : decode cL_law 972 = .ok (.iaload, 1) := by decide +kernel
theorem dL_law_973 : decode cL_law 973 = .ok (.invokevirtual 143, 3) := by decide +kernel
theorem dL_law_976 : decode cL_law 976 = .ok (.if_icmp .eq 51, 3) := by decide +kernel
theorem dL_law_979 : decode cL_law 979 = .ok (.iconst 0, 1) := by decide +kernel
theorem dL_law_980 : decode cL_law 980 = .ok (.ireturn, 1) := by decide +kernel
theorem dL_law_981 : decode cL_law 981 = .ok (.aload_n 1, 1) := by decide +kernel
theorem dL_law_982 : decode cL_law 982 = .ok (.aload_n 0, 1) := by decide +kernel
theorem dL_law_983 : decode cL_law 983 = .ok (.iload_n 3, 1) := by decide +kernel
theorem dL_law_984 : decode cL_law 984 = .ok (.iconst 1, 1) := by decide +kernel
theorem dL_law_985 : decode cL_law 985 = .ok (.iadd, 1) := by decide +kernel
theorem dL_law_986 : decode cL_law 986 = .ok (.iaload, 1) := by decide +kernel
theorem dL_law_987 : decode cL_law 987 = .ok (.invokevirtual 144, 3) := by decide +kernel
theorem dL_law_990 : decode cL_law 990 = .ok (.aload_n 2, 1) := by decide +kernel
theorem dL_law_991 : decode cL_law 991 = .ok (.aload_n 0, 1) := by decide +kernel
theorem dL_law_992 : decode cL_law 992 = .ok (.iload_n 3, 1) := by decide +kernel
theorem dL_law_993 : decode cL_law 993 = .ok (.iconst 1, 1) := by decide +kernel
theorem dL_law_994 : decode cL_law 994 = .ok (.iadd, 1) := by decide +kernel
theorem dL_law_995 : decode cL_law 995 = .ok (.iaload, 1) := by decide +kernel
theorem dL_law_996 : decode cL_law 996 = .ok (.invokevirtual 147, 3) := by decide +kernel
theorem dL_law_999 : decode cL_law 999 = .ok (.if_icmp .eq 28, 3) := by decide +kernel
theorem dL_law_1002 : decode cL_law 1002 = .ok (.iconst 0, 1) := by decide +kernel
theorem dL_law_1003 : decode cL_law 1003 = .ok (.ireturn, 1) := by decide +kernel
theorem dL_law_1004 : decode cL_law 1004 = .ok (.aload_n 1, 1) := by decide +kernel
theorem dL_law_1005 : decode cL_law 1005 = .ok (.aload_n 0, 1) := by decide +kernel
theorem dL_law_1006 : decode cL_law 1006 = .ok (.iload_n 3, 1) := by decide +kernel
theorem dL_law_1007 : decode cL_law 1007 = .ok (.iconst 1, 1) := by decide +kernel
theorem dL_law_1008 : decode cL_law 1008 = .ok (.iadd, 1) := by decide +kernel
theorem dL_law_1009 : decode cL_law 1009 = .ok (.iaload, 1) := by decide +kernel
theorem dL_law_1010 : decode cL_law 1010 = .ok (.invokevirtual 148, 3) := by decide +kernel
theorem dL_law_1013 : decode cL_law 1013 = .ok (.aload_n 2, 1) := by decide +kernel
theorem dL_law_1014 : decode cL_law 1014 = .ok (.aload_n 0, 1) := by decide +kernel
theorem dL_law_1015 : decode cL_law 1015 = .ok (.iload_n 3, 1) := by decide +kernel
theorem dL_law_1016 : decode cL_law 1016 = .ok (.iconst 1, 1) := by decide +kernel
theorem dL_law_1017 : decode cL_law 1017 = .ok (.iadd, 1) := by decide +kernel
theorem dL_law_1018 : decode cL_law 1018 = .ok (.iaload, 1) := by decide +kernel
theorem dL_law_1019 : decode cL_law 1019 = .ok (.invokevirtual 151, 3) := by decide +kernel
theorem dL_law_1022 : decode cL_law 1022 = .ok (.if_icmp .eq 5, 3) := by decide +kernel
theorem dL_law_1025 : decode cL_law 1025 = .ok (.iconst 0, 1) := by decide +kernel
theorem dL_law_1026 : decode cL_law 1026 = .ok (.ireturn, 1) := by decide +kernel
theorem dL_law_1027 : decode cL_law 1027 = .ok (.iinc 3 4, 3) := by decide +kernel
theorem dL_law_1030 : decode cL_law 1030 = .ok (.goto (-1012), 3) := by decide +kernel
theorem dL_law_1033 : decode cL_law 1033 = .ok (.iconst 1, 1) := by decide +kernel
theorem dL_law_1034 : decode cL_law 1034 = .ok (.ireturn, 1) := by decide +kernel
end
section
def ut : List Cond := lw_tbl.filter goodWord
theorem ut_of {w : Cond} (i : Nat) (h : lw_tbl[i]? = some w) (hg : goodWord w = true) : w ∈ ut := List.mem_filter.mpr ⟨List.mem_of_getElem? h, hg⟩
theorem ut_in {w : Cond} (h : w ∈ ut) : w ∈ lw_tbl := (List.mem_filter.mp h).1
theorem ut_good {w : Cond} (h : w ∈ ut) : goodWord w = true := (List.mem_filter.mp h).2

theorem w_se_X4_readText : Cond.selects RX4 yX4_readText yX4_readText ∈ ut := ut_of 0 (by decide +kernel) (by decide +kernel)
theorem w_se_X2_takesInHead : Cond.selects RX2 yX2_takesInHead yX2_takesInHead ∈ ut := ut_of 1 (by decide +kernel) (by decide +kernel)
theorem w_se_X2_takesStation : Cond.selects RX2 yX2_takesStation yX2_takesStation ∈ ut := ut_of 2 (by decide +kernel) (by decide +kernel)
theorem w_se_X2_takesPart : Cond.selects RX2 yX2_takesPart yX2_takesPart ∈ ut := ut_of 3 (by decide +kernel) (by decide +kernel)
theorem w_se_X2_opensPart : Cond.selects RX2 yX2_opensPart yX2_opensPart ∈ ut := ut_of 4 (by decide +kernel) (by decide +kernel)
theorem w_se_X2_takesEntry : Cond.selects RX2 yX2_takesEntry yX2_takesEntry ∈ ut := ut_of 5 (by decide +kernel) (by decide +kernel)
theorem w_se_X2_takesDigit : Cond.selects RX2 yX2_takesDigit yX2_takesDigit ∈ ut := ut_of 6 (by decide +kernel) (by decide +kernel)
theorem w_se_X2_takesValve : Cond.selects RX2 yX2_takesValve yX2_takesValve ∈ ut := ut_of 7 (by decide +kernel) (by decide +kernel)
theorem w_se_X2_takesStock : Cond.selects RX2 yX2_takesStock yX2_takesStock ∈ ut := ut_of 8 (by decide +kernel) (by decide +kernel)
theorem w_se_X4_forgetActs : Cond.selects RX4 yX4_forgetActs yX4_forgetActs ∈ ut := ut_of 9 (by decide +kernel) (by decide +kernel)
theorem w_se_X3_bottleSet : Cond.selects RX3 yX3_bottleSet yX3_bottleSet ∈ ut := ut_of 10 (by decide +kernel) (by decide +kernel)
theorem w_se_X4_rememberAct : Cond.selects RX4 yX4_rememberAct yX4_rememberAct ∈ ut := ut_of 11 (by decide +kernel) (by decide +kernel)
theorem w_se_X3_leave : Cond.selects RX3 yX3_leave yX3_leave ∈ ut := ut_of 12 (by decide +kernel) (by decide +kernel)
theorem w_se_X3_moveOn : Cond.selects RX3 yX3_moveOn yX3_moveOn ∈ ut := ut_of 13 (by decide +kernel) (by decide +kernel)
theorem w_se_X3_leak : Cond.selects RX3 yX3_leak yX3_leak ∈ ut := ut_of 14 (by decide +kernel) (by decide +kernel)
theorem w_se_X3_fill : Cond.selects RX3 yX3_fill yX3_fill ∈ ut := ut_of 15 (by decide +kernel) (by decide +kernel)
theorem w_se_X3_isOff : Cond.selects RX3 yX3_isOff yX3_isOff ∈ ut := ut_of 16 (by decide +kernel) (by decide +kernel)
theorem w_se_X3_weigh : Cond.selects RX3 yX3_weigh yX3_weigh ∈ ut := ut_of 17 (by decide +kernel) (by decide +kernel)
theorem w_se_X3_equip : Cond.selects RX3 yX3_equip yX3_equip ∈ ut := ut_of 18 (by decide +kernel) (by decide +kernel)
theorem w_se_X3_check : Cond.selects RX3 yX3_check yX3_check ∈ ut := ut_of 19 (by decide +kernel) (by decide +kernel)
theorem w_se_X3_push : Cond.selects RX3 yX3_push yX3_push ∈ ut := ut_of 20 (by decide +kernel) (by decide +kernel)
theorem w_se_X4_wayInNextStep : Cond.selects RX4 yX4_wayInNextStep yX4_wayInNextStep ∈ ut := ut_of 21 (by decide +kernel) (by decide +kernel)
theorem w_se_X4_outWithMore : Cond.selects RX4 yX4_outWithMore yX4_outWithMore ∈ ut := ut_of 22 (by decide +kernel) (by decide +kernel)
theorem w_se_X4_obeys : Cond.selects RX4 yX4_obeys yX4_obeys ∈ ut := ut_of 23 (by decide +kernel) (by decide +kernel)
theorem w_se_X4_intervenes : Cond.selects RX4 yX4_intervenes yX4_intervenes ∈ ut := ut_of 24 (by decide +kernel) (by decide +kernel)
theorem w_se_X4_agreesWithSlipAfter : Cond.selects RX4 yX4_agreesWithSlipAfter yX4_agreesWithSlipAfter ∈ ut := ut_of 25 (by decide +kernel) (by decide +kernel)
theorem w_se_X4_agreesAfter : Cond.selects RX4 yX4_agreesAfter yX4_agreesAfter ∈ ut := ut_of 26 (by decide +kernel) (by decide +kernel)
theorem w_se_X4_outWithOff : Cond.selects RX4 yX4_outWithOff yX4_outWithOff ∈ ut := ut_of 27 (by decide +kernel) (by decide +kernel)
theorem w_se_X4_happen : Cond.selects RX4 yX4_happen yX4_happen ∈ ut := ut_of 28 (by decide +kernel) (by decide +kernel)
theorem w_se_X5_readText : Cond.selects RX5 yX5_readText yX5_readText ∈ ut := ut_of 29 (by decide +kernel) (by decide +kernel)
theorem w_se_X5_take : Cond.selects RX5 yX5_take yX5_take ∈ ut := ut_of 30 (by decide +kernel) (by decide +kernel)
theorem w_se_X5_takeSign : Cond.selects RX5 yX5_takeSign yX5_takeSign ∈ ut := ut_of 31 (by decide +kernel) (by decide +kernel)
theorem w_se_X5_queueUp : Cond.selects RX5 yX5_queueUp yX5_queueUp ∈ ut := ut_of 32 (by decide +kernel) (by decide +kernel)
theorem w_se_X5_takeHead : Cond.selects RX5 yX5_takeHead yX5_takeHead ∈ ut := ut_of 33 (by decide +kernel) (by decide +kernel)
theorem w_se_X5_takeOfValve : Cond.selects RX5 yX5_takeOfValve yX5_takeOfValve ∈ ut := ut_of 34 (by decide +kernel) (by decide +kernel)
theorem w_se_X5_takeOfStock : Cond.selects RX5 yX5_takeOfStock yX5_takeOfStock ∈ ut := ut_of 35 (by decide +kernel) (by decide +kernel)
theorem w_se_X5_tell : Cond.selects RX5 yX5_tell yX5_tell ∈ ut := ut_of 36 (by decide +kernel) (by decide +kernel)
theorem w_se_X5_bottles : Cond.selects RX5 yX5_bottles yX5_bottles ∈ ut := ut_of 37 (by decide +kernel) (by decide +kernel)
theorem w_se_X5_isCell : Cond.selects RX5 yX5_isCell yX5_isCell ∈ ut := ut_of 38 (by decide +kernel) (by decide +kernel)
theorem w_se_X5_isGood : Cond.selects RX5 yX5_isGood yX5_isGood ∈ ut := ut_of 39 (by decide +kernel) (by decide +kernel)
theorem w_se_X5_isValve : Cond.selects RX5 yX5_isValve yX5_isValve ∈ ut := ut_of 40 (by decide +kernel) (by decide +kernel)
theorem w_se_X5_note : Cond.selects RX5 yX5_note yX5_note ∈ ut := ut_of 41 (by decide +kernel) (by decide +kernel)
theorem w_se_X5_goOn : Cond.selects RX5 yX5_goOn yX5_goOn ∈ ut := ut_of 42 (by decide +kernel) (by decide +kernel)
theorem w_se_X5_stepBy : Cond.selects RX5 yX5_stepBy yX5_stepBy ∈ ut := ut_of 43 (by decide +kernel) (by decide +kernel)
theorem w_se_X5_leave : Cond.selects RX5 yX5_leave yX5_leave ∈ ut := ut_of 44 (by decide +kernel) (by decide +kernel)
theorem w_se_X5_empty : Cond.selects RX5 yX5_empty yX5_empty ∈ ut := ut_of 45 (by decide +kernel) (by decide +kernel)
theorem w_se_X5_moveOn : Cond.selects RX5 yX5_moveOn yX5_moveOn ∈ ut := ut_of 46 (by decide +kernel) (by decide +kernel)
theorem w_se_X5_slipOn : Cond.selects RX5 yX5_slipOn yX5_slipOn ∈ ut := ut_of 47 (by decide +kernel) (by decide +kernel)
theorem w_se_X5_fillOn : Cond.selects RX5 yX5_fillOn yX5_fillOn ∈ ut := ut_of 48 (by decide +kernel) (by decide +kernel)
theorem w_se_X5_dress : Cond.selects RX5 yX5_dress yX5_dress ∈ ut := ut_of 49 (by decide +kernel) (by decide +kernel)
theorem w_se_X5_check : Cond.selects RX5 yX5_check yX5_check ∈ ut := ut_of 50 (by decide +kernel) (by decide +kernel)
theorem w_se_X5_push : Cond.selects RX5 yX5_push yX5_push ∈ ut := ut_of 51 (by decide +kernel) (by decide +kernel)
theorem w_se_X5_marks : Cond.selects RX5 yX5_marks yX5_marks ∈ ut := ut_of 52 (by decide +kernel) (by decide +kernel)
theorem w_se_X5_clearOn : Cond.selects RX5 yX5_clearOn yX5_clearOn ∈ ut := ut_of 53 (by decide +kernel) (by decide +kernel)
theorem w_se_X5_restartOn : Cond.selects RX5 yX5_restartOn yX5_restartOn ∈ ut := ut_of 54 (by decide +kernel) (by decide +kernel)
theorem w_se_X5_outWith : Cond.selects RX5 yX5_outWith yX5_outWith ∈ ut := ut_of 55 (by decide +kernel) (by decide +kernel)
theorem w_se_X5_judged : Cond.selects RX5 yX5_judged yX5_judged ∈ ut := ut_of 56 (by decide +kernel) (by decide +kernel)
theorem w_se_X5_isSoBy : Cond.selects RX5 yX5_isSoBy yX5_isSoBy ∈ ut := ut_of 57 (by decide +kernel) (by decide +kernel)
theorem w_se_X5_outBy : Cond.selects RX5 yX5_outBy yX5_outBy ∈ ut := ut_of 58 (by decide +kernel) (by decide +kernel)
theorem w_in_L : Cond.initialized RL ∈ ut := ut_of 59 (by decide +kernel) (by decide +kernel)
theorem w_in_X4 : Cond.initialized RX4 ∈ ut := ut_of 60 (by decide +kernel) (by decide +kernel)
theorem w_in_X2 : Cond.initialized RX2 ∈ ut := ut_of 61 (by decide +kernel) (by decide +kernel)
theorem w_in_X1 : Cond.initialized RX1 ∈ ut := ut_of 62 (by decide +kernel) (by decide +kernel)
theorem w_in_X3 : Cond.initialized RX3 ∈ ut := ut_of 63 (by decide +kernel) (by decide +kernel)
theorem w_in_X5 : Cond.initialized RX5 ∈ ut := ut_of 64 (by decide +kernel) (by decide +kernel)
theorem w_in_J9 : Cond.initialized RJ9 ∈ ut := ut_of 65 (by decide +kernel) (by decide +kernel)
theorem w_in_J10 : Cond.initialized RJ10 ∈ ut := ut_of 66 (by decide +kernel) (by decide +kernel)
theorem w_in_X0 : Cond.initialized RX0 ∈ ut := ut_of 67 (by decide +kernel) (by decide +kernel)
theorem w_in_J6 : Cond.initialized RJ6 ∈ ut := ut_of 68 (by decide +kernel) (by decide +kernel)
theorem w_ml_L_9 : Cond.methodLink RL 9 yX4_init ∈ ut := ut_of 71 (by decide +kernel) (by decide +kernel)
theorem w_im_X4_init : Cond.instanceMethod yX4_init ∈ ut := ut_of 72 (by decide +kernel) (by decide +kernel)
theorem w_co_X4_init : Cond.code yX4_init cX4_init 2 (Option.none : Option Jvm.ClassFile.FieldType) ∈ ut := ut_of 73 (by decide +kernel) (by decide +kernel)
theorem w_im_X2_init : Cond.instanceMethod yX2_init ∈ ut := ut_of 80 (by decide +kernel) (by decide +kernel)
theorem w_co_X2_init : Cond.code yX2_init cX2_init 1 (Option.none : Option Jvm.ClassFile.FieldType) ∈ ut := ut_of 81 (by decide +kernel) (by decide +kernel)
theorem w_ml_X2_11 : Cond.methodLink RX2 11 yX1_init ∈ ut := ut_of 85 (by decide +kernel) (by decide +kernel)
theorem w_im_X1_init : Cond.instanceMethod yX1_init ∈ ut := ut_of 86 (by decide +kernel) (by decide +kernel)
theorem w_co_X1_init : Cond.code yX1_init cX1_init 2 (Option.none : Option Jvm.ClassFile.FieldType) ∈ ut := ut_of 87 (by decide +kernel) (by decide +kernel)
theorem w_fl_X1_18 : Cond.fieldLink RX1 18 RX1 "cells" "I" ∈ ut := ut_of 89 (by decide +kernel) (by decide +kernel)
theorem w_fl_X3_83 : Cond.fieldLink RX3 83 RX1 "cells" "I" ∈ ut := ut_of 90 (by decide +kernel) (by decide +kernel)
theorem w_fl_X2_63 : Cond.fieldLink RX2 63 RX1 "cells" "I" ∈ ut := ut_of 91 (by decide +kernel) (by decide +kernel)
theorem w_fl_X4_87 : Cond.fieldLink RX4 87 RX1 "cells" "I" ∈ ut := ut_of 92 (by decide +kernel) (by decide +kernel)
theorem w_fl_X1_9 : Cond.fieldLink RX1 9 RX1 "stations" "[I" ∈ ut := ut_of 93 (by decide +kernel) (by decide +kernel)
theorem w_fl_X2_79 : Cond.fieldLink RX2 79 RX1 "stations" "[I" ∈ ut := ut_of 94 (by decide +kernel) (by decide +kernel)
theorem w_fl_X4_109 : Cond.fieldLink RX4 109 RX1 "stations" "[I" ∈ ut := ut_of 95 (by decide +kernel) (by decide +kernel)
theorem w_fl_X3_100 : Cond.fieldLink RX3 100 RX1 "stations" "[I" ∈ ut := ut_of 96 (by decide +kernel) (by decide +kernel)
theorem w_fl_X1_28 : Cond.fieldLink RX1 28 RX1 "target" "I" ∈ ut := ut_of 97 (by decide +kernel) (by decide +kernel)
theorem w_fl_X2_66 : Cond.fieldLink RX2 66 RX1 "target" "I" ∈ ut := ut_of 98 (by decide +kernel) (by decide +kernel)
theorem w_fl_X4_90 : Cond.fieldLink RX4 90 RX1 "target" "I" ∈ ut := ut_of 99 (by decide +kernel) (by decide +kernel)
theorem w_fl_X3_172 : Cond.fieldLink RX3 172 RX1 "target" "I" ∈ ut := ut_of 100 (by decide +kernel) (by decide +kernel)
theorem w_fl_X1_31 : Cond.fieldLink RX1 31 RX1 "tolerance" "I" ∈ ut := ut_of 101 (by decide +kernel) (by decide +kernel)
theorem w_fl_X4_93 : Cond.fieldLink RX4 93 RX1 "tolerance" "I" ∈ ut := ut_of 102 (by decide +kernel) (by decide +kernel)
theorem w_fl_X2_69 : Cond.fieldLink RX2 69 RX1 "tolerance" "I" ∈ ut := ut_of 103 (by decide +kernel) (by decide +kernel)
theorem w_fl_X1_34 : Cond.fieldLink RX1 34 RX1 "each" "I" ∈ ut := ut_of 104 (by decide +kernel) (by decide +kernel)
theorem w_fl_X4_96 : Cond.fieldLink RX4 96 RX1 "each" "I" ∈ ut := ut_of 105 (by decide +kernel) (by decide +kernel)
theorem w_fl_X2_72 : Cond.fieldLink RX2 72 RX1 "each" "I" ∈ ut := ut_of 106 (by decide +kernel) (by decide +kernel)
theorem w_fl_X3_175 : Cond.fieldLink RX3 175 RX1 "each" "I" ∈ ut := ut_of 107 (by decide +kernel) (by decide +kernel)
theorem w_fl_X2_34 : Cond.fieldLink RX2 34 RX1 "valves" "I" ∈ ut := ut_of 108 (by decide +kernel) (by decide +kernel)
theorem w_fl_X1_37 : Cond.fieldLink RX1 37 RX1 "valves" "I" ∈ ut := ut_of 109 (by decide +kernel) (by decide +kernel)
theorem w_fl_X4_84 : Cond.fieldLink RX4 84 RX1 "valves" "I" ∈ ut := ut_of 110 (by decide +kernel) (by decide +kernel)
theorem w_fl_X3_94 : Cond.fieldLink RX3 94 RX1 "valves" "I" ∈ ut := ut_of 111 (by decide +kernel) (by decide +kernel)
theorem w_fl_X1_15 : Cond.fieldLink RX1 15 RX1 "drifts" "[I" ∈ ut := ut_of 112 (by decide +kernel) (by decide +kernel)
theorem w_fl_X4_147 : Cond.fieldLink RX4 147 RX1 "drifts" "[I" ∈ ut := ut_of 113 (by decide +kernel) (by decide +kernel)
theorem w_fl_X2_111 : Cond.fieldLink RX2 111 RX1 "drifts" "[I" ∈ ut := ut_of 114 (by decide +kernel) (by decide +kernel)
theorem w_fl_X3_159 : Cond.fieldLink RX3 159 RX1 "drifts" "[I" ∈ ut := ut_of 115 (by decide +kernel) (by decide +kernel)
theorem w_ml_X2_20 : Cond.methodLink RX2 20 yX3_init ∈ ut := ut_of 134 (by decide +kernel) (by decide +kernel)
theorem w_im_X3_init : Cond.instanceMethod yX3_init ∈ ut := ut_of 135 (by decide +kernel) (by decide +kernel)
theorem w_co_X3_init : Cond.code yX3_init cX3_init 2 (Option.none : Option Jvm.ClassFile.FieldType) ∈ ut := ut_of 136 (by decide +kernel) (by decide +kernel)
theorem w_fl_X3_24 : Cond.fieldLink RX3 24 RX3 "plan" "LBottleLine$Plan;" ∈ ut := ut_of 138 (by decide +kernel) (by decide +kernel)
theorem w_fl_X3_9 : Cond.fieldLink RX3 9 RX3 "bottles" "[I" ∈ ut := ut_of 139 (by decide +kernel) (by decide +kernel)
theorem w_fl_X4_116 : Cond.fieldLink RX4 116 RX3 "bottles" "[I" ∈ ut := ut_of 140 (by decide +kernel) (by decide +kernel)
theorem w_fl_X3_15 : Cond.fieldLink RX3 15 RX3 "marks" "[I" ∈ ut := ut_of 141 (by decide +kernel) (by decide +kernel)
theorem w_fl_X4_119 : Cond.fieldLink RX4 119 RX3 "marks" "[I" ∈ ut := ut_of 142 (by decide +kernel) (by decide +kernel)
theorem w_fl_X3_18 : Cond.fieldLink RX3 18 RX3 "settings" "[I" ∈ ut := ut_of 143 (by decide +kernel) (by decide +kernel)
theorem w_fl_X4_144 : Cond.fieldLink RX4 144 RX3 "settings" "[I" ∈ ut := ut_of 144 (by decide +kernel) (by decide +kernel)
theorem w_fl_X2_108 : Cond.fieldLink RX2 108 RX3 "settings" "[I" ∈ ut := ut_of 145 (by decide +kernel) (by decide +kernel)
theorem w_fl_X3_34 : Cond.fieldLink RX3 34 RX3 "off" "I" ∈ ut := ut_of 146 (by decide +kernel) (by decide +kernel)
theorem w_fl_X4_274 : Cond.fieldLink RX4 274 RX3 "off" "I" ∈ ut := ut_of 147 (by decide +kernel) (by decide +kernel)
theorem w_fl_X3_21 : Cond.fieldLink RX3 21 RX3 "entries" "[I" ∈ ut := ut_of 148 (by decide +kernel) (by decide +kernel)
theorem w_fl_X4_153 : Cond.fieldLink RX4 153 RX3 "entries" "[I" ∈ ut := ut_of 149 (by decide +kernel) (by decide +kernel)
theorem w_fl_X2_43 : Cond.fieldLink RX2 43 RX3 "entryCount" "I" ∈ ut := ut_of 150 (by decide +kernel) (by decide +kernel)
theorem w_fl_X3_38 : Cond.fieldLink RX3 38 RX3 "entryCount" "I" ∈ ut := ut_of 151 (by decide +kernel) (by decide +kernel)
theorem w_fl_X4_150 : Cond.fieldLink RX4 150 RX3 "entryCount" "I" ∈ ut := ut_of 152 (by decide +kernel) (by decide +kernel)
theorem w_fl_X2_37 : Cond.fieldLink RX2 37 RX3 "caps" "I" ∈ ut := ut_of 153 (by decide +kernel) (by decide +kernel)
theorem w_fl_X3_41 : Cond.fieldLink RX3 41 RX3 "caps" "I" ∈ ut := ut_of 154 (by decide +kernel) (by decide +kernel)
theorem w_fl_X2_40 : Cond.fieldLink RX2 40 RX3 "labels" "I" ∈ ut := ut_of 155 (by decide +kernel) (by decide +kernel)
theorem w_fl_X3_44 : Cond.fieldLink RX3 44 RX3 "labels" "I" ∈ ut := ut_of 156 (by decide +kernel) (by decide +kernel)
theorem w_fl_X3_47 : Cond.fieldLink RX3 47 RX3 "steps" "I" ∈ ut := ut_of 157 (by decide +kernel) (by decide +kernel)
theorem w_fl_X4_253 : Cond.fieldLink RX4 253 RX3 "steps" "I" ∈ ut := ut_of 158 (by decide +kernel) (by decide +kernel)
theorem w_fl_X3_50 : Cond.fieldLink RX3 50 RX3 "alarm" "Z" ∈ ut := ut_of 159 (by decide +kernel) (by decide +kernel)
theorem w_fl_X4_156 : Cond.fieldLink RX4 156 RX3 "alarm" "Z" ∈ ut := ut_of 160 (by decide +kernel) (by decide +kernel)
theorem w_fl_X3_54 : Cond.fieldLink RX3 54 RX3 "jammed" "Z" ∈ ut := ut_of 161 (by decide +kernel) (by decide +kernel)
theorem w_fl_X4_172 : Cond.fieldLink RX4 172 RX3 "jammed" "Z" ∈ ut := ut_of 162 (by decide +kernel) (by decide +kernel)
theorem w_fl_X3_57 : Cond.fieldLink RX3 57 RX3 "out" "I" ∈ ut := ut_of 163 (by decide +kernel) (by decide +kernel)
theorem w_fl_X4_199 : Cond.fieldLink RX4 199 RX3 "out" "I" ∈ ut := ut_of 164 (by decide +kernel) (by decide +kernel)
theorem w_fl_X3_60 : Cond.fieldLink RX3 60 RX3 "escaped" "I" ∈ ut := ut_of 165 (by decide +kernel) (by decide +kernel)
theorem w_fl_X4_250 : Cond.fieldLink RX4 250 RX3 "escaped" "I" ∈ ut := ut_of 166 (by decide +kernel) (by decide +kernel)
theorem w_fl_X3_63 : Cond.fieldLink RX3 63 RX3 "rejected" "I" ∈ ut := ut_of 167 (by decide +kernel) (by decide +kernel)
theorem w_fl_X4_233 : Cond.fieldLink RX4 233 RX3 "rejected" "I" ∈ ut := ut_of 168 (by decide +kernel) (by decide +kernel)
theorem w_fl_X3_66 : Cond.fieldLink RX3 66 RX3 "sampled" "I" ∈ ut := ut_of 169 (by decide +kernel) (by decide +kernel)
theorem w_fl_X4_236 : Cond.fieldLink RX4 236 RX3 "sampled" "I" ∈ ut := ut_of 170 (by decide +kernel) (by decide +kernel)
theorem w_fl_X3_69 : Cond.fieldLink RX3 69 RX3 "byHand" "I" ∈ ut := ut_of 171 (by decide +kernel) (by decide +kernel)
theorem w_fl_X3_72 : Cond.fieldLink RX3 72 RX3 "passed" "I" ∈ ut := ut_of 172 (by decide +kernel) (by decide +kernel)
theorem w_fl_X2_12 : Cond.fieldLink RX2 12 RX2 "plan" "LBottleLine$Plan;" ∈ ut := ut_of 210 (by decide +kernel) (by decide +kernel)
theorem w_fl_X4_71 : Cond.fieldLink RX4 71 RX2 "plan" "LBottleLine$Plan;" ∈ ut := ut_of 211 (by decide +kernel) (by decide +kernel)
theorem w_fl_X2_23 : Cond.fieldLink RX2 23 RX2 "start" "LBottleLine$State;" ∈ ut := ut_of 212 (by decide +kernel) (by decide +kernel)
theorem w_fl_X4_75 : Cond.fieldLink RX4 75 RX2 "start" "LBottleLine$State;" ∈ ut := ut_of 213 (by decide +kernel) (by decide +kernel)
theorem w_fl_X2_27 : Cond.fieldLink RX2 27 RX2 "headTaken" "I" ∈ ut := ut_of 214 (by decide +kernel) (by decide +kernel)
theorem w_fl_X2_31 : Cond.fieldLink RX2 31 RX2 "part" "I" ∈ ut := ut_of 215 (by decide +kernel) (by decide +kernel)
theorem w_fl_X2_90 : Cond.fieldLink RX2 90 RX2 "partDigits" "I" ∈ ut := ut_of 216 (by decide +kernel) (by decide +kernel)
theorem w_fl_X2_93 : Cond.fieldLink RX2 93 RX2 "partNumber" "I" ∈ ut := ut_of 217 (by decide +kernel) (by decide +kernel)
theorem w_ml_X4_22 : Cond.methodLink RX4 22 yX1_init ∈ ut := ut_of 232 (by decide +kernel) (by decide +kernel)
theorem w_ml_X4_29 : Cond.methodLink RX4 29 yX3_init ∈ ut := ut_of 234 (by decide +kernel) (by decide +kernel)
theorem w_fl_X4_9 : Cond.fieldLink RX4 9 RX4 "text" "[I" ∈ ut := ut_of 236 (by decide +kernel) (by decide +kernel)
theorem w_fl_X4_63 : Cond.fieldLink RX4 63 RX4 "textLength" "I" ∈ ut := ut_of 237 (by decide +kernel) (by decide +kernel)
theorem w_fl_X4_16 : Cond.fieldLink RX4 16 RX4 "reader" "LBottleLine$Reader;" ∈ ut := ut_of 238 (by decide +kernel) (by decide +kernel)
theorem w_fl_X4_23 : Cond.fieldLink RX4 23 RX4 "plan" "LBottleLine$Plan;" ∈ ut := ut_of 239 (by decide +kernel) (by decide +kernel)
theorem w_fl_X4_32 : Cond.fieldLink RX4 32 RX4 "now" "LBottleLine$State;" ∈ ut := ut_of 240 (by decide +kernel) (by decide +kernel)
theorem w_fl_X4_36 : Cond.fieldLink RX4 36 RX4 "trial" "LBottleLine$State;" ∈ ut := ut_of 241 (by decide +kernel) (by decide +kernel)
theorem w_fl_X4_39 : Cond.fieldLink RX4 39 RX4 "past" "[LBottleLine$State;" ∈ ut := ut_of 242 (by decide +kernel) (by decide +kernel)
theorem w_fl_X4_99 : Cond.fieldLink RX4 99 RX4 "pastCount" "I" ∈ ut := ut_of 243 (by decide +kernel) (by decide +kernel)
theorem w_fl_X4_193 : Cond.fieldLink RX4 193 RX4 "nextPast" "I" ∈ ut := ut_of 244 (by decide +kernel) (by decide +kernel)
theorem w_fl_X4_43 : Cond.fieldLink RX4 43 RX4 "slots" "[LBottleLine$State;" ∈ ut := ut_of 245 (by decide +kernel) (by decide +kernel)
theorem w_fl_X4_46 : Cond.fieldLink RX4 46 RX4 "isKept" "[Z" ∈ ut := ut_of 246 (by decide +kernel) (by decide +kernel)
theorem w_fl_X4_50 : Cond.fieldLink RX4 50 RX4 "seenWhat" "[I" ∈ ut := ut_of 247 (by decide +kernel) (by decide +kernel)
theorem w_fl_X4_53 : Cond.fieldLink RX4 53 RX4 "seenAfter" "[I" ∈ ut := ut_of 248 (by decide +kernel) (by decide +kernel)
theorem w_fl_X4_56 : Cond.fieldLink RX4 56 RX4 "seenValue" "[I" ∈ ut := ut_of 249 (by decide +kernel) (by decide +kernel)
theorem w_fl_X4_102 : Cond.fieldLink RX4 102 RX4 "seenCount" "I" ∈ ut := ut_of 250 (by decide +kernel) (by decide +kernel)
theorem w_fl_X4_239 : Cond.fieldLink RX4 239 RX4 "random" "J" ∈ ut := ut_of 251 (by decide +kernel) (by decide +kernel)
theorem w_ml_L_13 : Cond.methodLink RL 13 yX4_write ∈ ut := ut_of 286 (by decide +kernel) (by decide +kernel)
theorem w_im_X4_write : Cond.instanceMethod yX4_write ∈ ut := ut_of 287 (by decide +kernel) (by decide +kernel)
theorem w_se_X4_write : Cond.selects RX4 yX4_write yX4_write ∈ ut := ut_of 288 (by decide +kernel) (by decide +kernel)
theorem w_co_X4_write : Cond.code yX4_write cX4_write 2 (Option.some Jvm.ClassFile.FieldType.int) ∈ ut := ut_of 289 (by decide +kernel) (by decide +kernel)
theorem w_ml_X4_59 : Cond.methodLink RX4 59 yX4_isWithin ∈ ut := ut_of 290 (by decide +kernel) (by decide +kernel)
theorem w_st_X4_isWithin : Cond.static yX4_isWithin ∈ ut := ut_of 291 (by decide +kernel) (by decide +kernel)
theorem w_co_X4_isWithin : Cond.code yX4_isWithin cX4_isWithin 3 (Option.some Jvm.ClassFile.FieldType.boolean) ∈ ut := ut_of 292 (by decide +kernel) (by decide +kernel)
theorem w_ml_L_18 : Cond.methodLink RL 18 yX4_wipe ∈ ut := ut_of 293 (by decide +kernel) (by decide +kernel)
theorem w_im_X4_wipe : Cond.instanceMethod yX4_wipe ∈ ut := ut_of 294 (by decide +kernel) (by decide +kernel)
theorem w_se_X4_wipe : Cond.selects RX4 yX4_wipe yX4_wipe ∈ ut := ut_of 295 (by decide +kernel) (by decide +kernel)
theorem w_co_X4_wipe : Cond.code yX4_wipe cX4_wipe 2 (Option.some Jvm.ClassFile.FieldType.int) ∈ ut := ut_of 296 (by decide +kernel) (by decide +kernel)
theorem w_ml_L_23 : Cond.methodLink RL 23 yX4_fault ∈ ut := ut_of 297 (by decide +kernel) (by decide +kernel)
theorem w_im_X4_fault : Cond.instanceMethod yX4_fault ∈ ut := ut_of 298 (by decide +kernel) (by decide +kernel)
theorem w_se_X4_fault : Cond.selects RX4 yX4_fault yX4_fault ∈ ut := ut_of 299 (by decide +kernel) (by decide +kernel)
theorem w_co_X4_fault : Cond.code yX4_fault cX4_fault 1 (Option.some Jvm.ClassFile.FieldType.int) ∈ ut := ut_of 300 (by decide +kernel) (by decide +kernel)
theorem w_ml_X4_67 : Cond.methodLink RX4 67 yX4_readText ∈ ut := ut_of 301 (by decide +kernel) (by decide +kernel)
theorem w_im_X4_readText : Cond.instanceMethod yX4_readText ∈ ut := ut_of 303 (by decide +kernel) (by decide +kernel)
theorem w_co_X4_readText : Cond.code yX4_readText cX4_readText 2 (Option.some Jvm.ClassFile.FieldType.int) ∈ ut := ut_of 304 (by decide +kernel) (by decide +kernel)
theorem w_ml_X4_265 : Cond.methodLink RX4 265 yX2_begin ∈ ut := ut_of 305 (by decide +kernel) (by decide +kernel)
theorem w_im_X2_begin : Cond.instanceMethod yX2_begin ∈ ut := ut_of 306 (by decide +kernel) (by decide +kernel)
theorem w_se_X2_begin : Cond.selects RX2 yX2_begin yX2_begin ∈ ut := ut_of 307 (by decide +kernel) (by decide +kernel)
theorem w_co_X2_begin : Cond.code yX2_begin cX2_begin 1 (Option.none : Option Jvm.ClassFile.FieldType) ∈ ut := ut_of 308 (by decide +kernel) (by decide +kernel)
theorem w_ml_X4_268 : Cond.methodLink RX4 268 yX2_takes ∈ ut := ut_of 309 (by decide +kernel) (by decide +kernel)
theorem w_im_X2_takes : Cond.instanceMethod yX2_takes ∈ ut := ut_of 310 (by decide +kernel) (by decide +kernel)
theorem w_se_X2_takes : Cond.selects RX2 yX2_takes yX2_takes ∈ ut := ut_of 311 (by decide +kernel) (by decide +kernel)
theorem w_co_X2_takes : Cond.code yX2_takes cX2_takes 3 (Option.some Jvm.ClassFile.FieldType.boolean) ∈ ut := ut_of 312 (by decide +kernel) (by decide +kernel)
theorem w_ml_X2_46 : Cond.methodLink RX2 46 yX2_takesInHead ∈ ut := ut_of 313 (by decide +kernel) (by decide +kernel)
theorem w_im_X2_takesInHead : Cond.instanceMethod yX2_takesInHead ∈ ut := ut_of 315 (by decide +kernel) (by decide +kernel)
theorem w_co_X2_takesInHead : Cond.code yX2_takesInHead cX2_takesInHead 3 (Option.some Jvm.ClassFile.FieldType.boolean) ∈ ut := ut_of 316 (by decide +kernel) (by decide +kernel)
theorem w_ml_X2_60 : Cond.methodLink RX2 60 yX2_isDigit ∈ ut := ut_of 317 (by decide +kernel) (by decide +kernel)
theorem w_st_X2_isDigit : Cond.static yX2_isDigit ∈ ut := ut_of 318 (by decide +kernel) (by decide +kernel)
theorem w_co_X2_isDigit : Cond.code yX2_isDigit cX2_isDigit 1 (Option.some Jvm.ClassFile.FieldType.boolean) ∈ ut := ut_of 319 (by decide +kernel) (by decide +kernel)
theorem w_ml_X2_75 : Cond.methodLink RX2 75 yX2_takesStation ∈ ut := ut_of 321 (by decide +kernel) (by decide +kernel)
theorem w_im_X2_takesStation : Cond.instanceMethod yX2_takesStation ∈ ut := ut_of 323 (by decide +kernel) (by decide +kernel)
theorem w_co_X2_takesStation : Cond.code yX2_takesStation cX2_takesStation 5 (Option.some Jvm.ClassFile.FieldType.boolean) ∈ ut := ut_of 324 (by decide +kernel) (by decide +kernel)
theorem w_ml_X2_50 : Cond.methodLink RX2 50 yX2_takesPart ∈ ut := ut_of 325 (by decide +kernel) (by decide +kernel)
theorem w_im_X2_takesPart : Cond.instanceMethod yX2_takesPart ∈ ut := ut_of 327 (by decide +kernel) (by decide +kernel)
theorem w_co_X2_takesPart : Cond.code yX2_takesPart cX2_takesPart 2 (Option.some Jvm.ClassFile.FieldType.boolean) ∈ ut := ut_of 328 (by decide +kernel) (by decide +kernel)
theorem w_ml_X2_83 : Cond.methodLink RX2 83 yX2_opensPart ∈ ut := ut_of 329 (by decide +kernel) (by decide +kernel)
theorem w_im_X2_opensPart : Cond.instanceMethod yX2_opensPart ∈ ut := ut_of 331 (by decide +kernel) (by decide +kernel)
theorem w_co_X2_opensPart : Cond.code yX2_opensPart cX2_opensPart 3 (Option.some Jvm.ClassFile.FieldType.boolean) ∈ ut := ut_of 332 (by decide +kernel) (by decide +kernel)
theorem w_ml_X2_87 : Cond.methodLink RX2 87 yX2_takesEntry ∈ ut := ut_of 333 (by decide +kernel) (by decide +kernel)
theorem w_im_X2_takesEntry : Cond.instanceMethod yX2_takesEntry ∈ ut := ut_of 335 (by decide +kernel) (by decide +kernel)
theorem w_co_X2_takesEntry : Cond.code yX2_takesEntry cX2_takesEntry 3 (Option.some Jvm.ClassFile.FieldType.boolean) ∈ ut := ut_of 336 (by decide +kernel) (by decide +kernel)
theorem w_ml_X2_96 : Cond.methodLink RX2 96 yX3_addEntry ∈ ut := ut_of 337 (by decide +kernel) (by decide +kernel)
theorem w_im_X3_addEntry : Cond.instanceMethod yX3_addEntry ∈ ut := ut_of 338 (by decide +kernel) (by decide +kernel)
theorem w_se_X3_addEntry : Cond.selects RX3 yX3_addEntry yX3_addEntry ∈ ut := ut_of 339 (by decide +kernel) (by decide +kernel)
theorem w_co_X3_addEntry : Cond.code yX3_addEntry cX3_addEntry 2 (Option.none : Option Jvm.ClassFile.FieldType) ∈ ut := ut_of 340 (by decide +kernel) (by decide +kernel)
theorem w_ml_X2_53 : Cond.methodLink RX2 53 yX2_takesDigit ∈ ut := ut_of 341 (by decide +kernel) (by decide +kernel)
theorem w_im_X2_takesDigit : Cond.instanceMethod yX2_takesDigit ∈ ut := ut_of 343 (by decide +kernel) (by decide +kernel)
theorem w_co_X2_takesDigit : Cond.code yX2_takesDigit cX2_takesDigit 2 (Option.some Jvm.ClassFile.FieldType.boolean) ∈ ut := ut_of 344 (by decide +kernel) (by decide +kernel)
theorem w_ml_X2_100 : Cond.methodLink RX2 100 yX2_takesValve ∈ ut := ut_of 345 (by decide +kernel) (by decide +kernel)
theorem w_im_X2_takesValve : Cond.instanceMethod yX2_takesValve ∈ ut := ut_of 347 (by decide +kernel) (by decide +kernel)
theorem w_co_X2_takesValve : Cond.code yX2_takesValve cX2_takesValve 1 (Option.some Jvm.ClassFile.FieldType.boolean) ∈ ut := ut_of 348 (by decide +kernel) (by decide +kernel)
theorem w_ml_X2_104 : Cond.methodLink RX2 104 yX2_takesStock ∈ ut := ut_of 349 (by decide +kernel) (by decide +kernel)
theorem w_im_X2_takesStock : Cond.instanceMethod yX2_takesStock ∈ ut := ut_of 351 (by decide +kernel) (by decide +kernel)
theorem w_co_X2_takesStock : Cond.code yX2_takesStock cX2_takesStock 3 (Option.some Jvm.ClassFile.FieldType.boolean) ∈ ut := ut_of 352 (by decide +kernel) (by decide +kernel)
theorem w_ml_X2_114 : Cond.methodLink RX2 114 yX3_stock ∈ ut := ut_of 353 (by decide +kernel) (by decide +kernel)
theorem w_im_X3_stock : Cond.instanceMethod yX3_stock ∈ ut := ut_of 354 (by decide +kernel) (by decide +kernel)
theorem w_se_X3_stock : Cond.selects RX3 yX3_stock yX3_stock ∈ ut := ut_of 355 (by decide +kernel) (by decide +kernel)
theorem w_co_X3_stock : Cond.code yX3_stock cX3_stock 2 (Option.some Jvm.ClassFile.FieldType.int) ∈ ut := ut_of 356 (by decide +kernel) (by decide +kernel)
theorem w_ml_X2_118 : Cond.methodLink RX2 118 yX3_addStock ∈ ut := ut_of 357 (by decide +kernel) (by decide +kernel)
theorem w_im_X3_addStock : Cond.instanceMethod yX3_addStock ∈ ut := ut_of 358 (by decide +kernel) (by decide +kernel)
theorem w_se_X3_addStock : Cond.selects RX3 yX3_addStock yX3_addStock ∈ ut := ut_of 359 (by decide +kernel) (by decide +kernel)
theorem w_co_X3_addStock : Cond.code yX3_addStock cX3_addStock 3 (Option.none : Option Jvm.ClassFile.FieldType) ∈ ut := ut_of 360 (by decide +kernel) (by decide +kernel)
theorem w_ml_X3_88 : Cond.methodLink RX3 88 yJ9_min_7cf53 ∈ ut := ut_of 361 (by decide +kernel) (by decide +kernel)
theorem w_st_J9_min_7cf53 : Cond.static yJ9_min_7cf53 ∈ ut := ut_of 362 (by decide +kernel) (by decide +kernel)
theorem w_co_J9_min_7cf53 : Cond.code yJ9_min_7cf53 cJ9_min_7cf53 2 (Option.some Jvm.ClassFile.FieldType.int) ∈ ut := ut_of 363 (by decide +kernel) (by decide +kernel)
theorem w_ml_X4_271 : Cond.methodLink RX4 271 yX2_isComplete ∈ ut := ut_of 364 (by decide +kernel) (by decide +kernel)
theorem w_im_X2_isComplete : Cond.instanceMethod yX2_isComplete ∈ ut := ut_of 365 (by decide +kernel) (by decide +kernel)
theorem w_se_X2_isComplete : Cond.selects RX2 yX2_isComplete yX2_isComplete ∈ ut := ut_of 366 (by decide +kernel) (by decide +kernel)
theorem w_co_X2_isComplete : Cond.code yX2_isComplete cX2_isComplete 1 (Option.some Jvm.ClassFile.FieldType.boolean) ∈ ut := ut_of 367 (by decide +kernel) (by decide +kernel)
theorem w_ml_L_27 : Cond.methodLink RL 27 yX4_line ∈ ut := ut_of 368 (by decide +kernel) (by decide +kernel)
theorem w_im_X4_line : Cond.instanceMethod yX4_line ∈ ut := ut_of 369 (by decide +kernel) (by decide +kernel)
theorem w_se_X4_line : Cond.selects RX4 yX4_line yX4_line ∈ ut := ut_of 370 (by decide +kernel) (by decide +kernel)
theorem w_co_X4_line : Cond.code yX4_line cX4_line 2 (Option.some Jvm.ClassFile.FieldType.int) ∈ ut := ut_of 371 (by decide +kernel) (by decide +kernel)
theorem w_ml_X4_72 : Cond.methodLink RX4 72 yX1_copyFrom ∈ ut := ut_of 372 (by decide +kernel) (by decide +kernel)
theorem w_im_X1_copyFrom : Cond.instanceMethod yX1_copyFrom ∈ ut := ut_of 373 (by decide +kernel) (by decide +kernel)
theorem w_se_X1_copyFrom : Cond.selects RX1 yX1_copyFrom yX1_copyFrom ∈ ut := ut_of 374 (by decide +kernel) (by decide +kernel)
theorem w_co_X1_copyFrom : Cond.code yX1_copyFrom cX1_copyFrom 2 (Option.none : Option Jvm.ClassFile.FieldType) ∈ ut := ut_of 375 (by decide +kernel) (by decide +kernel)
theorem w_ml_X1_22 : Cond.methodLink RX1 22 arraycopyName ∈ ut := ut_of 376 (by decide +kernel) (by decide +kernel)
theorem w_ml_X4_78 : Cond.methodLink RX4 78 yX3_copyFrom ∈ ut := ut_of 379 (by decide +kernel) (by decide +kernel)
theorem w_im_X3_copyFrom : Cond.instanceMethod yX3_copyFrom ∈ ut := ut_of 380 (by decide +kernel) (by decide +kernel)
theorem w_se_X3_copyFrom : Cond.selects RX3 yX3_copyFrom yX3_copyFrom ∈ ut := ut_of 381 (by decide +kernel) (by decide +kernel)
theorem w_co_X3_copyFrom : Cond.code yX3_copyFrom cX3_copyFrom 2 (Option.none : Option Jvm.ClassFile.FieldType) ∈ ut := ut_of 382 (by decide +kernel) (by decide +kernel)
theorem w_ml_X3_28 : Cond.methodLink RX3 28 arraycopyName ∈ ut := ut_of 383 (by decide +kernel) (by decide +kernel)
theorem w_ml_X4_81 : Cond.methodLink RX4 81 yX4_forgetActs ∈ ut := ut_of 384 (by decide +kernel) (by decide +kernel)
theorem w_im_X4_forgetActs : Cond.instanceMethod yX4_forgetActs ∈ ut := ut_of 386 (by decide +kernel) (by decide +kernel)
theorem w_co_X4_forgetActs : Cond.code yX4_forgetActs cX4_forgetActs 1 (Option.none : Option Jvm.ClassFile.FieldType) ∈ ut := ut_of 387 (by decide +kernel) (by decide +kernel)
theorem w_ml_L_31 : Cond.methodLink RL 31 yX4_about ∈ ut := ut_of 388 (by decide +kernel) (by decide +kernel)
theorem w_im_X4_about : Cond.instanceMethod yX4_about ∈ ut := ut_of 389 (by decide +kernel) (by decide +kernel)
theorem w_se_X4_about : Cond.selects RX4 yX4_about yX4_about ∈ ut := ut_of 390 (by decide +kernel) (by decide +kernel)
theorem w_co_X4_about : Cond.code yX4_about cX4_about 2 (Option.some Jvm.ClassFile.FieldType.int) ∈ ut := ut_of 391 (by decide +kernel) (by decide +kernel)
theorem w_ml_X4_105 : Cond.methodLink RX4 105 yX3_number ∈ ut := ut_of 392 (by decide +kernel) (by decide +kernel)
theorem w_im_X3_number : Cond.instanceMethod yX3_number ∈ ut := ut_of 393 (by decide +kernel) (by decide +kernel)
theorem w_se_X3_number : Cond.selects RX3 yX3_number yX3_number ∈ ut := ut_of 394 (by decide +kernel) (by decide +kernel)
theorem w_co_X3_number : Cond.code yX3_number cX3_number 2 (Option.some Jvm.ClassFile.FieldType.int) ∈ ut := ut_of 395 (by decide +kernel) (by decide +kernel)
theorem w_st_X4_asNumber : Cond.static yX4_asNumber ∈ ut := ut_of 397 (by decide +kernel) (by decide +kernel)
theorem w_co_X4_asNumber : Cond.code yX4_asNumber cX4_asNumber 1 (Option.some Jvm.ClassFile.FieldType.int) ∈ ut := ut_of 398 (by decide +kernel) (by decide +kernel)
theorem w_ml_X3_79 : Cond.methodLink RX3 79 yX3_bottleSet ∈ ut := ut_of 399 (by decide +kernel) (by decide +kernel)
theorem w_im_X3_bottleSet : Cond.instanceMethod yX3_bottleSet ∈ ut := ut_of 401 (by decide +kernel) (by decide +kernel)
theorem w_co_X3_bottleSet : Cond.code yX3_bottleSet cX3_bottleSet 3 (Option.some Jvm.ClassFile.FieldType.int) ∈ ut := ut_of 402 (by decide +kernel) (by decide +kernel)
theorem w_ml_L_35 : Cond.methodLink RL 35 yX4_place ∈ ut := ut_of 403 (by decide +kernel) (by decide +kernel)
theorem w_im_X4_place : Cond.instanceMethod yX4_place ∈ ut := ut_of 404 (by decide +kernel) (by decide +kernel)
theorem w_se_X4_place : Cond.selects RX4 yX4_place yX4_place ∈ ut := ut_of 405 (by decide +kernel) (by decide +kernel)
theorem w_co_X4_place : Cond.code yX4_place cX4_place 2 (Option.some Jvm.ClassFile.FieldType.int) ∈ ut := ut_of 406 (by decide +kernel) (by decide +kernel)
theorem w_ml_L_39 : Cond.methodLink RL 39 yX4_cell ∈ ut := ut_of 407 (by decide +kernel) (by decide +kernel)
theorem w_im_X4_cell : Cond.instanceMethod yX4_cell ∈ ut := ut_of 408 (by decide +kernel) (by decide +kernel)
theorem w_se_X4_cell : Cond.selects RX4 yX4_cell yX4_cell ∈ ut := ut_of 409 (by decide +kernel) (by decide +kernel)
theorem w_co_X4_cell : Cond.code yX4_cell cX4_cell 4 (Option.some Jvm.ClassFile.FieldType.int) ∈ ut := ut_of 410 (by decide +kernel) (by decide +kernel)
theorem w_ml_X4_112 : Cond.methodLink RX4 112 yX1_hasCell ∈ ut := ut_of 411 (by decide +kernel) (by decide +kernel)
theorem w_im_X1_hasCell : Cond.instanceMethod yX1_hasCell ∈ ut := ut_of 412 (by decide +kernel) (by decide +kernel)
theorem w_se_X1_hasCell : Cond.selects RX1 yX1_hasCell yX1_hasCell ∈ ut := ut_of 413 (by decide +kernel) (by decide +kernel)
theorem w_co_X1_hasCell : Cond.code yX1_hasCell cX1_hasCell 2 (Option.some Jvm.ClassFile.FieldType.boolean) ∈ ut := ut_of 414 (by decide +kernel) (by decide +kernel)
theorem w_ml_X4_122 : Cond.methodLink RX4 122 yX4_asNumber ∈ ut := ut_of 416 (by decide +kernel) (by decide +kernel)
theorem w_ml_X4_126 : Cond.methodLink RX4 126 yX0_fillOf ∈ ut := ut_of 417 (by decide +kernel) (by decide +kernel)
theorem w_st_X0_fillOf : Cond.static yX0_fillOf ∈ ut := ut_of 418 (by decide +kernel) (by decide +kernel)
theorem w_co_X0_fillOf : Cond.code yX0_fillOf cX0_fillOf 1 (Option.some Jvm.ClassFile.FieldType.int) ∈ ut := ut_of 419 (by decide +kernel) (by decide +kernel)
theorem w_ml_X4_131 : Cond.methodLink RX4 131 yX0_valveOf ∈ ut := ut_of 420 (by decide +kernel) (by decide +kernel)
theorem w_st_X0_valveOf : Cond.static yX0_valveOf ∈ ut := ut_of 421 (by decide +kernel) (by decide +kernel)
theorem w_co_X0_valveOf : Cond.code yX0_valveOf cX0_valveOf 2 (Option.some Jvm.ClassFile.FieldType.int) ∈ ut := ut_of 422 (by decide +kernel) (by decide +kernel)
theorem w_ml_X4_134 : Cond.methodLink RX4 134 yX0_has ∈ ut := ut_of 423 (by decide +kernel) (by decide +kernel)
theorem w_st_X0_has : Cond.static yX0_has ∈ ut := ut_of 424 (by decide +kernel) (by decide +kernel)
theorem w_co_X0_has : Cond.code yX0_has cX0_has 2 (Option.some Jvm.ClassFile.FieldType.boolean) ∈ ut := ut_of 425 (by decide +kernel) (by decide +kernel)
theorem w_ml_X4_138 : Cond.methodLink RX4 138 yX1_isGood ∈ ut := ut_of 426 (by decide +kernel) (by decide +kernel)
theorem w_im_X1_isGood : Cond.instanceMethod yX1_isGood ∈ ut := ut_of 427 (by decide +kernel) (by decide +kernel)
theorem w_se_X1_isGood : Cond.selects RX1 yX1_isGood yX1_isGood ∈ ut := ut_of 428 (by decide +kernel) (by decide +kernel)
theorem w_co_X1_isGood : Cond.code yX1_isGood cX1_isGood 2 (Option.some Jvm.ClassFile.FieldType.boolean) ∈ ut := ut_of 429 (by decide +kernel) (by decide +kernel)
theorem w_ml_X1_46 : Cond.methodLink RX1 46 yX0_has ∈ ut := ut_of 430 (by decide +kernel) (by decide +kernel)
theorem w_ml_X1_50 : Cond.methodLink RX1 50 yX0_fillOf ∈ ut := ut_of 431 (by decide +kernel) (by decide +kernel)
theorem w_ml_X1_54 : Cond.methodLink RX1 54 yJ9_abs_0f7a4 ∈ ut := ut_of 432 (by decide +kernel) (by decide +kernel)
theorem w_st_J9_abs_0f7a4 : Cond.static yJ9_abs_0f7a4 ∈ ut := ut_of 433 (by decide +kernel) (by decide +kernel)
theorem w_co_J9_abs_0f7a4 : Cond.code yJ9_abs_0f7a4 cJ9_abs_0f7a4 1 (Option.some Jvm.ClassFile.FieldType.int) ∈ ut := ut_of 434 (by decide +kernel) (by decide +kernel)
theorem w_ml_L_44 : Cond.methodLink RL 44 yX4_valve ∈ ut := ut_of 435 (by decide +kernel) (by decide +kernel)
theorem w_im_X4_valve : Cond.instanceMethod yX4_valve ∈ ut := ut_of 436 (by decide +kernel) (by decide +kernel)
theorem w_se_X4_valve : Cond.selects RX4 yX4_valve yX4_valve ∈ ut := ut_of 437 (by decide +kernel) (by decide +kernel)
theorem w_co_X4_valve : Cond.code yX4_valve cX4_valve 3 (Option.some Jvm.ClassFile.FieldType.int) ∈ ut := ut_of 438 (by decide +kernel) (by decide +kernel)
theorem w_ml_X4_141 : Cond.methodLink RX4 141 yX1_hasValve ∈ ut := ut_of 439 (by decide +kernel) (by decide +kernel)
theorem w_im_X1_hasValve : Cond.instanceMethod yX1_hasValve ∈ ut := ut_of 440 (by decide +kernel) (by decide +kernel)
theorem w_se_X1_hasValve : Cond.selects RX1 yX1_hasValve yX1_hasValve ∈ ut := ut_of 441 (by decide +kernel) (by decide +kernel)
theorem w_co_X1_hasValve : Cond.code yX1_hasValve cX1_hasValve 2 (Option.some Jvm.ClassFile.FieldType.boolean) ∈ ut := ut_of 442 (by decide +kernel) (by decide +kernel)
theorem w_ml_L_48 : Cond.methodLink RL 48 yX4_queue ∈ ut := ut_of 443 (by decide +kernel) (by decide +kernel)
theorem w_im_X4_queue : Cond.instanceMethod yX4_queue ∈ ut := ut_of 444 (by decide +kernel) (by decide +kernel)
theorem w_se_X4_queue : Cond.selects RX4 yX4_queue yX4_queue ∈ ut := ut_of 445 (by decide +kernel) (by decide +kernel)
theorem w_co_X4_queue : Cond.code yX4_queue cX4_queue 2 (Option.some Jvm.ClassFile.FieldType.int) ∈ ut := ut_of 446 (by decide +kernel) (by decide +kernel)
theorem w_ml_L_52 : Cond.methodLink RL 52 yX4_step ∈ ut := ut_of 447 (by decide +kernel) (by decide +kernel)
theorem w_im_X4_step : Cond.instanceMethod yX4_step ∈ ut := ut_of 448 (by decide +kernel) (by decide +kernel)
theorem w_se_X4_step : Cond.selects RX4 yX4_step yX4_step ∈ ut := ut_of 449 (by decide +kernel) (by decide +kernel)
theorem w_co_X4_step : Cond.code yX4_step cX4_step 2 (Option.some Jvm.ClassFile.FieldType.int) ∈ ut := ut_of 450 (by decide +kernel) (by decide +kernel)
theorem w_ml_X4_160 : Cond.methodLink RX4 160 yX4_rememberAct ∈ ut := ut_of 451 (by decide +kernel) (by decide +kernel)
theorem w_im_X4_rememberAct : Cond.instanceMethod yX4_rememberAct ∈ ut := ut_of 453 (by decide +kernel) (by decide +kernel)
theorem w_co_X4_rememberAct : Cond.code yX4_rememberAct cX4_rememberAct 1 (Option.none : Option Jvm.ClassFile.FieldType) ∈ ut := ut_of 454 (by decide +kernel) (by decide +kernel)
theorem w_ml_X4_256 : Cond.methodLink RX4 256 yJ9_min_7cf53 ∈ ut := ut_of 455 (by decide +kernel) (by decide +kernel)
theorem w_ml_X4_163 : Cond.methodLink RX4 163 yX3_advance ∈ ut := ut_of 456 (by decide +kernel) (by decide +kernel)
theorem w_im_X3_advance : Cond.instanceMethod yX3_advance ∈ ut := ut_of 457 (by decide +kernel) (by decide +kernel)
theorem w_se_X3_advance : Cond.selects RX3 yX3_advance yX3_advance ∈ ut := ut_of 458 (by decide +kernel) (by decide +kernel)
theorem w_co_X3_advance : Cond.code yX3_advance cX3_advance 3 (Option.some Jvm.ClassFile.FieldType.int) ∈ ut := ut_of 459 (by decide +kernel) (by decide +kernel)
theorem w_ml_X3_105 : Cond.methodLink RX3 105 yX3_leave ∈ ut := ut_of 460 (by decide +kernel) (by decide +kernel)
theorem w_im_X3_leave : Cond.instanceMethod yX3_leave ∈ ut := ut_of 462 (by decide +kernel) (by decide +kernel)
theorem w_co_X3_leave : Cond.code yX3_leave cX3_leave 2 (Option.none : Option Jvm.ClassFile.FieldType) ∈ ut := ut_of 463 (by decide +kernel) (by decide +kernel)
theorem w_ml_X3_129 : Cond.methodLink RX3 129 yX1_isGood ∈ ut := ut_of 464 (by decide +kernel) (by decide +kernel)
theorem w_ml_X3_108 : Cond.methodLink RX3 108 yX3_moveOn ∈ ut := ut_of 465 (by decide +kernel) (by decide +kernel)
theorem w_im_X3_moveOn : Cond.instanceMethod yX3_moveOn ∈ ut := ut_of 467 (by decide +kernel) (by decide +kernel)
theorem w_co_X3_moveOn : Cond.code yX3_moveOn cX3_moveOn 1 (Option.none : Option Jvm.ClassFile.FieldType) ∈ ut := ut_of 468 (by decide +kernel) (by decide +kernel)
theorem w_ml_X3_133 : Cond.methodLink RX3 133 yX3_moveMarks ∈ ut := ut_of 469 (by decide +kernel) (by decide +kernel)
theorem w_im_X3_moveMarks : Cond.instanceMethod yX3_moveMarks ∈ ut := ut_of 470 (by decide +kernel) (by decide +kernel)
theorem w_se_X3_moveMarks : Cond.selects RX3 yX3_moveMarks yX3_moveMarks ∈ ut := ut_of 471 (by decide +kernel) (by decide +kernel)
theorem w_co_X3_moveMarks : Cond.code yX3_moveMarks cX3_moveMarks 1 (Option.none : Option Jvm.ClassFile.FieldType) ∈ ut := ut_of 472 (by decide +kernel) (by decide +kernel)
theorem w_ml_X3_136 : Cond.methodLink RX3 136 yX0_ofEntry ∈ ut := ut_of 473 (by decide +kernel) (by decide +kernel)
theorem w_st_X0_ofEntry : Cond.static yX0_ofEntry ∈ ut := ut_of 474 (by decide +kernel) (by decide +kernel)
theorem w_co_X0_ofEntry : Cond.code yX0_ofEntry cX0_ofEntry 1 (Option.some Jvm.ClassFile.FieldType.int) ∈ ut := ut_of 475 (by decide +kernel) (by decide +kernel)
theorem w_ml_X3_111 : Cond.methodLink RX3 111 yX3_leak ∈ ut := ut_of 476 (by decide +kernel) (by decide +kernel)
theorem w_im_X3_leak : Cond.instanceMethod yX3_leak ∈ ut := ut_of 478 (by decide +kernel) (by decide +kernel)
theorem w_co_X3_leak : Cond.code yX3_leak cX3_leak 3 (Option.none : Option Jvm.ClassFile.FieldType) ∈ ut := ut_of 479 (by decide +kernel) (by decide +kernel)
theorem w_ml_X3_140 : Cond.methodLink RX3 140 yX0_has ∈ ut := ut_of 480 (by decide +kernel) (by decide +kernel)
theorem w_ml_X3_144 : Cond.methodLink RX3 144 yX0_fillOf ∈ ut := ut_of 481 (by decide +kernel) (by decide +kernel)
theorem w_ml_X3_147 : Cond.methodLink RX3 147 yX0_leaked ∈ ut := ut_of 482 (by decide +kernel) (by decide +kernel)
theorem w_st_X0_leaked : Cond.static yX0_leaked ∈ ut := ut_of 483 (by decide +kernel) (by decide +kernel)
theorem w_co_X0_leaked : Cond.code yX0_leaked cX0_leaked 1 (Option.some Jvm.ClassFile.FieldType.int) ∈ ut := ut_of 484 (by decide +kernel) (by decide +kernel)
theorem w_ml_X3_114 : Cond.methodLink RX3 114 yX3_fill ∈ ut := ut_of 485 (by decide +kernel) (by decide +kernel)
theorem w_im_X3_fill : Cond.instanceMethod yX3_fill ∈ ut := ut_of 487 (by decide +kernel) (by decide +kernel)
theorem w_co_X3_fill : Cond.code yX3_fill cX3_fill 3 (Option.none : Option Jvm.ClassFile.FieldType) ∈ ut := ut_of 488 (by decide +kernel) (by decide +kernel)
theorem w_ml_X3_150 : Cond.methodLink RX3 150 yX3_nextValve ∈ ut := ut_of 489 (by decide +kernel) (by decide +kernel)
theorem w_im_X3_nextValve : Cond.instanceMethod yX3_nextValve ∈ ut := ut_of 490 (by decide +kernel) (by decide +kernel)
theorem w_se_X3_nextValve : Cond.selects RX3 yX3_nextValve yX3_nextValve ∈ ut := ut_of 491 (by decide +kernel) (by decide +kernel)
theorem w_co_X3_nextValve : Cond.code yX3_nextValve cX3_nextValve 1 (Option.some Jvm.ClassFile.FieldType.int) ∈ ut := ut_of 492 (by decide +kernel) (by decide +kernel)
theorem w_ml_X3_97 : Cond.methodLink RX3 97 yJ9_floorMod_7cf53 ∈ ut := ut_of 493 (by decide +kernel) (by decide +kernel)
theorem w_st_J9_floorMod_7cf53 : Cond.static yJ9_floorMod_7cf53 ∈ ut := ut_of 494 (by decide +kernel) (by decide +kernel)
theorem w_co_J9_floorMod_7cf53 : Cond.code yJ9_floorMod_7cf53 cJ9_floorMod_7cf53 3 (Option.some Jvm.ClassFile.FieldType.int) ∈ ut := ut_of 495 (by decide +kernel) (by decide +kernel)
theorem w_ml_X3_153 : Cond.methodLink RX3 153 yX1_hasValve ∈ ut := ut_of 496 (by decide +kernel) (by decide +kernel)
theorem w_ml_X3_156 : Cond.methodLink RX3 156 yX3_isOff ∈ ut := ut_of 497 (by decide +kernel) (by decide +kernel)
theorem w_im_X3_isOff : Cond.instanceMethod yX3_isOff ∈ ut := ut_of 499 (by decide +kernel) (by decide +kernel)
theorem w_co_X3_isOff : Cond.code yX3_isOff cX3_isOff 2 (Option.some Jvm.ClassFile.FieldType.boolean) ∈ ut := ut_of 500 (by decide +kernel) (by decide +kernel)
theorem w_st_X4_limited : Cond.static yX4_limited ∈ ut := ut_of 502 (by decide +kernel) (by decide +kernel)
theorem w_co_X4_limited : Cond.code yX4_limited cX4_limited 1 (Option.some Jvm.ClassFile.FieldType.int) ∈ ut := ut_of 503 (by decide +kernel) (by decide +kernel)
theorem w_ml_X4_206 : Cond.methodLink RX4 206 yJ9_max_7cf53 ∈ ut := ut_of 504 (by decide +kernel) (by decide +kernel)
theorem w_st_J9_max_7cf53 : Cond.static yJ9_max_7cf53 ∈ ut := ut_of 505 (by decide +kernel) (by decide +kernel)
theorem w_co_J9_max_7cf53 : Cond.code yJ9_max_7cf53 cJ9_max_7cf53 2 (Option.some Jvm.ClassFile.FieldType.int) ∈ ut := ut_of 506 (by decide +kernel) (by decide +kernel)
theorem w_ml_X3_165 : Cond.methodLink RX3 165 yX0_filled ∈ ut := ut_of 507 (by decide +kernel) (by decide +kernel)
theorem w_st_X0_filled : Cond.static yX0_filled ∈ ut := ut_of 508 (by decide +kernel) (by decide +kernel)
theorem w_co_X0_filled : Cond.code yX0_filled cX0_filled 4 (Option.some Jvm.ClassFile.FieldType.int) ∈ ut := ut_of 509 (by decide +kernel) (by decide +kernel)
theorem w_ml_X3_117 : Cond.methodLink RX3 117 yX3_weigh ∈ ut := ut_of 510 (by decide +kernel) (by decide +kernel)
theorem w_im_X3_weigh : Cond.instanceMethod yX3_weigh ∈ ut := ut_of 512 (by decide +kernel) (by decide +kernel)
theorem w_co_X3_weigh : Cond.code yX3_weigh cX3_weigh 4 (Option.none : Option Jvm.ClassFile.FieldType) ∈ ut := ut_of 513 (by decide +kernel) (by decide +kernel)
theorem w_ml_X3_169 : Cond.methodLink RX3 169 yX0_valveOf ∈ ut := ut_of 514 (by decide +kernel) (by decide +kernel)
theorem w_ml_X3_120 : Cond.methodLink RX3 120 yX3_equip ∈ ut := ut_of 515 (by decide +kernel) (by decide +kernel)
theorem w_im_X3_equip : Cond.instanceMethod yX3_equip ∈ ut := ut_of 517 (by decide +kernel) (by decide +kernel)
theorem w_co_X3_equip : Cond.code yX3_equip cX3_equip 3 (Option.none : Option Jvm.ClassFile.FieldType) ∈ ut := ut_of 518 (by decide +kernel) (by decide +kernel)
theorem w_ml_X3_123 : Cond.methodLink RX3 123 yX3_check ∈ ut := ut_of 519 (by decide +kernel) (by decide +kernel)
theorem w_im_X3_check : Cond.instanceMethod yX3_check ∈ ut := ut_of 521 (by decide +kernel) (by decide +kernel)
theorem w_co_X3_check : Cond.code yX3_check cX3_check 2 (Option.none : Option Jvm.ClassFile.FieldType) ∈ ut := ut_of 522 (by decide +kernel) (by decide +kernel)
theorem w_ml_X3_126 : Cond.methodLink RX3 126 yX3_push ∈ ut := ut_of 523 (by decide +kernel) (by decide +kernel)
theorem w_im_X3_push : Cond.instanceMethod yX3_push ∈ ut := ut_of 525 (by decide +kernel) (by decide +kernel)
theorem w_co_X3_push : Cond.code yX3_push cX3_push 2 (Option.none : Option Jvm.ClassFile.FieldType) ∈ ut := ut_of 526 (by decide +kernel) (by decide +kernel)
theorem w_ml_L_56 : Cond.methodLink RL 56 yX4_slip ∈ ut := ut_of 527 (by decide +kernel) (by decide +kernel)
theorem w_im_X4_slip : Cond.instanceMethod yX4_slip ∈ ut := ut_of 528 (by decide +kernel) (by decide +kernel)
theorem w_se_X4_slip : Cond.selects RX4 yX4_slip yX4_slip ∈ ut := ut_of 529 (by decide +kernel) (by decide +kernel)
theorem w_co_X4_slip : Cond.code yX4_slip cX4_slip 1 (Option.some Jvm.ClassFile.FieldType.int) ∈ ut := ut_of 530 (by decide +kernel) (by decide +kernel)
theorem w_ml_X4_166 : Cond.methodLink RX4 166 yX3_moveMarks ∈ ut := ut_of 531 (by decide +kernel) (by decide +kernel)
theorem w_ml_X4_169 : Cond.methodLink RX4 169 yX3_countMarks ∈ ut := ut_of 532 (by decide +kernel) (by decide +kernel)
theorem w_im_X3_countMarks : Cond.instanceMethod yX3_countMarks ∈ ut := ut_of 533 (by decide +kernel) (by decide +kernel)
theorem w_se_X3_countMarks : Cond.selects RX3 yX3_countMarks yX3_countMarks ∈ ut := ut_of 534 (by decide +kernel) (by decide +kernel)
theorem w_co_X3_countMarks : Cond.code yX3_countMarks cX3_countMarks 3 (Option.some Jvm.ClassFile.FieldType.int) ∈ ut := ut_of 535 (by decide +kernel) (by decide +kernel)
theorem w_ml_L_60 : Cond.methodLink RL 60 yX4_jam ∈ ut := ut_of 536 (by decide +kernel) (by decide +kernel)
theorem w_im_X4_jam : Cond.instanceMethod yX4_jam ∈ ut := ut_of 537 (by decide +kernel) (by decide +kernel)
theorem w_se_X4_jam : Cond.selects RX4 yX4_jam yX4_jam ∈ ut := ut_of 538 (by decide +kernel) (by decide +kernel)
theorem w_co_X4_jam : Cond.code yX4_jam cX4_jam 1 (Option.some Jvm.ClassFile.FieldType.int) ∈ ut := ut_of 539 (by decide +kernel) (by decide +kernel)
theorem w_ml_L_64 : Cond.methodLink RL 64 yX4_clear ∈ ut := ut_of 540 (by decide +kernel) (by decide +kernel)
theorem w_im_X4_clear : Cond.instanceMethod yX4_clear ∈ ut := ut_of 541 (by decide +kernel) (by decide +kernel)
theorem w_se_X4_clear : Cond.selects RX4 yX4_clear yX4_clear ∈ ut := ut_of 542 (by decide +kernel) (by decide +kernel)
theorem w_co_X4_clear : Cond.code yX4_clear cX4_clear 1 (Option.some Jvm.ClassFile.FieldType.int) ∈ ut := ut_of 543 (by decide +kernel) (by decide +kernel)
theorem w_ml_X4_175 : Cond.methodLink RX4 175 yX3_endAlarm ∈ ut := ut_of 544 (by decide +kernel) (by decide +kernel)
theorem w_im_X3_endAlarm : Cond.instanceMethod yX3_endAlarm ∈ ut := ut_of 545 (by decide +kernel) (by decide +kernel)
theorem w_se_X3_endAlarm : Cond.selects RX3 yX3_endAlarm yX3_endAlarm ∈ ut := ut_of 546 (by decide +kernel) (by decide +kernel)
theorem w_co_X3_endAlarm : Cond.code yX3_endAlarm cX3_endAlarm 3 (Option.some Jvm.ClassFile.FieldType.boolean) ∈ ut := ut_of 547 (by decide +kernel) (by decide +kernel)
theorem w_ml_L_68 : Cond.methodLink RL 68 yX4_restart ∈ ut := ut_of 548 (by decide +kernel) (by decide +kernel)
theorem w_im_X4_restart : Cond.instanceMethod yX4_restart ∈ ut := ut_of 549 (by decide +kernel) (by decide +kernel)
theorem w_se_X4_restart : Cond.selects RX4 yX4_restart yX4_restart ∈ ut := ut_of 550 (by decide +kernel) (by decide +kernel)
theorem w_co_X4_restart : Cond.code yX4_restart cX4_restart 1 (Option.some Jvm.ClassFile.FieldType.int) ∈ ut := ut_of 551 (by decide +kernel) (by decide +kernel)
theorem w_ml_X4_179 : Cond.methodLink RX4 179 yX3_markBeforeScale ∈ ut := ut_of 552 (by decide +kernel) (by decide +kernel)
theorem w_im_X3_markBeforeScale : Cond.instanceMethod yX3_markBeforeScale ∈ ut := ut_of 553 (by decide +kernel) (by decide +kernel)
theorem w_se_X3_markBeforeScale : Cond.selects RX3 yX3_markBeforeScale yX3_markBeforeScale ∈ ut := ut_of 554 (by decide +kernel) (by decide +kernel)
theorem w_co_X3_markBeforeScale : Cond.code yX3_markBeforeScale cX3_markBeforeScale 2 (Option.none : Option Jvm.ClassFile.FieldType) ∈ ut := ut_of 555 (by decide +kernel) (by decide +kernel)
theorem w_ml_L_72 : Cond.methodLink RL 72 yX4_lay ∈ ut := ut_of 556 (by decide +kernel) (by decide +kernel)
theorem w_im_X4_lay : Cond.instanceMethod yX4_lay ∈ ut := ut_of 557 (by decide +kernel) (by decide +kernel)
theorem w_se_X4_lay : Cond.selects RX4 yX4_lay yX4_lay ∈ ut := ut_of 558 (by decide +kernel) (by decide +kernel)
theorem w_co_X4_lay : Cond.code yX4_lay cX4_lay 3 (Option.some Jvm.ClassFile.FieldType.int) ∈ ut := ut_of 559 (by decide +kernel) (by decide +kernel)
theorem w_ml_X4_182 : Cond.methodLink RX4 182 yX3_stock ∈ ut := ut_of 560 (by decide +kernel) (by decide +kernel)
theorem w_ml_X4_185 : Cond.methodLink RX4 185 yX3_addStock ∈ ut := ut_of 561 (by decide +kernel) (by decide +kernel)
theorem w_ml_L_77 : Cond.methodLink RL 77 yX4_set ∈ ut := ut_of 562 (by decide +kernel) (by decide +kernel)
theorem w_im_X4_set : Cond.instanceMethod yX4_set ∈ ut := ut_of 563 (by decide +kernel) (by decide +kernel)
theorem w_se_X4_set : Cond.selects RX4 yX4_set yX4_set ∈ ut := ut_of 564 (by decide +kernel) (by decide +kernel)
theorem w_co_X4_set : Cond.code yX4_set cX4_set 4 (Option.some Jvm.ClassFile.FieldType.int) ∈ ut := ut_of 565 (by decide +kernel) (by decide +kernel)
theorem w_ml_L_81 : Cond.methodLink RL 81 yX4_come ∈ ut := ut_of 566 (by decide +kernel) (by decide +kernel)
theorem w_im_X4_come : Cond.instanceMethod yX4_come ∈ ut := ut_of 567 (by decide +kernel) (by decide +kernel)
theorem w_se_X4_come : Cond.selects RX4 yX4_come yX4_come ∈ ut := ut_of 568 (by decide +kernel) (by decide +kernel)
theorem w_co_X4_come : Cond.code yX4_come cX4_come 2 (Option.some Jvm.ClassFile.FieldType.int) ∈ ut := ut_of 569 (by decide +kernel) (by decide +kernel)
theorem w_ml_X4_189 : Cond.methodLink RX4 189 yX3_addEntry ∈ ut := ut_of 570 (by decide +kernel) (by decide +kernel)
theorem w_ml_L_85 : Cond.methodLink RL 85 yX4_undo ∈ ut := ut_of 571 (by decide +kernel) (by decide +kernel)
theorem w_im_X4_undo : Cond.instanceMethod yX4_undo ∈ ut := ut_of 572 (by decide +kernel) (by decide +kernel)
theorem w_se_X4_undo : Cond.selects RX4 yX4_undo yX4_undo ∈ ut := ut_of 573 (by decide +kernel) (by decide +kernel)
theorem w_co_X4_undo : Cond.code yX4_undo cX4_undo 1 (Option.some Jvm.ClassFile.FieldType.int) ∈ ut := ut_of 574 (by decide +kernel) (by decide +kernel)
theorem w_ml_L_89 : Cond.methodLink RL 89 yX4_ahead ∈ ut := ut_of 575 (by decide +kernel) (by decide +kernel)
theorem w_im_X4_ahead : Cond.instanceMethod yX4_ahead ∈ ut := ut_of 576 (by decide +kernel) (by decide +kernel)
theorem w_se_X4_ahead : Cond.selects RX4 yX4_ahead yX4_ahead ∈ ut := ut_of 577 (by decide +kernel) (by decide +kernel)
theorem w_co_X4_ahead : Cond.code yX4_ahead cX4_ahead 3 (Option.some Jvm.ClassFile.FieldType.int) ∈ ut := ut_of 578 (by decide +kernel) (by decide +kernel)
theorem w_ml_L_93 : Cond.methodLink RL 93 yX4_goes ∈ ut := ut_of 579 (by decide +kernel) (by decide +kernel)
theorem w_im_X4_goes : Cond.instanceMethod yX4_goes ∈ ut := ut_of 580 (by decide +kernel) (by decide +kernel)
theorem w_se_X4_goes : Cond.selects RX4 yX4_goes yX4_goes ∈ ut := ut_of 581 (by decide +kernel) (by decide +kernel)
theorem w_co_X4_goes : Cond.code yX4_goes cX4_goes 5 (Option.some Jvm.ClassFile.FieldType.int) ∈ ut := ut_of 582 (by decide +kernel) (by decide +kernel)
theorem w_ml_X4_196 : Cond.methodLink RX4 196 yX4_wayInNextStep ∈ ut := ut_of 583 (by decide +kernel) (by decide +kernel)
theorem w_im_X4_wayInNextStep : Cond.instanceMethod yX4_wayInNextStep ∈ ut := ut_of 585 (by decide +kernel) (by decide +kernel)
theorem w_co_X4_wayInNextStep : Cond.code yX4_wayInNextStep cX4_wayInNextStep 4 (Option.some Jvm.ClassFile.FieldType.int) ∈ ut := ut_of 586 (by decide +kernel) (by decide +kernel)
theorem w_ml_L_97 : Cond.methodLink RL 97 yX4_best ∈ ut := ut_of 587 (by decide +kernel) (by decide +kernel)
theorem w_im_X4_best : Cond.instanceMethod yX4_best ∈ ut := ut_of 588 (by decide +kernel) (by decide +kernel)
theorem w_se_X4_best : Cond.selects RX4 yX4_best yX4_best ∈ ut := ut_of 589 (by decide +kernel) (by decide +kernel)
theorem w_co_X4_best : Cond.code yX4_best cX4_best 5 (Option.some Jvm.ClassFile.FieldType.int) ∈ ut := ut_of 590 (by decide +kernel) (by decide +kernel)
theorem w_ml_L_101 : Cond.methodLink RL 101 yX4_needs ∈ ut := ut_of 591 (by decide +kernel) (by decide +kernel)
theorem w_im_X4_needs : Cond.instanceMethod yX4_needs ∈ ut := ut_of 592 (by decide +kernel) (by decide +kernel)
theorem w_se_X4_needs : Cond.selects RX4 yX4_needs yX4_needs ∈ ut := ut_of 593 (by decide +kernel) (by decide +kernel)
theorem w_co_X4_needs : Cond.code yX4_needs cX4_needs 4 (Option.some Jvm.ClassFile.FieldType.int) ∈ ut := ut_of 594 (by decide +kernel) (by decide +kernel)
theorem w_ml_X4_202 : Cond.methodLink RX4 202 yX4_outWithMore ∈ ut := ut_of 595 (by decide +kernel) (by decide +kernel)
theorem w_im_X4_outWithMore : Cond.instanceMethod yX4_outWithMore ∈ ut := ut_of 597 (by decide +kernel) (by decide +kernel)
theorem w_co_X4_outWithMore : Cond.code yX4_outWithMore cX4_outWithMore 3 (Option.some Jvm.ClassFile.FieldType.int) ∈ ut := ut_of 598 (by decide +kernel) (by decide +kernel)
theorem w_ml_L_106 : Cond.methodLink RL 106 yX4_judge ∈ ut := ut_of 599 (by decide +kernel) (by decide +kernel)
theorem w_im_X4_judge : Cond.instanceMethod yX4_judge ∈ ut := ut_of 600 (by decide +kernel) (by decide +kernel)
theorem w_se_X4_judge : Cond.selects RX4 yX4_judge yX4_judge ∈ ut := ut_of 601 (by decide +kernel) (by decide +kernel)
theorem w_co_X4_judge : Cond.code yX4_judge cX4_judge 5 (Option.some Jvm.ClassFile.FieldType.int) ∈ ut := ut_of 602 (by decide +kernel) (by decide +kernel)
theorem w_ml_X4_212 : Cond.methodLink RX4 212 yX4_obeys ∈ ut := ut_of 603 (by decide +kernel) (by decide +kernel)
theorem w_im_X4_obeys : Cond.instanceMethod yX4_obeys ∈ ut := ut_of 605 (by decide +kernel) (by decide +kernel)
theorem w_co_X4_obeys : Cond.code yX4_obeys cX4_obeys 5 (Option.some Jvm.ClassFile.FieldType.boolean) ∈ ut := ut_of 606 (by decide +kernel) (by decide +kernel)
theorem w_ml_X4_277 : Cond.methodLink RX4 277 yX4_intervenes ∈ ut := ut_of 607 (by decide +kernel) (by decide +kernel)
theorem w_im_X4_intervenes : Cond.instanceMethod yX4_intervenes ∈ ut := ut_of 609 (by decide +kernel) (by decide +kernel)
theorem w_co_X4_intervenes : Cond.code yX4_intervenes cX4_intervenes 2 (Option.some Jvm.ClassFile.FieldType.boolean) ∈ ut := ut_of 610 (by decide +kernel) (by decide +kernel)
theorem w_ml_X4_280 : Cond.methodLink RX4 280 yX3_nextValve ∈ ut := ut_of 611 (by decide +kernel) (by decide +kernel)
theorem w_ml_L_110 : Cond.methodLink RL 110 yX4_see ∈ ut := ut_of 612 (by decide +kernel) (by decide +kernel)
theorem w_im_X4_see : Cond.instanceMethod yX4_see ∈ ut := ut_of 613 (by decide +kernel) (by decide +kernel)
theorem w_se_X4_see : Cond.selects RX4 yX4_see yX4_see ∈ ut := ut_of 614 (by decide +kernel) (by decide +kernel)
theorem w_co_X4_see : Cond.code yX4_see cX4_see 4 (Option.some Jvm.ClassFile.FieldType.int) ∈ ut := ut_of 615 (by decide +kernel) (by decide +kernel)
theorem w_ml_L_115 : Cond.methodLink RL 115 yX4_unsee ∈ ut := ut_of 616 (by decide +kernel) (by decide +kernel)
theorem w_im_X4_unsee : Cond.instanceMethod yX4_unsee ∈ ut := ut_of 617 (by decide +kernel) (by decide +kernel)
theorem w_se_X4_unsee : Cond.selects RX4 yX4_unsee yX4_unsee ∈ ut := ut_of 618 (by decide +kernel) (by decide +kernel)
theorem w_co_X4_unsee : Cond.code yX4_unsee cX4_unsee 2 (Option.some Jvm.ClassFile.FieldType.int) ∈ ut := ut_of 619 (by decide +kernel) (by decide +kernel)
theorem w_ml_L_119 : Cond.methodLink RL 119 yX4_which ∈ ut := ut_of 620 (by decide +kernel) (by decide +kernel)
theorem w_im_X4_which : Cond.instanceMethod yX4_which ∈ ut := ut_of 621 (by decide +kernel) (by decide +kernel)
theorem w_se_X4_which : Cond.selects RX4 yX4_which yX4_which ∈ ut := ut_of 622 (by decide +kernel) (by decide +kernel)
theorem w_co_X4_which : Cond.code yX4_which cX4_which 3 (Option.some Jvm.ClassFile.FieldType.int) ∈ ut := ut_of 623 (by decide +kernel) (by decide +kernel)
theorem w_ml_X4_215 : Cond.methodLink RX4 215 yX4_agreesWithSlipAfter ∈ ut := ut_of 624 (by decide +kernel) (by decide +kernel)
theorem w_im_X4_agreesWithSlipAfter : Cond.instanceMethod yX4_agreesWithSlipAfter ∈ ut := ut_of 626 (by decide +kernel) (by decide +kernel)
theorem w_co_X4_agreesWithSlipAfter : Cond.code yX4_agreesWithSlipAfter cX4_agreesWithSlipAfter 3 (Option.some Jvm.ClassFile.FieldType.boolean) ∈ ut := ut_of 627 (by decide +kernel) (by decide +kernel)
theorem w_ml_X4_283 : Cond.methodLink RX4 283 yX4_agreesAfter ∈ ut := ut_of 628 (by decide +kernel) (by decide +kernel)
theorem w_im_X4_agreesAfter : Cond.instanceMethod yX4_agreesAfter ∈ ut := ut_of 630 (by decide +kernel) (by decide +kernel)
theorem w_co_X4_agreesAfter : Cond.code yX4_agreesAfter cX4_agreesAfter 3 (Option.some Jvm.ClassFile.FieldType.boolean) ∈ ut := ut_of 631 (by decide +kernel) (by decide +kernel)
theorem w_ml_X4_286 : Cond.methodLink RX4 286 yX3_observed ∈ ut := ut_of 632 (by decide +kernel) (by decide +kernel)
theorem w_im_X3_observed : Cond.instanceMethod yX3_observed ∈ ut := ut_of 633 (by decide +kernel) (by decide +kernel)
theorem w_se_X3_observed : Cond.selects RX3 yX3_observed yX3_observed ∈ ut := ut_of 634 (by decide +kernel) (by decide +kernel)
theorem w_co_X3_observed : Cond.code yX3_observed cX3_observed 2 (Option.some Jvm.ClassFile.FieldType.int) ∈ ut := ut_of 635 (by decide +kernel) (by decide +kernel)
theorem w_ml_L_123 : Cond.methodLink RL 123 yX4_share ∈ ut := ut_of 636 (by decide +kernel) (by decide +kernel)
theorem w_im_X4_share : Cond.instanceMethod yX4_share ∈ ut := ut_of 637 (by decide +kernel) (by decide +kernel)
theorem w_se_X4_share : Cond.selects RX4 yX4_share yX4_share ∈ ut := ut_of 638 (by decide +kernel) (by decide +kernel)
theorem w_co_X4_share : Cond.code yX4_share cX4_share 10 (Option.some Jvm.ClassFile.FieldType.int) ∈ ut := ut_of 639 (by decide +kernel) (by decide +kernel)
theorem w_ml_X4_218 : Cond.methodLink RX4 218 yJ6_bitCount_0f7a4 ∈ ut := ut_of 640 (by decide +kernel) (by decide +kernel)
theorem w_st_J6_bitCount_0f7a4 : Cond.static yJ6_bitCount_0f7a4 ∈ ut := ut_of 641 (by decide +kernel) (by decide +kernel)
theorem w_co_J6_bitCount_0f7a4 : Cond.code yJ6_bitCount_0f7a4 cJ6_bitCount_0f7a4 1 (Option.some Jvm.ClassFile.FieldType.int) ∈ ut := ut_of 642 (by decide +kernel) (by decide +kernel)
theorem w_k_J6_265 : Cond.constant RJ6 265 1431655765 ∈ ut := ut_of 643 (by decide +kernel) (by decide +kernel)
theorem w_k_J6_266 : Cond.constant RJ6 266 858993459 ∈ ut := ut_of 644 (by decide +kernel) (by decide +kernel)
theorem w_k_J6_267 : Cond.constant RJ6 267 252645135 ∈ ut := ut_of 645 (by decide +kernel) (by decide +kernel)
theorem w_ml_X4_223 : Cond.methodLink RX4 223 yX4_factorial ∈ ut := ut_of 646 (by decide +kernel) (by decide +kernel)
theorem w_st_X4_factorial : Cond.static yX4_factorial ∈ ut := ut_of 647 (by decide +kernel) (by decide +kernel)
theorem w_co_X4_factorial : Cond.code yX4_factorial cX4_factorial 3 (Option.some Jvm.ClassFile.FieldType.int) ∈ ut := ut_of 648 (by decide +kernel) (by decide +kernel)
theorem w_ml_X4_226 : Cond.methodLink RX4 226 yX4_outWithOff ∈ ut := ut_of 649 (by decide +kernel) (by decide +kernel)
theorem w_im_X4_outWithOff : Cond.instanceMethod yX4_outWithOff ∈ ut := ut_of 651 (by decide +kernel) (by decide +kernel)
theorem w_co_X4_outWithOff : Cond.code yX4_outWithOff cX4_outWithOff 2 (Option.some Jvm.ClassFile.FieldType.int) ∈ ut := ut_of 652 (by decide +kernel) (by decide +kernel)
theorem w_ml_X4_229 : Cond.methodLink RX4 229 yX4_partOf ∈ ut := ut_of 653 (by decide +kernel) (by decide +kernel)
theorem w_st_X4_partOf : Cond.static yX4_partOf ∈ ut := ut_of 654 (by decide +kernel) (by decide +kernel)
theorem w_co_X4_partOf : Cond.code yX4_partOf cX4_partOf 4 (Option.some Jvm.ClassFile.FieldType.int) ∈ ut := ut_of 655 (by decide +kernel) (by decide +kernel)
theorem w_ml_X4_259 : Cond.methodLink RX4 259 yJ9_abs_0f7a4 ∈ ut := ut_of 656 (by decide +kernel) (by decide +kernel)
theorem w_ml_X4_262 : Cond.methodLink RX4 262 yX4_commonDivisor ∈ ut := ut_of 657 (by decide +kernel) (by decide +kernel)
theorem w_st_X4_commonDivisor : Cond.static yX4_commonDivisor ∈ ut := ut_of 658 (by decide +kernel) (by decide +kernel)
theorem w_co_X4_commonDivisor : Cond.code yX4_commonDivisor cX4_commonDivisor 4 (Option.some Jvm.ClassFile.FieldType.int) ∈ ut := ut_of 659 (by decide +kernel) (by decide +kernel)
theorem w_ml_L_128 : Cond.methodLink RL 128 yX4_chance ∈ ut := ut_of 660 (by decide +kernel) (by decide +kernel)
theorem w_im_X4_chance : Cond.instanceMethod yX4_chance ∈ ut := ut_of 661 (by decide +kernel) (by decide +kernel)
theorem w_se_X4_chance : Cond.selects RX4 yX4_chance yX4_chance ∈ ut := ut_of 662 (by decide +kernel) (by decide +kernel)
theorem w_co_X4_chance : Cond.code yX4_chance cX4_chance 8 (Option.some Jvm.ClassFile.FieldType.int) ∈ ut := ut_of 663 (by decide +kernel) (by decide +kernel)
theorem w_ml_L_135 : Cond.methodLink RL 135 yX4_seed ∈ ut := ut_of 664 (by decide +kernel) (by decide +kernel)
theorem w_im_X4_seed : Cond.instanceMethod yX4_seed ∈ ut := ut_of 665 (by decide +kernel) (by decide +kernel)
theorem w_se_X4_seed : Cond.selects RX4 yX4_seed yX4_seed ∈ ut := ut_of 666 (by decide +kernel) (by decide +kernel)
theorem w_co_X4_seed : Cond.code yX4_seed cX4_seed 5 (Option.some Jvm.ClassFile.FieldType.long) ∈ ut := ut_of 667 (by decide +kernel) (by decide +kernel)
theorem w_ml_L_140 : Cond.methodLink RL 140 yX4_drawn ∈ ut := ut_of 668 (by decide +kernel) (by decide +kernel)
theorem w_im_X4_drawn : Cond.instanceMethod yX4_drawn ∈ ut := ut_of 669 (by decide +kernel) (by decide +kernel)
theorem w_se_X4_drawn : Cond.selects RX4 yX4_drawn yX4_drawn ∈ ut := ut_of 670 (by decide +kernel) (by decide +kernel)
theorem w_co_X4_drawn : Cond.code yX4_drawn cX4_drawn 4 (Option.some Jvm.ClassFile.FieldType.int) ∈ ut := ut_of 671 (by decide +kernel) (by decide +kernel)
theorem w_k_X4_243 : Cond.constantLong RX4 243 6364136223846793005 ∈ ut := ut_of 672 (by decide +kernel) (by decide +kernel)
theorem w_k_X4_245 : Cond.constantLong RX4 245 1442695040888963407 ∈ ut := ut_of 673 (by decide +kernel) (by decide +kernel)
theorem w_ml_X4_247 : Cond.methodLink RX4 247 yX4_happen ∈ ut := ut_of 674 (by decide +kernel) (by decide +kernel)
theorem w_im_X4_happen : Cond.instanceMethod yX4_happen ∈ ut := ut_of 676 (by decide +kernel) (by decide +kernel)
theorem w_co_X4_happen : Cond.code yX4_happen cX4_happen 2 (Option.none : Option Jvm.ClassFile.FieldType) ∈ ut := ut_of 677 (by decide +kernel) (by decide +kernel)
theorem w_ml_L_144 : Cond.methodLink RL 144 yX4_keep ∈ ut := ut_of 678 (by decide +kernel) (by decide +kernel)
theorem w_im_X4_keep : Cond.instanceMethod yX4_keep ∈ ut := ut_of 679 (by decide +kernel) (by decide +kernel)
theorem w_se_X4_keep : Cond.selects RX4 yX4_keep yX4_keep ∈ ut := ut_of 680 (by decide +kernel) (by decide +kernel)
theorem w_co_X4_keep : Cond.code yX4_keep cX4_keep 2 (Option.some Jvm.ClassFile.FieldType.int) ∈ ut := ut_of 681 (by decide +kernel) (by decide +kernel)
theorem w_ml_L_148 : Cond.methodLink RL 148 yX4_again ∈ ut := ut_of 682 (by decide +kernel) (by decide +kernel)
theorem w_im_X4_again : Cond.instanceMethod yX4_again ∈ ut := ut_of 683 (by decide +kernel) (by decide +kernel)
theorem w_se_X4_again : Cond.selects RX4 yX4_again yX4_again ∈ ut := ut_of 684 (by decide +kernel) (by decide +kernel)
theorem w_co_X4_again : Cond.code yX4_again cX4_again 2 (Option.some Jvm.ClassFile.FieldType.int) ∈ ut := ut_of 685 (by decide +kernel) (by decide +kernel)
theorem w_ml_L_12 : Cond.methodLink RL 12 yX5_init ∈ ut := ut_of 688 (by decide +kernel) (by decide +kernel)
theorem w_im_X5_init : Cond.instanceMethod yX5_init ∈ ut := ut_of 689 (by decide +kernel) (by decide +kernel)
theorem w_co_X5_init : Cond.code yX5_init cX5_init 2 (Option.none : Option Jvm.ClassFile.FieldType) ∈ ut := ut_of 690 (by decide +kernel) (by decide +kernel)
theorem w_fl_X5_7 : Cond.fieldLink RX5 7 RX5 "text" "[I" ∈ ut := ut_of 692 (by decide +kernel) (by decide +kernel)
theorem w_fl_X5_79 : Cond.fieldLink RX5 79 RX5 "length" "I" ∈ ut := ut_of 693 (by decide +kernel) (by decide +kernel)
theorem w_fl_X5_13 : Cond.fieldLink RX5 13 RX5 "cells" "I" ∈ ut := ut_of 694 (by decide +kernel) (by decide +kernel)
theorem w_fl_X5_17 : Cond.fieldLink RX5 17 RX5 "places" "[I" ∈ ut := ut_of 695 (by decide +kernel) (by decide +kernel)
theorem w_fl_X5_130 : Cond.fieldLink RX5 130 RX5 "target" "I" ∈ ut := ut_of 696 (by decide +kernel) (by decide +kernel)
theorem w_fl_X5_133 : Cond.fieldLink RX5 133 RX5 "tolerance" "I" ∈ ut := ut_of 697 (by decide +kernel) (by decide +kernel)
theorem w_fl_X5_136 : Cond.fieldLink RX5 136 RX5 "each" "I" ∈ ut := ut_of 698 (by decide +kernel) (by decide +kernel)
theorem w_fl_X5_76 : Cond.fieldLink RX5 76 RX5 "valves" "I" ∈ ut := ut_of 699 (by decide +kernel) (by decide +kernel)
theorem w_fl_X5_20 : Cond.fieldLink RX5 20 RX5 "drift" "[I" ∈ ut := ut_of 700 (by decide +kernel) (by decide +kernel)
theorem w_fl_X5_23 : Cond.fieldLink RX5 23 RX5 "now" "[I" ∈ ut := ut_of 701 (by decide +kernel) (by decide +kernel)
theorem w_fl_X5_26 : Cond.fieldLink RX5 26 RX5 "trial" "[I" ∈ ut := ut_of 702 (by decide +kernel) (by decide +kernel)
theorem w_fl_X5_29 : Cond.fieldLink RX5 29 RX5 "diary" "[I" ∈ ut := ut_of 703 (by decide +kernel) (by decide +kernel)
theorem w_fl_X5_139 : Cond.fieldLink RX5 139 RX5 "acts" "I" ∈ ut := ut_of 704 (by decide +kernel) (by decide +kernel)
theorem w_fl_X5_204 : Cond.fieldLink RX5 204 RX5 "next" "I" ∈ ut := ut_of 705 (by decide +kernel) (by decide +kernel)
theorem w_fl_X5_32 : Cond.fieldLink RX5 32 RX5 "kept" "[I" ∈ ut := ut_of 706 (by decide +kernel) (by decide +kernel)
theorem w_fl_X5_35 : Cond.fieldLink RX5 35 RX5 "isKept" "[Z" ∈ ut := ut_of 707 (by decide +kernel) (by decide +kernel)
theorem w_fl_X5_39 : Cond.fieldLink RX5 39 RX5 "seenWhat" "[I" ∈ ut := ut_of 708 (by decide +kernel) (by decide +kernel)
theorem w_fl_X5_42 : Cond.fieldLink RX5 42 RX5 "seenBehind" "[I" ∈ ut := ut_of 709 (by decide +kernel) (by decide +kernel)
theorem w_fl_X5_45 : Cond.fieldLink RX5 45 RX5 "seenIs" "[I" ∈ ut := ut_of 710 (by decide +kernel) (by decide +kernel)
theorem w_fl_X5_191 : Cond.fieldLink RX5 191 RX5 "seen" "I" ∈ ut := ut_of 711 (by decide +kernel) (by decide +kernel)
theorem w_fl_X5_252 : Cond.fieldLink RX5 252 RX5 "seed" "J" ∈ ut := ut_of 712 (by decide +kernel) (by decide +kernel)
theorem w_fl_X5_66 : Cond.fieldLink RX5 66 RX5 "come" "I" ∈ ut := ut_of 713 (by decide +kernel) (by decide +kernel)
theorem w_fl_X5_69 : Cond.fieldLink RX5 69 RX5 "watched" "I" ∈ ut := ut_of 714 (by decide +kernel) (by decide +kernel)
theorem w_fl_X5_146 : Cond.fieldLink RX5 146 RX5 "went" "I" ∈ ut := ut_of 715 (by decide +kernel) (by decide +kernel)
theorem w_fl_X5_48 : Cond.fieldLink RX5 48 RX5 "worth" "[I" ∈ ut := ut_of 716 (by decide +kernel) (by decide +kernel)
theorem w_fl_X5_51 : Cond.fieldLink RX5 51 RX5 "head" "[I" ∈ ut := ut_of 717 (by decide +kernel) (by decide +kernel)
theorem w_fl_X5_85 : Cond.fieldLink RX5 85 RX5 "readTarget" "I" ∈ ut := ut_of 718 (by decide +kernel) (by decide +kernel)
theorem w_fl_X5_88 : Cond.fieldLink RX5 88 RX5 "readTolerance" "I" ∈ ut := ut_of 719 (by decide +kernel) (by decide +kernel)
theorem w_fl_X5_91 : Cond.fieldLink RX5 91 RX5 "readEach" "I" ∈ ut := ut_of 720 (by decide +kernel) (by decide +kernel)
theorem w_fl_X5_100 : Cond.fieldLink RX5 100 RX5 "readValves" "I" ∈ ut := ut_of 721 (by decide +kernel) (by decide +kernel)
theorem w_fl_X5_54 : Cond.fieldLink RX5 54 RX5 "readSetting" "[I" ∈ ut := ut_of 722 (by decide +kernel) (by decide +kernel)
theorem w_fl_X5_57 : Cond.fieldLink RX5 57 RX5 "readDrift" "[I" ∈ ut := ut_of 723 (by decide +kernel) (by decide +kernel)
theorem w_fl_X5_60 : Cond.fieldLink RX5 60 RX5 "readStock" "[I" ∈ ut := ut_of 724 (by decide +kernel) (by decide +kernel)
theorem w_fl_X5_97 : Cond.fieldLink RX5 97 RX5 "readMany" "I" ∈ ut := ut_of 725 (by decide +kernel) (by decide +kernel)
theorem w_fl_X5_63 : Cond.fieldLink RX5 63 RX5 "readQueue" "[I" ∈ ut := ut_of 726 (by decide +kernel) (by decide +kernel)
theorem w_fl_X5_94 : Cond.fieldLink RX5 94 RX5 "part" "I" ∈ ut := ut_of 727 (by decide +kernel) (by decide +kernel)
theorem w_fl_X5_82 : Cond.fieldLink RX5 82 RX5 "place" "I" ∈ ut := ut_of 728 (by decide +kernel) (by decide +kernel)
theorem w_fl_X5_107 : Cond.fieldLink RX5 107 RX5 "figures" "I" ∈ ut := ut_of 729 (by decide +kernel) (by decide +kernel)
theorem w_ml_L_17 : Cond.methodLink RL 17 yX5_write ∈ ut := ut_of 807 (by decide +kernel) (by decide +kernel)
theorem w_im_X5_write : Cond.instanceMethod yX5_write ∈ ut := ut_of 808 (by decide +kernel) (by decide +kernel)
theorem w_se_X5_write : Cond.selects RX5 yX5_write yX5_write ∈ ut := ut_of 809 (by decide +kernel) (by decide +kernel)
theorem w_co_X5_write : Cond.code yX5_write cX5_write 2 (Option.some Jvm.ClassFile.FieldType.int) ∈ ut := ut_of 810 (by decide +kernel) (by decide +kernel)
theorem w_ml_X5_72 : Cond.methodLink RX5 72 yX5_in ∈ ut := ut_of 811 (by decide +kernel) (by decide +kernel)
theorem w_st_X5_in : Cond.static yX5_in ∈ ut := ut_of 812 (by decide +kernel) (by decide +kernel)
theorem w_co_X5_in : Cond.code yX5_in cX5_in 3 (Option.some Jvm.ClassFile.FieldType.boolean) ∈ ut := ut_of 813 (by decide +kernel) (by decide +kernel)
theorem w_ml_L_22 : Cond.methodLink RL 22 yX5_wipe ∈ ut := ut_of 814 (by decide +kernel) (by decide +kernel)
theorem w_im_X5_wipe : Cond.instanceMethod yX5_wipe ∈ ut := ut_of 815 (by decide +kernel) (by decide +kernel)
theorem w_se_X5_wipe : Cond.selects RX5 yX5_wipe yX5_wipe ∈ ut := ut_of 816 (by decide +kernel) (by decide +kernel)
theorem w_co_X5_wipe : Cond.code yX5_wipe cX5_wipe 2 (Option.some Jvm.ClassFile.FieldType.int) ∈ ut := ut_of 817 (by decide +kernel) (by decide +kernel)
theorem w_ml_L_26 : Cond.methodLink RL 26 yX5_fault ∈ ut := ut_of 818 (by decide +kernel) (by decide +kernel)
theorem w_im_X5_fault : Cond.instanceMethod yX5_fault ∈ ut := ut_of 819 (by decide +kernel) (by decide +kernel)
theorem w_se_X5_fault : Cond.selects RX5 yX5_fault yX5_fault ∈ ut := ut_of 820 (by decide +kernel) (by decide +kernel)
theorem w_co_X5_fault : Cond.code yX5_fault cX5_fault 1 (Option.some Jvm.ClassFile.FieldType.int) ∈ ut := ut_of 821 (by decide +kernel) (by decide +kernel)
theorem w_ml_X5_126 : Cond.methodLink RX5 126 yX5_readText ∈ ut := ut_of 822 (by decide +kernel) (by decide +kernel)
theorem w_im_X5_readText : Cond.instanceMethod yX5_readText ∈ ut := ut_of 824 (by decide +kernel) (by decide +kernel)
theorem w_co_X5_readText : Cond.code yX5_readText cX5_readText 2 (Option.some Jvm.ClassFile.FieldType.int) ∈ ut := ut_of 825 (by decide +kernel) (by decide +kernel)
theorem w_ml_X5_123 : Cond.methodLink RX5 123 yX5_take ∈ ut := ut_of 826 (by decide +kernel) (by decide +kernel)
theorem w_im_X5_take : Cond.instanceMethod yX5_take ∈ ut := ut_of 828 (by decide +kernel) (by decide +kernel)
theorem w_co_X5_take : Cond.code yX5_take cX5_take 3 (Option.some Jvm.ClassFile.FieldType.boolean) ∈ ut := ut_of 829 (by decide +kernel) (by decide +kernel)
theorem w_ml_X5_110 : Cond.methodLink RX5 110 yX5_takeSign ∈ ut := ut_of 830 (by decide +kernel) (by decide +kernel)
theorem w_im_X5_takeSign : Cond.instanceMethod yX5_takeSign ∈ ut := ut_of 832 (by decide +kernel) (by decide +kernel)
theorem w_co_X5_takeSign : Cond.code yX5_takeSign cX5_takeSign 2 (Option.some Jvm.ClassFile.FieldType.boolean) ∈ ut := ut_of 833 (by decide +kernel) (by decide +kernel)
theorem w_ml_X5_103 : Cond.methodLink RX5 103 yX5_queueUp ∈ ut := ut_of 834 (by decide +kernel) (by decide +kernel)
theorem w_im_X5_queueUp : Cond.instanceMethod yX5_queueUp ∈ ut := ut_of 836 (by decide +kernel) (by decide +kernel)
theorem w_co_X5_queueUp : Cond.code yX5_queueUp cX5_queueUp 2 (Option.some Jvm.ClassFile.FieldType.boolean) ∈ ut := ut_of 837 (by decide +kernel) (by decide +kernel)
theorem w_ml_X5_113 : Cond.methodLink RX5 113 yX5_takeHead ∈ ut := ut_of 838 (by decide +kernel) (by decide +kernel)
theorem w_im_X5_takeHead : Cond.instanceMethod yX5_takeHead ∈ ut := ut_of 840 (by decide +kernel) (by decide +kernel)
theorem w_co_X5_takeHead : Cond.code yX5_takeHead cX5_takeHead 3 (Option.some Jvm.ClassFile.FieldType.boolean) ∈ ut := ut_of 841 (by decide +kernel) (by decide +kernel)
theorem w_ml_X5_116 : Cond.methodLink RX5 116 yX5_takeOfValve ∈ ut := ut_of 842 (by decide +kernel) (by decide +kernel)
theorem w_im_X5_takeOfValve : Cond.instanceMethod yX5_takeOfValve ∈ ut := ut_of 844 (by decide +kernel) (by decide +kernel)
theorem w_co_X5_takeOfValve : Cond.code yX5_takeOfValve cX5_takeOfValve 2 (Option.some Jvm.ClassFile.FieldType.boolean) ∈ ut := ut_of 845 (by decide +kernel) (by decide +kernel)
theorem w_ml_X5_119 : Cond.methodLink RX5 119 yX5_takeOfStock ∈ ut := ut_of 846 (by decide +kernel) (by decide +kernel)
theorem w_im_X5_takeOfStock : Cond.instanceMethod yX5_takeOfStock ∈ ut := ut_of 848 (by decide +kernel) (by decide +kernel)
theorem w_co_X5_takeOfStock : Cond.code yX5_takeOfStock cX5_takeOfStock 5 (Option.some Jvm.ClassFile.FieldType.boolean) ∈ ut := ut_of 849 (by decide +kernel) (by decide +kernel)
theorem w_ml_L_30 : Cond.methodLink RL 30 yX5_line ∈ ut := ut_of 850 (by decide +kernel) (by decide +kernel)
theorem w_im_X5_line : Cond.instanceMethod yX5_line ∈ ut := ut_of 851 (by decide +kernel) (by decide +kernel)
theorem w_se_X5_line : Cond.selects RX5 yX5_line yX5_line ∈ ut := ut_of 852 (by decide +kernel) (by decide +kernel)
theorem w_co_X5_line : Cond.code yX5_line cX5_line 2 (Option.some Jvm.ClassFile.FieldType.int) ∈ ut := ut_of 853 (by decide +kernel) (by decide +kernel)
theorem w_ml_L_34 : Cond.methodLink RL 34 yX5_about ∈ ut := ut_of 854 (by decide +kernel) (by decide +kernel)
theorem w_im_X5_about : Cond.instanceMethod yX5_about ∈ ut := ut_of 855 (by decide +kernel) (by decide +kernel)
theorem w_se_X5_about : Cond.selects RX5 yX5_about yX5_about ∈ ut := ut_of 856 (by decide +kernel) (by decide +kernel)
theorem w_co_X5_about : Cond.code yX5_about cX5_about 2 (Option.some Jvm.ClassFile.FieldType.int) ∈ ut := ut_of 857 (by decide +kernel) (by decide +kernel)
theorem w_ml_X5_194 : Cond.methodLink RX5 194 yX5_tell ∈ ut := ut_of 858 (by decide +kernel) (by decide +kernel)
theorem w_im_X5_tell : Cond.instanceMethod yX5_tell ∈ ut := ut_of 860 (by decide +kernel) (by decide +kernel)
theorem w_co_X5_tell : Cond.code yX5_tell cX5_tell 3 (Option.some Jvm.ClassFile.FieldType.int) ∈ ut := ut_of 861 (by decide +kernel) (by decide +kernel)
theorem w_ml_X5_187 : Cond.methodLink RX5 187 yX5_bottles ∈ ut := ut_of 862 (by decide +kernel) (by decide +kernel)
theorem w_im_X5_bottles : Cond.instanceMethod yX5_bottles ∈ ut := ut_of 864 (by decide +kernel) (by decide +kernel)
theorem w_co_X5_bottles : Cond.code yX5_bottles cX5_bottles 4 (Option.some Jvm.ClassFile.FieldType.int) ∈ ut := ut_of 865 (by decide +kernel) (by decide +kernel)
theorem w_ml_L_38 : Cond.methodLink RL 38 yX5_place ∈ ut := ut_of 866 (by decide +kernel) (by decide +kernel)
theorem w_im_X5_place : Cond.instanceMethod yX5_place ∈ ut := ut_of 867 (by decide +kernel) (by decide +kernel)
theorem w_se_X5_place : Cond.selects RX5 yX5_place yX5_place ∈ ut := ut_of 868 (by decide +kernel) (by decide +kernel)
theorem w_co_X5_place : Cond.code yX5_place cX5_place 2 (Option.some Jvm.ClassFile.FieldType.int) ∈ ut := ut_of 869 (by decide +kernel) (by decide +kernel)
theorem w_ml_L_43 : Cond.methodLink RL 43 yX5_cell ∈ ut := ut_of 870 (by decide +kernel) (by decide +kernel)
theorem w_im_X5_cell : Cond.instanceMethod yX5_cell ∈ ut := ut_of 871 (by decide +kernel) (by decide +kernel)
theorem w_se_X5_cell : Cond.selects RX5 yX5_cell yX5_cell ∈ ut := ut_of 872 (by decide +kernel) (by decide +kernel)
theorem w_co_X5_cell : Cond.code yX5_cell cX5_cell 4 (Option.some Jvm.ClassFile.FieldType.int) ∈ ut := ut_of 873 (by decide +kernel) (by decide +kernel)
theorem w_ml_X5_198 : Cond.methodLink RX5 198 yX5_isCell ∈ ut := ut_of 874 (by decide +kernel) (by decide +kernel)
theorem w_im_X5_isCell : Cond.instanceMethod yX5_isCell ∈ ut := ut_of 876 (by decide +kernel) (by decide +kernel)
theorem w_co_X5_isCell : Cond.code yX5_isCell cX5_isCell 2 (Option.some Jvm.ClassFile.FieldType.boolean) ∈ ut := ut_of 877 (by decide +kernel) (by decide +kernel)
theorem w_ml_X5_142 : Cond.methodLink RX5 142 yX5_isGood ∈ ut := ut_of 878 (by decide +kernel) (by decide +kernel)
theorem w_im_X5_isGood : Cond.instanceMethod yX5_isGood ∈ ut := ut_of 880 (by decide +kernel) (by decide +kernel)
theorem w_co_X5_isGood : Cond.code yX5_isGood cX5_isGood 4 (Option.some Jvm.ClassFile.FieldType.boolean) ∈ ut := ut_of 881 (by decide +kernel) (by decide +kernel)
theorem w_ml_L_47 : Cond.methodLink RL 47 yX5_valve ∈ ut := ut_of 882 (by decide +kernel) (by decide +kernel)
theorem w_im_X5_valve : Cond.instanceMethod yX5_valve ∈ ut := ut_of 883 (by decide +kernel) (by decide +kernel)
theorem w_se_X5_valve : Cond.selects RX5 yX5_valve yX5_valve ∈ ut := ut_of 884 (by decide +kernel) (by decide +kernel)
theorem w_co_X5_valve : Cond.code yX5_valve cX5_valve 3 (Option.some Jvm.ClassFile.FieldType.int) ∈ ut := ut_of 885 (by decide +kernel) (by decide +kernel)
theorem w_ml_X5_201 : Cond.methodLink RX5 201 yX5_isValve ∈ ut := ut_of 886 (by decide +kernel) (by decide +kernel)
theorem w_im_X5_isValve : Cond.instanceMethod yX5_isValve ∈ ut := ut_of 888 (by decide +kernel) (by decide +kernel)
theorem w_co_X5_isValve : Cond.code yX5_isValve cX5_isValve 2 (Option.some Jvm.ClassFile.FieldType.boolean) ∈ ut := ut_of 889 (by decide +kernel) (by decide +kernel)
theorem w_ml_L_51 : Cond.methodLink RL 51 yX5_queue ∈ ut := ut_of 890 (by decide +kernel) (by decide +kernel)
theorem w_im_X5_queue : Cond.instanceMethod yX5_queue ∈ ut := ut_of 891 (by decide +kernel) (by decide +kernel)
theorem w_se_X5_queue : Cond.selects RX5 yX5_queue yX5_queue ∈ ut := ut_of 892 (by decide +kernel) (by decide +kernel)
theorem w_co_X5_queue : Cond.code yX5_queue cX5_queue 2 (Option.some Jvm.ClassFile.FieldType.int) ∈ ut := ut_of 893 (by decide +kernel) (by decide +kernel)
theorem w_ml_L_55 : Cond.methodLink RL 55 yX5_step ∈ ut := ut_of 894 (by decide +kernel) (by decide +kernel)
theorem w_im_X5_step : Cond.instanceMethod yX5_step ∈ ut := ut_of 895 (by decide +kernel) (by decide +kernel)
theorem w_se_X5_step : Cond.selects RX5 yX5_step yX5_step ∈ ut := ut_of 896 (by decide +kernel) (by decide +kernel)
theorem w_co_X5_step : Cond.code yX5_step cX5_step 2 (Option.some Jvm.ClassFile.FieldType.int) ∈ ut := ut_of 897 (by decide +kernel) (by decide +kernel)
theorem w_ml_X5_207 : Cond.methodLink RX5 207 yX5_note ∈ ut := ut_of 898 (by decide +kernel) (by decide +kernel)
theorem w_im_X5_note : Cond.instanceMethod yX5_note ∈ ut := ut_of 900 (by decide +kernel) (by decide +kernel)
theorem w_co_X5_note : Cond.code yX5_note cX5_note 2 (Option.none : Option Jvm.ClassFile.FieldType) ∈ ut := ut_of 901 (by decide +kernel) (by decide +kernel)
theorem w_ml_X5_210 : Cond.methodLink RX5 210 yX5_goOn ∈ ut := ut_of 902 (by decide +kernel) (by decide +kernel)
theorem w_im_X5_goOn : Cond.instanceMethod yX5_goOn ∈ ut := ut_of 904 (by decide +kernel) (by decide +kernel)
theorem w_co_X5_goOn : Cond.code yX5_goOn cX5_goOn 4 (Option.some Jvm.ClassFile.FieldType.int) ∈ ut := ut_of 905 (by decide +kernel) (by decide +kernel)
theorem w_ml_X5_184 : Cond.methodLink RX5 184 yX5_stepBy ∈ ut := ut_of 906 (by decide +kernel) (by decide +kernel)
theorem w_im_X5_stepBy : Cond.instanceMethod yX5_stepBy ∈ ut := ut_of 908 (by decide +kernel) (by decide +kernel)
theorem w_co_X5_stepBy : Cond.code yX5_stepBy cX5_stepBy 3 (Option.none : Option Jvm.ClassFile.FieldType) ∈ ut := ut_of 909 (by decide +kernel) (by decide +kernel)
theorem w_ml_X5_164 : Cond.methodLink RX5 164 yX5_leave ∈ ut := ut_of 910 (by decide +kernel) (by decide +kernel)
theorem w_im_X5_leave : Cond.instanceMethod yX5_leave ∈ ut := ut_of 912 (by decide +kernel) (by decide +kernel)
theorem w_co_X5_leave : Cond.code yX5_leave cX5_leave 4 (Option.none : Option Jvm.ClassFile.FieldType) ∈ ut := ut_of 913 (by decide +kernel) (by decide +kernel)
theorem w_ml_X5_149 : Cond.methodLink RX5 149 yX5_empty ∈ ut := ut_of 914 (by decide +kernel) (by decide +kernel)
theorem w_im_X5_empty : Cond.instanceMethod yX5_empty ∈ ut := ut_of 916 (by decide +kernel) (by decide +kernel)
theorem w_co_X5_empty : Cond.code yX5_empty cX5_empty 4 (Option.none : Option Jvm.ClassFile.FieldType) ∈ ut := ut_of 917 (by decide +kernel) (by decide +kernel)
theorem w_ml_X5_167 : Cond.methodLink RX5 167 yX5_moveOn ∈ ut := ut_of 918 (by decide +kernel) (by decide +kernel)
theorem w_im_X5_moveOn : Cond.instanceMethod yX5_moveOn ∈ ut := ut_of 920 (by decide +kernel) (by decide +kernel)
theorem w_co_X5_moveOn : Cond.code yX5_moveOn cX5_moveOn 4 (Option.none : Option Jvm.ClassFile.FieldType) ∈ ut := ut_of 921 (by decide +kernel) (by decide +kernel)
theorem w_ml_X5_153 : Cond.methodLink RX5 153 yX5_slipOn ∈ ut := ut_of 922 (by decide +kernel) (by decide +kernel)
theorem w_im_X5_slipOn : Cond.instanceMethod yX5_slipOn ∈ ut := ut_of 924 (by decide +kernel) (by decide +kernel)
theorem w_co_X5_slipOn : Cond.code yX5_slipOn cX5_slipOn 3 (Option.none : Option Jvm.ClassFile.FieldType) ∈ ut := ut_of 925 (by decide +kernel) (by decide +kernel)
theorem w_ml_X5_170 : Cond.methodLink RX5 170 yX5_fillOn ∈ ut := ut_of 926 (by decide +kernel) (by decide +kernel)
theorem w_im_X5_fillOn : Cond.instanceMethod yX5_fillOn ∈ ut := ut_of 928 (by decide +kernel) (by decide +kernel)
theorem w_co_X5_fillOn : Cond.code yX5_fillOn cX5_fillOn 4 (Option.none : Option Jvm.ClassFile.FieldType) ∈ ut := ut_of 929 (by decide +kernel) (by decide +kernel)
theorem w_ml_X5_157 : Cond.methodLink RX5 157 yX5_has ∈ ut := ut_of 930 (by decide +kernel) (by decide +kernel)
theorem w_st_X5_has : Cond.static yX5_has ∈ ut := ut_of 931 (by decide +kernel) (by decide +kernel)
theorem w_co_X5_has : Cond.code yX5_has cX5_has 2 (Option.some Jvm.ClassFile.FieldType.boolean) ∈ ut := ut_of 932 (by decide +kernel) (by decide +kernel)
theorem w_ml_X5_160 : Cond.methodLink RX5 160 yX5_held ∈ ut := ut_of 933 (by decide +kernel) (by decide +kernel)
theorem w_st_X5_held : Cond.static yX5_held ∈ ut := ut_of 934 (by decide +kernel) (by decide +kernel)
theorem w_co_X5_held : Cond.code yX5_held cX5_held 1 (Option.some Jvm.ClassFile.FieldType.int) ∈ ut := ut_of 935 (by decide +kernel) (by decide +kernel)
theorem w_ml_X5_173 : Cond.methodLink RX5 173 yX5_dress ∈ ut := ut_of 936 (by decide +kernel) (by decide +kernel)
theorem w_im_X5_dress : Cond.instanceMethod yX5_dress ∈ ut := ut_of 938 (by decide +kernel) (by decide +kernel)
theorem w_co_X5_dress : Cond.code yX5_dress cX5_dress 5 (Option.none : Option Jvm.ClassFile.FieldType) ∈ ut := ut_of 939 (by decide +kernel) (by decide +kernel)
theorem w_ml_X5_177 : Cond.methodLink RX5 177 yX5_check ∈ ut := ut_of 940 (by decide +kernel) (by decide +kernel)
theorem w_im_X5_check : Cond.instanceMethod yX5_check ∈ ut := ut_of 942 (by decide +kernel) (by decide +kernel)
theorem w_co_X5_check : Cond.code yX5_check cX5_check 3 (Option.none : Option Jvm.ClassFile.FieldType) ∈ ut := ut_of 943 (by decide +kernel) (by decide +kernel)
theorem w_ml_X5_180 : Cond.methodLink RX5 180 yX5_push ∈ ut := ut_of 944 (by decide +kernel) (by decide +kernel)
theorem w_im_X5_push : Cond.instanceMethod yX5_push ∈ ut := ut_of 946 (by decide +kernel) (by decide +kernel)
theorem w_co_X5_push : Cond.code yX5_push cX5_push 5 (Option.none : Option Jvm.ClassFile.FieldType) ∈ ut := ut_of 947 (by decide +kernel) (by decide +kernel)
theorem w_ml_L_59 : Cond.methodLink RL 59 yX5_slip ∈ ut := ut_of 948 (by decide +kernel) (by decide +kernel)
theorem w_im_X5_slip : Cond.instanceMethod yX5_slip ∈ ut := ut_of 949 (by decide +kernel) (by decide +kernel)
theorem w_se_X5_slip : Cond.selects RX5 yX5_slip yX5_slip ∈ ut := ut_of 950 (by decide +kernel) (by decide +kernel)
theorem w_co_X5_slip : Cond.code yX5_slip cX5_slip 1 (Option.some Jvm.ClassFile.FieldType.int) ∈ ut := ut_of 951 (by decide +kernel) (by decide +kernel)
theorem w_ml_X5_213 : Cond.methodLink RX5 213 yX5_marks ∈ ut := ut_of 952 (by decide +kernel) (by decide +kernel)
theorem w_im_X5_marks : Cond.instanceMethod yX5_marks ∈ ut := ut_of 954 (by decide +kernel) (by decide +kernel)
theorem w_co_X5_marks : Cond.code yX5_marks cX5_marks 4 (Option.some Jvm.ClassFile.FieldType.int) ∈ ut := ut_of 955 (by decide +kernel) (by decide +kernel)
theorem w_ml_L_63 : Cond.methodLink RL 63 yX5_jam ∈ ut := ut_of 956 (by decide +kernel) (by decide +kernel)
theorem w_im_X5_jam : Cond.instanceMethod yX5_jam ∈ ut := ut_of 957 (by decide +kernel) (by decide +kernel)
theorem w_se_X5_jam : Cond.selects RX5 yX5_jam yX5_jam ∈ ut := ut_of 958 (by decide +kernel) (by decide +kernel)
theorem w_co_X5_jam : Cond.code yX5_jam cX5_jam 1 (Option.some Jvm.ClassFile.FieldType.int) ∈ ut := ut_of 959 (by decide +kernel) (by decide +kernel)
theorem w_ml_L_67 : Cond.methodLink RL 67 yX5_clear ∈ ut := ut_of 960 (by decide +kernel) (by decide +kernel)
theorem w_im_X5_clear : Cond.instanceMethod yX5_clear ∈ ut := ut_of 961 (by decide +kernel) (by decide +kernel)
theorem w_se_X5_clear : Cond.selects RX5 yX5_clear yX5_clear ∈ ut := ut_of 962 (by decide +kernel) (by decide +kernel)
theorem w_co_X5_clear : Cond.code yX5_clear cX5_clear 1 (Option.some Jvm.ClassFile.FieldType.int) ∈ ut := ut_of 963 (by decide +kernel) (by decide +kernel)
theorem w_ml_X5_216 : Cond.methodLink RX5 216 yX5_clearOn ∈ ut := ut_of 964 (by decide +kernel) (by decide +kernel)
theorem w_im_X5_clearOn : Cond.instanceMethod yX5_clearOn ∈ ut := ut_of 966 (by decide +kernel) (by decide +kernel)
theorem w_co_X5_clearOn : Cond.code yX5_clearOn cX5_clearOn 4 (Option.some Jvm.ClassFile.FieldType.int) ∈ ut := ut_of 967 (by decide +kernel) (by decide +kernel)
theorem w_ml_L_71 : Cond.methodLink RL 71 yX5_restart ∈ ut := ut_of 968 (by decide +kernel) (by decide +kernel)
theorem w_im_X5_restart : Cond.instanceMethod yX5_restart ∈ ut := ut_of 969 (by decide +kernel) (by decide +kernel)
theorem w_se_X5_restart : Cond.selects RX5 yX5_restart yX5_restart ∈ ut := ut_of 970 (by decide +kernel) (by decide +kernel)
theorem w_co_X5_restart : Cond.code yX5_restart cX5_restart 1 (Option.some Jvm.ClassFile.FieldType.int) ∈ ut := ut_of 971 (by decide +kernel) (by decide +kernel)
theorem w_ml_X5_219 : Cond.methodLink RX5 219 yX5_restartOn ∈ ut := ut_of 972 (by decide +kernel) (by decide +kernel)
theorem w_im_X5_restartOn : Cond.instanceMethod yX5_restartOn ∈ ut := ut_of 974 (by decide +kernel) (by decide +kernel)
theorem w_co_X5_restartOn : Cond.code yX5_restartOn cX5_restartOn 3 (Option.none : Option Jvm.ClassFile.FieldType) ∈ ut := ut_of 975 (by decide +kernel) (by decide +kernel)
theorem w_ml_L_76 : Cond.methodLink RL 76 yX5_lay ∈ ut := ut_of 976 (by decide +kernel) (by decide +kernel)
theorem w_im_X5_lay : Cond.instanceMethod yX5_lay ∈ ut := ut_of 977 (by decide +kernel) (by decide +kernel)
theorem w_se_X5_lay : Cond.selects RX5 yX5_lay yX5_lay ∈ ut := ut_of 978 (by decide +kernel) (by decide +kernel)
theorem w_co_X5_lay : Cond.code yX5_lay cX5_lay 4 (Option.some Jvm.ClassFile.FieldType.int) ∈ ut := ut_of 979 (by decide +kernel) (by decide +kernel)
theorem w_ml_L_80 : Cond.methodLink RL 80 yX5_set ∈ ut := ut_of 980 (by decide +kernel) (by decide +kernel)
theorem w_im_X5_set : Cond.instanceMethod yX5_set ∈ ut := ut_of 981 (by decide +kernel) (by decide +kernel)
theorem w_se_X5_set : Cond.selects RX5 yX5_set yX5_set ∈ ut := ut_of 982 (by decide +kernel) (by decide +kernel)
theorem w_co_X5_set : Cond.code yX5_set cX5_set 4 (Option.some Jvm.ClassFile.FieldType.int) ∈ ut := ut_of 983 (by decide +kernel) (by decide +kernel)
theorem w_ml_L_84 : Cond.methodLink RL 84 yX5_come ∈ ut := ut_of 984 (by decide +kernel) (by decide +kernel)
theorem w_im_X5_come : Cond.instanceMethod yX5_come ∈ ut := ut_of 985 (by decide +kernel) (by decide +kernel)
theorem w_se_X5_come : Cond.selects RX5 yX5_come yX5_come ∈ ut := ut_of 986 (by decide +kernel) (by decide +kernel)
theorem w_co_X5_come : Cond.code yX5_come cX5_come 2 (Option.some Jvm.ClassFile.FieldType.int) ∈ ut := ut_of 987 (by decide +kernel) (by decide +kernel)
theorem w_ml_L_88 : Cond.methodLink RL 88 yX5_undo ∈ ut := ut_of 988 (by decide +kernel) (by decide +kernel)
theorem w_im_X5_undo : Cond.instanceMethod yX5_undo ∈ ut := ut_of 989 (by decide +kernel) (by decide +kernel)
theorem w_se_X5_undo : Cond.selects RX5 yX5_undo yX5_undo ∈ ut := ut_of 990 (by decide +kernel) (by decide +kernel)
theorem w_co_X5_undo : Cond.code yX5_undo cX5_undo 2 (Option.some Jvm.ClassFile.FieldType.int) ∈ ut := ut_of 991 (by decide +kernel) (by decide +kernel)
theorem w_ml_L_92 : Cond.methodLink RL 92 yX5_ahead ∈ ut := ut_of 992 (by decide +kernel) (by decide +kernel)
theorem w_im_X5_ahead : Cond.instanceMethod yX5_ahead ∈ ut := ut_of 993 (by decide +kernel) (by decide +kernel)
theorem w_se_X5_ahead : Cond.selects RX5 yX5_ahead yX5_ahead ∈ ut := ut_of 994 (by decide +kernel) (by decide +kernel)
theorem w_co_X5_ahead : Cond.code yX5_ahead cX5_ahead 3 (Option.some Jvm.ClassFile.FieldType.int) ∈ ut := ut_of 995 (by decide +kernel) (by decide +kernel)
theorem w_ml_X5_222 : Cond.methodLink RX5 222 yX5_copy ∈ ut := ut_of 996 (by decide +kernel) (by decide +kernel)
theorem w_st_X5_copy : Cond.static yX5_copy ∈ ut := ut_of 997 (by decide +kernel) (by decide +kernel)
theorem w_co_X5_copy : Cond.code yX5_copy cX5_copy 3 (Option.none : Option Jvm.ClassFile.FieldType) ∈ ut := ut_of 998 (by decide +kernel) (by decide +kernel)
theorem w_ml_L_96 : Cond.methodLink RL 96 yX5_goes ∈ ut := ut_of 999 (by decide +kernel) (by decide +kernel)
theorem w_im_X5_goes : Cond.instanceMethod yX5_goes ∈ ut := ut_of 1000 (by decide +kernel) (by decide +kernel)
theorem w_se_X5_goes : Cond.selects RX5 yX5_goes yX5_goes ∈ ut := ut_of 1001 (by decide +kernel) (by decide +kernel)
theorem w_co_X5_goes : Cond.code yX5_goes cX5_goes 5 (Option.some Jvm.ClassFile.FieldType.int) ∈ ut := ut_of 1002 (by decide +kernel) (by decide +kernel)
theorem w_ml_L_100 : Cond.methodLink RL 100 yX5_best ∈ ut := ut_of 1003 (by decide +kernel) (by decide +kernel)
theorem w_im_X5_best : Cond.instanceMethod yX5_best ∈ ut := ut_of 1004 (by decide +kernel) (by decide +kernel)
theorem w_se_X5_best : Cond.selects RX5 yX5_best yX5_best ∈ ut := ut_of 1005 (by decide +kernel) (by decide +kernel)
theorem w_co_X5_best : Cond.code yX5_best cX5_best 5 (Option.some Jvm.ClassFile.FieldType.int) ∈ ut := ut_of 1006 (by decide +kernel) (by decide +kernel)
theorem w_ml_L_105 : Cond.methodLink RL 105 yX5_needs ∈ ut := ut_of 1007 (by decide +kernel) (by decide +kernel)
theorem w_im_X5_needs : Cond.instanceMethod yX5_needs ∈ ut := ut_of 1008 (by decide +kernel) (by decide +kernel)
theorem w_se_X5_needs : Cond.selects RX5 yX5_needs yX5_needs ∈ ut := ut_of 1009 (by decide +kernel) (by decide +kernel)
theorem w_co_X5_needs : Cond.code yX5_needs cX5_needs 5 (Option.some Jvm.ClassFile.FieldType.int) ∈ ut := ut_of 1010 (by decide +kernel) (by decide +kernel)
theorem w_ml_X5_226 : Cond.methodLink RX5 226 yX5_outWith ∈ ut := ut_of 1011 (by decide +kernel) (by decide +kernel)
theorem w_im_X5_outWith : Cond.instanceMethod yX5_outWith ∈ ut := ut_of 1013 (by decide +kernel) (by decide +kernel)
theorem w_co_X5_outWith : Cond.code yX5_outWith cX5_outWith 3 (Option.some Jvm.ClassFile.FieldType.int) ∈ ut := ut_of 1014 (by decide +kernel) (by decide +kernel)
theorem w_ml_L_109 : Cond.methodLink RL 109 yX5_judge ∈ ut := ut_of 1015 (by decide +kernel) (by decide +kernel)
theorem w_im_X5_judge : Cond.instanceMethod yX5_judge ∈ ut := ut_of 1016 (by decide +kernel) (by decide +kernel)
theorem w_se_X5_judge : Cond.selects RX5 yX5_judge yX5_judge ∈ ut := ut_of 1017 (by decide +kernel) (by decide +kernel)
theorem w_co_X5_judge : Cond.code yX5_judge cX5_judge 5 (Option.some Jvm.ClassFile.FieldType.int) ∈ ut := ut_of 1018 (by decide +kernel) (by decide +kernel)
theorem w_ml_X5_230 : Cond.methodLink RX5 230 yX5_power ∈ ut := ut_of 1019 (by decide +kernel) (by decide +kernel)
theorem w_st_X5_power : Cond.static yX5_power ∈ ut := ut_of 1020 (by decide +kernel) (by decide +kernel)
theorem w_co_X5_power : Cond.code yX5_power cX5_power 4 (Option.some Jvm.ClassFile.FieldType.int) ∈ ut := ut_of 1021 (by decide +kernel) (by decide +kernel)
theorem w_ml_X5_233 : Cond.methodLink RX5 233 yX5_judged ∈ ut := ut_of 1022 (by decide +kernel) (by decide +kernel)
theorem w_im_X5_judged : Cond.instanceMethod yX5_judged ∈ ut := ut_of 1024 (by decide +kernel) (by decide +kernel)
theorem w_co_X5_judged : Cond.code yX5_judged cX5_judged 6 (Option.some Jvm.ClassFile.FieldType.boolean) ∈ ut := ut_of 1025 (by decide +kernel) (by decide +kernel)
theorem w_ml_L_114 : Cond.methodLink RL 114 yX5_see ∈ ut := ut_of 1026 (by decide +kernel) (by decide +kernel)
theorem w_im_X5_see : Cond.instanceMethod yX5_see ∈ ut := ut_of 1027 (by decide +kernel) (by decide +kernel)
theorem w_se_X5_see : Cond.selects RX5 yX5_see yX5_see ∈ ut := ut_of 1028 (by decide +kernel) (by decide +kernel)
theorem w_co_X5_see : Cond.code yX5_see cX5_see 4 (Option.some Jvm.ClassFile.FieldType.int) ∈ ut := ut_of 1029 (by decide +kernel) (by decide +kernel)
theorem w_ml_L_118 : Cond.methodLink RL 118 yX5_unsee ∈ ut := ut_of 1030 (by decide +kernel) (by decide +kernel)
theorem w_im_X5_unsee : Cond.instanceMethod yX5_unsee ∈ ut := ut_of 1031 (by decide +kernel) (by decide +kernel)
theorem w_se_X5_unsee : Cond.selects RX5 yX5_unsee yX5_unsee ∈ ut := ut_of 1032 (by decide +kernel) (by decide +kernel)
theorem w_co_X5_unsee : Cond.code yX5_unsee cX5_unsee 2 (Option.some Jvm.ClassFile.FieldType.int) ∈ ut := ut_of 1033 (by decide +kernel) (by decide +kernel)
theorem w_ml_L_122 : Cond.methodLink RL 122 yX5_which ∈ ut := ut_of 1034 (by decide +kernel) (by decide +kernel)
theorem w_im_X5_which : Cond.instanceMethod yX5_which ∈ ut := ut_of 1035 (by decide +kernel) (by decide +kernel)
theorem w_se_X5_which : Cond.selects RX5 yX5_which yX5_which ∈ ut := ut_of 1036 (by decide +kernel) (by decide +kernel)
theorem w_co_X5_which : Cond.code yX5_which cX5_which 5 (Option.some Jvm.ClassFile.FieldType.int) ∈ ut := ut_of 1037 (by decide +kernel) (by decide +kernel)
theorem w_ml_X5_236 : Cond.methodLink RX5 236 yX5_isSoBy ∈ ut := ut_of 1038 (by decide +kernel) (by decide +kernel)
theorem w_im_X5_isSoBy : Cond.instanceMethod yX5_isSoBy ∈ ut := ut_of 1040 (by decide +kernel) (by decide +kernel)
theorem w_co_X5_isSoBy : Cond.code yX5_isSoBy cX5_isSoBy 4 (Option.some Jvm.ClassFile.FieldType.boolean) ∈ ut := ut_of 1041 (by decide +kernel) (by decide +kernel)
theorem w_ml_L_127 : Cond.methodLink RL 127 yX5_share ∈ ut := ut_of 1042 (by decide +kernel) (by decide +kernel)
theorem w_im_X5_share : Cond.instanceMethod yX5_share ∈ ut := ut_of 1043 (by decide +kernel) (by decide +kernel)
theorem w_se_X5_share : Cond.selects RX5 yX5_share yX5_share ∈ ut := ut_of 1044 (by decide +kernel) (by decide +kernel)
theorem w_co_X5_share : Cond.code yX5_share cX5_share 6 (Option.some Jvm.ClassFile.FieldType.int) ∈ ut := ut_of 1045 (by decide +kernel) (by decide +kernel)
theorem w_ml_X5_239 : Cond.methodLink RX5 239 yX5_outBy ∈ ut := ut_of 1046 (by decide +kernel) (by decide +kernel)
theorem w_im_X5_outBy : Cond.instanceMethod yX5_outBy ∈ ut := ut_of 1048 (by decide +kernel) (by decide +kernel)
theorem w_co_X5_outBy : Cond.code yX5_outBy cX5_outBy 2 (Option.some Jvm.ClassFile.FieldType.int) ∈ ut := ut_of 1049 (by decide +kernel) (by decide +kernel)
theorem w_ml_X5_242 : Cond.methodLink RX5 242 yX5_ones ∈ ut := ut_of 1050 (by decide +kernel) (by decide +kernel)
theorem w_st_X5_ones : Cond.static yX5_ones ∈ ut := ut_of 1051 (by decide +kernel) (by decide +kernel)
theorem w_co_X5_ones : Cond.code yX5_ones cX5_ones 3 (Option.some Jvm.ClassFile.FieldType.int) ∈ ut := ut_of 1052 (by decide +kernel) (by decide +kernel)
theorem w_ml_X5_245 : Cond.methodLink RX5 245 yX5_factorial ∈ ut := ut_of 1053 (by decide +kernel) (by decide +kernel)
theorem w_st_X5_factorial : Cond.static yX5_factorial ∈ ut := ut_of 1054 (by decide +kernel) (by decide +kernel)
theorem w_co_X5_factorial : Cond.code yX5_factorial cX5_factorial 3 (Option.some Jvm.ClassFile.FieldType.int) ∈ ut := ut_of 1055 (by decide +kernel) (by decide +kernel)
theorem w_ml_X5_248 : Cond.methodLink RX5 248 yX5_fraction ∈ ut := ut_of 1056 (by decide +kernel) (by decide +kernel)
theorem w_st_X5_fraction : Cond.static yX5_fraction ∈ ut := ut_of 1057 (by decide +kernel) (by decide +kernel)
theorem w_co_X5_fraction : Cond.code yX5_fraction cX5_fraction 6 (Option.some Jvm.ClassFile.FieldType.int) ∈ ut := ut_of 1058 (by decide +kernel) (by decide +kernel)
theorem w_ml_L_132 : Cond.methodLink RL 132 yX5_chance ∈ ut := ut_of 1059 (by decide +kernel) (by decide +kernel)
theorem w_im_X5_chance : Cond.instanceMethod yX5_chance ∈ ut := ut_of 1060 (by decide +kernel) (by decide +kernel)
theorem w_se_X5_chance : Cond.selects RX5 yX5_chance yX5_chance ∈ ut := ut_of 1061 (by decide +kernel) (by decide +kernel)
theorem w_co_X5_chance : Cond.code yX5_chance cX5_chance 7 (Option.some Jvm.ClassFile.FieldType.int) ∈ ut := ut_of 1062 (by decide +kernel) (by decide +kernel)
theorem w_ml_L_139 : Cond.methodLink RL 139 yX5_seed ∈ ut := ut_of 1063 (by decide +kernel) (by decide +kernel)
theorem w_im_X5_seed : Cond.instanceMethod yX5_seed ∈ ut := ut_of 1064 (by decide +kernel) (by decide +kernel)
theorem w_se_X5_seed : Cond.selects RX5 yX5_seed yX5_seed ∈ ut := ut_of 1065 (by decide +kernel) (by decide +kernel)
theorem w_co_X5_seed : Cond.code yX5_seed cX5_seed 5 (Option.some Jvm.ClassFile.FieldType.long) ∈ ut := ut_of 1066 (by decide +kernel) (by decide +kernel)
theorem w_ml_L_143 : Cond.methodLink RL 143 yX5_drawn ∈ ut := ut_of 1067 (by decide +kernel) (by decide +kernel)
theorem w_im_X5_drawn : Cond.instanceMethod yX5_drawn ∈ ut := ut_of 1068 (by decide +kernel) (by decide +kernel)
theorem w_se_X5_drawn : Cond.selects RX5 yX5_drawn yX5_drawn ∈ ut := ut_of 1069 (by decide +kernel) (by decide +kernel)
theorem w_co_X5_drawn : Cond.code yX5_drawn cX5_drawn 5 (Option.some Jvm.ClassFile.FieldType.int) ∈ ut := ut_of 1070 (by decide +kernel) (by decide +kernel)
theorem w_k_X5_256 : Cond.constantLong RX5 256 6364136223846793005 ∈ ut := ut_of 1071 (by decide +kernel) (by decide +kernel)
theorem w_k_X5_258 : Cond.constantLong RX5 258 1442695040888963407 ∈ ut := ut_of 1072 (by decide +kernel) (by decide +kernel)
theorem w_ml_L_147 : Cond.methodLink RL 147 yX5_keep ∈ ut := ut_of 1073 (by decide +kernel) (by decide +kernel)
theorem w_im_X5_keep : Cond.instanceMethod yX5_keep ∈ ut := ut_of 1074 (by decide +kernel) (by decide +kernel)
theorem w_se_X5_keep : Cond.selects RX5 yX5_keep yX5_keep ∈ ut := ut_of 1075 (by decide +kernel) (by decide +kernel)
theorem w_co_X5_keep : Cond.code yX5_keep cX5_keep 3 (Option.some Jvm.ClassFile.FieldType.int) ∈ ut := ut_of 1076 (by decide +kernel) (by decide +kernel)
theorem w_ml_L_151 : Cond.methodLink RL 151 yX5_again ∈ ut := ut_of 1077 (by decide +kernel) (by decide +kernel)
theorem w_im_X5_again : Cond.instanceMethod yX5_again ∈ ut := ut_of 1078 (by decide +kernel) (by decide +kernel)
theorem w_se_X5_again : Cond.selects RX5 yX5_again yX5_again ∈ ut := ut_of 1079 (by decide +kernel) (by decide +kernel)
theorem w_co_X5_again : Cond.code yX5_again cX5_again 3 (Option.some Jvm.ClassFile.FieldType.int) ∈ ut := ut_of 1080 (by decide +kernel) (by decide +kernel)
theorem w_k_L_133 : Cond.constantLong RL 133 4294967295 ∈ ut := ut_of 1081 (by decide +kernel) (by decide +kernel)
def nl : List (String × Nat × MethodName × String) := [(RX4, 15, yX2_init, RX4), (RX2, 56, yX4_isWithin, RX4), (RX3, 75, yX4_asNumber, RX4), (RX1, 40, yX4_isWithin, RX4), (RX3, 162, yX4_limited, RX4)]
theorem w_ml_X4_15 : (RX4, 15, yX2_init, RX4) ∈ nl := List.mem_of_getElem? (i := 0) rfl
theorem w_ml_X4_15_t : Cond.methodLinkNest RX4 15 yX2_init RX4 ∈ lw_tbl := List.mem_of_getElem? (i := 79) (by decide +kernel)
theorem w_ml_X2_56 : (RX2, 56, yX4_isWithin, RX4) ∈ nl := List.mem_of_getElem? (i := 1) rfl
theorem w_ml_X2_56_t : Cond.methodLinkNest RX2 56 yX4_isWithin RX4 ∈ lw_tbl := List.mem_of_getElem? (i := 320) (by decide +kernel)
theorem w_ml_X3_75 : (RX3, 75, yX4_asNumber, RX4) ∈ nl := List.mem_of_getElem? (i := 2) rfl
theorem w_ml_X3_75_t : Cond.methodLinkNest RX3 75 yX4_asNumber RX4 ∈ lw_tbl := List.mem_of_getElem? (i := 396) (by decide +kernel)
theorem w_ml_X1_40 : (RX1, 40, yX4_isWithin, RX4) ∈ nl := List.mem_of_getElem? (i := 3) rfl
theorem w_ml_X1_40_t : Cond.methodLinkNest RX1 40 yX4_isWithin RX4 ∈ lw_tbl := List.mem_of_getElem? (i := 415) (by decide +kernel)
theorem w_ml_X3_162 : (RX3, 162, yX4_limited, RX4) ∈ nl := List.mem_of_getElem? (i := 4) rfl
theorem w_ml_X3_162_t : Cond.methodLinkNest RX3 162 yX4_limited RX4 ∈ lw_tbl := List.mem_of_getElem? (i := 501) (by decide +kernel)
theorem w_ac_native : Cond.native arraycopyName ∈ ut := ut_of 378 (by decide +kernel) (by decide +kernel)
theorem w_ac_static : Cond.static arraycopyName ∈ ut := ut_of 377 (by decide +kernel) (by decide +kernel)
theorem in_X1 : ∀ w ∈ u_ws RX1 TX1 7, w ∈ ut := fun w h => by
  have hg : (u_ws RX1 TX1 7).all goodWord = true := by decide +kernel
  have hp : u_ws RX1 TX1 7 = ([116, 118, 120, 122, 124, 126, 128] : List Nat).filterMap (fun i => lw_tbl[i]?) := by decide +kernel
  have h1 := List.all_eq_true.mp hg w h
  rw [hp] at h
  obtain ⟨i, -, hi⟩ := List.mem_filterMap.mp h
  exact ut_of i hi h1
theorem in_X2 : ∀ w ∈ u_ws RX2 TX2 6, w ∈ ut := fun w h => by
  have hg : (u_ws RX2 TX2 6).all goodWord = true := by decide +kernel
  have hp : u_ws RX2 TX2 6 = ([218, 220, 222, 224, 226, 228] : List Nat).filterMap (fun i => lw_tbl[i]?) := by decide +kernel
  have h1 := List.all_eq_true.mp hg w h
  rw [hp] at h
  obtain ⟨i, -, hi⟩ := List.mem_filterMap.mp h
  exact ut_of i hi h1
theorem in_X3 : ∀ w ∈ u_ws RX3 TX3 18, w ∈ ut := fun w h => by
  have hg : (u_ws RX3 TX3 18).all goodWord = true := by decide +kernel
  have hp : u_ws RX3 TX3 18 = ([173, 175, 177, 179, 181, 183, 185, 187, 189, 191, 193, 195, 197, 199, 201, 203, 205, 207] : List Nat).filterMap (fun i => lw_tbl[i]?) := by decide +kernel
  have h1 := List.all_eq_true.mp hg w h
  rw [hp] at h
  obtain ⟨i, -, hi⟩ := List.mem_filterMap.mp h
  exact ut_of i hi h1
theorem in_X4 : ∀ w ∈ u_ws RX4 TX4 16, w ∈ ut := fun w h => by
  have hg : (u_ws RX4 TX4 16).all goodWord = true := by decide +kernel
  have hp : u_ws RX4 TX4 16 = ([252, 254, 256, 258, 260, 262, 264, 266, 268, 270, 272, 274, 276, 278, 280, 282] : List Nat).filterMap (fun i => lw_tbl[i]?) := by decide +kernel
  have h1 := List.all_eq_true.mp hg w h
  rw [hp] at h
  obtain ⟨i, -, hi⟩ := List.mem_filterMap.mp h
  exact ut_of i hi h1
theorem in_X5 : ∀ w ∈ u_ws RX5 TX5 38, w ∈ ut := fun w h => by
  have hg : (u_ws RX5 TX5 38).all goodWord = true := by decide +kernel
  have hp : u_ws RX5 TX5 38 = ([730, 732, 734, 736, 738, 740, 742, 744, 746, 748, 750, 752, 754, 756, 758, 760, 762, 764, 766, 768, 770, 772, 774, 776, 778, 780, 782, 784, 786, 788, 790, 792, 794, 796, 798, 800, 802, 804] : List Nat).filterMap (fun i => lw_tbl[i]?) := by decide +kernel
  have h1 := List.all_eq_true.mp hg w h
  rw [hp] at h
  obtain ⟨i, -, hi⟩ := List.mem_filterMap.mp h
  exact ut_of i hi h1
end
section
-- the pure heap: by place and slot, ints (and booleans as ints); longs by place
abbrev PH : Type := (Nat → Nat → Int32) × (Nat → Int64)
-- classes, their slots; the array classes of int, boolean, State; the address of each place
abbrev GG : Type := va_G × ClassId × ClassId × ClassId × (Nat → Nat)
def kds : List Nat := [3, 5, 7, 7, 6, 5, 5, 5, 1, 0, 5, 5, 0, 5, 5, 2, 5, 5, 5, 5, 2, 5, 5, 5, 5, 2, 5, 5, 5, 5, 2, 5, 5, 5, 5, 2, 5, 5, 5, 5, 2, 5, 5, 5, 5, 2, 5, 5, 5, 5, 2, 5, 5, 5, 5, 2, 5, 5, 5, 5, 2, 5, 5, 5, 5, 2, 5, 5, 5, 5, 2, 5, 5, 5, 5, 2, 5, 5, 5, 5, 2, 5, 5, 5, 5, 2, 5, 5, 5, 5, 2, 5, 5, 5, 5, 2, 5, 5, 5, 5, 2, 5, 5, 5, 5, 2, 5, 5, 5, 5, 4, 5, 5, 5, 5, 5, 5, 5, 6, 5, 5, 5, 5, 5, 5, 5, 5, 5]
def als : List Nat := [0, 90, 14, 2, 2, 6, 6, 6, 0, 0, 5, 4, 0, 5, 4, 0, 9, 9, 4, 24, 0, 9, 9, 4, 24, 0, 9, 9, 4, 24, 0, 9, 9, 4, 24, 0, 9, 9, 4, 24, 0, 9, 9, 4, 24, 0, 9, 9, 4, 24, 0, 9, 9, 4, 24, 0, 9, 9, 4, 24, 0, 9, 9, 4, 24, 0, 9, 9, 4, 24, 0, 9, 9, 4, 24, 0, 9, 9, 4, 24, 0, 9, 9, 4, 24, 0, 9, 9, 4, 24, 0, 9, 9, 4, 24, 0, 9, 9, 4, 24, 0, 9, 9, 4, 24, 0, 9, 9, 4, 24, 0, 90, 5, 4, 103, 103, 1442, 206, 2, 6, 6, 6, 16, 6, 4, 4, 2, 24]
def kd (k : Nat) : Nat := kds.getD k 99
def al (k : Nat) : Nat := als.getD k 0
def pl_of (k : Nat) : Nat := if k = 15 then 9 else 12
def sta (k j : Nat) : Nat := if k = 2 then 30 + 5 * j else 100 + 5 * j
def si (h : PH) (k i : Nat) (v : Int32) : PH := (fun a b => if a = k ∧ b = i then v else h.1 a b, h.2)
def sa (h : PH) (k : Nat) (f : Nat → Int32) : PH := (fun a => if a = k then f else h.1 a, h.2)
def sl (h : PH) (k : Nat) (v : Int64) : PH := (h.1, fun a => if a = k then v else h.2 a)
abbrev tys (G : GG) : List (ClassId × FieldType) := [(G.2.1, .int), (G.2.2.1, .boolean), (G.2.2.2.1, .object "BottleLine$State")]
def ce (G : GG) (h : PH) (k : Nat) : va_E := match kd k with
  | 0 => .inr (0, [.int (h.1 k 0), .ref (G.2.2.2.2 (k + 1)), .int (h.1 k 2), .int (h.1 k 3), .int (h.1 k 4), .int (h.1 k 5), .ref (G.2.2.2.2 (k + 2))])
  | 1 => .inr (1, [.ref (G.2.2.2.2 9), .ref (G.2.2.2.2 15), .int (h.1 k 2), .int (h.1 k 3), .int (h.1 k 4), .int (h.1 k 5)])
  | 2 => .inr (2, [.ref (G.2.2.2.2 (pl_of k)), .ref (G.2.2.2.2 (k + 1)), .ref (G.2.2.2.2 (k + 2)), .ref (G.2.2.2.2 (k + 3)), .int (h.1 k 4), .ref (G.2.2.2.2 (k + 4)), .int (h.1 k 6), .int (h.1 k 7), .int (h.1 k 8), .int (h.1 k 9), .int (h.1 k 10), .int (h.1 k 11), .int (h.1 k 12), .int (h.1 k 13), .int (h.1 k 14), .int (h.1 k 15), .int (h.1 k 16), .int (h.1 k 17)])
  | 3 => .inr (3, [.ref (G.2.2.2.2 1), .int (h.1 k 1), .ref (G.2.2.2.2 8), .ref (G.2.2.2.2 12), .ref (G.2.2.2.2 20), .ref (G.2.2.2.2 25), .ref (G.2.2.2.2 2), .int (h.1 k 7), .int (h.1 k 8), .ref (G.2.2.2.2 3), .ref (G.2.2.2.2 4), .ref (G.2.2.2.2 5), .ref (G.2.2.2.2 6), .ref (G.2.2.2.2 7), .int (h.1 k 14), .long (h.2 k)])
  | 4 => .inr (4, [.ref (G.2.2.2.2 111), .int (h.1 k 1), .int (h.1 k 2), .ref (G.2.2.2.2 112), .int (h.1 k 4), .int (h.1 k 5), .int (h.1 k 6), .int (h.1 k 7), .ref (G.2.2.2.2 113), .ref (G.2.2.2.2 114), .ref (G.2.2.2.2 115), .ref (G.2.2.2.2 116), .int (h.1 k 12), .int (h.1 k 13), .ref (G.2.2.2.2 117), .ref (G.2.2.2.2 118), .ref (G.2.2.2.2 119), .ref (G.2.2.2.2 120), .ref (G.2.2.2.2 121), .int (h.1 k 19), .long (h.2 k), .int (h.1 k 21), .int (h.1 k 22), .int (h.1 k 23), .ref (G.2.2.2.2 122), .ref (G.2.2.2.2 123), .int (h.1 k 26), .int (h.1 k 27), .int (h.1 k 28), .int (h.1 k 29), .ref (G.2.2.2.2 124), .ref (G.2.2.2.2 125), .ref (G.2.2.2.2 126), .int (h.1 k 33), .ref (G.2.2.2.2 127), .int (h.1 k 35), .int (h.1 k 36), .int (h.1 k 37)])
  | 5 => .inl (G.2.1, al k, .inl (h.1 k))
  | 6 => .inl (G.2.2.1, al k, .inl (h.1 k))
  | _ => .inl (G.2.2.2.1, al k, .inr (.inr (.inr (.inr (fun j => some (G.2.2.2.2 (sta k j)))))))
theorem ce_0 {G : GG} {h : PH} {k : Nat} (hk : kd k = 0) : ce G h k = .inr (0, [.int (h.1 k 0), .ref (G.2.2.2.2 (k + 1)), .int (h.1 k 2), .int (h.1 k 3), .int (h.1 k 4), .int (h.1 k 5), .ref (G.2.2.2.2 (k + 2))]) := by simp only [ce, hk]
theorem ce_1 {G : GG} {h : PH} {k : Nat} (hk : kd k = 1) : ce G h k = .inr (1, [.ref (G.2.2.2.2 9), .ref (G.2.2.2.2 15), .int (h.1 k 2), .int (h.1 k 3), .int (h.1 k 4), .int (h.1 k 5)]) := by simp only [ce, hk]
theorem ce_2 {G : GG} {h : PH} {k : Nat} (hk : kd k = 2) : ce G h k = .inr (2, [.ref (G.2.2.2.2 (pl_of k)), .ref (G.2.2.2.2 (k + 1)), .ref (G.2.2.2.2 (k + 2)), .ref (G.2.2.2.2 (k + 3)), .int (h.1 k 4), .ref (G.2.2.2.2 (k + 4)), .int (h.1 k 6), .int (h.1 k 7), .int (h.1 k 8), .int (h.1 k 9), .int (h.1 k 10), .int (h.1 k 11), .int (h.1 k 12), .int (h.1 k 13), .int (h.1 k 14), .int (h.1 k 15), .int (h.1 k 16), .int (h.1 k 17)]) := by simp only [ce, hk]
theorem ce_3 {G : GG} {h : PH} {k : Nat} (hk : kd k = 3) : ce G h k = .inr (3, [.ref (G.2.2.2.2 1), .int (h.1 k 1), .ref (G.2.2.2.2 8), .ref (G.2.2.2.2 12), .ref (G.2.2.2.2 20), .ref (G.2.2.2.2 25), .ref (G.2.2.2.2 2), .int (h.1 k 7), .int (h.1 k 8), .ref (G.2.2.2.2 3), .ref (G.2.2.2.2 4), .ref (G.2.2.2.2 5), .ref (G.2.2.2.2 6), .ref (G.2.2.2.2 7), .int (h.1 k 14), .long (h.2 k)]) := by simp only [ce, hk]
theorem ce_4 {G : GG} {h : PH} {k : Nat} (hk : kd k = 4) : ce G h k = .inr (4, [.ref (G.2.2.2.2 111), .int (h.1 k 1), .int (h.1 k 2), .ref (G.2.2.2.2 112), .int (h.1 k 4), .int (h.1 k 5), .int (h.1 k 6), .int (h.1 k 7), .ref (G.2.2.2.2 113), .ref (G.2.2.2.2 114), .ref (G.2.2.2.2 115), .ref (G.2.2.2.2 116), .int (h.1 k 12), .int (h.1 k 13), .ref (G.2.2.2.2 117), .ref (G.2.2.2.2 118), .ref (G.2.2.2.2 119), .ref (G.2.2.2.2 120), .ref (G.2.2.2.2 121), .int (h.1 k 19), .long (h.2 k), .int (h.1 k 21), .int (h.1 k 22), .int (h.1 k 23), .ref (G.2.2.2.2 122), .ref (G.2.2.2.2 123), .int (h.1 k 26), .int (h.1 k 27), .int (h.1 k 28), .int (h.1 k 29), .ref (G.2.2.2.2 124), .ref (G.2.2.2.2 125), .ref (G.2.2.2.2 126), .int (h.1 k 33), .ref (G.2.2.2.2 127), .int (h.1 k 35), .int (h.1 k 36), .int (h.1 k 37)]) := by simp only [ce, hk]
theorem ce_5 {G : GG} {h : PH} {k : Nat} (hk : kd k = 5) : ce G h k = .inl (G.2.1, al k, .inl (h.1 k)) := by simp only [ce, hk]
theorem ce_6 {G : GG} {h : PH} {k : Nat} (hk : kd k = 6) : ce G h k = .inl (G.2.2.1, al k, .inl (h.1 k)) := by simp only [ce, hk]
theorem ce_7 {G : GG} {h : PH} {k : Nat} (hk : kd k = 7) : ce G h k = .inl (G.2.2.2.1, al k, .inr (.inr (.inr (.inr (fun j => some (G.2.2.2.2 (sta k j))))))) := by simp only [ce, hk]
theorem ce_congr {G : GG} {h h' : PH} {k : Nat} (h1 : h'.1 k = h.1 k) (h2 : h'.2 k = h.2 k) : ce G h' k = ce G h k := by simp only [ce, h1, h2]
theorem kd_lt {k : Nat} (i : Nat) (hi : i < 99) (hk : kd k = i) : k < 128 := by
  refine Nat.lt_of_not_le fun hge => ?_
  have h0 : kds.length ≤ 128 := by decide +kernel
  have h1 : kds.length ≤ k := Nat.le_trans h0 hge
  unfold kd at hk
  rw [List.getD_eq_getElem?_getD, List.getElem?_eq_none h1] at hk
  have h2 : 99 = i := hk
  omega
def wd (G : GG) (h : PH) : va_W := (List.range 128).map (fun k => (G.2.2.2.2 k, ce G h k))
theorem wd_at {G : GG} {h : PH} {k : Nat} (hk : k < 128) : (wd G h)[k]? = some (G.2.2.2.2 k, ce G h k) := by
  simp only [wd, List.getElem?_map, List.getElem?_range hk, Option.map_some]
theorem wd_set {G : GG} {h h' : PH} {k : Nat} {e : va_E} (he : ce G h' k = e) (hne : ∀ j, j ≠ k → ce G h' j = ce G h j) : (wd G h).set k (G.2.2.2.2 k, e) = wd G h' := by
  apply List.ext_getElem?
  intro i
  by_cases hi : i < 128
  · rw [wd_at hi]
    by_cases hk : i = k
    · subst hk
      rw [List.getElem?_set_self (by simpa [wd] using hi), he]
    · rw [List.getElem?_set_ne (fun q => hk q.symm), wd_at hi, hne i hk]
  · rw [List.getElem?_eq_none (by simp [wd]; omega), List.getElem?_eq_none (by simp [wd]; omega)]
def injG (G : GG) : Prop := ∀ i j : Nat, i < 128 → j < 128 → G.2.2.2.2 i = G.2.2.2.2 j → i = j
def Ar (G : GG) : Nat → Prop := fun q => ∃ k : Nat, k < 128 ∧ q = G.2.2.2.2 k
theorem wd_D {G : GG} (hj : injG G) (h : PH) : va_D (Ar G) (wd G h) := by
  have key : ∀ (i : Nat) (q : Nat × va_E), (wd G h)[i]? = some q → i < 128 ∧ q.1 = G.2.2.2.2 i := by
    intro i q hq
    have hi : i < 128 := by
      have := (List.getElem?_eq_some_iff.mp hq).1
      simpa [wd] using this
    rw [wd_at hi] at hq
    exact ⟨hi, by rw [← Option.some.inj hq]⟩
  refine ⟨fun i j x y hx hy hxy => ?_, fun i q hq => ⟨i, key i q hq⟩⟩
  obtain ⟨h1, h2⟩ := key i x hx
  obtain ⟨h3, h4⟩ := key j y hy
  exact hj i j h1 h3 (by rw [← h2, ← h4, hxy])
def nws (U : State) : Prop := ∀ q ∈ nl, va_Nw (.methodLinkNest q.1 q.2.1 q.2.2.1 q.2.2.2) U
def Rp (G : GG) (h : PH) (U : State) : Prop := va_P G.1 vwCl (wd G h) U.heap ∧ va_K G.1 vwCl (tys G) U ∧ injG G
def rmh (n : Nat) : Room := { frames := n, cells := 0, slots := 0, locals := 33 * n }
def QI (G : GG) (res : Int32 × PH) : Array Value → State → Outcome → State → Prop := va_Qi (fun r (u : PH) => r = res.1 ∧ u = res.2) (fun u t => Rp G u t) (Ar G)
def QL (G : GG) (res : Int64 × PH) : Array Value → State → Outcome → State → Prop := va_Ql (fun r (u : PH) => r = res.1 ∧ u = res.2) (fun u t => Rp G u t) (Ar G)
def QV (G : GG) (res : Unit × PH) : Array Value → State → Outcome → State → Prop := va_Qv (fun (u : PH) => u = res.2) (fun u t => Rp G u t) (Ar G)
def Pq (G : GG) (As : List Value) (h : PH) : Array Value → State → Prop := va_Pc As (fun U => Rp G h U ∧ nws U)
def MI (l : Launch) (G : GG) (y : MethodName) (cc : ByteArray) (nL : Nat) (rt : FieldType) (hg : Nat) (As : List Value) (h : PH) (res : Int32 × PH) : Prop := Met l y (Cond.code y cc nL (some rt) :: ut) (rmh hg) (Pq G As h) (QI G res) 0 0 (Ar G)
def MLo (l : Launch) (G : GG) (y : MethodName) (cc : ByteArray) (nL : Nat) (hg : Nat) (As : List Value) (h : PH) (res : Int64 × PH) : Prop := Met l y (Cond.code y cc nL (some .long) :: ut) (rmh hg) (Pq G As h) (QL G res) 0 0 (Ar G)
def MV (l : Launch) (G : GG) (y : MethodName) (cc : ByteArray) (nL : Nat) (hg : Nat) (As : List Value) (h : PH) (res : Unit × PH) : Prop := Met l y (Cond.code y cc nL none :: ut) (rmh hg) (Pq G As h) (QV G res) 0 0 (Ar G)
-- the words of the pure functions
def rd {β : Type} (h : PH) (k : Nat) (i : Int32) (f : Int32 → Option β) : Option β := if i < 0 ∨ al k ≤ i.toNatClampNeg then none else f (h.1 k i.toNatClampNeg)
def rq {β : Type} (k : Nat) (i : Int32) (f : Nat → Option β) : Option β := if i < 0 ∨ al k ≤ i.toNatClampNeg then none else f (sta k i.toNatClampNeg)
def wr {β : Type} (h : PH) (k : Nat) (i v : Int32) (f : PH → Option β) : Option β := if i < 0 ∨ al k ≤ i.toNatClampNeg then none else f (si h k i.toNatClampNeg v)
def st {β : Type} (h : PH) (k i : Nat) (v : Int32) (f : PH → Option β) : Option β := f (si h k i v)
def sj {β : Type} (h : PH) (k : Nat) (v : Int64) (f : PH → Option β) : Option β := f (sl h k v)
def nz {β : Type} (y : Int32) (f : Option β) : Option β := if y = 0 then none else f
def bz {β : Type} (v : Int32) (f : Option β) : Option β := if v = 0 ∨ v = 1 then f else none
def gd {β : Type} (k i : Nat) (f : Option β) : Option β := if kd k = i then f else none
def bd {α β : Type} (o : Option (α × PH)) (f : α → PH → Option β) : Option β := match o with
  | none => none
  | some q => f q.1 q.2
def cp {β : Type} (h : PH) (k0 : Nat) (sp : Int32) (k1 : Nat) (dp n : Int32) (f : PH → Option β) : Option β := if sp < 0 ∨ dp < 0 ∨ n < 0 ∨ al k0 < sp.toNatClampNeg + n.toNatClampNeg ∨ al k1 < dp.toNatClampNeg + n.toNatClampNeg then none else f (sa h k1 (va_cpy (h.1 k0) (h.1 k1) sp.toNatClampNeg dp.toNatClampNeg n.toNatClampNeg))
theorem if_po {α : Type} {P : Prop} [Decidable P] {a b : Option α} {r : Option α} (hc : P) (hK : (if P then a else b) = r) : a = r := by rw [if_pos hc] at hK; exact hK
theorem if_ne {α : Type} {P : Prop} [Decidable P] {a b : Option α} {r : Option α} (hc : ¬ P) (hK : (if P then a else b) = r) : b = r := by rw [if_neg hc] at hK; exact hK
theorem rd_so {β : Type} {h : PH} {k : Nat} {i : Int32} {f : Int32 → Option β} {r : β} (hK : rd h k i f = some r) : ∃ x : Int32, (vp_in i (al k) ∧ x = h.1 k i.toNatClampNeg) ∧ f x = some r := by
  unfold rd at hK
  by_cases hc : i < 0 ∨ al k ≤ i.toNatClampNeg
  · rw [if_pos hc] at hK; cases hK
  · rw [if_neg hc] at hK; exact ⟨_, ⟨hc, rfl⟩, hK⟩
theorem rq_so {β : Type} {k : Nat} {i : Int32} {f : Nat → Option β} {r : β} (hK : rq k i f = some r) : ∃ x : Nat, (vp_in i (al k) ∧ x = sta k i.toNatClampNeg) ∧ f x = some r := by
  unfold rq at hK
  by_cases hc : i < 0 ∨ al k ≤ i.toNatClampNeg
  · rw [if_pos hc] at hK; cases hK
  · rw [if_neg hc] at hK; exact ⟨_, ⟨hc, rfl⟩, hK⟩
theorem wr_so {β : Type} {h : PH} {k : Nat} {i v : Int32} {f : PH → Option β} {r : β} (hK : wr h k i v f = some r) : ∃ x : PH, (vp_in i (al k) ∧ x = si h k i.toNatClampNeg v) ∧ f x = some r := by
  unfold wr at hK
  by_cases hc : i < 0 ∨ al k ≤ i.toNatClampNeg
  · rw [if_pos hc] at hK; cases hK
  · rw [if_neg hc] at hK; exact ⟨_, ⟨hc, rfl⟩, hK⟩
theorem st_so {β : Type} {h : PH} {k i : Nat} {v : Int32} {f : PH → Option β} {r : β} (hK : st h k i v f = some r) : ∃ x : PH, x = si h k i v ∧ f x = some r := ⟨_, rfl, hK⟩
theorem sj_so {β : Type} {h : PH} {k : Nat} {v : Int64} {f : PH → Option β} {r : β} (hK : sj h k v f = some r) : ∃ x : PH, x = sl h k v ∧ f x = some r := ⟨_, rfl, hK⟩
theorem nz_so {β : Type} {y : Int32} {f : Option β} {r : β} (hK : nz y f = some r) : ¬ y = 0 ∧ f = some r := by
  unfold nz at hK
  by_cases hc : y = 0
  · rw [if_pos hc] at hK; cases hK
  · rw [if_neg hc] at hK; exact ⟨hc, hK⟩
theorem bz_so {β : Type} {v : Int32} {f : Option β} {r : β} (hK : bz v f = some r) : (v = 0 ∨ v = 1) ∧ f = some r := by
  unfold bz at hK
  by_cases hc : v = 0 ∨ v = 1
  · rw [if_pos hc] at hK; exact ⟨hc, hK⟩
  · rw [if_neg hc] at hK; cases hK
theorem gd_so {β : Type} {k i : Nat} {f : Option β} {r : β} (hK : gd k i f = some r) : kd k = i ∧ f = some r := by
  unfold gd at hK
  by_cases hc : kd k = i
  · rw [if_pos hc] at hK; exact ⟨hc, hK⟩
  · rw [if_neg hc] at hK; cases hK
theorem bd_so {α β : Type} {o : Option (α × PH)} {f : α → PH → Option β} {r : β} (hK : bd o f = some r) : ∃ (x : α) (u : PH), o = some (x, u) ∧ f x u = some r := by
  cases o with
  | none => cases hK
  | some q => exact ⟨q.1, q.2, rfl, hK⟩
theorem cp_so {β : Type} {h : PH} {k0 : Nat} {sp : Int32} {k1 : Nat} {dp n : Int32} {f : PH → Option β} {r : β} (hK : cp h k0 sp k1 dp n f = some r) : ∃ x : PH, ((¬ sp < 0 ∧ ¬ dp < 0 ∧ ¬ n < 0 ∧ sp.toNatClampNeg + n.toNatClampNeg ≤ al k0 ∧ dp.toNatClampNeg + n.toNatClampNeg ≤ al k1) ∧ x = sa h k1 (va_cpy (h.1 k0) (h.1 k1) sp.toNatClampNeg dp.toNatClampNeg n.toNatClampNeg)) ∧ f x = some r := by
  unfold cp at hK
  by_cases hc : sp < 0 ∨ dp < 0 ∨ n < 0 ∨ al k0 < sp.toNatClampNeg + n.toNatClampNeg ∨ al k1 < dp.toNatClampNeg + n.toNatClampNeg
  · rw [if_pos hc] at hK; cases hK
  · rw [if_neg hc] at hK
    exact ⟨_, ⟨⟨fun q => hc (Or.inl q), fun q => hc (Or.inr (Or.inl q)), fun q => hc (Or.inr (Or.inr (Or.inl q))), Nat.le_of_not_lt fun q => hc (Or.inr (Or.inr (Or.inr (Or.inl q)))), Nat.le_of_not_lt fun q => hc (Or.inr (Or.inr (Or.inr (Or.inr q))))⟩, rfl⟩, hK⟩
end
section
def cx (p : Program) (s : State) (m : MethodId) (args : Array Value) (meth : Method) (c : Code) (G : GG) (own : String) (cc : ByteArray) (nL : Nat) (rt : Option FieldType) : Prop :=
  p.tables.exec = Jvm.exec ∧ c.code = cc ∧ c.maxLocals = nL ∧ s.vm.findClass own = some m.cls ∧ (∀ w ∈ ut, w.before args s = true) ∧ va_K G.1 vwCl (tys G) s ∧ injG G ∧ nws s ∧ meth.sig.returnType = rt ∧ meth.locks = false
def WW (p : Program) (l : Launch) (e : Env) (hg : Nat) (s : State) (m : MethodId) (args : Array Value) (below : List Frame) (meth : Method) (c : Code) (G : GG) (h : PH) (Q : State → Prop) (g : JFrame) : Prop :=
  ∀ (H : Heap) (locs : List Loc), va_P G.1 vwCl (wd G h) H → va_S (Ar G) s.heap H locs → W p l e (rmh hg) s m args below meth c H locs 0 0 Q g
section

variable {p : Program} {l : Launch} {e : Env} {s : State} {m : MethodId} {args : Array Value} {below : List Frame} {meth : Method} {c : Code} {Q : State → Prop} {G : GG} {h h' : PH} {cc : ByteArray} {nL hg : Nat} {own : String} {rt : Option FieldType} {pc : Nat} {ls : Array Slot} {rest : List Value}
theorem q_iconst (C : cx p s m args meth c G own cc nL rt) {n : Int} {v : Int32} (d : decode cc pc = .ok (.iconst n, 1)) (hv : Int32.ofInt n = v) (k : WW p l e hg s m args below meth c G h Q (F0 m (pc + 1) ls (.int v :: rest))) : WW p l e hg s m args below meth c G h Q (F0 m pc ls (rest)) := fun H locs a b => lv_iconst C.1 C.2.1 d hv (k H locs a b)
theorem q_bipush (C : cx p s m args meth c G own cc nL rt) {n : Int} {v : Int32} (d : decode cc pc = .ok (.bipush n, 2)) (hv : (Int8.ofInt n).toInt32 = v) (k : WW p l e hg s m args below meth c G h Q (F0 m (pc + 2) ls (.int v :: rest))) : WW p l e hg s m args below meth c G h Q (F0 m pc ls (rest)) := fun H locs a b => lv_bipush C.1 C.2.1 d hv (k H locs a b)
theorem q_sipush (C : cx p s m args meth c G own cc nL rt) {n : Int} {v : Int32} (d : decode cc pc = .ok (.sipush n, 3)) (hv : (Int16.ofInt n).toInt32 = v) (k : WW p l e hg s m args below meth c G h Q (F0 m (pc + 3) ls (.int v :: rest))) : WW p l e hg s m args below meth c G h Q (F0 m pc ls (rest)) := fun H locs a b => lv_sipush C.1 C.2.1 d hv (k H locs a b)
theorem q_iload_n (C : cx p s m args meth c G own cc nL rt) {q : Fin 4} {i : Nat} {x : Int32} (d : decode cc pc = .ok (.iload_n q, 1)) (hi : (q : Nat) = i) (hv : ls[i]? = some (.val (.int x))) (k : WW p l e hg s m args below meth c G h Q (F0 m (pc + 1) ls (.int x :: rest))) : WW p l e hg s m args below meth c G h Q (F0 m pc ls (rest)) := fun H locs a b => lv_iload_n C.1 C.2.1 d hi hv (k H locs a b)
theorem q_iload (C : cx p s m args meth c G own cc nL rt) {i : Nat} {x : Int32} (d : decode cc pc = .ok (.iload i, 2)) (hv : ls[i]? = some (.val (.int x))) (k : WW p l e hg s m args below meth c G h Q (F0 m (pc + 2) ls (.int x :: rest))) : WW p l e hg s m args below meth c G h Q (F0 m pc ls (rest)) := fun H locs a b => lv_iload C.1 C.2.1 d hv (k H locs a b)
theorem q_lload_n (C : cx p s m args meth c G own cc nL rt) {q : Fin 4} {i : Nat} {x : Int64} (d : decode cc pc = .ok (.lload_n q, 1)) (hi : (q : Nat) = i) (hv : ls[i]? = some (.val (.long x))) (k : WW p l e hg s m args below meth c G h Q (F0 m (pc + 1) ls (.long x :: rest))) : WW p l e hg s m args below meth c G h Q (F0 m pc ls (rest)) := fun H locs a b => lv_lload_n C.1 C.2.1 d hi hv (k H locs a b)
theorem q_lload (C : cx p s m args meth c G own cc nL rt) {i : Nat} {x : Int64} (d : decode cc pc = .ok (.lload i, 2)) (hv : ls[i]? = some (.val (.long x))) (k : WW p l e hg s m args below meth c G h Q (F0 m (pc + 2) ls (.long x :: rest))) : WW p l e hg s m args below meth c G h Q (F0 m pc ls (rest)) := fun H locs a b => lv_lload C.1 C.2.1 d hv (k H locs a b)
theorem q_aload_n (C : cx p s m args meth c G own cc nL rt) {q : Fin 4} {i : Nat} {x : Nat} (d : decode cc pc = .ok (.aload_n q, 1)) (hi : (q : Nat) = i) (hv : ls[i]? = some (.val (.ref x))) (k : WW p l e hg s m args below meth c G h Q (F0 m (pc + 1) ls (.ref x :: rest))) : WW p l e hg s m args below meth c G h Q (F0 m pc ls (rest)) := fun H locs a b => lv_aload_n C.1 C.2.1 d hi hv (k H locs a b)
theorem q_aload (C : cx p s m args meth c G own cc nL rt) {i : Nat} {x : Nat} (d : decode cc pc = .ok (.aload i, 2)) (hv : ls[i]? = some (.val (.ref x))) (k : WW p l e hg s m args below meth c G h Q (F0 m (pc + 2) ls (.ref x :: rest))) : WW p l e hg s m args below meth c G h Q (F0 m pc ls (rest)) := fun H locs a b => lv_aload C.1 C.2.1 d hv (k H locs a b)
theorem q_istore_n (C : cx p s m args meth c G own cc nL rt) {q : Fin 4} {i : Nat} {x : Int32} {lv lv2 : List (Nat × Value)} (d : decode cc pc = .ok (.istore_n q, 1)) (hi : (q : Nat) = i) (hl : lv_has ls nL lv) (hn : i < nL) (he : (i, Value.int x) :: lv.filter (fun q => !(q.1 == i) && !(q.1 + 1 == i && q.2.category == 2)) = lv2) (k : ∀ ls2 : Array Slot, lv_has ls2 nL lv2 → WW p l e hg s m args below meth c G h Q (F0 m (pc + 1) ls2 rest)) : WW p l e hg s m args below meth c G h Q (F0 m pc ls (.int x :: rest)) := fun H locs a b => lv_istore_n C.1 C.2.1 d hi hl hn he (fun ls2 h2 => k ls2 h2 H locs a b)
theorem q_istore (C : cx p s m args meth c G own cc nL rt) {i : Nat} {x : Int32} {lv lv2 : List (Nat × Value)} (d : decode cc pc = .ok (.istore i, 2)) (hl : lv_has ls nL lv) (hn : i < nL) (he : (i, Value.int x) :: lv.filter (fun q => !(q.1 == i) && !(q.1 + 1 == i && q.2.category == 2)) = lv2) (k : ∀ ls2 : Array Slot, lv_has ls2 nL lv2 → WW p l e hg s m args below meth c G h Q (F0 m (pc + 2) ls2 rest)) : WW p l e hg s m args below meth c G h Q (F0 m pc ls (.int x :: rest)) := fun H locs a b => lv_istore C.1 C.2.1 d hl hn he (fun ls2 h2 => k ls2 h2 H locs a b)
theorem q_lstore_n (C : cx p s m args meth c G own cc nL rt) {q : Fin 4} {i : Nat} {x : Int64} {lv lv2 : List (Nat × Value)} (d : decode cc pc = .ok (.lstore_n q, 1)) (hi : (q : Nat) = i) (hl : lv_has ls nL lv) (hn : i + 1 < nL) (he : (i, Value.long x) :: lv.filter (fun q => !(q.1 == i) && (!(q.1 == i + 1) && !(q.1 + 1 == i && q.2.category == 2))) = lv2) (k : ∀ ls2 : Array Slot, lv_has ls2 nL lv2 → WW p l e hg s m args below meth c G h Q (F0 m (pc + 1) ls2 rest)) : WW p l e hg s m args below meth c G h Q (F0 m pc ls (.long x :: rest)) := fun H locs a b => lv_lstore_n C.1 C.2.1 d hi hl hn he (fun ls2 h2 => k ls2 h2 H locs a b)
theorem q_lstore (C : cx p s m args meth c G own cc nL rt) {i : Nat} {x : Int64} {lv lv2 : List (Nat × Value)} (d : decode cc pc = .ok (.lstore i, 2)) (hl : lv_has ls nL lv) (hn : i + 1 < nL) (he : (i, Value.long x) :: lv.filter (fun q => !(q.1 == i) && (!(q.1 == i + 1) && !(q.1 + 1 == i && q.2.category == 2))) = lv2) (k : ∀ ls2 : Array Slot, lv_has ls2 nL lv2 → WW p l e hg s m args below meth c G h Q (F0 m (pc + 2) ls2 rest)) : WW p l e hg s m args below meth c G h Q (F0 m pc ls (.long x :: rest)) := fun H locs a b => lv_lstore C.1 C.2.1 d hl hn he (fun ls2 h2 => k ls2 h2 H locs a b)
theorem q_astore_n (C : cx p s m args meth c G own cc nL rt) {q : Fin 4} {i : Nat} {x : Nat} {lv lv2 : List (Nat × Value)} (d : decode cc pc = .ok (.astore_n q, 1)) (hi : (q : Nat) = i) (hl : lv_has ls nL lv) (hn : i < nL) (he : (i, Value.ref x) :: lv.filter (fun q => !(q.1 == i) && !(q.1 + 1 == i && q.2.category == 2)) = lv2) (k : ∀ ls2 : Array Slot, lv_has ls2 nL lv2 → WW p l e hg s m args below meth c G h Q (F0 m (pc + 1) ls2 rest)) : WW p l e hg s m args below meth c G h Q (F0 m pc ls (.ref x :: rest)) := fun H locs a b => lv_astore_n C.1 C.2.1 d hi hl hn he (fun ls2 h2 => k ls2 h2 H locs a b)
theorem q_astore (C : cx p s m args meth c G own cc nL rt) {i : Nat} {x : Nat} {lv lv2 : List (Nat × Value)} (d : decode cc pc = .ok (.astore i, 2)) (hl : lv_has ls nL lv) (hn : i < nL) (he : (i, Value.ref x) :: lv.filter (fun q => !(q.1 == i) && !(q.1 + 1 == i && q.2.category == 2)) = lv2) (k : ∀ ls2 : Array Slot, lv_has ls2 nL lv2 → WW p l e hg s m args below meth c G h Q (F0 m (pc + 2) ls2 rest)) : WW p l e hg s m args below meth c G h Q (F0 m pc ls (.ref x :: rest)) := fun H locs a b => lv_astore C.1 C.2.1 d hl hn he (fun ls2 h2 => k ls2 h2 H locs a b)
theorem q_iinc (C : cx p s m args meth c G own cc nL rt) {i j : Nat} {n : Int} {x v : Int32} {lv lv2 : List (Nat × Value)} (d : decode cc pc = .ok (.iinc i n, 3)) (hl : lv_has ls nL lv) (hk : lv[j]? = some (i, .int x)) (hv : x + Int32.ofInt n = v) (hn : i < nL) (he : (i, Value.int v) :: lv.filter (fun q => !(q.1 == i) && !(q.1 + 1 == i && q.2.category == 2)) = lv2) (k : ∀ ls2 : Array Slot, lv_has ls2 nL lv2 → WW p l e hg s m args below meth c G h Q (F0 m (pc + 3) ls2 rest)) : WW p l e hg s m args below meth c G h Q (F0 m pc ls rest) := fun H locs a b => lv_iinc C.1 C.2.1 d hl hk hv hn he (fun ls2 h2 => k ls2 h2 H locs a b)
theorem q_iadd (C : cx p s m args meth c G own cc nL rt) {x y : Int32} (d : decode cc pc = .ok (.iadd, 1)) (k : WW p l e hg s m args below meth c G h Q (F0 m (pc + 1) ls (.int (x + y) :: rest))) : WW p l e hg s m args below meth c G h Q (F0 m pc ls (.int y :: .int x :: rest)) := fun H locs a b => lv_iadd C.1 C.2.1 d (k H locs a b)
theorem q_isub (C : cx p s m args meth c G own cc nL rt) {x y : Int32} (d : decode cc pc = .ok (.isub, 1)) (k : WW p l e hg s m args below meth c G h Q (F0 m (pc + 1) ls (.int (x - y) :: rest))) : WW p l e hg s m args below meth c G h Q (F0 m pc ls (.int y :: .int x :: rest)) := fun H locs a b => lv_isub C.1 C.2.1 d (k H locs a b)
theorem q_imul (C : cx p s m args meth c G own cc nL rt) {x y : Int32} (d : decode cc pc = .ok (.imul, 1)) (k : WW p l e hg s m args below meth c G h Q (F0 m (pc + 1) ls (.int (x * y) :: rest))) : WW p l e hg s m args below meth c G h Q (F0 m pc ls (.int y :: .int x :: rest)) := fun H locs a b => lv_imul C.1 C.2.1 d (k H locs a b)
theorem q_iand (C : cx p s m args meth c G own cc nL rt) {x y : Int32} (d : decode cc pc = .ok (.iand, 1)) (k : WW p l e hg s m args below meth c G h Q (F0 m (pc + 1) ls (.int (x &&& y) :: rest))) : WW p l e hg s m args below meth c G h Q (F0 m pc ls (.int y :: .int x :: rest)) := fun H locs a b => lv_iand C.1 C.2.1 d (k H locs a b)
theorem q_ior (C : cx p s m args meth c G own cc nL rt) {x y : Int32} (d : decode cc pc = .ok (.ior, 1)) (k : WW p l e hg s m args below meth c G h Q (F0 m (pc + 1) ls (.int (x ||| y) :: rest))) : WW p l e hg s m args below meth c G h Q (F0 m pc ls (.int y :: .int x :: rest)) := fun H locs a b => lv_ior C.1 C.2.1 d (k H locs a b)
theorem q_ixor (C : cx p s m args meth c G own cc nL rt) {x y : Int32} (d : decode cc pc = .ok (.ixor, 1)) (k : WW p l e hg s m args below meth c G h Q (F0 m (pc + 1) ls (.int (x ^^^ y) :: rest))) : WW p l e hg s m args below meth c G h Q (F0 m pc ls (.int y :: .int x :: rest)) := fun H locs a b => lv_ixor C.1 C.2.1 d (k H locs a b)
theorem q_ishl (C : cx p s m args meth c G own cc nL rt) {x y : Int32} (d : decode cc pc = .ok (.ishl, 1)) (k : WW p l e hg s m args below meth c G h Q (F0 m (pc + 1) ls (.int (x <<< (y &&& 31)) :: rest))) : WW p l e hg s m args below meth c G h Q (F0 m pc ls (.int y :: .int x :: rest)) := fun H locs a b => lv_ishl C.1 C.2.1 d (k H locs a b)
theorem q_ishr (C : cx p s m args meth c G own cc nL rt) {x y : Int32} (d : decode cc pc = .ok (.ishr, 1)) (k : WW p l e hg s m args below meth c G h Q (F0 m (pc + 1) ls (.int (x >>> (y &&& 31)) :: rest))) : WW p l e hg s m args below meth c G h Q (F0 m pc ls (.int y :: .int x :: rest)) := fun H locs a b => lv_ishr C.1 C.2.1 d (k H locs a b)
theorem q_idiv (C : cx p s m args meth c G own cc nL rt) {x y : Int32} (d : decode cc pc = .ok (.idiv, 1)) (hy : ¬ y = 0) (k : WW p l e hg s m args below meth c G h Q (F0 m (pc + 1) ls (.int (x / y) :: rest))) : WW p l e hg s m args below meth c G h Q (F0 m pc ls (.int y :: .int x :: rest)) := fun H locs a b => lv_idiv C.1 C.2.1 d hy (k H locs a b)
theorem q_irem (C : cx p s m args meth c G own cc nL rt) {x y : Int32} (d : decode cc pc = .ok (.irem, 1)) (hy : ¬ y = 0) (k : WW p l e hg s m args below meth c G h Q (F0 m (pc + 1) ls (.int (x - x / y * y) :: rest))) : WW p l e hg s m args below meth c G h Q (F0 m pc ls (.int y :: .int x :: rest)) := fun H locs a b => lv_irem C.1 C.2.1 d hy (k H locs a b)
theorem q_ineg (C : cx p s m args meth c G own cc nL rt) {x : Int32} (d : decode cc pc = .ok (.ineg, 1)) (k : WW p l e hg s m args below meth c G h Q (F0 m (pc + 1) ls (.int (-x) :: rest))) : WW p l e hg s m args below meth c G h Q (F0 m pc ls (.int x :: rest)) := fun H locs a b => lv_ineg C.1 C.2.1 d (k H locs a b)
theorem q_iushr (C : cx p s m args meth c G own cc nL rt) {x y v : Int32} (d : decode cc pc = .ok (.iushr, 1)) (hv : (x.toUInt32 >>> (y.toUInt32 &&& Int32.toUInt32 31)).toInt32 = v) (k : WW p l e hg s m args below meth c G h Q (F0 m (pc + 1) ls (.int v :: rest))) : WW p l e hg s m args below meth c G h Q (F0 m pc ls (.int y :: .int x :: rest)) := fun H locs a b => lv_iushr C.1 C.2.1 d hv (k H locs a b)
theorem q_ladd (C : cx p s m args meth c G own cc nL rt) {x y : Int64} (d : decode cc pc = .ok (.ladd, 1)) (k : WW p l e hg s m args below meth c G h Q (F0 m (pc + 1) ls (.long (x + y) :: rest))) : WW p l e hg s m args below meth c G h Q (F0 m pc ls (.long y :: .long x :: rest)) := fun H locs a b => lv_ladd C.1 C.2.1 d (k H locs a b)
theorem q_lmul (C : cx p s m args meth c G own cc nL rt) {x y : Int64} (d : decode cc pc = .ok (.lmul, 1)) (k : WW p l e hg s m args below meth c G h Q (F0 m (pc + 1) ls (.long (x * y) :: rest))) : WW p l e hg s m args below meth c G h Q (F0 m pc ls (.long y :: .long x :: rest)) := fun H locs a b => lv_lmul C.1 C.2.1 d (k H locs a b)
theorem q_land (C : cx p s m args meth c G own cc nL rt) {x y : Int64} (d : decode cc pc = .ok (.land, 1)) (k : WW p l e hg s m args below meth c G h Q (F0 m (pc + 1) ls (.long (x &&& y) :: rest))) : WW p l e hg s m args below meth c G h Q (F0 m pc ls (.long y :: .long x :: rest)) := fun H locs a b => lv_land C.1 C.2.1 d (k H locs a b)
theorem q_lor (C : cx p s m args meth c G own cc nL rt) {x y : Int64} (d : decode cc pc = .ok (.lor, 1)) (k : WW p l e hg s m args below meth c G h Q (F0 m (pc + 1) ls (.long (x ||| y) :: rest))) : WW p l e hg s m args below meth c G h Q (F0 m pc ls (.long y :: .long x :: rest)) := fun H locs a b => lv_lor C.1 C.2.1 d (k H locs a b)
theorem q_lushr (C : cx p s m args meth c G own cc nL rt) {x v : Int64} {y : Int32} (d : decode cc pc = .ok (.lushr, 1)) (hv : (x.toUInt64 >>> (y.toInt64.toUInt64 &&& Int64.toUInt64 63)).toInt64 = v) (k : WW p l e hg s m args below meth c G h Q (F0 m (pc + 1) ls (.long v :: rest))) : WW p l e hg s m args below meth c G h Q (F0 m pc ls (.int y :: .long x :: rest)) := fun H locs a b => lv_lushr C.1 C.2.1 d hv (k H locs a b)
theorem q_l2i (C : cx p s m args meth c G own cc nL rt) {x : Int64} {v : Int32} (d : decode cc pc = .ok (.l2i, 1)) (hv : x.toInt32 = v) (k : WW p l e hg s m args below meth c G h Q (F0 m (pc + 1) ls (.int v :: rest))) : WW p l e hg s m args below meth c G h Q (F0 m pc ls (.long x :: rest)) := fun H locs a b => lv_l2i C.1 C.2.1 d hv (k H locs a b)
theorem q_dup (C : cx p s m args meth c G own cc nL rt) {v : Value} (d : decode cc pc = .ok (.dup, 1)) (hv : v.category = 1) (k : WW p l e hg s m args below meth c G h Q (F0 m (pc + 1) ls (v :: v :: rest))) : WW p l e hg s m args below meth c G h Q (F0 m pc ls (v :: rest)) := fun H locs a b => lv_dup C.1 C.2.1 d hv (k H locs a b)
theorem q_dup2 (C : cx p s m args meth c G own cc nL rt) {v w : Value} (d : decode cc pc = .ok (.dup2, 1)) (hv : v.category = 1) (hw : w.category = 1) (k : WW p l e hg s m args below meth c G h Q (F0 m (pc + 1) ls (v :: w :: v :: w :: rest))) : WW p l e hg s m args below meth c G h Q (F0 m pc ls (v :: w :: rest)) := fun H locs a b => lv_dup2_11 C.1 C.2.1 d hv hw (k H locs a b)
theorem q_pop (C : cx p s m args meth c G own cc nL rt) {v : Value} (d : decode cc pc = .ok (.pop, 1)) (hv : v.category = 1) (k : WW p l e hg s m args below meth c G h Q (F0 m (pc + 1) ls (rest))) : WW p l e hg s m args below meth c G h Q (F0 m pc ls (v :: rest)) := fun H locs a b => lv_pop C.1 C.2.1 d hv (k H locs a b)
theorem q_ldcw (C : cx p s m args meth c G own cc nL rt) {i : Nat} {v : Int32} (hw : Cond.constant own i v ∈ ut) (d : decode cc pc = .ok (.ldc_w i, 3)) (k : WW p l e hg s m args below meth c G h Q (F0 m (pc + 3) ls (.int v :: rest))) : WW p l e hg s m args below meth c G h Q (F0 m pc ls (rest)) := fun H locs a b => lv_ldcw C.1 C.2.1 C.2.2.2.1 (C.2.2.2.2.1 _ hw) d (k H locs a b)
theorem q_ldc2 (C : cx p s m args meth c G own cc nL rt) {i : Nat} {v : Int64} (hw : Cond.constantLong own i v ∈ ut) (d : decode cc pc = .ok (.ldc2_w i, 3)) (k : WW p l e hg s m args below meth c G h Q (F0 m (pc + 3) ls (.long v :: rest))) : WW p l e hg s m args below meth c G h Q (F0 m pc ls (rest)) := fun H locs a b => lv_ldc2 C.1 C.2.1 C.2.2.2.1 (C.2.2.2.2.1 _ hw) d (k H locs a b)
theorem q_if_eq (C : cx p s m args meth c G own cc nL rt) {x : Int32} {off : Int} {tgt : Nat} (d : decode cc pc = .ok (.ifCond .eq off, 3)) (ht : (pc : Int) + off = (tgt : Int)) (kt : x = 0 → WW p l e hg s m args below meth c G h Q (F0 m tgt ls rest)) (kf : ¬ (x = 0) → WW p l e hg s m args below meth c G h Q (F0 m (pc + 3) ls rest)) : WW p l e hg s m args below meth c G h Q (F0 m pc ls (.int x :: rest)) := fun H locs a b => lv_if_eq C.1 C.2.1 d ht (fun z => kt z H locs a b) (fun z => kf z H locs a b)
theorem q_icmp_eq (C : cx p s m args meth c G own cc nL rt) {x y : Int32} {off : Int} {tgt : Nat} (d : decode cc pc = .ok (.if_icmp .eq off, 3)) (ht : (pc : Int) + off = (tgt : Int)) (kt : x = y → WW p l e hg s m args below meth c G h Q (F0 m tgt ls rest)) (kf : ¬ (x = y) → WW p l e hg s m args below meth c G h Q (F0 m (pc + 3) ls rest)) : WW p l e hg s m args below meth c G h Q (F0 m pc ls (.int y :: .int x :: rest)) := fun H locs a b => lv_icmp_eq C.1 C.2.1 d ht (fun z => kt z H locs a b) (fun z => kf z H locs a b)
theorem q_if_ne (C : cx p s m args meth c G own cc nL rt) {x : Int32} {off : Int} {tgt : Nat} (d : decode cc pc = .ok (.ifCond .ne off, 3)) (ht : (pc : Int) + off = (tgt : Int)) (kt : ¬ x = 0 → WW p l e hg s m args below meth c G h Q (F0 m tgt ls rest)) (kf : x = 0 → WW p l e hg s m args below meth c G h Q (F0 m (pc + 3) ls rest)) : WW p l e hg s m args below meth c G h Q (F0 m pc ls (.int x :: rest)) := fun H locs a b => lv_if_ne C.1 C.2.1 d ht (fun z => kt z H locs a b) (fun z => kf z H locs a b)
theorem q_icmp_ne (C : cx p s m args meth c G own cc nL rt) {x y : Int32} {off : Int} {tgt : Nat} (d : decode cc pc = .ok (.if_icmp .ne off, 3)) (ht : (pc : Int) + off = (tgt : Int)) (kt : ¬ x = y → WW p l e hg s m args below meth c G h Q (F0 m tgt ls rest)) (kf : x = y → WW p l e hg s m args below meth c G h Q (F0 m (pc + 3) ls rest)) : WW p l e hg s m args below meth c G h Q (F0 m pc ls (.int y :: .int x :: rest)) := fun H locs a b => lv_icmp_ne C.1 C.2.1 d ht (fun z => kt z H locs a b) (fun z => kf z H locs a b)
theorem q_if_lt (C : cx p s m args meth c G own cc nL rt) {x : Int32} {off : Int} {tgt : Nat} (d : decode cc pc = .ok (.ifCond .lt off, 3)) (ht : (pc : Int) + off = (tgt : Int)) (kt : x < 0 → WW p l e hg s m args below meth c G h Q (F0 m tgt ls rest)) (kf : ¬ (x < 0) → WW p l e hg s m args below meth c G h Q (F0 m (pc + 3) ls rest)) : WW p l e hg s m args below meth c G h Q (F0 m pc ls (.int x :: rest)) := fun H locs a b => lv_if_lt C.1 C.2.1 d ht (fun z => kt z H locs a b) (fun z => kf z H locs a b)
theorem q_icmp_lt (C : cx p s m args meth c G own cc nL rt) {x y : Int32} {off : Int} {tgt : Nat} (d : decode cc pc = .ok (.if_icmp .lt off, 3)) (ht : (pc : Int) + off = (tgt : Int)) (kt : x < y → WW p l e hg s m args below meth c G h Q (F0 m tgt ls rest)) (kf : ¬ (x < y) → WW p l e hg s m args below meth c G h Q (F0 m (pc + 3) ls rest)) : WW p l e hg s m args below meth c G h Q (F0 m pc ls (.int y :: .int x :: rest)) := fun H locs a b => lv_icmp_lt C.1 C.2.1 d ht (fun z => kt z H locs a b) (fun z => kf z H locs a b)
theorem q_if_ge (C : cx p s m args meth c G own cc nL rt) {x : Int32} {off : Int} {tgt : Nat} (d : decode cc pc = .ok (.ifCond .ge off, 3)) (ht : (pc : Int) + off = (tgt : Int)) (kt : 0 ≤ x → WW p l e hg s m args below meth c G h Q (F0 m tgt ls rest)) (kf : ¬ (0 ≤ x) → WW p l e hg s m args below meth c G h Q (F0 m (pc + 3) ls rest)) : WW p l e hg s m args below meth c G h Q (F0 m pc ls (.int x :: rest)) := fun H locs a b => lv_if_ge C.1 C.2.1 d ht (fun z => kt z H locs a b) (fun z => kf z H locs a b)
theorem q_icmp_ge (C : cx p s m args meth c G own cc nL rt) {x y : Int32} {off : Int} {tgt : Nat} (d : decode cc pc = .ok (.if_icmp .ge off, 3)) (ht : (pc : Int) + off = (tgt : Int)) (kt : y ≤ x → WW p l e hg s m args below meth c G h Q (F0 m tgt ls rest)) (kf : ¬ (y ≤ x) → WW p l e hg s m args below meth c G h Q (F0 m (pc + 3) ls rest)) : WW p l e hg s m args below meth c G h Q (F0 m pc ls (.int y :: .int x :: rest)) := fun H locs a b => lv_icmp_ge C.1 C.2.1 d ht (fun z => kt z H locs a b) (fun z => kf z H locs a b)
theorem q_if_gt (C : cx p s m args meth c G own cc nL rt) {x : Int32} {off : Int} {tgt : Nat} (d : decode cc pc = .ok (.ifCond .gt off, 3)) (ht : (pc : Int) + off = (tgt : Int)) (kt : 0 < x → WW p l e hg s m args below meth c G h Q (F0 m tgt ls rest)) (kf : ¬ (0 < x) → WW p l e hg s m args below meth c G h Q (F0 m (pc + 3) ls rest)) : WW p l e hg s m args below meth c G h Q (F0 m pc ls (.int x :: rest)) := fun H locs a b => lv_if_gt C.1 C.2.1 d ht (fun z => kt z H locs a b) (fun z => kf z H locs a b)
theorem q_icmp_gt (C : cx p s m args meth c G own cc nL rt) {x y : Int32} {off : Int} {tgt : Nat} (d : decode cc pc = .ok (.if_icmp .gt off, 3)) (ht : (pc : Int) + off = (tgt : Int)) (kt : y < x → WW p l e hg s m args below meth c G h Q (F0 m tgt ls rest)) (kf : ¬ (y < x) → WW p l e hg s m args below meth c G h Q (F0 m (pc + 3) ls rest)) : WW p l e hg s m args below meth c G h Q (F0 m pc ls (.int y :: .int x :: rest)) := fun H locs a b => lv_icmp_gt C.1 C.2.1 d ht (fun z => kt z H locs a b) (fun z => kf z H locs a b)
theorem q_if_le (C : cx p s m args meth c G own cc nL rt) {x : Int32} {off : Int} {tgt : Nat} (d : decode cc pc = .ok (.ifCond .le off, 3)) (ht : (pc : Int) + off = (tgt : Int)) (kt : x ≤ 0 → WW p l e hg s m args below meth c G h Q (F0 m tgt ls rest)) (kf : ¬ (x ≤ 0) → WW p l e hg s m args below meth c G h Q (F0 m (pc + 3) ls rest)) : WW p l e hg s m args below meth c G h Q (F0 m pc ls (.int x :: rest)) := fun H locs a b => lv_if_le C.1 C.2.1 d ht (fun z => kt z H locs a b) (fun z => kf z H locs a b)
theorem q_icmp_le (C : cx p s m args meth c G own cc nL rt) {x y : Int32} {off : Int} {tgt : Nat} (d : decode cc pc = .ok (.if_icmp .le off, 3)) (ht : (pc : Int) + off = (tgt : Int)) (kt : x ≤ y → WW p l e hg s m args below meth c G h Q (F0 m tgt ls rest)) (kf : ¬ (x ≤ y) → WW p l e hg s m args below meth c G h Q (F0 m (pc + 3) ls rest)) : WW p l e hg s m args below meth c G h Q (F0 m pc ls (.int y :: .int x :: rest)) := fun H locs a b => lv_icmp_le C.1 C.2.1 d ht (fun z => kt z H locs a b) (fun z => kf z H locs a b)
theorem q_goto (C : cx p s m args meth c G own cc nL rt) {off : Int} {tgt : Nat} (d : decode cc pc = .ok (.goto off, 3)) (ht : (pc : Int) + off = (tgt : Int)) (k : WW p l e hg s m args below meth c G h Q (F0 m tgt ls rest)) : WW p l e hg s m args below meth c G h Q (F0 m pc ls rest) := fun H locs a b => lv_goto C.1 C.2.1 d ht (k H locs a b)
theorem q_tsIn (C : cx p s m args meth c G own cc nL rt) {dflt lo hi : Int} {offs : Array Int} {len : Nat} {x : Int32} {off : Int} {tgt : Nat} (v : Int32) (hx : x = v) (d : decode cc pc = .ok (.tableswitch dflt lo hi offs, len)) (h12 : (!(decide (v.toInt < lo)) && !(decide (hi < v.toInt)) && decide (offs[(v.toInt - lo).toNat]? = some off)) = true) (ht : (pc : Int) + off = (tgt : Int)) (k : WW p l e hg s m args below meth c G h Q (F0 m tgt ls rest)) : WW p l e hg s m args below meth c G h Q (F0 m pc ls (.int x :: rest)) := by
  subst hx
  simp only [Bool.and_eq_true, Bool.not_eq_true', decide_eq_false_iff_not, decide_eq_true_eq] at h12
  exact fun H locs a b => lv_tableIn C.1 C.2.1 d h12.1.1 h12.1.2 h12.2 ht (k H locs a b)
theorem q_tsOut (C : cx p s m args meth c G own cc nL rt) {dflt lo hi : Int} {offs : Array Int} {len : Nat} {x : Int32} {tgt : Nat} (d : decode cc pc = .ok (.tableswitch dflt lo hi offs, len)) (ho : x.toInt < lo ∨ hi < x.toInt) (ht : (pc : Int) + dflt = (tgt : Int)) (k : WW p l e hg s m args below meth c G h Q (F0 m tgt ls rest)) : WW p l e hg s m args below meth c G h Q (F0 m pc ls (.int x :: rest)) := fun H locs a b => lv_tableOut C.1 C.2.1 d ho ht (k H locs a b)
theorem q_lsw (C : cx p s m args meth c G own cc nL rt) {dflt : Int} {ps : Array (Int × Int)} {len : Nat} {x : Int32} {off : Int} {tgt : Nat} (d : decode cc pc = .ok (.lookupswitch dflt ps, len)) (hp : (ps.toList.zip (ps.toList.drop 1)).all (fun (a, next) => a.1 < next.1) = true) (ho : Op.lookupswitch.offset ps.toList dflt x.toInt = off) (ht : (pc : Int) + off = (tgt : Int)) (k : WW p l e hg s m args below meth c G h Q (F0 m tgt ls rest)) : WW p l e hg s m args below meth c G h Q (F0 m pc ls (.int x :: rest)) := fun H locs a b => lv_lookup C.1 C.2.1 d hp ho ht (k H locs a b)
theorem ne_i {x : Int32} {v : Int32} (hn : ¬ x = v) : x.toInt ≠ v.toInt := fun q => hn (Int32.toInt_inj.mp q)
theorem si_at (h : PH) (k i : Nat) (v : Int32) : (si h k i v).1 k = upd (h.1 k) i v := by
  funext j
  simp [si, upd]
theorem si_ne (h : PH) (k i : Nat) (v : Int32) {j : Nat} (hj : j ≠ k) : (si h k i v).1 j = h.1 j := by
  funext b
  simp [si, hj]
theorem ce_si (G : GG) (h : PH) (k i : Nat) (v : Int32) : ∀ j, j ≠ k → ce G (si h k i v) j = ce G h j := fun j hj => ce_congr (si_ne h k i v hj) rfl
theorem ce_sa (G : GG) (h : PH) (k : Nat) (f : Nat → Int32) : ∀ j, j ≠ k → ce G (sa h k f) j = ce G h j := fun j hj => ce_congr (by simp [sa, hj]) rfl
theorem ce_sl (G : GG) (h : PH) (k : Nat) (v : Int64) : ∀ j, j ≠ k → ce G (sl h k v) j = ce G h j := fun j hj => ce_congr rfl (by simp [sl, hj])
theorem q_iald (C : cx p s m args meth c G own cc nL rt) {k : Nat} {i x : Int32} (hk : kd k = 5) (hi : vp_in i (al k) ∧ x = h.1 k i.toNatClampNeg) (d : decode cc pc = .ok (.iaload, 1)) (kk : WW p l e hg s m args below meth c G h Q (F0 m (pc + 1) ls (.int x :: rest))) : WW p l e hg s m args below meth c G h Q (F0 m pc ls (.int i :: .ref (G.2.2.2.2 k) :: rest)) := by
  obtain ⟨hi, rfl⟩ := hi
  exact fun H locs a b => va_iald C.1 C.2.1 C.2.2.2.2.2.1 a k 0 ((wd_at (kd_lt 5 (by decide) hk)).trans (by rw [ce_5 hk])) rfl hi d (kk H locs a b)
theorem q_zald (C : cx p s m args meth c G own cc nL rt) {k : Nat} {i x : Int32} (hk : kd k = 6) (hi : vp_in i (al k) ∧ x = h.1 k i.toNatClampNeg) (d : decode cc pc = .ok (.baload, 1)) (kk : WW p l e hg s m args below meth c G h Q (F0 m (pc + 1) ls (.int x :: rest))) : WW p l e hg s m args below meth c G h Q (F0 m pc ls (.int i :: .ref (G.2.2.2.2 k) :: rest)) := by
  obtain ⟨hi, rfl⟩ := hi
  exact fun H locs a b => va_zald C.1 C.2.1 C.2.2.2.2.2.1 a k 1 ((wd_at (kd_lt 6 (by decide) hk)).trans (by rw [ce_6 hk])) rfl hi d (kk H locs a b)
theorem q_aald (C : cx p s m args meth c G own cc nL rt) {k x : Nat} {i : Int32} (hk : kd k = 7) (hi : vp_in i (al k) ∧ x = sta k i.toNatClampNeg) (d : decode cc pc = .ok (.aaload, 1)) (kk : WW p l e hg s m args below meth c G h Q (F0 m (pc + 1) ls (.ref (G.2.2.2.2 x) :: rest))) : WW p l e hg s m args below meth c G h Q (F0 m pc ls (.int i :: .ref (G.2.2.2.2 k) :: rest)) := by
  obtain ⟨hi, rfl⟩ := hi
  exact fun H locs a b => va_aldq (C := "BottleLine$State") (f := fun j => some (G.2.2.2.2 (sta k j))) C.1 C.2.1 C.2.2.2.2.2.1 a k 2 ((wd_at (kd_lt 7 (by decide) hk)).trans (by rw [ce_7 hk])) rfl hi d (kk H locs a b)
theorem q_iast (C : cx p s m args meth c G own cc nL rt) {k : Nat} {i x : Int32} (hk : kd k = 5) (hi : vp_in i (al k) ∧ h' = si h k i.toNatClampNeg x) (d : decode cc pc = .ok (.iastore, 1)) (kk : WW p l e hg s m args below meth c G h' Q (F0 m (pc + 1) ls rest)) : WW p l e hg s m args below meth c G h Q (F0 m pc ls (.int x :: .int i :: .ref (G.2.2.2.2 k) :: rest)) := by
  obtain ⟨hi, rfl⟩ := hi
  refine fun H locs a b => va_iast C.1 C.2.1 C.2.2.2.2.2.1 a (wd_D C.2.2.2.2.2.2.1 h) b k 0 ((wd_at (kd_lt 5 (by decide) hk)).trans (by rw [ce_5 hk])) rfl hi d (fun H1 locs1 a1 _ b1 => kk H1 locs1 ?_ b1)
  rw [wd_set (h' := si h k i.toNatClampNeg x) (by rw [ce_5 hk, si_at]) (ce_si G h k _ x)] at a1
  exact a1
theorem q_zast (C : cx p s m args meth c G own cc nL rt) {k : Nat} {i x : Int32} (hk : kd k = 6) (hz : x = 0 ∨ x = 1) (hi : vp_in i (al k) ∧ h' = si h k i.toNatClampNeg x) (d : decode cc pc = .ok (.bastore, 1)) (kk : WW p l e hg s m args below meth c G h' Q (F0 m (pc + 1) ls rest)) : WW p l e hg s m args below meth c G h Q (F0 m pc ls (.int x :: .int i :: .ref (G.2.2.2.2 k) :: rest)) := by
  obtain ⟨hi, rfl⟩ := hi
  have hx : vp_nar .boolean x = x := by rcases hz with rfl | rfl <;> decide +kernel
  refine fun H locs a b => va_zast C.1 C.2.1 C.2.2.2.2.2.1 a (wd_D C.2.2.2.2.2.2.1 h) b k 1 ((wd_at (kd_lt 6 (by decide) hk)).trans (by rw [ce_6 hk])) rfl hi d (fun H1 locs1 a1 _ b1 => kk H1 locs1 ?_ b1)
  rw [hx, wd_set (h' := si h k i.toNatClampNeg x) (by rw [ce_6 hk, si_at]) (ce_si G h k _ x)] at a1
  exact a1
theorem q_cp (C : cx p s m args meth c G own cc nL rt) {k0 k1 idx : Nat} {sp dp n : Int32} (hf : 1 ≤ hg) (hl : ls.size = nL) (hk0 : kd k0 = 5) (hk1 : kd k1 = 5) (hi : (¬ sp < 0 ∧ ¬ dp < 0 ∧ ¬ n < 0 ∧ sp.toNatClampNeg + n.toNatClampNeg ≤ al k0 ∧ dp.toNatClampNeg + n.toNatClampNeg ≤ al k1) ∧ h' = sa h k1 (va_cpy (h.1 k0) (h.1 k1) sp.toNatClampNeg dp.toNatClampNeg n.toNatClampNeg)) (hw : Cond.methodLink own idx arraycopyName ∈ ut) (hr : (rest.map fun v => v.category).sum ≤ 8) (d : decode cc pc = .ok (.invokestatic idx, 3)) (kk : WW p l e hg s m args below meth c G h' Q (F0 m (pc + 3) ls rest)) : WW p l e hg s m args below meth c G h Q (F0 m pc ls (.int n :: .int dp :: .ref (G.2.2.2.2 k1) :: .int sp :: .ref (G.2.2.2.2 k0) :: rest)) := by
  obtain ⟨⟨h1, h2, h3, h4, h5⟩, rfl⟩ := hi
  refine fun H locs a b => va_copyi (ty := .int) C.1 C.2.1 (C.2.2.1.trans hl.symm) C.2.2.2.1 (C.2.2.2.2.1 _ hw) (C.2.2.2.2.1 _ w_ac_native) (C.2.2.2.2.1 _ w_ac_static) (C.2.2.2.2.1 _ w_in_J10) C.2.2.2.2.2.1 a (wd_D C.2.2.2.2.2.2.1 h) b k0 k1 0 0 ((wd_at (kd_lt 5 (by decide) hk0)).trans (by rw [ce_5 hk0])) ((wd_at (kd_lt 5 (by decide) hk1)).trans (by rw [ce_5 hk1])) rfl rfl rfl h1 h2 h3 h4 h5 (fun _ _ => rfl) hf ?_ d (fun H1 locs1 a1 _ b1 => kk H1 locs1 ?_ b1)
  · have hw9 : nativeFrameWords "java/lang/System" "arraycopy" 5 + 11 ≤ 25 := by decide +kernel
    show _ ≤ 33 * hg
    omega
  · rw [wd_set (h' := sa h k1 (va_cpy (h.1 k0) (h.1 k1) sp.toNatClampNeg dp.toNatClampNeg n.toNatClampNeg)) (by rw [ce_5 hk1]; simp [sa]) (ce_sa G h k1 _)] at a1
    exact a1
theorem q_max (C : cx p s m args meth c G own cc nL rt) {idx : Nat} {x y : Int32} (hf : 1 ≤ hg) (hl : ls.size = nL) (hw : Cond.methodLink own idx Lib.Math.max.name ∈ ut) (hr : (rest.map fun v => v.category).sum ≤ 8) (d : decode cc pc = .ok (.invokestatic idx, 3)) (kk : WW p l e hg s m args below meth c G h Q (F0 m (pc + 3) ls (.int (if x < y then y else x) :: rest))) : WW p l e hg s m args below meth c G h Q (F0 m pc ls (.int y :: .int x :: rest)) := by
  refine fun H locs a b => va_mmax C.1 C.2.1 (C.2.2.1.trans hl.symm) C.2.2.2.1 (C.2.2.2.2.1 _ hw) (C.2.2.2.2.1 _ w_st_J9_max_7cf53) (C.2.2.2.2.1 _ w_in_J9) (C.2.2.2.2.1 _ w_co_J9_max_7cf53) hf ?_ (Nat.zero_le _) (Nat.zero_le _) d (kk H locs a b)
  show _ ≤ 33 * hg
  omega
theorem q_min (C : cx p s m args meth c G own cc nL rt) {idx : Nat} {x y : Int32} (hf : 1 ≤ hg) (hl : ls.size = nL) (hw : Cond.methodLink own idx Lib.Math.min.name ∈ ut) (hr : (rest.map fun v => v.category).sum ≤ 8) (d : decode cc pc = .ok (.invokestatic idx, 3)) (kk : WW p l e hg s m args below meth c G h Q (F0 m (pc + 3) ls (.int (if y < x then y else x) :: rest))) : WW p l e hg s m args below meth c G h Q (F0 m pc ls (.int y :: .int x :: rest)) := by
  refine fun H locs a b => va_mmin C.1 C.2.1 (C.2.2.1.trans hl.symm) C.2.2.2.1 (C.2.2.2.2.1 _ hw) (C.2.2.2.2.1 _ w_st_J9_min_7cf53) (C.2.2.2.2.1 _ w_in_J9) (C.2.2.2.2.1 _ w_co_J9_min_7cf53) hf ?_ (Nat.zero_le _) (Nat.zero_le _) d (kk H locs a b)
  show _ ≤ 33 * hg
  omega
theorem q_abs (C : cx p s m args meth c G own cc nL rt) {idx : Nat} {x : Int32} (hf : 1 ≤ hg) (hl : ls.size = nL) (hw : Cond.methodLink own idx Lib.Math.abs.name ∈ ut) (hr : (rest.map fun v => v.category).sum ≤ 8) (d : decode cc pc = .ok (.invokestatic idx, 3)) (kk : WW p l e hg s m args below meth c G h Q (F0 m (pc + 3) ls (.int (if 0 ≤ x then x else 0 - x) :: rest))) : WW p l e hg s m args below meth c G h Q (F0 m pc ls (.int x :: rest)) := by
  refine fun H locs a b => va_mabs C.1 C.2.1 (C.2.2.1.trans hl.symm) C.2.2.2.1 (C.2.2.2.2.1 _ hw) (C.2.2.2.2.1 _ w_st_J9_abs_0f7a4) (C.2.2.2.2.1 _ w_in_J9) (C.2.2.2.2.1 _ w_co_J9_abs_0f7a4) hf ?_ (Nat.zero_le _) (Nat.zero_le _) d (kk H locs a b)
  show _ ≤ 33 * hg
  omega
theorem q_get (C : cx p s m args meth c G own cc nL rt) {k ci N idx : Nat} {T : u_T} {Cn : String} (hc : vwCl[ci]? = some (Cn, T, N)) (hin : ∀ w ∈ u_ws Cn T N, w ∈ ut) (hk : k < 128) {fs : List Value} (he : ce G h k = .inr (ci, fs)) (i : Nat) (hi : i < N) (hw : Cond.fieldLink own idx (T i).1 (T i).2.1 (T i).2.2.1 ∈ ut) {v : Value} (hv : fs[i]? = some v) (d : decode cc pc = .ok (.getfield idx, 3)) (kk : WW p l e hg s m args below meth c G h Q (F0 m (pc + 3) ls (v :: rest))) : WW p l e hg s m args below meth c G h Q (F0 m pc ls (.ref (G.2.2.2.2 k) :: rest)) :=
  fun H locs a b => va_get C.1 C.2.1 C.2.2.2.2.1 hin C.2.2.2.1 C.2.2.2.2.2.1 a k ((wd_at hk).trans (by rw [he])) hc i hi (C.2.2.2.2.1 _ hw) (fun _ z => z) hv d (kk H locs a b)
theorem q_put (C : cx p s m args meth c G own cc nL rt) {k ci N idx : Nat} {T : u_T} {Cn : String} (hc : vwCl[ci]? = some (Cn, T, N)) (hin : ∀ w ∈ u_ws Cn T N, w ∈ ut) {tf : Nat → FieldType} (hty : ∀ k, k < N → parseFieldDescriptor (T k).2.2.1 = some (tf k)) (hnm : ∀ a, a < N → ∀ b, b < N → a ≠ b → (T a).2.1 ≠ (T b).2.1) (hk : k < 128) {fs : List Value} (he : ce G h k = .inr (ci, fs)) (i : Nat) (hi : i < N) (hw : Cond.fieldLink own idx (T i).1 (T i).2.1 (T i).2.2.1 ∈ ut) (hfin : (T i).2.2.2 = false) {v : Value} (hn : narrow (tf i) v = v) (hfit : fits (tf i) v = true) (hlen : i < fs.length) (he2 : ce G h' k = .inr (ci, fs.set i v)) (hne : ∀ j, j ≠ k → ce G h' j = ce G h j) (d : decode cc pc = .ok (.putfield idx, 3)) (kk : WW p l e hg s m args below meth c G h' Q (F0 m (pc + 3) ls rest)) : WW p l e hg s m args below meth c G h Q (F0 m pc ls (v :: .ref (G.2.2.2.2 k) :: rest)) := by
  refine fun H locs a b => va_put C.1 C.2.1 C.2.2.2.2.1 hin tf hty hnm C.2.2.2.1 C.2.2.2.2.2.1 a (wd_D C.2.2.2.2.2.2.1 h) b k ((wd_at hk).trans (by rw [he])) hc i hi (C.2.2.2.2.1 _ hw) (fun _ z => z) hfin (hty i hi) hn hfit hlen d (fun H1 locs1 a1 _ b1 => kk H1 locs1 ?_ b1)
  rw [wd_set (h' := h') he2 hne] at a1
  exact a1
theorem g_X1_cells (C : cx p s m args meth c G own cc nL rt) {k idx : Nat} (hk : kd k = 0) (hw : Cond.fieldLink own idx RX1 "cells" "I" ∈ ut) (d : decode cc pc = .ok (.getfield idx, 3)) (kk : WW p l e hg s m args below meth c G h Q (F0 m (pc + 3) ls (.int (h.1 k 0) :: rest))) : WW p l e hg s m args below meth c G h Q (F0 m pc ls (.ref (G.2.2.2.2 k) :: rest)) := q_get C (ci := 0) (N := 7) rfl in_X1 (kd_lt 0 (by decide) hk) (ce_0 hk) 0 (by decide) hw rfl d kk
theorem p_X1_cells (C : cx p s m args meth c G own cc nL rt) {k idx : Nat} {v : Int32} (hk : kd k = 0) (hw : Cond.fieldLink own idx RX1 "cells" "I" ∈ ut) (hh : h' = si h k 0 v) (d : decode cc pc = .ok (.putfield idx, 3)) (kk : WW p l e hg s m args below meth c G h' Q (F0 m (pc + 3) ls rest)) : WW p l e hg s m args below meth c G h Q (F0 m pc ls (.int v :: .ref (G.2.2.2.2 k) :: rest)) := by
  subst hh
  exact q_put C (ci := 0) (N := 7) rfl in_X1 tyX1_ok nmX1 (kd_lt 0 (by decide) hk) (ce_0 hk) 0 (by decide) hw rfl rfl rfl (by show 0 < 7; decide) ((ce_0 hk).trans (by simp [si])) (ce_si G h k 0 v) d kk
theorem g_X1_stations (C : cx p s m args meth c G own cc nL rt) {k idx : Nat} (hk : kd k = 0) (hw : Cond.fieldLink own idx RX1 "stations" "[I" ∈ ut) (d : decode cc pc = .ok (.getfield idx, 3)) (kk : WW p l e hg s m args below meth c G h Q (F0 m (pc + 3) ls (.ref (G.2.2.2.2 (k + 1)) :: rest))) : WW p l e hg s m args below meth c G h Q (F0 m pc ls (.ref (G.2.2.2.2 k) :: rest)) := q_get C (ci := 0) (N := 7) rfl in_X1 (kd_lt 0 (by decide) hk) (ce_0 hk) 1 (by decide) hw rfl d kk
theorem g_X1_target (C : cx p s m args meth c G own cc nL rt) {k idx : Nat} (hk : kd k = 0) (hw : Cond.fieldLink own idx RX1 "target" "I" ∈ ut) (d : decode cc pc = .ok (.getfield idx, 3)) (kk : WW p l e hg s m args below meth c G h Q (F0 m (pc + 3) ls (.int (h.1 k 2) :: rest))) : WW p l e hg s m args below meth c G h Q (F0 m pc ls (.ref (G.2.2.2.2 k) :: rest)) := q_get C (ci := 0) (N := 7) rfl in_X1 (kd_lt 0 (by decide) hk) (ce_0 hk) 2 (by decide) hw rfl d kk
theorem p_X1_target (C : cx p s m args meth c G own cc nL rt) {k idx : Nat} {v : Int32} (hk : kd k = 0) (hw : Cond.fieldLink own idx RX1 "target" "I" ∈ ut) (hh : h' = si h k 2 v) (d : decode cc pc = .ok (.putfield idx, 3)) (kk : WW p l e hg s m args below meth c G h' Q (F0 m (pc + 3) ls rest)) : WW p l e hg s m args below meth c G h Q (F0 m pc ls (.int v :: .ref (G.2.2.2.2 k) :: rest)) := by
  subst hh
  exact q_put C (ci := 0) (N := 7) rfl in_X1 tyX1_ok nmX1 (kd_lt 0 (by decide) hk) (ce_0 hk) 2 (by decide) hw rfl rfl rfl (by show 2 < 7; decide) ((ce_0 hk).trans (by simp [si])) (ce_si G h k 2 v) d kk
theorem g_X1_tolerance (C : cx p s m args meth c G own cc nL rt) {k idx : Nat} (hk : kd k = 0) (hw : Cond.fieldLink own idx RX1 "tolerance" "I" ∈ ut) (d : decode cc pc = .ok (.getfield idx, 3)) (kk : WW p l e hg s m args below meth c G h Q (F0 m (pc + 3) ls (.int (h.1 k 3) :: rest))) : WW p l e hg s m args below meth c G h Q (F0 m pc ls (.ref (G.2.2.2.2 k) :: rest)) := q_get C (ci := 0) (N := 7) rfl in_X1 (kd_lt 0 (by decide) hk) (ce_0 hk) 3 (by decide) hw rfl d kk
theorem p_X1_tolerance (C : cx p s m args meth c G own cc nL rt) {k idx : Nat} {v : Int32} (hk : kd k = 0) (hw : Cond.fieldLink own idx RX1 "tolerance" "I" ∈ ut) (hh : h' = si h k 3 v) (d : decode cc pc = .ok (.putfield idx, 3)) (kk : WW p l e hg s m args below meth c G h' Q (F0 m (pc + 3) ls rest)) : WW p l e hg s m args below meth c G h Q (F0 m pc ls (.int v :: .ref (G.2.2.2.2 k) :: rest)) := by
  subst hh
  exact q_put C (ci := 0) (N := 7) rfl in_X1 tyX1_ok nmX1 (kd_lt 0 (by decide) hk) (ce_0 hk) 3 (by decide) hw rfl rfl rfl (by show 3 < 7; decide) ((ce_0 hk).trans (by simp [si])) (ce_si G h k 3 v) d kk
theorem g_X1_each (C : cx p s m args meth c G own cc nL rt) {k idx : Nat} (hk : kd k = 0) (hw : Cond.fieldLink own idx RX1 "each" "I" ∈ ut) (d : decode cc pc = .ok (.getfield idx, 3)) (kk : WW p l e hg s m args below meth c G h Q (F0 m (pc + 3) ls (.int (h.1 k 4) :: rest))) : WW p l e hg s m args below meth c G h Q (F0 m pc ls (.ref (G.2.2.2.2 k) :: rest)) := q_get C (ci := 0) (N := 7) rfl in_X1 (kd_lt 0 (by decide) hk) (ce_0 hk) 4 (by decide) hw rfl d kk
theorem p_X1_each (C : cx p s m args meth c G own cc nL rt) {k idx : Nat} {v : Int32} (hk : kd k = 0) (hw : Cond.fieldLink own idx RX1 "each" "I" ∈ ut) (hh : h' = si h k 4 v) (d : decode cc pc = .ok (.putfield idx, 3)) (kk : WW p l e hg s m args below meth c G h' Q (F0 m (pc + 3) ls rest)) : WW p l e hg s m args below meth c G h Q (F0 m pc ls (.int v :: .ref (G.2.2.2.2 k) :: rest)) := by
  subst hh
  exact q_put C (ci := 0) (N := 7) rfl in_X1 tyX1_ok nmX1 (kd_lt 0 (by decide) hk) (ce_0 hk) 4 (by decide) hw rfl rfl rfl (by show 4 < 7; decide) ((ce_0 hk).trans (by simp [si])) (ce_si G h k 4 v) d kk
theorem g_X1_valves (C : cx p s m args meth c G own cc nL rt) {k idx : Nat} (hk : kd k = 0) (hw : Cond.fieldLink own idx RX1 "valves" "I" ∈ ut) (d : decode cc pc = .ok (.getfield idx, 3)) (kk : WW p l e hg s m args below meth c G h Q (F0 m (pc + 3) ls (.int (h.1 k 5) :: rest))) : WW p l e hg s m args below meth c G h Q (F0 m pc ls (.ref (G.2.2.2.2 k) :: rest)) := q_get C (ci := 0) (N := 7) rfl in_X1 (kd_lt 0 (by decide) hk) (ce_0 hk) 5 (by decide) hw rfl d kk
theorem p_X1_valves (C : cx p s m args meth c G own cc nL rt) {k idx : Nat} {v : Int32} (hk : kd k = 0) (hw : Cond.fieldLink own idx RX1 "valves" "I" ∈ ut) (hh : h' = si h k 5 v) (d : decode cc pc = .ok (.putfield idx, 3)) (kk : WW p l e hg s m args below meth c G h' Q (F0 m (pc + 3) ls rest)) : WW p l e hg s m args below meth c G h Q (F0 m pc ls (.int v :: .ref (G.2.2.2.2 k) :: rest)) := by
  subst hh
  exact q_put C (ci := 0) (N := 7) rfl in_X1 tyX1_ok nmX1 (kd_lt 0 (by decide) hk) (ce_0 hk) 5 (by decide) hw rfl rfl rfl (by show 5 < 7; decide) ((ce_0 hk).trans (by simp [si])) (ce_si G h k 5 v) d kk
theorem g_X1_drifts (C : cx p s m args meth c G own cc nL rt) {k idx : Nat} (hk : kd k = 0) (hw : Cond.fieldLink own idx RX1 "drifts" "[I" ∈ ut) (d : decode cc pc = .ok (.getfield idx, 3)) (kk : WW p l e hg s m args below meth c G h Q (F0 m (pc + 3) ls (.ref (G.2.2.2.2 (k + 2)) :: rest))) : WW p l e hg s m args below meth c G h Q (F0 m pc ls (.ref (G.2.2.2.2 k) :: rest)) := q_get C (ci := 0) (N := 7) rfl in_X1 (kd_lt 0 (by decide) hk) (ce_0 hk) 6 (by decide) hw rfl d kk
theorem g_X2_plan (C : cx p s m args meth c G own cc nL rt) {k idx : Nat} (hk : kd k = 1) (hw : Cond.fieldLink own idx RX2 "plan" "LBottleLine$Plan;" ∈ ut) (d : decode cc pc = .ok (.getfield idx, 3)) (kk : WW p l e hg s m args below meth c G h Q (F0 m (pc + 3) ls (.ref (G.2.2.2.2 9) :: rest))) : WW p l e hg s m args below meth c G h Q (F0 m pc ls (.ref (G.2.2.2.2 k) :: rest)) := q_get C (ci := 1) (N := 6) rfl in_X2 (kd_lt 1 (by decide) hk) (ce_1 hk) 0 (by decide) hw rfl d kk
theorem g_X2_start (C : cx p s m args meth c G own cc nL rt) {k idx : Nat} (hk : kd k = 1) (hw : Cond.fieldLink own idx RX2 "start" "LBottleLine$State;" ∈ ut) (d : decode cc pc = .ok (.getfield idx, 3)) (kk : WW p l e hg s m args below meth c G h Q (F0 m (pc + 3) ls (.ref (G.2.2.2.2 15) :: rest))) : WW p l e hg s m args below meth c G h Q (F0 m pc ls (.ref (G.2.2.2.2 k) :: rest)) := q_get C (ci := 1) (N := 6) rfl in_X2 (kd_lt 1 (by decide) hk) (ce_1 hk) 1 (by decide) hw rfl d kk
theorem g_X2_headTaken (C : cx p s m args meth c G own cc nL rt) {k idx : Nat} (hk : kd k = 1) (hw : Cond.fieldLink own idx RX2 "headTaken" "I" ∈ ut) (d : decode cc pc = .ok (.getfield idx, 3)) (kk : WW p l e hg s m args below meth c G h Q (F0 m (pc + 3) ls (.int (h.1 k 2) :: rest))) : WW p l e hg s m args below meth c G h Q (F0 m pc ls (.ref (G.2.2.2.2 k) :: rest)) := q_get C (ci := 1) (N := 6) rfl in_X2 (kd_lt 1 (by decide) hk) (ce_1 hk) 2 (by decide) hw rfl d kk
theorem p_X2_headTaken (C : cx p s m args meth c G own cc nL rt) {k idx : Nat} {v : Int32} (hk : kd k = 1) (hw : Cond.fieldLink own idx RX2 "headTaken" "I" ∈ ut) (hh : h' = si h k 2 v) (d : decode cc pc = .ok (.putfield idx, 3)) (kk : WW p l e hg s m args below meth c G h' Q (F0 m (pc + 3) ls rest)) : WW p l e hg s m args below meth c G h Q (F0 m pc ls (.int v :: .ref (G.2.2.2.2 k) :: rest)) := by
  subst hh
  exact q_put C (ci := 1) (N := 6) rfl in_X2 tyX2_ok nmX2 (kd_lt 1 (by decide) hk) (ce_1 hk) 2 (by decide) hw rfl rfl rfl (by show 2 < 6; decide) ((ce_1 hk).trans (by simp [si])) (ce_si G h k 2 v) d kk
theorem g_X2_part (C : cx p s m args meth c G own cc nL rt) {k idx : Nat} (hk : kd k = 1) (hw : Cond.fieldLink own idx RX2 "part" "I" ∈ ut) (d : decode cc pc = .ok (.getfield idx, 3)) (kk : WW p l e hg s m args below meth c G h Q (F0 m (pc + 3) ls (.int (h.1 k 3) :: rest))) : WW p l e hg s m args below meth c G h Q (F0 m pc ls (.ref (G.2.2.2.2 k) :: rest)) := q_get C (ci := 1) (N := 6) rfl in_X2 (kd_lt 1 (by decide) hk) (ce_1 hk) 3 (by decide) hw rfl d kk
theorem p_X2_part (C : cx p s m args meth c G own cc nL rt) {k idx : Nat} {v : Int32} (hk : kd k = 1) (hw : Cond.fieldLink own idx RX2 "part" "I" ∈ ut) (hh : h' = si h k 3 v) (d : decode cc pc = .ok (.putfield idx, 3)) (kk : WW p l e hg s m args below meth c G h' Q (F0 m (pc + 3) ls rest)) : WW p l e hg s m args below meth c G h Q (F0 m pc ls (.int v :: .ref (G.2.2.2.2 k) :: rest)) := by
  subst hh
  exact q_put C (ci := 1) (N := 6) rfl in_X2 tyX2_ok nmX2 (kd_lt 1 (by decide) hk) (ce_1 hk) 3 (by decide) hw rfl rfl rfl (by show 3 < 6; decide) ((ce_1 hk).trans (by simp [si])) (ce_si G h k 3 v) d kk
theorem g_X2_partDigits (C : cx p s m args meth c G own cc nL rt) {k idx : Nat} (hk : kd k = 1) (hw : Cond.fieldLink own idx RX2 "partDigits" "I" ∈ ut) (d : decode cc pc = .ok (.getfield idx, 3)) (kk : WW p l e hg s m args below meth c G h Q (F0 m (pc + 3) ls (.int (h.1 k 4) :: rest))) : WW p l e hg s m args below meth c G h Q (F0 m pc ls (.ref (G.2.2.2.2 k) :: rest)) := q_get C (ci := 1) (N := 6) rfl in_X2 (kd_lt 1 (by decide) hk) (ce_1 hk) 4 (by decide) hw rfl d kk
theorem p_X2_partDigits (C : cx p s m args meth c G own cc nL rt) {k idx : Nat} {v : Int32} (hk : kd k = 1) (hw : Cond.fieldLink own idx RX2 "partDigits" "I" ∈ ut) (hh : h' = si h k 4 v) (d : decode cc pc = .ok (.putfield idx, 3)) (kk : WW p l e hg s m args below meth c G h' Q (F0 m (pc + 3) ls rest)) : WW p l e hg s m args below meth c G h Q (F0 m pc ls (.int v :: .ref (G.2.2.2.2 k) :: rest)) := by
  subst hh
  exact q_put C (ci := 1) (N := 6) rfl in_X2 tyX2_ok nmX2 (kd_lt 1 (by decide) hk) (ce_1 hk) 4 (by decide) hw rfl rfl rfl (by show 4 < 6; decide) ((ce_1 hk).trans (by simp [si])) (ce_si G h k 4 v) d kk
theorem g_X2_partNumber (C : cx p s m args meth c G own cc nL rt) {k idx : Nat} (hk : kd k = 1) (hw : Cond.fieldLink own idx RX2 "partNumber" "I" ∈ ut) (d : decode cc pc = .ok (.getfield idx, 3)) (kk : WW p l e hg s m args below meth c G h Q (F0 m (pc + 3) ls (.int (h.1 k 5) :: rest))) : WW p l e hg s m args below meth c G h Q (F0 m pc ls (.ref (G.2.2.2.2 k) :: rest)) := q_get C (ci := 1) (N := 6) rfl in_X2 (kd_lt 1 (by decide) hk) (ce_1 hk) 5 (by decide) hw rfl d kk
theorem p_X2_partNumber (C : cx p s m args meth c G own cc nL rt) {k idx : Nat} {v : Int32} (hk : kd k = 1) (hw : Cond.fieldLink own idx RX2 "partNumber" "I" ∈ ut) (hh : h' = si h k 5 v) (d : decode cc pc = .ok (.putfield idx, 3)) (kk : WW p l e hg s m args below meth c G h' Q (F0 m (pc + 3) ls rest)) : WW p l e hg s m args below meth c G h Q (F0 m pc ls (.int v :: .ref (G.2.2.2.2 k) :: rest)) := by
  subst hh
  exact q_put C (ci := 1) (N := 6) rfl in_X2 tyX2_ok nmX2 (kd_lt 1 (by decide) hk) (ce_1 hk) 5 (by decide) hw rfl rfl rfl (by show 5 < 6; decide) ((ce_1 hk).trans (by simp [si])) (ce_si G h k 5 v) d kk
theorem g_X3_plan (C : cx p s m args meth c G own cc nL rt) {k idx : Nat} (hk : kd k = 2) (hw : Cond.fieldLink own idx RX3 "plan" "LBottleLine$Plan;" ∈ ut) (d : decode cc pc = .ok (.getfield idx, 3)) (kk : WW p l e hg s m args below meth c G h Q (F0 m (pc + 3) ls (.ref (G.2.2.2.2 (pl_of k)) :: rest))) : WW p l e hg s m args below meth c G h Q (F0 m pc ls (.ref (G.2.2.2.2 k) :: rest)) := q_get C (ci := 2) (N := 18) rfl in_X3 (kd_lt 2 (by decide) hk) (ce_2 hk) 0 (by decide) hw rfl d kk
theorem g_X3_bottles (C : cx p s m args meth c G own cc nL rt) {k idx : Nat} (hk : kd k = 2) (hw : Cond.fieldLink own idx RX3 "bottles" "[I" ∈ ut) (d : decode cc pc = .ok (.getfield idx, 3)) (kk : WW p l e hg s m args below meth c G h Q (F0 m (pc + 3) ls (.ref (G.2.2.2.2 (k + 1)) :: rest))) : WW p l e hg s m args below meth c G h Q (F0 m pc ls (.ref (G.2.2.2.2 k) :: rest)) := q_get C (ci := 2) (N := 18) rfl in_X3 (kd_lt 2 (by decide) hk) (ce_2 hk) 1 (by decide) hw rfl d kk
theorem g_X3_marks (C : cx p s m args meth c G own cc nL rt) {k idx : Nat} (hk : kd k = 2) (hw : Cond.fieldLink own idx RX3 "marks" "[I" ∈ ut) (d : decode cc pc = .ok (.getfield idx, 3)) (kk : WW p l e hg s m args below meth c G h Q (F0 m (pc + 3) ls (.ref (G.2.2.2.2 (k + 2)) :: rest))) : WW p l e hg s m args below meth c G h Q (F0 m pc ls (.ref (G.2.2.2.2 k) :: rest)) := q_get C (ci := 2) (N := 18) rfl in_X3 (kd_lt 2 (by decide) hk) (ce_2 hk) 2 (by decide) hw rfl d kk
theorem g_X3_settings (C : cx p s m args meth c G own cc nL rt) {k idx : Nat} (hk : kd k = 2) (hw : Cond.fieldLink own idx RX3 "settings" "[I" ∈ ut) (d : decode cc pc = .ok (.getfield idx, 3)) (kk : WW p l e hg s m args below meth c G h Q (F0 m (pc + 3) ls (.ref (G.2.2.2.2 (k + 3)) :: rest))) : WW p l e hg s m args below meth c G h Q (F0 m pc ls (.ref (G.2.2.2.2 k) :: rest)) := q_get C (ci := 2) (N := 18) rfl in_X3 (kd_lt 2 (by decide) hk) (ce_2 hk) 3 (by decide) hw rfl d kk
theorem g_X3_off (C : cx p s m args meth c G own cc nL rt) {k idx : Nat} (hk : kd k = 2) (hw : Cond.fieldLink own idx RX3 "off" "I" ∈ ut) (d : decode cc pc = .ok (.getfield idx, 3)) (kk : WW p l e hg s m args below meth c G h Q (F0 m (pc + 3) ls (.int (h.1 k 4) :: rest))) : WW p l e hg s m args below meth c G h Q (F0 m pc ls (.ref (G.2.2.2.2 k) :: rest)) := q_get C (ci := 2) (N := 18) rfl in_X3 (kd_lt 2 (by decide) hk) (ce_2 hk) 4 (by decide) hw rfl d kk
theorem p_X3_off (C : cx p s m args meth c G own cc nL rt) {k idx : Nat} {v : Int32} (hk : kd k = 2) (hw : Cond.fieldLink own idx RX3 "off" "I" ∈ ut) (hh : h' = si h k 4 v) (d : decode cc pc = .ok (.putfield idx, 3)) (kk : WW p l e hg s m args below meth c G h' Q (F0 m (pc + 3) ls rest)) : WW p l e hg s m args below meth c G h Q (F0 m pc ls (.int v :: .ref (G.2.2.2.2 k) :: rest)) := by
  subst hh
  exact q_put C (ci := 2) (N := 18) rfl in_X3 tyX3_ok nmX3 (kd_lt 2 (by decide) hk) (ce_2 hk) 4 (by decide) hw rfl rfl rfl (by show 4 < 18; decide) ((ce_2 hk).trans (by simp [si])) (ce_si G h k 4 v) d kk
theorem g_X3_entries (C : cx p s m args meth c G own cc nL rt) {k idx : Nat} (hk : kd k = 2) (hw : Cond.fieldLink own idx RX3 "entries" "[I" ∈ ut) (d : decode cc pc = .ok (.getfield idx, 3)) (kk : WW p l e hg s m args below meth c G h Q (F0 m (pc + 3) ls (.ref (G.2.2.2.2 (k + 4)) :: rest))) : WW p l e hg s m args below meth c G h Q (F0 m pc ls (.ref (G.2.2.2.2 k) :: rest)) := q_get C (ci := 2) (N := 18) rfl in_X3 (kd_lt 2 (by decide) hk) (ce_2 hk) 5 (by decide) hw rfl d kk
theorem g_X3_entryCount (C : cx p s m args meth c G own cc nL rt) {k idx : Nat} (hk : kd k = 2) (hw : Cond.fieldLink own idx RX3 "entryCount" "I" ∈ ut) (d : decode cc pc = .ok (.getfield idx, 3)) (kk : WW p l e hg s m args below meth c G h Q (F0 m (pc + 3) ls (.int (h.1 k 6) :: rest))) : WW p l e hg s m args below meth c G h Q (F0 m pc ls (.ref (G.2.2.2.2 k) :: rest)) := q_get C (ci := 2) (N := 18) rfl in_X3 (kd_lt 2 (by decide) hk) (ce_2 hk) 6 (by decide) hw rfl d kk
theorem p_X3_entryCount (C : cx p s m args meth c G own cc nL rt) {k idx : Nat} {v : Int32} (hk : kd k = 2) (hw : Cond.fieldLink own idx RX3 "entryCount" "I" ∈ ut) (hh : h' = si h k 6 v) (d : decode cc pc = .ok (.putfield idx, 3)) (kk : WW p l e hg s m args below meth c G h' Q (F0 m (pc + 3) ls rest)) : WW p l e hg s m args below meth c G h Q (F0 m pc ls (.int v :: .ref (G.2.2.2.2 k) :: rest)) := by
  subst hh
  exact q_put C (ci := 2) (N := 18) rfl in_X3 tyX3_ok nmX3 (kd_lt 2 (by decide) hk) (ce_2 hk) 6 (by decide) hw rfl rfl rfl (by show 6 < 18; decide) ((ce_2 hk).trans (by simp [si])) (ce_si G h k 6 v) d kk
theorem g_X3_caps (C : cx p s m args meth c G own cc nL rt) {k idx : Nat} (hk : kd k = 2) (hw : Cond.fieldLink own idx RX3 "caps" "I" ∈ ut) (d : decode cc pc = .ok (.getfield idx, 3)) (kk : WW p l e hg s m args below meth c G h Q (F0 m (pc + 3) ls (.int (h.1 k 7) :: rest))) : WW p l e hg s m args below meth c G h Q (F0 m pc ls (.ref (G.2.2.2.2 k) :: rest)) := q_get C (ci := 2) (N := 18) rfl in_X3 (kd_lt 2 (by decide) hk) (ce_2 hk) 7 (by decide) hw rfl d kk
theorem p_X3_caps (C : cx p s m args meth c G own cc nL rt) {k idx : Nat} {v : Int32} (hk : kd k = 2) (hw : Cond.fieldLink own idx RX3 "caps" "I" ∈ ut) (hh : h' = si h k 7 v) (d : decode cc pc = .ok (.putfield idx, 3)) (kk : WW p l e hg s m args below meth c G h' Q (F0 m (pc + 3) ls rest)) : WW p l e hg s m args below meth c G h Q (F0 m pc ls (.int v :: .ref (G.2.2.2.2 k) :: rest)) := by
  subst hh
  exact q_put C (ci := 2) (N := 18) rfl in_X3 tyX3_ok nmX3 (kd_lt 2 (by decide) hk) (ce_2 hk) 7 (by decide) hw rfl rfl rfl (by show 7 < 18; decide) ((ce_2 hk).trans (by simp [si])) (ce_si G h k 7 v) d kk
theorem g_X3_labels (C : cx p s m args meth c G own cc nL rt) {k idx : Nat} (hk : kd k = 2) (hw : Cond.fieldLink own idx RX3 "labels" "I" ∈ ut) (d : decode cc pc = .ok (.getfield idx, 3)) (kk : WW p l e hg s m args below meth c G h Q (F0 m (pc + 3) ls (.int (h.1 k 8) :: rest))) : WW p l e hg s m args below meth c G h Q (F0 m pc ls (.ref (G.2.2.2.2 k) :: rest)) := q_get C (ci := 2) (N := 18) rfl in_X3 (kd_lt 2 (by decide) hk) (ce_2 hk) 8 (by decide) hw rfl d kk
theorem p_X3_labels (C : cx p s m args meth c G own cc nL rt) {k idx : Nat} {v : Int32} (hk : kd k = 2) (hw : Cond.fieldLink own idx RX3 "labels" "I" ∈ ut) (hh : h' = si h k 8 v) (d : decode cc pc = .ok (.putfield idx, 3)) (kk : WW p l e hg s m args below meth c G h' Q (F0 m (pc + 3) ls rest)) : WW p l e hg s m args below meth c G h Q (F0 m pc ls (.int v :: .ref (G.2.2.2.2 k) :: rest)) := by
  subst hh
  exact q_put C (ci := 2) (N := 18) rfl in_X3 tyX3_ok nmX3 (kd_lt 2 (by decide) hk) (ce_2 hk) 8 (by decide) hw rfl rfl rfl (by show 8 < 18; decide) ((ce_2 hk).trans (by simp [si])) (ce_si G h k 8 v) d kk
theorem g_X3_steps (C : cx p s m args meth c G own cc nL rt) {k idx : Nat} (hk : kd k = 2) (hw : Cond.fieldLink own idx RX3 "steps" "I" ∈ ut) (d : decode cc pc = .ok (.getfield idx, 3)) (kk : WW p l e hg s m args below meth c G h Q (F0 m (pc + 3) ls (.int (h.1 k 9) :: rest))) : WW p l e hg s m args below meth c G h Q (F0 m pc ls (.ref (G.2.2.2.2 k) :: rest)) := q_get C (ci := 2) (N := 18) rfl in_X3 (kd_lt 2 (by decide) hk) (ce_2 hk) 9 (by decide) hw rfl d kk
theorem p_X3_steps (C : cx p s m args meth c G own cc nL rt) {k idx : Nat} {v : Int32} (hk : kd k = 2) (hw : Cond.fieldLink own idx RX3 "steps" "I" ∈ ut) (hh : h' = si h k 9 v) (d : decode cc pc = .ok (.putfield idx, 3)) (kk : WW p l e hg s m args below meth c G h' Q (F0 m (pc + 3) ls rest)) : WW p l e hg s m args below meth c G h Q (F0 m pc ls (.int v :: .ref (G.2.2.2.2 k) :: rest)) := by
  subst hh
  exact q_put C (ci := 2) (N := 18) rfl in_X3 tyX3_ok nmX3 (kd_lt 2 (by decide) hk) (ce_2 hk) 9 (by decide) hw rfl rfl rfl (by show 9 < 18; decide) ((ce_2 hk).trans (by simp [si])) (ce_si G h k 9 v) d kk
theorem g_X3_alarm (C : cx p s m args meth c G own cc nL rt) {k idx : Nat} (hk : kd k = 2) (hw : Cond.fieldLink own idx RX3 "alarm" "Z" ∈ ut) (d : decode cc pc = .ok (.getfield idx, 3)) (kk : WW p l e hg s m args below meth c G h Q (F0 m (pc + 3) ls (.int (h.1 k 10) :: rest))) : WW p l e hg s m args below meth c G h Q (F0 m pc ls (.ref (G.2.2.2.2 k) :: rest)) := q_get C (ci := 2) (N := 18) rfl in_X3 (kd_lt 2 (by decide) hk) (ce_2 hk) 10 (by decide) hw rfl d kk
theorem p_X3_alarm (C : cx p s m args meth c G own cc nL rt) {k idx : Nat} {v : Int32} (hk : kd k = 2) (hz : v = 0 ∨ v = 1) (hw : Cond.fieldLink own idx RX3 "alarm" "Z" ∈ ut) (hh : h' = si h k 10 v) (d : decode cc pc = .ok (.putfield idx, 3)) (kk : WW p l e hg s m args below meth c G h' Q (F0 m (pc + 3) ls rest)) : WW p l e hg s m args below meth c G h Q (F0 m pc ls (.int v :: .ref (G.2.2.2.2 k) :: rest)) := by
  subst hh
  exact q_put C (ci := 2) (N := 18) rfl in_X3 tyX3_ok nmX3 (kd_lt 2 (by decide) hk) (ce_2 hk) 10 (by decide) hw rfl (by rcases hz with rfl | rfl <;> rfl) (by rcases hz with rfl | rfl <;> rfl) (by show 10 < 18; decide) ((ce_2 hk).trans (by simp [si])) (ce_si G h k 10 v) d kk
theorem g_X3_jammed (C : cx p s m args meth c G own cc nL rt) {k idx : Nat} (hk : kd k = 2) (hw : Cond.fieldLink own idx RX3 "jammed" "Z" ∈ ut) (d : decode cc pc = .ok (.getfield idx, 3)) (kk : WW p l e hg s m args below meth c G h Q (F0 m (pc + 3) ls (.int (h.1 k 11) :: rest))) : WW p l e hg s m args below meth c G h Q (F0 m pc ls (.ref (G.2.2.2.2 k) :: rest)) := q_get C (ci := 2) (N := 18) rfl in_X3 (kd_lt 2 (by decide) hk) (ce_2 hk) 11 (by decide) hw rfl d kk
theorem p_X3_jammed (C : cx p s m args meth c G own cc nL rt) {k idx : Nat} {v : Int32} (hk : kd k = 2) (hz : v = 0 ∨ v = 1) (hw : Cond.fieldLink own idx RX3 "jammed" "Z" ∈ ut) (hh : h' = si h k 11 v) (d : decode cc pc = .ok (.putfield idx, 3)) (kk : WW p l e hg s m args below meth c G h' Q (F0 m (pc + 3) ls rest)) : WW p l e hg s m args below meth c G h Q (F0 m pc ls (.int v :: .ref (G.2.2.2.2 k) :: rest)) := by
  subst hh
  exact q_put C (ci := 2) (N := 18) rfl in_X3 tyX3_ok nmX3 (kd_lt 2 (by decide) hk) (ce_2 hk) 11 (by decide) hw rfl (by rcases hz with rfl | rfl <;> rfl) (by rcases hz with rfl | rfl <;> rfl) (by show 11 < 18; decide) ((ce_2 hk).trans (by simp [si])) (ce_si G h k 11 v) d kk
theorem g_X3_out (C : cx p s m args meth c G own cc nL rt) {k idx : Nat} (hk : kd k = 2) (hw : Cond.fieldLink own idx RX3 "out" "I" ∈ ut) (d : decode cc pc = .ok (.getfield idx, 3)) (kk : WW p l e hg s m args below meth c G h Q (F0 m (pc + 3) ls (.int (h.1 k 12) :: rest))) : WW p l e hg s m args below meth c G h Q (F0 m pc ls (.ref (G.2.2.2.2 k) :: rest)) := q_get C (ci := 2) (N := 18) rfl in_X3 (kd_lt 2 (by decide) hk) (ce_2 hk) 12 (by decide) hw rfl d kk
theorem p_X3_out (C : cx p s m args meth c G own cc nL rt) {k idx : Nat} {v : Int32} (hk : kd k = 2) (hw : Cond.fieldLink own idx RX3 "out" "I" ∈ ut) (hh : h' = si h k 12 v) (d : decode cc pc = .ok (.putfield idx, 3)) (kk : WW p l e hg s m args below meth c G h' Q (F0 m (pc + 3) ls rest)) : WW p l e hg s m args below meth c G h Q (F0 m pc ls (.int v :: .ref (G.2.2.2.2 k) :: rest)) := by
  subst hh
  exact q_put C (ci := 2) (N := 18) rfl in_X3 tyX3_ok nmX3 (kd_lt 2 (by decide) hk) (ce_2 hk) 12 (by decide) hw rfl rfl rfl (by show 12 < 18; decide) ((ce_2 hk).trans (by simp [si])) (ce_si G h k 12 v) d kk
theorem g_X3_escaped (C : cx p s m args meth c G own cc nL rt) {k idx : Nat} (hk : kd k = 2) (hw : Cond.fieldLink own idx RX3 "escaped" "I" ∈ ut) (d : decode cc pc = .ok (.getfield idx, 3)) (kk : WW p l e hg s m args below meth c G h Q (F0 m (pc + 3) ls (.int (h.1 k 13) :: rest))) : WW p l e hg s m args below meth c G h Q (F0 m pc ls (.ref (G.2.2.2.2 k) :: rest)) := q_get C (ci := 2) (N := 18) rfl in_X3 (kd_lt 2 (by decide) hk) (ce_2 hk) 13 (by decide) hw rfl d kk
theorem p_X3_escaped (C : cx p s m args meth c G own cc nL rt) {k idx : Nat} {v : Int32} (hk : kd k = 2) (hw : Cond.fieldLink own idx RX3 "escaped" "I" ∈ ut) (hh : h' = si h k 13 v) (d : decode cc pc = .ok (.putfield idx, 3)) (kk : WW p l e hg s m args below meth c G h' Q (F0 m (pc + 3) ls rest)) : WW p l e hg s m args below meth c G h Q (F0 m pc ls (.int v :: .ref (G.2.2.2.2 k) :: rest)) := by
  subst hh
  exact q_put C (ci := 2) (N := 18) rfl in_X3 tyX3_ok nmX3 (kd_lt 2 (by decide) hk) (ce_2 hk) 13 (by decide) hw rfl rfl rfl (by show 13 < 18; decide) ((ce_2 hk).trans (by simp [si])) (ce_si G h k 13 v) d kk
theorem g_X3_rejected (C : cx p s m args meth c G own cc nL rt) {k idx : Nat} (hk : kd k = 2) (hw : Cond.fieldLink own idx RX3 "rejected" "I" ∈ ut) (d : decode cc pc = .ok (.getfield idx, 3)) (kk : WW p l e hg s m args below meth c G h Q (F0 m (pc + 3) ls (.int (h.1 k 14) :: rest))) : WW p l e hg s m args below meth c G h Q (F0 m pc ls (.ref (G.2.2.2.2 k) :: rest)) := q_get C (ci := 2) (N := 18) rfl in_X3 (kd_lt 2 (by decide) hk) (ce_2 hk) 14 (by decide) hw rfl d kk
theorem p_X3_rejected (C : cx p s m args meth c G own cc nL rt) {k idx : Nat} {v : Int32} (hk : kd k = 2) (hw : Cond.fieldLink own idx RX3 "rejected" "I" ∈ ut) (hh : h' = si h k 14 v) (d : decode cc pc = .ok (.putfield idx, 3)) (kk : WW p l e hg s m args below meth c G h' Q (F0 m (pc + 3) ls rest)) : WW p l e hg s m args below meth c G h Q (F0 m pc ls (.int v :: .ref (G.2.2.2.2 k) :: rest)) := by
  subst hh
  exact q_put C (ci := 2) (N := 18) rfl in_X3 tyX3_ok nmX3 (kd_lt 2 (by decide) hk) (ce_2 hk) 14 (by decide) hw rfl rfl rfl (by show 14 < 18; decide) ((ce_2 hk).trans (by simp [si])) (ce_si G h k 14 v) d kk
theorem g_X3_sampled (C : cx p s m args meth c G own cc nL rt) {k idx : Nat} (hk : kd k = 2) (hw : Cond.fieldLink own idx RX3 "sampled" "I" ∈ ut) (d : decode cc pc = .ok (.getfield idx, 3)) (kk : WW p l e hg s m args below meth c G h Q (F0 m (pc + 3) ls (.int (h.1 k 15) :: rest))) : WW p l e hg s m args below meth c G h Q (F0 m pc ls (.ref (G.2.2.2.2 k) :: rest)) := q_get C (ci := 2) (N := 18) rfl in_X3 (kd_lt 2 (by decide) hk) (ce_2 hk) 15 (by decide) hw rfl d kk
theorem p_X3_sampled (C : cx p s m args meth c G own cc nL rt) {k idx : Nat} {v : Int32} (hk : kd k = 2) (hw : Cond.fieldLink own idx RX3 "sampled" "I" ∈ ut) (hh : h' = si h k 15 v) (d : decode cc pc = .ok (.putfield idx, 3)) (kk : WW p l e hg s m args below meth c G h' Q (F0 m (pc + 3) ls rest)) : WW p l e hg s m args below meth c G h Q (F0 m pc ls (.int v :: .ref (G.2.2.2.2 k) :: rest)) := by
  subst hh
  exact q_put C (ci := 2) (N := 18) rfl in_X3 tyX3_ok nmX3 (kd_lt 2 (by decide) hk) (ce_2 hk) 15 (by decide) hw rfl rfl rfl (by show 15 < 18; decide) ((ce_2 hk).trans (by simp [si])) (ce_si G h k 15 v) d kk
theorem g_X3_byHand (C : cx p s m args meth c G own cc nL rt) {k idx : Nat} (hk : kd k = 2) (hw : Cond.fieldLink own idx RX3 "byHand" "I" ∈ ut) (d : decode cc pc = .ok (.getfield idx, 3)) (kk : WW p l e hg s m args below meth c G h Q (F0 m (pc + 3) ls (.int (h.1 k 16) :: rest))) : WW p l e hg s m args below meth c G h Q (F0 m pc ls (.ref (G.2.2.2.2 k) :: rest)) := q_get C (ci := 2) (N := 18) rfl in_X3 (kd_lt 2 (by decide) hk) (ce_2 hk) 16 (by decide) hw rfl d kk
theorem p_X3_byHand (C : cx p s m args meth c G own cc nL rt) {k idx : Nat} {v : Int32} (hk : kd k = 2) (hw : Cond.fieldLink own idx RX3 "byHand" "I" ∈ ut) (hh : h' = si h k 16 v) (d : decode cc pc = .ok (.putfield idx, 3)) (kk : WW p l e hg s m args below meth c G h' Q (F0 m (pc + 3) ls rest)) : WW p l e hg s m args below meth c G h Q (F0 m pc ls (.int v :: .ref (G.2.2.2.2 k) :: rest)) := by
  subst hh
  exact q_put C (ci := 2) (N := 18) rfl in_X3 tyX3_ok nmX3 (kd_lt 2 (by decide) hk) (ce_2 hk) 16 (by decide) hw rfl rfl rfl (by show 16 < 18; decide) ((ce_2 hk).trans (by simp [si])) (ce_si G h k 16 v) d kk
theorem g_X3_passed (C : cx p s m args meth c G own cc nL rt) {k idx : Nat} (hk : kd k = 2) (hw : Cond.fieldLink own idx RX3 "passed" "I" ∈ ut) (d : decode cc pc = .ok (.getfield idx, 3)) (kk : WW p l e hg s m args below meth c G h Q (F0 m (pc + 3) ls (.int (h.1 k 17) :: rest))) : WW p l e hg s m args below meth c G h Q (F0 m pc ls (.ref (G.2.2.2.2 k) :: rest)) := q_get C (ci := 2) (N := 18) rfl in_X3 (kd_lt 2 (by decide) hk) (ce_2 hk) 17 (by decide) hw rfl d kk
theorem p_X3_passed (C : cx p s m args meth c G own cc nL rt) {k idx : Nat} {v : Int32} (hk : kd k = 2) (hw : Cond.fieldLink own idx RX3 "passed" "I" ∈ ut) (hh : h' = si h k 17 v) (d : decode cc pc = .ok (.putfield idx, 3)) (kk : WW p l e hg s m args below meth c G h' Q (F0 m (pc + 3) ls rest)) : WW p l e hg s m args below meth c G h Q (F0 m pc ls (.int v :: .ref (G.2.2.2.2 k) :: rest)) := by
  subst hh
  exact q_put C (ci := 2) (N := 18) rfl in_X3 tyX3_ok nmX3 (kd_lt 2 (by decide) hk) (ce_2 hk) 17 (by decide) hw rfl rfl rfl (by show 17 < 18; decide) ((ce_2 hk).trans (by simp [si])) (ce_si G h k 17 v) d kk
theorem g_X4_text (C : cx p s m args meth c G own cc nL rt) {k idx : Nat} (hk : kd k = 3) (hw : Cond.fieldLink own idx RX4 "text" "[I" ∈ ut) (d : decode cc pc = .ok (.getfield idx, 3)) (kk : WW p l e hg s m args below meth c G h Q (F0 m (pc + 3) ls (.ref (G.2.2.2.2 1) :: rest))) : WW p l e hg s m args below meth c G h Q (F0 m pc ls (.ref (G.2.2.2.2 k) :: rest)) := q_get C (ci := 3) (N := 16) rfl in_X4 (kd_lt 3 (by decide) hk) (ce_3 hk) 0 (by decide) hw rfl d kk
theorem g_X4_textLength (C : cx p s m args meth c G own cc nL rt) {k idx : Nat} (hk : kd k = 3) (hw : Cond.fieldLink own idx RX4 "textLength" "I" ∈ ut) (d : decode cc pc = .ok (.getfield idx, 3)) (kk : WW p l e hg s m args below meth c G h Q (F0 m (pc + 3) ls (.int (h.1 k 1) :: rest))) : WW p l e hg s m args below meth c G h Q (F0 m pc ls (.ref (G.2.2.2.2 k) :: rest)) := q_get C (ci := 3) (N := 16) rfl in_X4 (kd_lt 3 (by decide) hk) (ce_3 hk) 1 (by decide) hw rfl d kk
theorem p_X4_textLength (C : cx p s m args meth c G own cc nL rt) {k idx : Nat} {v : Int32} (hk : kd k = 3) (hw : Cond.fieldLink own idx RX4 "textLength" "I" ∈ ut) (hh : h' = si h k 1 v) (d : decode cc pc = .ok (.putfield idx, 3)) (kk : WW p l e hg s m args below meth c G h' Q (F0 m (pc + 3) ls rest)) : WW p l e hg s m args below meth c G h Q (F0 m pc ls (.int v :: .ref (G.2.2.2.2 k) :: rest)) := by
  subst hh
  exact q_put C (ci := 3) (N := 16) rfl in_X4 tyX4_ok nmX4 (kd_lt 3 (by decide) hk) (ce_3 hk) 1 (by decide) hw rfl rfl rfl (by show 1 < 16; decide) ((ce_3 hk).trans (by simp [si])) (ce_si G h k 1 v) d kk
theorem g_X4_reader (C : cx p s m args meth c G own cc nL rt) {k idx : Nat} (hk : kd k = 3) (hw : Cond.fieldLink own idx RX4 "reader" "LBottleLine$Reader;" ∈ ut) (d : decode cc pc = .ok (.getfield idx, 3)) (kk : WW p l e hg s m args below meth c G h Q (F0 m (pc + 3) ls (.ref (G.2.2.2.2 8) :: rest))) : WW p l e hg s m args below meth c G h Q (F0 m pc ls (.ref (G.2.2.2.2 k) :: rest)) := q_get C (ci := 3) (N := 16) rfl in_X4 (kd_lt 3 (by decide) hk) (ce_3 hk) 2 (by decide) hw rfl d kk
theorem g_X4_plan (C : cx p s m args meth c G own cc nL rt) {k idx : Nat} (hk : kd k = 3) (hw : Cond.fieldLink own idx RX4 "plan" "LBottleLine$Plan;" ∈ ut) (d : decode cc pc = .ok (.getfield idx, 3)) (kk : WW p l e hg s m args below meth c G h Q (F0 m (pc + 3) ls (.ref (G.2.2.2.2 12) :: rest))) : WW p l e hg s m args below meth c G h Q (F0 m pc ls (.ref (G.2.2.2.2 k) :: rest)) := q_get C (ci := 3) (N := 16) rfl in_X4 (kd_lt 3 (by decide) hk) (ce_3 hk) 3 (by decide) hw rfl d kk
theorem g_X4_now (C : cx p s m args meth c G own cc nL rt) {k idx : Nat} (hk : kd k = 3) (hw : Cond.fieldLink own idx RX4 "now" "LBottleLine$State;" ∈ ut) (d : decode cc pc = .ok (.getfield idx, 3)) (kk : WW p l e hg s m args below meth c G h Q (F0 m (pc + 3) ls (.ref (G.2.2.2.2 20) :: rest))) : WW p l e hg s m args below meth c G h Q (F0 m pc ls (.ref (G.2.2.2.2 k) :: rest)) := q_get C (ci := 3) (N := 16) rfl in_X4 (kd_lt 3 (by decide) hk) (ce_3 hk) 4 (by decide) hw rfl d kk
theorem g_X4_trial (C : cx p s m args meth c G own cc nL rt) {k idx : Nat} (hk : kd k = 3) (hw : Cond.fieldLink own idx RX4 "trial" "LBottleLine$State;" ∈ ut) (d : decode cc pc = .ok (.getfield idx, 3)) (kk : WW p l e hg s m args below meth c G h Q (F0 m (pc + 3) ls (.ref (G.2.2.2.2 25) :: rest))) : WW p l e hg s m args below meth c G h Q (F0 m pc ls (.ref (G.2.2.2.2 k) :: rest)) := q_get C (ci := 3) (N := 16) rfl in_X4 (kd_lt 3 (by decide) hk) (ce_3 hk) 5 (by decide) hw rfl d kk
theorem g_X4_past (C : cx p s m args meth c G own cc nL rt) {k idx : Nat} (hk : kd k = 3) (hw : Cond.fieldLink own idx RX4 "past" "[LBottleLine$State;" ∈ ut) (d : decode cc pc = .ok (.getfield idx, 3)) (kk : WW p l e hg s m args below meth c G h Q (F0 m (pc + 3) ls (.ref (G.2.2.2.2 2) :: rest))) : WW p l e hg s m args below meth c G h Q (F0 m pc ls (.ref (G.2.2.2.2 k) :: rest)) := q_get C (ci := 3) (N := 16) rfl in_X4 (kd_lt 3 (by decide) hk) (ce_3 hk) 6 (by decide) hw rfl d kk
theorem g_X4_pastCount (C : cx p s m args meth c G own cc nL rt) {k idx : Nat} (hk : kd k = 3) (hw : Cond.fieldLink own idx RX4 "pastCount" "I" ∈ ut) (d : decode cc pc = .ok (.getfield idx, 3)) (kk : WW p l e hg s m args below meth c G h Q (F0 m (pc + 3) ls (.int (h.1 k 7) :: rest))) : WW p l e hg s m args below meth c G h Q (F0 m pc ls (.ref (G.2.2.2.2 k) :: rest)) := q_get C (ci := 3) (N := 16) rfl in_X4 (kd_lt 3 (by decide) hk) (ce_3 hk) 7 (by decide) hw rfl d kk
theorem p_X4_pastCount (C : cx p s m args meth c G own cc nL rt) {k idx : Nat} {v : Int32} (hk : kd k = 3) (hw : Cond.fieldLink own idx RX4 "pastCount" "I" ∈ ut) (hh : h' = si h k 7 v) (d : decode cc pc = .ok (.putfield idx, 3)) (kk : WW p l e hg s m args below meth c G h' Q (F0 m (pc + 3) ls rest)) : WW p l e hg s m args below meth c G h Q (F0 m pc ls (.int v :: .ref (G.2.2.2.2 k) :: rest)) := by
  subst hh
  exact q_put C (ci := 3) (N := 16) rfl in_X4 tyX4_ok nmX4 (kd_lt 3 (by decide) hk) (ce_3 hk) 7 (by decide) hw rfl rfl rfl (by show 7 < 16; decide) ((ce_3 hk).trans (by simp [si])) (ce_si G h k 7 v) d kk
theorem g_X4_nextPast (C : cx p s m args meth c G own cc nL rt) {k idx : Nat} (hk : kd k = 3) (hw : Cond.fieldLink own idx RX4 "nextPast" "I" ∈ ut) (d : decode cc pc = .ok (.getfield idx, 3)) (kk : WW p l e hg s m args below meth c G h Q (F0 m (pc + 3) ls (.int (h.1 k 8) :: rest))) : WW p l e hg s m args below meth c G h Q (F0 m pc ls (.ref (G.2.2.2.2 k) :: rest)) := q_get C (ci := 3) (N := 16) rfl in_X4 (kd_lt 3 (by decide) hk) (ce_3 hk) 8 (by decide) hw rfl d kk
theorem p_X4_nextPast (C : cx p s m args meth c G own cc nL rt) {k idx : Nat} {v : Int32} (hk : kd k = 3) (hw : Cond.fieldLink own idx RX4 "nextPast" "I" ∈ ut) (hh : h' = si h k 8 v) (d : decode cc pc = .ok (.putfield idx, 3)) (kk : WW p l e hg s m args below meth c G h' Q (F0 m (pc + 3) ls rest)) : WW p l e hg s m args below meth c G h Q (F0 m pc ls (.int v :: .ref (G.2.2.2.2 k) :: rest)) := by
  subst hh
  exact q_put C (ci := 3) (N := 16) rfl in_X4 tyX4_ok nmX4 (kd_lt 3 (by decide) hk) (ce_3 hk) 8 (by decide) hw rfl rfl rfl (by show 8 < 16; decide) ((ce_3 hk).trans (by simp [si])) (ce_si G h k 8 v) d kk
theorem g_X4_slots (C : cx p s m args meth c G own cc nL rt) {k idx : Nat} (hk : kd k = 3) (hw : Cond.fieldLink own idx RX4 "slots" "[LBottleLine$State;" ∈ ut) (d : decode cc pc = .ok (.getfield idx, 3)) (kk : WW p l e hg s m args below meth c G h Q (F0 m (pc + 3) ls (.ref (G.2.2.2.2 3) :: rest))) : WW p l e hg s m args below meth c G h Q (F0 m pc ls (.ref (G.2.2.2.2 k) :: rest)) := q_get C (ci := 3) (N := 16) rfl in_X4 (kd_lt 3 (by decide) hk) (ce_3 hk) 9 (by decide) hw rfl d kk
theorem g_X4_isKept (C : cx p s m args meth c G own cc nL rt) {k idx : Nat} (hk : kd k = 3) (hw : Cond.fieldLink own idx RX4 "isKept" "[Z" ∈ ut) (d : decode cc pc = .ok (.getfield idx, 3)) (kk : WW p l e hg s m args below meth c G h Q (F0 m (pc + 3) ls (.ref (G.2.2.2.2 4) :: rest))) : WW p l e hg s m args below meth c G h Q (F0 m pc ls (.ref (G.2.2.2.2 k) :: rest)) := q_get C (ci := 3) (N := 16) rfl in_X4 (kd_lt 3 (by decide) hk) (ce_3 hk) 10 (by decide) hw rfl d kk
theorem g_X4_seenWhat (C : cx p s m args meth c G own cc nL rt) {k idx : Nat} (hk : kd k = 3) (hw : Cond.fieldLink own idx RX4 "seenWhat" "[I" ∈ ut) (d : decode cc pc = .ok (.getfield idx, 3)) (kk : WW p l e hg s m args below meth c G h Q (F0 m (pc + 3) ls (.ref (G.2.2.2.2 5) :: rest))) : WW p l e hg s m args below meth c G h Q (F0 m pc ls (.ref (G.2.2.2.2 k) :: rest)) := q_get C (ci := 3) (N := 16) rfl in_X4 (kd_lt 3 (by decide) hk) (ce_3 hk) 11 (by decide) hw rfl d kk
theorem g_X4_seenAfter (C : cx p s m args meth c G own cc nL rt) {k idx : Nat} (hk : kd k = 3) (hw : Cond.fieldLink own idx RX4 "seenAfter" "[I" ∈ ut) (d : decode cc pc = .ok (.getfield idx, 3)) (kk : WW p l e hg s m args below meth c G h Q (F0 m (pc + 3) ls (.ref (G.2.2.2.2 6) :: rest))) : WW p l e hg s m args below meth c G h Q (F0 m pc ls (.ref (G.2.2.2.2 k) :: rest)) := q_get C (ci := 3) (N := 16) rfl in_X4 (kd_lt 3 (by decide) hk) (ce_3 hk) 12 (by decide) hw rfl d kk
theorem g_X4_seenValue (C : cx p s m args meth c G own cc nL rt) {k idx : Nat} (hk : kd k = 3) (hw : Cond.fieldLink own idx RX4 "seenValue" "[I" ∈ ut) (d : decode cc pc = .ok (.getfield idx, 3)) (kk : WW p l e hg s m args below meth c G h Q (F0 m (pc + 3) ls (.ref (G.2.2.2.2 7) :: rest))) : WW p l e hg s m args below meth c G h Q (F0 m pc ls (.ref (G.2.2.2.2 k) :: rest)) := q_get C (ci := 3) (N := 16) rfl in_X4 (kd_lt 3 (by decide) hk) (ce_3 hk) 13 (by decide) hw rfl d kk
theorem g_X4_seenCount (C : cx p s m args meth c G own cc nL rt) {k idx : Nat} (hk : kd k = 3) (hw : Cond.fieldLink own idx RX4 "seenCount" "I" ∈ ut) (d : decode cc pc = .ok (.getfield idx, 3)) (kk : WW p l e hg s m args below meth c G h Q (F0 m (pc + 3) ls (.int (h.1 k 14) :: rest))) : WW p l e hg s m args below meth c G h Q (F0 m pc ls (.ref (G.2.2.2.2 k) :: rest)) := q_get C (ci := 3) (N := 16) rfl in_X4 (kd_lt 3 (by decide) hk) (ce_3 hk) 14 (by decide) hw rfl d kk
theorem p_X4_seenCount (C : cx p s m args meth c G own cc nL rt) {k idx : Nat} {v : Int32} (hk : kd k = 3) (hw : Cond.fieldLink own idx RX4 "seenCount" "I" ∈ ut) (hh : h' = si h k 14 v) (d : decode cc pc = .ok (.putfield idx, 3)) (kk : WW p l e hg s m args below meth c G h' Q (F0 m (pc + 3) ls rest)) : WW p l e hg s m args below meth c G h Q (F0 m pc ls (.int v :: .ref (G.2.2.2.2 k) :: rest)) := by
  subst hh
  exact q_put C (ci := 3) (N := 16) rfl in_X4 tyX4_ok nmX4 (kd_lt 3 (by decide) hk) (ce_3 hk) 14 (by decide) hw rfl rfl rfl (by show 14 < 16; decide) ((ce_3 hk).trans (by simp [si])) (ce_si G h k 14 v) d kk
theorem g_X4_random (C : cx p s m args meth c G own cc nL rt) {k idx : Nat} (hk : kd k = 3) (hw : Cond.fieldLink own idx RX4 "random" "J" ∈ ut) (d : decode cc pc = .ok (.getfield idx, 3)) (kk : WW p l e hg s m args below meth c G h Q (F0 m (pc + 3) ls (.long (h.2 k) :: rest))) : WW p l e hg s m args below meth c G h Q (F0 m pc ls (.ref (G.2.2.2.2 k) :: rest)) := q_get C (ci := 3) (N := 16) rfl in_X4 (kd_lt 3 (by decide) hk) (ce_3 hk) 15 (by decide) hw rfl d kk
theorem p_X4_random (C : cx p s m args meth c G own cc nL rt) {k idx : Nat} {v : Int64} (hk : kd k = 3) (hw : Cond.fieldLink own idx RX4 "random" "J" ∈ ut) (hh : h' = sl h k v) (d : decode cc pc = .ok (.putfield idx, 3)) (kk : WW p l e hg s m args below meth c G h' Q (F0 m (pc + 3) ls rest)) : WW p l e hg s m args below meth c G h Q (F0 m pc ls (.long v :: .ref (G.2.2.2.2 k) :: rest)) := by
  subst hh
  exact q_put C (ci := 3) (N := 16) rfl in_X4 tyX4_ok nmX4 (kd_lt 3 (by decide) hk) (ce_3 hk) 15 (by decide) hw rfl rfl rfl (by show 15 < 16; decide) ((ce_3 hk).trans (by simp [sl])) (ce_sl G h k v) d kk
theorem g_X5_text (C : cx p s m args meth c G own cc nL rt) {k idx : Nat} (hk : kd k = 4) (hw : Cond.fieldLink own idx RX5 "text" "[I" ∈ ut) (d : decode cc pc = .ok (.getfield idx, 3)) (kk : WW p l e hg s m args below meth c G h Q (F0 m (pc + 3) ls (.ref (G.2.2.2.2 111) :: rest))) : WW p l e hg s m args below meth c G h Q (F0 m pc ls (.ref (G.2.2.2.2 k) :: rest)) := q_get C (ci := 4) (N := 38) rfl in_X5 (kd_lt 4 (by decide) hk) (ce_4 hk) 0 (by decide) hw rfl d kk
theorem g_X5_length (C : cx p s m args meth c G own cc nL rt) {k idx : Nat} (hk : kd k = 4) (hw : Cond.fieldLink own idx RX5 "length" "I" ∈ ut) (d : decode cc pc = .ok (.getfield idx, 3)) (kk : WW p l e hg s m args below meth c G h Q (F0 m (pc + 3) ls (.int (h.1 k 1) :: rest))) : WW p l e hg s m args below meth c G h Q (F0 m pc ls (.ref (G.2.2.2.2 k) :: rest)) := q_get C (ci := 4) (N := 38) rfl in_X5 (kd_lt 4 (by decide) hk) (ce_4 hk) 1 (by decide) hw rfl d kk
theorem p_X5_length (C : cx p s m args meth c G own cc nL rt) {k idx : Nat} {v : Int32} (hk : kd k = 4) (hw : Cond.fieldLink own idx RX5 "length" "I" ∈ ut) (hh : h' = si h k 1 v) (d : decode cc pc = .ok (.putfield idx, 3)) (kk : WW p l e hg s m args below meth c G h' Q (F0 m (pc + 3) ls rest)) : WW p l e hg s m args below meth c G h Q (F0 m pc ls (.int v :: .ref (G.2.2.2.2 k) :: rest)) := by
  subst hh
  exact q_put C (ci := 4) (N := 38) rfl in_X5 tyX5_ok nmX5 (kd_lt 4 (by decide) hk) (ce_4 hk) 1 (by decide) hw rfl rfl rfl (by show 1 < 38; decide) ((ce_4 hk).trans (by simp [si])) (ce_si G h k 1 v) d kk
theorem g_X5_cells (C : cx p s m args meth c G own cc nL rt) {k idx : Nat} (hk : kd k = 4) (hw : Cond.fieldLink own idx RX5 "cells" "I" ∈ ut) (d : decode cc pc = .ok (.getfield idx, 3)) (kk : WW p l e hg s m args below meth c G h Q (F0 m (pc + 3) ls (.int (h.1 k 2) :: rest))) : WW p l e hg s m args below meth c G h Q (F0 m pc ls (.ref (G.2.2.2.2 k) :: rest)) := q_get C (ci := 4) (N := 38) rfl in_X5 (kd_lt 4 (by decide) hk) (ce_4 hk) 2 (by decide) hw rfl d kk
theorem p_X5_cells (C : cx p s m args meth c G own cc nL rt) {k idx : Nat} {v : Int32} (hk : kd k = 4) (hw : Cond.fieldLink own idx RX5 "cells" "I" ∈ ut) (hh : h' = si h k 2 v) (d : decode cc pc = .ok (.putfield idx, 3)) (kk : WW p l e hg s m args below meth c G h' Q (F0 m (pc + 3) ls rest)) : WW p l e hg s m args below meth c G h Q (F0 m pc ls (.int v :: .ref (G.2.2.2.2 k) :: rest)) := by
  subst hh
  exact q_put C (ci := 4) (N := 38) rfl in_X5 tyX5_ok nmX5 (kd_lt 4 (by decide) hk) (ce_4 hk) 2 (by decide) hw rfl rfl rfl (by show 2 < 38; decide) ((ce_4 hk).trans (by simp [si])) (ce_si G h k 2 v) d kk
theorem g_X5_places (C : cx p s m args meth c G own cc nL rt) {k idx : Nat} (hk : kd k = 4) (hw : Cond.fieldLink own idx RX5 "places" "[I" ∈ ut) (d : decode cc pc = .ok (.getfield idx, 3)) (kk : WW p l e hg s m args below meth c G h Q (F0 m (pc + 3) ls (.ref (G.2.2.2.2 112) :: rest))) : WW p l e hg s m args below meth c G h Q (F0 m pc ls (.ref (G.2.2.2.2 k) :: rest)) := q_get C (ci := 4) (N := 38) rfl in_X5 (kd_lt 4 (by decide) hk) (ce_4 hk) 3 (by decide) hw rfl d kk
theorem g_X5_target (C : cx p s m args meth c G own cc nL rt) {k idx : Nat} (hk : kd k = 4) (hw : Cond.fieldLink own idx RX5 "target" "I" ∈ ut) (d : decode cc pc = .ok (.getfield idx, 3)) (kk : WW p l e hg s m args below meth c G h Q (F0 m (pc + 3) ls (.int (h.1 k 4) :: rest))) : WW p l e hg s m args below meth c G h Q (F0 m pc ls (.ref (G.2.2.2.2 k) :: rest)) := q_get C (ci := 4) (N := 38) rfl in_X5 (kd_lt 4 (by decide) hk) (ce_4 hk) 4 (by decide) hw rfl d kk
theorem p_X5_target (C : cx p s m args meth c G own cc nL rt) {k idx : Nat} {v : Int32} (hk : kd k = 4) (hw : Cond.fieldLink own idx RX5 "target" "I" ∈ ut) (hh : h' = si h k 4 v) (d : decode cc pc = .ok (.putfield idx, 3)) (kk : WW p l e hg s m args below meth c G h' Q (F0 m (pc + 3) ls rest)) : WW p l e hg s m args below meth c G h Q (F0 m pc ls (.int v :: .ref (G.2.2.2.2 k) :: rest)) := by
  subst hh
  exact q_put C (ci := 4) (N := 38) rfl in_X5 tyX5_ok nmX5 (kd_lt 4 (by decide) hk) (ce_4 hk) 4 (by decide) hw rfl rfl rfl (by show 4 < 38; decide) ((ce_4 hk).trans (by simp [si])) (ce_si G h k 4 v) d kk
theorem g_X5_tolerance (C : cx p s m args meth c G own cc nL rt) {k idx : Nat} (hk : kd k = 4) (hw : Cond.fieldLink own idx RX5 "tolerance" "I" ∈ ut) (d : decode cc pc = .ok (.getfield idx, 3)) (kk : WW p l e hg s m args below meth c G h Q (F0 m (pc + 3) ls (.int (h.1 k 5) :: rest))) : WW p l e hg s m args below meth c G h Q (F0 m pc ls (.ref (G.2.2.2.2 k) :: rest)) := q_get C (ci := 4) (N := 38) rfl in_X5 (kd_lt 4 (by decide) hk) (ce_4 hk) 5 (by decide) hw rfl d kk
theorem p_X5_tolerance (C : cx p s m args meth c G own cc nL rt) {k idx : Nat} {v : Int32} (hk : kd k = 4) (hw : Cond.fieldLink own idx RX5 "tolerance" "I" ∈ ut) (hh : h' = si h k 5 v) (d : decode cc pc = .ok (.putfield idx, 3)) (kk : WW p l e hg s m args below meth c G h' Q (F0 m (pc + 3) ls rest)) : WW p l e hg s m args below meth c G h Q (F0 m pc ls (.int v :: .ref (G.2.2.2.2 k) :: rest)) := by
  subst hh
  exact q_put C (ci := 4) (N := 38) rfl in_X5 tyX5_ok nmX5 (kd_lt 4 (by decide) hk) (ce_4 hk) 5 (by decide) hw rfl rfl rfl (by show 5 < 38; decide) ((ce_4 hk).trans (by simp [si])) (ce_si G h k 5 v) d kk
theorem g_X5_each (C : cx p s m args meth c G own cc nL rt) {k idx : Nat} (hk : kd k = 4) (hw : Cond.fieldLink own idx RX5 "each" "I" ∈ ut) (d : decode cc pc = .ok (.getfield idx, 3)) (kk : WW p l e hg s m args below meth c G h Q (F0 m (pc + 3) ls (.int (h.1 k 6) :: rest))) : WW p l e hg s m args below meth c G h Q (F0 m pc ls (.ref (G.2.2.2.2 k) :: rest)) := q_get C (ci := 4) (N := 38) rfl in_X5 (kd_lt 4 (by decide) hk) (ce_4 hk) 6 (by decide) hw rfl d kk
theorem p_X5_each (C : cx p s m args meth c G own cc nL rt) {k idx : Nat} {v : Int32} (hk : kd k = 4) (hw : Cond.fieldLink own idx RX5 "each" "I" ∈ ut) (hh : h' = si h k 6 v) (d : decode cc pc = .ok (.putfield idx, 3)) (kk : WW p l e hg s m args below meth c G h' Q (F0 m (pc + 3) ls rest)) : WW p l e hg s m args below meth c G h Q (F0 m pc ls (.int v :: .ref (G.2.2.2.2 k) :: rest)) := by
  subst hh
  exact q_put C (ci := 4) (N := 38) rfl in_X5 tyX5_ok nmX5 (kd_lt 4 (by decide) hk) (ce_4 hk) 6 (by decide) hw rfl rfl rfl (by show 6 < 38; decide) ((ce_4 hk).trans (by simp [si])) (ce_si G h k 6 v) d kk
theorem g_X5_valves (C : cx p s m args meth c G own cc nL rt) {k idx : Nat} (hk : kd k = 4) (hw : Cond.fieldLink own idx RX5 "valves" "I" ∈ ut) (d : decode cc pc = .ok (.getfield idx, 3)) (kk : WW p l e hg s m args below meth c G h Q (F0 m (pc + 3) ls (.int (h.1 k 7) :: rest))) : WW p l e hg s m args below meth c G h Q (F0 m pc ls (.ref (G.2.2.2.2 k) :: rest)) := q_get C (ci := 4) (N := 38) rfl in_X5 (kd_lt 4 (by decide) hk) (ce_4 hk) 7 (by decide) hw rfl d kk
theorem p_X5_valves (C : cx p s m args meth c G own cc nL rt) {k idx : Nat} {v : Int32} (hk : kd k = 4) (hw : Cond.fieldLink own idx RX5 "valves" "I" ∈ ut) (hh : h' = si h k 7 v) (d : decode cc pc = .ok (.putfield idx, 3)) (kk : WW p l e hg s m args below meth c G h' Q (F0 m (pc + 3) ls rest)) : WW p l e hg s m args below meth c G h Q (F0 m pc ls (.int v :: .ref (G.2.2.2.2 k) :: rest)) := by
  subst hh
  exact q_put C (ci := 4) (N := 38) rfl in_X5 tyX5_ok nmX5 (kd_lt 4 (by decide) hk) (ce_4 hk) 7 (by decide) hw rfl rfl rfl (by show 7 < 38; decide) ((ce_4 hk).trans (by simp [si])) (ce_si G h k 7 v) d kk
theorem g_X5_drift (C : cx p s m args meth c G own cc nL rt) {k idx : Nat} (hk : kd k = 4) (hw : Cond.fieldLink own idx RX5 "drift" "[I" ∈ ut) (d : decode cc pc = .ok (.getfield idx, 3)) (kk : WW p l e hg s m args below meth c G h Q (F0 m (pc + 3) ls (.ref (G.2.2.2.2 113) :: rest))) : WW p l e hg s m args below meth c G h Q (F0 m pc ls (.ref (G.2.2.2.2 k) :: rest)) := q_get C (ci := 4) (N := 38) rfl in_X5 (kd_lt 4 (by decide) hk) (ce_4 hk) 8 (by decide) hw rfl d kk
theorem g_X5_now (C : cx p s m args meth c G own cc nL rt) {k idx : Nat} (hk : kd k = 4) (hw : Cond.fieldLink own idx RX5 "now" "[I" ∈ ut) (d : decode cc pc = .ok (.getfield idx, 3)) (kk : WW p l e hg s m args below meth c G h Q (F0 m (pc + 3) ls (.ref (G.2.2.2.2 114) :: rest))) : WW p l e hg s m args below meth c G h Q (F0 m pc ls (.ref (G.2.2.2.2 k) :: rest)) := q_get C (ci := 4) (N := 38) rfl in_X5 (kd_lt 4 (by decide) hk) (ce_4 hk) 9 (by decide) hw rfl d kk
theorem g_X5_trial (C : cx p s m args meth c G own cc nL rt) {k idx : Nat} (hk : kd k = 4) (hw : Cond.fieldLink own idx RX5 "trial" "[I" ∈ ut) (d : decode cc pc = .ok (.getfield idx, 3)) (kk : WW p l e hg s m args below meth c G h Q (F0 m (pc + 3) ls (.ref (G.2.2.2.2 115) :: rest))) : WW p l e hg s m args below meth c G h Q (F0 m pc ls (.ref (G.2.2.2.2 k) :: rest)) := q_get C (ci := 4) (N := 38) rfl in_X5 (kd_lt 4 (by decide) hk) (ce_4 hk) 10 (by decide) hw rfl d kk
theorem g_X5_diary (C : cx p s m args meth c G own cc nL rt) {k idx : Nat} (hk : kd k = 4) (hw : Cond.fieldLink own idx RX5 "diary" "[I" ∈ ut) (d : decode cc pc = .ok (.getfield idx, 3)) (kk : WW p l e hg s m args below meth c G h Q (F0 m (pc + 3) ls (.ref (G.2.2.2.2 116) :: rest))) : WW p l e hg s m args below meth c G h Q (F0 m pc ls (.ref (G.2.2.2.2 k) :: rest)) := q_get C (ci := 4) (N := 38) rfl in_X5 (kd_lt 4 (by decide) hk) (ce_4 hk) 11 (by decide) hw rfl d kk
theorem g_X5_acts (C : cx p s m args meth c G own cc nL rt) {k idx : Nat} (hk : kd k = 4) (hw : Cond.fieldLink own idx RX5 "acts" "I" ∈ ut) (d : decode cc pc = .ok (.getfield idx, 3)) (kk : WW p l e hg s m args below meth c G h Q (F0 m (pc + 3) ls (.int (h.1 k 12) :: rest))) : WW p l e hg s m args below meth c G h Q (F0 m pc ls (.ref (G.2.2.2.2 k) :: rest)) := q_get C (ci := 4) (N := 38) rfl in_X5 (kd_lt 4 (by decide) hk) (ce_4 hk) 12 (by decide) hw rfl d kk
theorem p_X5_acts (C : cx p s m args meth c G own cc nL rt) {k idx : Nat} {v : Int32} (hk : kd k = 4) (hw : Cond.fieldLink own idx RX5 "acts" "I" ∈ ut) (hh : h' = si h k 12 v) (d : decode cc pc = .ok (.putfield idx, 3)) (kk : WW p l e hg s m args below meth c G h' Q (F0 m (pc + 3) ls rest)) : WW p l e hg s m args below meth c G h Q (F0 m pc ls (.int v :: .ref (G.2.2.2.2 k) :: rest)) := by
  subst hh
  exact q_put C (ci := 4) (N := 38) rfl in_X5 tyX5_ok nmX5 (kd_lt 4 (by decide) hk) (ce_4 hk) 12 (by decide) hw rfl rfl rfl (by show 12 < 38; decide) ((ce_4 hk).trans (by simp [si])) (ce_si G h k 12 v) d kk
theorem g_X5_next (C : cx p s m args meth c G own cc nL rt) {k idx : Nat} (hk : kd k = 4) (hw : Cond.fieldLink own idx RX5 "next" "I" ∈ ut) (d : decode cc pc = .ok (.getfield idx, 3)) (kk : WW p l e hg s m args below meth c G h Q (F0 m (pc + 3) ls (.int (h.1 k 13) :: rest))) : WW p l e hg s m args below meth c G h Q (F0 m pc ls (.ref (G.2.2.2.2 k) :: rest)) := q_get C (ci := 4) (N := 38) rfl in_X5 (kd_lt 4 (by decide) hk) (ce_4 hk) 13 (by decide) hw rfl d kk
theorem p_X5_next (C : cx p s m args meth c G own cc nL rt) {k idx : Nat} {v : Int32} (hk : kd k = 4) (hw : Cond.fieldLink own idx RX5 "next" "I" ∈ ut) (hh : h' = si h k 13 v) (d : decode cc pc = .ok (.putfield idx, 3)) (kk : WW p l e hg s m args below meth c G h' Q (F0 m (pc + 3) ls rest)) : WW p l e hg s m args below meth c G h Q (F0 m pc ls (.int v :: .ref (G.2.2.2.2 k) :: rest)) := by
  subst hh
  exact q_put C (ci := 4) (N := 38) rfl in_X5 tyX5_ok nmX5 (kd_lt 4 (by decide) hk) (ce_4 hk) 13 (by decide) hw rfl rfl rfl (by show 13 < 38; decide) ((ce_4 hk).trans (by simp [si])) (ce_si G h k 13 v) d kk
theorem g_X5_kept (C : cx p s m args meth c G own cc nL rt) {k idx : Nat} (hk : kd k = 4) (hw : Cond.fieldLink own idx RX5 "kept" "[I" ∈ ut) (d : decode cc pc = .ok (.getfield idx, 3)) (kk : WW p l e hg s m args below meth c G h Q (F0 m (pc + 3) ls (.ref (G.2.2.2.2 117) :: rest))) : WW p l e hg s m args below meth c G h Q (F0 m pc ls (.ref (G.2.2.2.2 k) :: rest)) := q_get C (ci := 4) (N := 38) rfl in_X5 (kd_lt 4 (by decide) hk) (ce_4 hk) 14 (by decide) hw rfl d kk
theorem g_X5_isKept (C : cx p s m args meth c G own cc nL rt) {k idx : Nat} (hk : kd k = 4) (hw : Cond.fieldLink own idx RX5 "isKept" "[Z" ∈ ut) (d : decode cc pc = .ok (.getfield idx, 3)) (kk : WW p l e hg s m args below meth c G h Q (F0 m (pc + 3) ls (.ref (G.2.2.2.2 118) :: rest))) : WW p l e hg s m args below meth c G h Q (F0 m pc ls (.ref (G.2.2.2.2 k) :: rest)) := q_get C (ci := 4) (N := 38) rfl in_X5 (kd_lt 4 (by decide) hk) (ce_4 hk) 15 (by decide) hw rfl d kk
theorem g_X5_seenWhat (C : cx p s m args meth c G own cc nL rt) {k idx : Nat} (hk : kd k = 4) (hw : Cond.fieldLink own idx RX5 "seenWhat" "[I" ∈ ut) (d : decode cc pc = .ok (.getfield idx, 3)) (kk : WW p l e hg s m args below meth c G h Q (F0 m (pc + 3) ls (.ref (G.2.2.2.2 119) :: rest))) : WW p l e hg s m args below meth c G h Q (F0 m pc ls (.ref (G.2.2.2.2 k) :: rest)) := q_get C (ci := 4) (N := 38) rfl in_X5 (kd_lt 4 (by decide) hk) (ce_4 hk) 16 (by decide) hw rfl d kk
theorem g_X5_seenBehind (C : cx p s m args meth c G own cc nL rt) {k idx : Nat} (hk : kd k = 4) (hw : Cond.fieldLink own idx RX5 "seenBehind" "[I" ∈ ut) (d : decode cc pc = .ok (.getfield idx, 3)) (kk : WW p l e hg s m args below meth c G h Q (F0 m (pc + 3) ls (.ref (G.2.2.2.2 120) :: rest))) : WW p l e hg s m args below meth c G h Q (F0 m pc ls (.ref (G.2.2.2.2 k) :: rest)) := q_get C (ci := 4) (N := 38) rfl in_X5 (kd_lt 4 (by decide) hk) (ce_4 hk) 17 (by decide) hw rfl d kk
theorem g_X5_seenIs (C : cx p s m args meth c G own cc nL rt) {k idx : Nat} (hk : kd k = 4) (hw : Cond.fieldLink own idx RX5 "seenIs" "[I" ∈ ut) (d : decode cc pc = .ok (.getfield idx, 3)) (kk : WW p l e hg s m args below meth c G h Q (F0 m (pc + 3) ls (.ref (G.2.2.2.2 121) :: rest))) : WW p l e hg s m args below meth c G h Q (F0 m pc ls (.ref (G.2.2.2.2 k) :: rest)) := q_get C (ci := 4) (N := 38) rfl in_X5 (kd_lt 4 (by decide) hk) (ce_4 hk) 18 (by decide) hw rfl d kk
theorem g_X5_seen (C : cx p s m args meth c G own cc nL rt) {k idx : Nat} (hk : kd k = 4) (hw : Cond.fieldLink own idx RX5 "seen" "I" ∈ ut) (d : decode cc pc = .ok (.getfield idx, 3)) (kk : WW p l e hg s m args below meth c G h Q (F0 m (pc + 3) ls (.int (h.1 k 19) :: rest))) : WW p l e hg s m args below meth c G h Q (F0 m pc ls (.ref (G.2.2.2.2 k) :: rest)) := q_get C (ci := 4) (N := 38) rfl in_X5 (kd_lt 4 (by decide) hk) (ce_4 hk) 19 (by decide) hw rfl d kk
theorem p_X5_seen (C : cx p s m args meth c G own cc nL rt) {k idx : Nat} {v : Int32} (hk : kd k = 4) (hw : Cond.fieldLink own idx RX5 "seen" "I" ∈ ut) (hh : h' = si h k 19 v) (d : decode cc pc = .ok (.putfield idx, 3)) (kk : WW p l e hg s m args below meth c G h' Q (F0 m (pc + 3) ls rest)) : WW p l e hg s m args below meth c G h Q (F0 m pc ls (.int v :: .ref (G.2.2.2.2 k) :: rest)) := by
  subst hh
  exact q_put C (ci := 4) (N := 38) rfl in_X5 tyX5_ok nmX5 (kd_lt 4 (by decide) hk) (ce_4 hk) 19 (by decide) hw rfl rfl rfl (by show 19 < 38; decide) ((ce_4 hk).trans (by simp [si])) (ce_si G h k 19 v) d kk
theorem g_X5_seed (C : cx p s m args meth c G own cc nL rt) {k idx : Nat} (hk : kd k = 4) (hw : Cond.fieldLink own idx RX5 "seed" "J" ∈ ut) (d : decode cc pc = .ok (.getfield idx, 3)) (kk : WW p l e hg s m args below meth c G h Q (F0 m (pc + 3) ls (.long (h.2 k) :: rest))) : WW p l e hg s m args below meth c G h Q (F0 m pc ls (.ref (G.2.2.2.2 k) :: rest)) := q_get C (ci := 4) (N := 38) rfl in_X5 (kd_lt 4 (by decide) hk) (ce_4 hk) 20 (by decide) hw rfl d kk
theorem p_X5_seed (C : cx p s m args meth c G own cc nL rt) {k idx : Nat} {v : Int64} (hk : kd k = 4) (hw : Cond.fieldLink own idx RX5 "seed" "J" ∈ ut) (hh : h' = sl h k v) (d : decode cc pc = .ok (.putfield idx, 3)) (kk : WW p l e hg s m args below meth c G h' Q (F0 m (pc + 3) ls rest)) : WW p l e hg s m args below meth c G h Q (F0 m pc ls (.long v :: .ref (G.2.2.2.2 k) :: rest)) := by
  subst hh
  exact q_put C (ci := 4) (N := 38) rfl in_X5 tyX5_ok nmX5 (kd_lt 4 (by decide) hk) (ce_4 hk) 20 (by decide) hw rfl rfl rfl (by show 20 < 38; decide) ((ce_4 hk).trans (by simp [sl])) (ce_sl G h k v) d kk
theorem g_X5_come (C : cx p s m args meth c G own cc nL rt) {k idx : Nat} (hk : kd k = 4) (hw : Cond.fieldLink own idx RX5 "come" "I" ∈ ut) (d : decode cc pc = .ok (.getfield idx, 3)) (kk : WW p l e hg s m args below meth c G h Q (F0 m (pc + 3) ls (.int (h.1 k 21) :: rest))) : WW p l e hg s m args below meth c G h Q (F0 m pc ls (.ref (G.2.2.2.2 k) :: rest)) := q_get C (ci := 4) (N := 38) rfl in_X5 (kd_lt 4 (by decide) hk) (ce_4 hk) 21 (by decide) hw rfl d kk
theorem p_X5_come (C : cx p s m args meth c G own cc nL rt) {k idx : Nat} {v : Int32} (hk : kd k = 4) (hw : Cond.fieldLink own idx RX5 "come" "I" ∈ ut) (hh : h' = si h k 21 v) (d : decode cc pc = .ok (.putfield idx, 3)) (kk : WW p l e hg s m args below meth c G h' Q (F0 m (pc + 3) ls rest)) : WW p l e hg s m args below meth c G h Q (F0 m pc ls (.int v :: .ref (G.2.2.2.2 k) :: rest)) := by
  subst hh
  exact q_put C (ci := 4) (N := 38) rfl in_X5 tyX5_ok nmX5 (kd_lt 4 (by decide) hk) (ce_4 hk) 21 (by decide) hw rfl rfl rfl (by show 21 < 38; decide) ((ce_4 hk).trans (by simp [si])) (ce_si G h k 21 v) d kk
theorem g_X5_watched (C : cx p s m args meth c G own cc nL rt) {k idx : Nat} (hk : kd k = 4) (hw : Cond.fieldLink own idx RX5 "watched" "I" ∈ ut) (d : decode cc pc = .ok (.getfield idx, 3)) (kk : WW p l e hg s m args below meth c G h Q (F0 m (pc + 3) ls (.int (h.1 k 22) :: rest))) : WW p l e hg s m args below meth c G h Q (F0 m pc ls (.ref (G.2.2.2.2 k) :: rest)) := q_get C (ci := 4) (N := 38) rfl in_X5 (kd_lt 4 (by decide) hk) (ce_4 hk) 22 (by decide) hw rfl d kk
theorem p_X5_watched (C : cx p s m args meth c G own cc nL rt) {k idx : Nat} {v : Int32} (hk : kd k = 4) (hw : Cond.fieldLink own idx RX5 "watched" "I" ∈ ut) (hh : h' = si h k 22 v) (d : decode cc pc = .ok (.putfield idx, 3)) (kk : WW p l e hg s m args below meth c G h' Q (F0 m (pc + 3) ls rest)) : WW p l e hg s m args below meth c G h Q (F0 m pc ls (.int v :: .ref (G.2.2.2.2 k) :: rest)) := by
  subst hh
  exact q_put C (ci := 4) (N := 38) rfl in_X5 tyX5_ok nmX5 (kd_lt 4 (by decide) hk) (ce_4 hk) 22 (by decide) hw rfl rfl rfl (by show 22 < 38; decide) ((ce_4 hk).trans (by simp [si])) (ce_si G h k 22 v) d kk
theorem g_X5_went (C : cx p s m args meth c G own cc nL rt) {k idx : Nat} (hk : kd k = 4) (hw : Cond.fieldLink own idx RX5 "went" "I" ∈ ut) (d : decode cc pc = .ok (.getfield idx, 3)) (kk : WW p l e hg s m args below meth c G h Q (F0 m (pc + 3) ls (.int (h.1 k 23) :: rest))) : WW p l e hg s m args below meth c G h Q (F0 m pc ls (.ref (G.2.2.2.2 k) :: rest)) := q_get C (ci := 4) (N := 38) rfl in_X5 (kd_lt 4 (by decide) hk) (ce_4 hk) 23 (by decide) hw rfl d kk
theorem p_X5_went (C : cx p s m args meth c G own cc nL rt) {k idx : Nat} {v : Int32} (hk : kd k = 4) (hw : Cond.fieldLink own idx RX5 "went" "I" ∈ ut) (hh : h' = si h k 23 v) (d : decode cc pc = .ok (.putfield idx, 3)) (kk : WW p l e hg s m args below meth c G h' Q (F0 m (pc + 3) ls rest)) : WW p l e hg s m args below meth c G h Q (F0 m pc ls (.int v :: .ref (G.2.2.2.2 k) :: rest)) := by
  subst hh
  exact q_put C (ci := 4) (N := 38) rfl in_X5 tyX5_ok nmX5 (kd_lt 4 (by decide) hk) (ce_4 hk) 23 (by decide) hw rfl rfl rfl (by show 23 < 38; decide) ((ce_4 hk).trans (by simp [si])) (ce_si G h k 23 v) d kk
theorem g_X5_worth (C : cx p s m args meth c G own cc nL rt) {k idx : Nat} (hk : kd k = 4) (hw : Cond.fieldLink own idx RX5 "worth" "[I" ∈ ut) (d : decode cc pc = .ok (.getfield idx, 3)) (kk : WW p l e hg s m args below meth c G h Q (F0 m (pc + 3) ls (.ref (G.2.2.2.2 122) :: rest))) : WW p l e hg s m args below meth c G h Q (F0 m pc ls (.ref (G.2.2.2.2 k) :: rest)) := q_get C (ci := 4) (N := 38) rfl in_X5 (kd_lt 4 (by decide) hk) (ce_4 hk) 24 (by decide) hw rfl d kk
theorem g_X5_head (C : cx p s m args meth c G own cc nL rt) {k idx : Nat} (hk : kd k = 4) (hw : Cond.fieldLink own idx RX5 "head" "[I" ∈ ut) (d : decode cc pc = .ok (.getfield idx, 3)) (kk : WW p l e hg s m args below meth c G h Q (F0 m (pc + 3) ls (.ref (G.2.2.2.2 123) :: rest))) : WW p l e hg s m args below meth c G h Q (F0 m pc ls (.ref (G.2.2.2.2 k) :: rest)) := q_get C (ci := 4) (N := 38) rfl in_X5 (kd_lt 4 (by decide) hk) (ce_4 hk) 25 (by decide) hw rfl d kk
theorem g_X5_readTarget (C : cx p s m args meth c G own cc nL rt) {k idx : Nat} (hk : kd k = 4) (hw : Cond.fieldLink own idx RX5 "readTarget" "I" ∈ ut) (d : decode cc pc = .ok (.getfield idx, 3)) (kk : WW p l e hg s m args below meth c G h Q (F0 m (pc + 3) ls (.int (h.1 k 26) :: rest))) : WW p l e hg s m args below meth c G h Q (F0 m pc ls (.ref (G.2.2.2.2 k) :: rest)) := q_get C (ci := 4) (N := 38) rfl in_X5 (kd_lt 4 (by decide) hk) (ce_4 hk) 26 (by decide) hw rfl d kk
theorem p_X5_readTarget (C : cx p s m args meth c G own cc nL rt) {k idx : Nat} {v : Int32} (hk : kd k = 4) (hw : Cond.fieldLink own idx RX5 "readTarget" "I" ∈ ut) (hh : h' = si h k 26 v) (d : decode cc pc = .ok (.putfield idx, 3)) (kk : WW p l e hg s m args below meth c G h' Q (F0 m (pc + 3) ls rest)) : WW p l e hg s m args below meth c G h Q (F0 m pc ls (.int v :: .ref (G.2.2.2.2 k) :: rest)) := by
  subst hh
  exact q_put C (ci := 4) (N := 38) rfl in_X5 tyX5_ok nmX5 (kd_lt 4 (by decide) hk) (ce_4 hk) 26 (by decide) hw rfl rfl rfl (by show 26 < 38; decide) ((ce_4 hk).trans (by simp [si])) (ce_si G h k 26 v) d kk
theorem g_X5_readTolerance (C : cx p s m args meth c G own cc nL rt) {k idx : Nat} (hk : kd k = 4) (hw : Cond.fieldLink own idx RX5 "readTolerance" "I" ∈ ut) (d : decode cc pc = .ok (.getfield idx, 3)) (kk : WW p l e hg s m args below meth c G h Q (F0 m (pc + 3) ls (.int (h.1 k 27) :: rest))) : WW p l e hg s m args below meth c G h Q (F0 m pc ls (.ref (G.2.2.2.2 k) :: rest)) := q_get C (ci := 4) (N := 38) rfl in_X5 (kd_lt 4 (by decide) hk) (ce_4 hk) 27 (by decide) hw rfl d kk
theorem p_X5_readTolerance (C : cx p s m args meth c G own cc nL rt) {k idx : Nat} {v : Int32} (hk : kd k = 4) (hw : Cond.fieldLink own idx RX5 "readTolerance" "I" ∈ ut) (hh : h' = si h k 27 v) (d : decode cc pc = .ok (.putfield idx, 3)) (kk : WW p l e hg s m args below meth c G h' Q (F0 m (pc + 3) ls rest)) : WW p l e hg s m args below meth c G h Q (F0 m pc ls (.int v :: .ref (G.2.2.2.2 k) :: rest)) := by
  subst hh
  exact q_put C (ci := 4) (N := 38) rfl in_X5 tyX5_ok nmX5 (kd_lt 4 (by decide) hk) (ce_4 hk) 27 (by decide) hw rfl rfl rfl (by show 27 < 38; decide) ((ce_4 hk).trans (by simp [si])) (ce_si G h k 27 v) d kk
theorem g_X5_readEach (C : cx p s m args meth c G own cc nL rt) {k idx : Nat} (hk : kd k = 4) (hw : Cond.fieldLink own idx RX5 "readEach" "I" ∈ ut) (d : decode cc pc = .ok (.getfield idx, 3)) (kk : WW p l e hg s m args below meth c G h Q (F0 m (pc + 3) ls (.int (h.1 k 28) :: rest))) : WW p l e hg s m args below meth c G h Q (F0 m pc ls (.ref (G.2.2.2.2 k) :: rest)) := q_get C (ci := 4) (N := 38) rfl in_X5 (kd_lt 4 (by decide) hk) (ce_4 hk) 28 (by decide) hw rfl d kk
theorem p_X5_readEach (C : cx p s m args meth c G own cc nL rt) {k idx : Nat} {v : Int32} (hk : kd k = 4) (hw : Cond.fieldLink own idx RX5 "readEach" "I" ∈ ut) (hh : h' = si h k 28 v) (d : decode cc pc = .ok (.putfield idx, 3)) (kk : WW p l e hg s m args below meth c G h' Q (F0 m (pc + 3) ls rest)) : WW p l e hg s m args below meth c G h Q (F0 m pc ls (.int v :: .ref (G.2.2.2.2 k) :: rest)) := by
  subst hh
  exact q_put C (ci := 4) (N := 38) rfl in_X5 tyX5_ok nmX5 (kd_lt 4 (by decide) hk) (ce_4 hk) 28 (by decide) hw rfl rfl rfl (by show 28 < 38; decide) ((ce_4 hk).trans (by simp [si])) (ce_si G h k 28 v) d kk
theorem g_X5_readValves (C : cx p s m args meth c G own cc nL rt) {k idx : Nat} (hk : kd k = 4) (hw : Cond.fieldLink own idx RX5 "readValves" "I" ∈ ut) (d : decode cc pc = .ok (.getfield idx, 3)) (kk : WW p l e hg s m args below meth c G h Q (F0 m (pc + 3) ls (.int (h.1 k 29) :: rest))) : WW p l e hg s m args below meth c G h Q (F0 m pc ls (.ref (G.2.2.2.2 k) :: rest)) := q_get C (ci := 4) (N := 38) rfl in_X5 (kd_lt 4 (by decide) hk) (ce_4 hk) 29 (by decide) hw rfl d kk
theorem p_X5_readValves (C : cx p s m args meth c G own cc nL rt) {k idx : Nat} {v : Int32} (hk : kd k = 4) (hw : Cond.fieldLink own idx RX5 "readValves" "I" ∈ ut) (hh : h' = si h k 29 v) (d : decode cc pc = .ok (.putfield idx, 3)) (kk : WW p l e hg s m args below meth c G h' Q (F0 m (pc + 3) ls rest)) : WW p l e hg s m args below meth c G h Q (F0 m pc ls (.int v :: .ref (G.2.2.2.2 k) :: rest)) := by
  subst hh
  exact q_put C (ci := 4) (N := 38) rfl in_X5 tyX5_ok nmX5 (kd_lt 4 (by decide) hk) (ce_4 hk) 29 (by decide) hw rfl rfl rfl (by show 29 < 38; decide) ((ce_4 hk).trans (by simp [si])) (ce_si G h k 29 v) d kk
theorem g_X5_readSetting (C : cx p s m args meth c G own cc nL rt) {k idx : Nat} (hk : kd k = 4) (hw : Cond.fieldLink own idx RX5 "readSetting" "[I" ∈ ut) (d : decode cc pc = .ok (.getfield idx, 3)) (kk : WW p l e hg s m args below meth c G h Q (F0 m (pc + 3) ls (.ref (G.2.2.2.2 124) :: rest))) : WW p l e hg s m args below meth c G h Q (F0 m pc ls (.ref (G.2.2.2.2 k) :: rest)) := q_get C (ci := 4) (N := 38) rfl in_X5 (kd_lt 4 (by decide) hk) (ce_4 hk) 30 (by decide) hw rfl d kk
theorem g_X5_readDrift (C : cx p s m args meth c G own cc nL rt) {k idx : Nat} (hk : kd k = 4) (hw : Cond.fieldLink own idx RX5 "readDrift" "[I" ∈ ut) (d : decode cc pc = .ok (.getfield idx, 3)) (kk : WW p l e hg s m args below meth c G h Q (F0 m (pc + 3) ls (.ref (G.2.2.2.2 125) :: rest))) : WW p l e hg s m args below meth c G h Q (F0 m pc ls (.ref (G.2.2.2.2 k) :: rest)) := q_get C (ci := 4) (N := 38) rfl in_X5 (kd_lt 4 (by decide) hk) (ce_4 hk) 31 (by decide) hw rfl d kk
theorem g_X5_readStock (C : cx p s m args meth c G own cc nL rt) {k idx : Nat} (hk : kd k = 4) (hw : Cond.fieldLink own idx RX5 "readStock" "[I" ∈ ut) (d : decode cc pc = .ok (.getfield idx, 3)) (kk : WW p l e hg s m args below meth c G h Q (F0 m (pc + 3) ls (.ref (G.2.2.2.2 126) :: rest))) : WW p l e hg s m args below meth c G h Q (F0 m pc ls (.ref (G.2.2.2.2 k) :: rest)) := q_get C (ci := 4) (N := 38) rfl in_X5 (kd_lt 4 (by decide) hk) (ce_4 hk) 32 (by decide) hw rfl d kk
theorem g_X5_readMany (C : cx p s m args meth c G own cc nL rt) {k idx : Nat} (hk : kd k = 4) (hw : Cond.fieldLink own idx RX5 "readMany" "I" ∈ ut) (d : decode cc pc = .ok (.getfield idx, 3)) (kk : WW p l e hg s m args below meth c G h Q (F0 m (pc + 3) ls (.int (h.1 k 33) :: rest))) : WW p l e hg s m args below meth c G h Q (F0 m pc ls (.ref (G.2.2.2.2 k) :: rest)) := q_get C (ci := 4) (N := 38) rfl in_X5 (kd_lt 4 (by decide) hk) (ce_4 hk) 33 (by decide) hw rfl d kk
theorem p_X5_readMany (C : cx p s m args meth c G own cc nL rt) {k idx : Nat} {v : Int32} (hk : kd k = 4) (hw : Cond.fieldLink own idx RX5 "readMany" "I" ∈ ut) (hh : h' = si h k 33 v) (d : decode cc pc = .ok (.putfield idx, 3)) (kk : WW p l e hg s m args below meth c G h' Q (F0 m (pc + 3) ls rest)) : WW p l e hg s m args below meth c G h Q (F0 m pc ls (.int v :: .ref (G.2.2.2.2 k) :: rest)) := by
  subst hh
  exact q_put C (ci := 4) (N := 38) rfl in_X5 tyX5_ok nmX5 (kd_lt 4 (by decide) hk) (ce_4 hk) 33 (by decide) hw rfl rfl rfl (by show 33 < 38; decide) ((ce_4 hk).trans (by simp [si])) (ce_si G h k 33 v) d kk
theorem g_X5_readQueue (C : cx p s m args meth c G own cc nL rt) {k idx : Nat} (hk : kd k = 4) (hw : Cond.fieldLink own idx RX5 "readQueue" "[I" ∈ ut) (d : decode cc pc = .ok (.getfield idx, 3)) (kk : WW p l e hg s m args below meth c G h Q (F0 m (pc + 3) ls (.ref (G.2.2.2.2 127) :: rest))) : WW p l e hg s m args below meth c G h Q (F0 m pc ls (.ref (G.2.2.2.2 k) :: rest)) := q_get C (ci := 4) (N := 38) rfl in_X5 (kd_lt 4 (by decide) hk) (ce_4 hk) 34 (by decide) hw rfl d kk
theorem g_X5_part (C : cx p s m args meth c G own cc nL rt) {k idx : Nat} (hk : kd k = 4) (hw : Cond.fieldLink own idx RX5 "part" "I" ∈ ut) (d : decode cc pc = .ok (.getfield idx, 3)) (kk : WW p l e hg s m args below meth c G h Q (F0 m (pc + 3) ls (.int (h.1 k 35) :: rest))) : WW p l e hg s m args below meth c G h Q (F0 m pc ls (.ref (G.2.2.2.2 k) :: rest)) := q_get C (ci := 4) (N := 38) rfl in_X5 (kd_lt 4 (by decide) hk) (ce_4 hk) 35 (by decide) hw rfl d kk
theorem p_X5_part (C : cx p s m args meth c G own cc nL rt) {k idx : Nat} {v : Int32} (hk : kd k = 4) (hw : Cond.fieldLink own idx RX5 "part" "I" ∈ ut) (hh : h' = si h k 35 v) (d : decode cc pc = .ok (.putfield idx, 3)) (kk : WW p l e hg s m args below meth c G h' Q (F0 m (pc + 3) ls rest)) : WW p l e hg s m args below meth c G h Q (F0 m pc ls (.int v :: .ref (G.2.2.2.2 k) :: rest)) := by
  subst hh
  exact q_put C (ci := 4) (N := 38) rfl in_X5 tyX5_ok nmX5 (kd_lt 4 (by decide) hk) (ce_4 hk) 35 (by decide) hw rfl rfl rfl (by show 35 < 38; decide) ((ce_4 hk).trans (by simp [si])) (ce_si G h k 35 v) d kk
theorem g_X5_place (C : cx p s m args meth c G own cc nL rt) {k idx : Nat} (hk : kd k = 4) (hw : Cond.fieldLink own idx RX5 "place" "I" ∈ ut) (d : decode cc pc = .ok (.getfield idx, 3)) (kk : WW p l e hg s m args below meth c G h Q (F0 m (pc + 3) ls (.int (h.1 k 36) :: rest))) : WW p l e hg s m args below meth c G h Q (F0 m pc ls (.ref (G.2.2.2.2 k) :: rest)) := q_get C (ci := 4) (N := 38) rfl in_X5 (kd_lt 4 (by decide) hk) (ce_4 hk) 36 (by decide) hw rfl d kk
theorem p_X5_place (C : cx p s m args meth c G own cc nL rt) {k idx : Nat} {v : Int32} (hk : kd k = 4) (hw : Cond.fieldLink own idx RX5 "place" "I" ∈ ut) (hh : h' = si h k 36 v) (d : decode cc pc = .ok (.putfield idx, 3)) (kk : WW p l e hg s m args below meth c G h' Q (F0 m (pc + 3) ls rest)) : WW p l e hg s m args below meth c G h Q (F0 m pc ls (.int v :: .ref (G.2.2.2.2 k) :: rest)) := by
  subst hh
  exact q_put C (ci := 4) (N := 38) rfl in_X5 tyX5_ok nmX5 (kd_lt 4 (by decide) hk) (ce_4 hk) 36 (by decide) hw rfl rfl rfl (by show 36 < 38; decide) ((ce_4 hk).trans (by simp [si])) (ce_si G h k 36 v) d kk
theorem g_X5_figures (C : cx p s m args meth c G own cc nL rt) {k idx : Nat} (hk : kd k = 4) (hw : Cond.fieldLink own idx RX5 "figures" "I" ∈ ut) (d : decode cc pc = .ok (.getfield idx, 3)) (kk : WW p l e hg s m args below meth c G h Q (F0 m (pc + 3) ls (.int (h.1 k 37) :: rest))) : WW p l e hg s m args below meth c G h Q (F0 m pc ls (.ref (G.2.2.2.2 k) :: rest)) := q_get C (ci := 4) (N := 38) rfl in_X5 (kd_lt 4 (by decide) hk) (ce_4 hk) 37 (by decide) hw rfl d kk
theorem p_X5_figures (C : cx p s m args meth c G own cc nL rt) {k idx : Nat} {v : Int32} (hk : kd k = 4) (hw : Cond.fieldLink own idx RX5 "figures" "I" ∈ ut) (hh : h' = si h k 37 v) (d : decode cc pc = .ok (.putfield idx, 3)) (kk : WW p l e hg s m args below meth c G h' Q (F0 m (pc + 3) ls rest)) : WW p l e hg s m args below meth c G h Q (F0 m pc ls (.int v :: .ref (G.2.2.2.2 k) :: rest)) := by
  subst hh
  exact q_put C (ci := 4) (N := 38) rfl in_X5 tyX5_ok nmX5 (kd_lt 4 (by decide) hk) (ce_4 hk) 37 (by decide) hw rfl rfl rfl (by show 37 < 38; decide) ((ce_4 hk).trans (by simp [si])) (ce_si G h k 37 v) d kk
end
end
section
section
variable {p : Program} {l : Launch} {e : Env} {s : State} {m : MethodId} {args : Array Value} {below : List Frame} {meth : Method} {c : Code} {Q : State → Prop} {G : GG} {h h' : PH} {cc : ByteArray} {nL hg : Nat} {own : String} {rt : Option FieldType} {pc : Nat} {ls : Array Slot} {rest : List Value}
def sv (y : MethodName) (cy : ByteArray) (ny : Nat) (ry : Option FieldType) (n : Nat) : Prop := Cond.code y cy ny ry ∈ ut ∧ Cond.instanceMethod y ∈ ut ∧ Cond.selects y.cls y y ∈ ut ∧ Cond.initialized y.cls ∈ ut ∧ (y.cls ≠ "java/lang/invoke/MethodHandle" ∧ y.cls ≠ "java/lang/invoke/VarHandle" ∧ (parseMethodDescriptor y.desc).map (fun d => d.parameters.length) = some n) ∧ ny ≤ 14
def ss (y : MethodName) (cy : ByteArray) (ny : Nat) (ry : Option FieldType) (n : Nat) : Prop := Cond.code y cy ny ry ∈ ut ∧ Cond.static y ∈ ut ∧ Cond.initialized y.cls ∈ ut ∧ (y.cls ≠ "java/lang/invoke/MethodHandle" ∧ y.cls ≠ "java/lang/invoke/VarHandle" ∧ (parseMethodDescriptor y.desc).map (fun d => d.parameters.length) = some n) ∧ ny ≤ 14
theorem good_ut {y : MethodName} {cy : ByteArray} {ny : Nat} {ry : Option FieldType} (hc : Cond.code y cy ny ry ∈ ut) : GoodIn ut (Cond.code y cy ny ry :: ut) := fun w h => by
  rcases List.mem_cons.mp h with rfl | h
  · exact ⟨hc, good_of_word (ut_good hc)⟩
  · exact ⟨h, good_of_word (ut_good h)⟩
theorem rmh_ok {hg hy ny : Nat} (h1 : hy + 1 ≤ hg) (h2 : ny ≤ 14) : (rmh hy).frames + 1 ≤ (rmh hg).frames ∧ 8 + (ny + 11) + (rmh hy).locals ≤ (rmh hg).locals := by
  refine ⟨h1, ?_⟩
  show 8 + (ny + 11) + 33 * hy ≤ 33 * hg
  omega
theorem nws_to {s U : State} (hW : s.WarmedH U.vm) (h : nws s) : nws U := fun q hq => va_Nw.warmM hW (h q hq)
theorem Pq_blind (G : GG) (As : List Value) (h : PH) : FrameBlind (Pq G As h) := fun a U g mk q => by
  obtain ⟨q0, ⟨q1, q2, q3⟩, q4⟩ := q
  exact ⟨q0, ⟨q1, va_K.moved (u := U) (U := U.calling g mk a) (Vm.Alike.refl U.vm) q2, q3⟩, fun x hx => va_Nw.same rfl (u := U) rfl (q4 x hx)⟩
theorem Pq_pre (C : cx p s m args meth c G own cc nL rt) {As : List Value} {H : Heap} (hP : va_P G.1 vwCl (wd G h) H) : ∀ U : State, U.heap = H → s.WarmedH U.vm → Pq G As h As.toArray U := fun U hU hW => ⟨rfl, ⟨by rw [hU]; exact hP, va_K.moved hW.alike C.2.2.2.2.2.1, C.2.2.2.2.2.2.1⟩, nws_to hW C.2.2.2.2.2.2.2.1⟩
theorem q_runV (C : cx p s m args meth c G own cc nL rt) {k ci idx hy ny n : Nat} {T : u_T} {N : Nat} {y : MethodName} {cy : ByteArray} {ry : Option FieldType} {As : List Value} {st0 : List Value} {Qc : Array Value → State → Outcome → State → Prop} {H : Heap} {locs : List Loc} (S : sv y cy ny ry n) (hw : Cond.methodLink own idx y ∈ ut) (hM : Met l y (Cond.code y cy ny ry :: ut) (rmh hy) (Pq G (.ref (G.2.2.2.2 k) :: As) h) Qc 0 0 (Ar G)) (hk : kd k = ci) (hci : vwCl[ci]? = some (y.cls, T, N)) (hkc : ci < 5) {fs : List Value} (he : ce G h k = .inr (ci, fs)) (hhy : hy + 1 ≤ hg) (hl : ls.size = nL) (hn : As.length = n) (hst : st0 = As.reverse ++ .ref (G.2.2.2.2 k) :: rest) (hr : (rest.map fun v => v.category).sum ≤ 8) (d : decode cc pc = .ok (.invokevirtual idx, 3)) (hP : va_P G.1 vwCl (wd G h) H) : va_Run p l e (rmh hg) s m args below meth c H locs 0 0 0 0 (F0 m pc ls st0) rest (Qc (.ref (G.2.2.2.2 k) :: As).toArray) (Ar G) := by
  obtain ⟨s1, s2, s3, s4, s5, s6⟩ := S
  exact va_runV (Ts := ut) (cc := cc) (C := y.cls) (b := G.2.2.2.2 k) (As := As) (rest := rest) ⟨C.1, C.2.1, C.2.2.1, C.2.2.2.1, C.2.2.2.2.1⟩ hM ⟨callB_of n C.2.2.2.2.1 (good_ut s1) rfl rfl rfl (C.2.2.2.2.1 _ s4) (C.2.2.2.2.1 _ hw) s5 (rmh_ok hhy s6), C.2.2.2.2.1 _ s2, C.2.2.2.2.1 _ s3⟩
    ⟨Pq_blind _ _ _, va_recv (ci := ci) (q0 := k) C.2.2.2.2.2.1 hP hci ((wd_at (kd_lt ci (by omega) hk)).trans (by rw [he])), Pq_pre C hP⟩ rfl hn hl hst (lv_room hr) d ⟨Nat.zero_le _, Nat.zero_le _⟩
theorem q_runS (C : cx p s m args meth c G own cc nL rt) {idx hy ny n : Nat} {y : MethodName} {cy : ByteArray} {ry : Option FieldType} {As : List Value} {st0 : List Value} {Qc : Array Value → State → Outcome → State → Prop} {H : Heap} {locs : List Loc} (S : ss y cy ny ry n) (hw : Cond.methodLink own idx y ∈ ut) (hM : Met l y (Cond.code y cy ny ry :: ut) (rmh hy) (Pq G As h) Qc 0 0 (Ar G)) (hhy : hy + 1 ≤ hg) (hl : ls.size = nL) (hn : As.length = n) (hst : st0 = As.reverse ++ rest) (hr : (rest.map fun v => v.category).sum ≤ 8) (d : decode cc pc = .ok (.invokestatic idx, 3)) (hP : va_P G.1 vwCl (wd G h) H) : va_Run p l e (rmh hg) s m args below meth c H locs 0 0 0 0 (F0 m pc ls st0) rest (Qc As.toArray) (Ar G) := by
  obtain ⟨s1, s2, s4, s5, s6⟩ := S
  exact va_runS (Ts := ut) (cc := cc) (As := As) (rest := rest) ⟨C.1, C.2.1, C.2.2.1, C.2.2.2.1, C.2.2.2.2.1⟩ hM ⟨callB_of n C.2.2.2.2.1 (good_ut s1) rfl rfl rfl (C.2.2.2.2.1 _ s4) (C.2.2.2.2.1 _ hw) s5 (rmh_ok hhy s6), C.2.2.2.2.1 _ s2⟩
    ⟨Pq_blind _ _ _, Pq_pre C hP⟩ rfl hn hl hst (lv_room hr) d ⟨Nat.zero_le _, Nat.zero_le _⟩
theorem q_runN (C : cx p s m args meth c G own cc nL rt) {idx hy ny n : Nat} {y : MethodName} {host : String} {cy : ByteArray} {ry : Option FieldType} {As : List Value} {st0 : List Value} {Qc : Array Value → State → Outcome → State → Prop} {H : Heap} {locs : List Loc} (S : ss y cy ny ry n) (hw : (own, idx, y, host) ∈ nl) (hM : Met l y (Cond.code y cy ny ry :: ut) (rmh hy) (Pq G As h) Qc 0 0 (Ar G)) (hhy : hy + 1 ≤ hg) (hl : ls.size = nL) (hn : As.length = n) (hst : st0 = As.reverse ++ rest) (hr : (rest.map fun v => v.category).sum ≤ 8) (d : decode cc pc = .ok (.invokestatic idx, 3)) (hP : va_P G.1 vwCl (wd G h) H) : va_Run p l e (rmh hg) s m args below meth c H locs 0 0 0 0 (F0 m pc ls st0) rest (Qc As.toArray) (Ar G) := by
  obtain ⟨s1, s2, s4, s5, s6⟩ := S
  exact va_runSN (Ts := ut) (cc := cc) (As := As) (rest := rest) ⟨C.1, C.2.1, C.2.2.1, C.2.2.2.1, C.2.2.2.2.1⟩ hM ⟨va_cnB n C.2.2.2.2.1 (good_ut s1) rfl rfl rfl (C.2.2.2.2.2.2.2.1 _ hw) (C.2.2.2.2.1 _ s4) s5 (rmh_ok hhy s6), C.2.2.2.2.1 _ s2, trivial⟩
    ⟨Pq_blind _ _ _, Pq_pre C hP⟩ rfl hn hl hst (lv_room hr) d ⟨Nat.zero_le _, Nat.zero_le _⟩
theorem q_callVi (C : cx p s m args meth c G own cc nL rt) {k ci N : Nat} {T : u_T} {idx hy ny n : Nat} {y : MethodName} {cy : ByteArray} {rty : FieldType} {As st0 : List Value} {r : Int32} (S : sv y cy ny (some rty) n) (hw : Cond.methodLink own idx y ∈ ut) (hM : MI l G y cy ny rty hy (.ref (G.2.2.2.2 k) :: As) h (r, h')) (hk : kd k = ci) (hci : vwCl[ci]? = some (y.cls, T, N)) (hkc : ci < 5) {fs : List Value} (he : ce G h k = .inr (ci, fs)) (hhy : hy + 1 ≤ hg) (hl : ls.size = nL) (hn : As.length = n) (hst : st0 = As.reverse ++ .ref (G.2.2.2.2 k) :: rest) (hr : (rest.map fun v => v.category).sum ≤ 8) (d : decode cc pc = .ok (.invokevirtual idx, 3)) (kk : WW p l e hg s m args below meth c G h' Q (F0 m (pc + 3) ls (.int r :: rest))) : WW p l e hg s m args below meth c G h Q (F0 m pc ls st0) := by
  intro H locs hP hS
  refine va_calli (A0 := Ar G) (A1 := Ar G) (H0 := s.heap) (free := Ar G) (q_runV C S hw hM hk hci hkc he hhy hl hn hst hr d hP) hS (fun _ _ z => z) (fun _ z => z) ?_
  · intro r0 u t H1 locs1 ht hvm hw hB hz hk1 hS1
    obtain ⟨rfl, rfl⟩ := hw
    exact kk H1 locs1 (by rw [← ht]; exact hB.1) hS1
theorem q_callSi (C : cx p s m args meth c G own cc nL rt) {idx hy ny n : Nat} {y : MethodName} {cy : ByteArray} {rty : FieldType} {As st0 : List Value} {r : Int32} (S : ss y cy ny (some rty) n) (hw : Cond.methodLink own idx y ∈ ut) (hM : MI l G y cy ny rty hy As h (r, h')) (hhy : hy + 1 ≤ hg) (hl : ls.size = nL) (hn : As.length = n) (hst : st0 = As.reverse ++ rest) (hr : (rest.map fun v => v.category).sum ≤ 8) (d : decode cc pc = .ok (.invokestatic idx, 3)) (kk : WW p l e hg s m args below meth c G h' Q (F0 m (pc + 3) ls (.int r :: rest))) : WW p l e hg s m args below meth c G h Q (F0 m pc ls st0) := by
  intro H locs hP hS
  refine va_calli (A0 := Ar G) (A1 := Ar G) (H0 := s.heap) (free := Ar G) (q_runS C S hw hM hhy hl hn hst hr d hP) hS (fun _ _ z => z) (fun _ z => z) ?_
  · intro r0 u t H1 locs1 ht hvm hw hB hz hk1 hS1
    obtain ⟨rfl, rfl⟩ := hw
    exact kk H1 locs1 (by rw [← ht]; exact hB.1) hS1
theorem q_callNi (C : cx p s m args meth c G own cc nL rt) {host : String} {idx hy ny n : Nat} {y : MethodName} {cy : ByteArray} {rty : FieldType} {As st0 : List Value} {r : Int32} (S : ss y cy ny (some rty) n) (hw : (own, idx, y, host) ∈ nl) (hM : MI l G y cy ny rty hy As h (r, h')) (hhy : hy + 1 ≤ hg) (hl : ls.size = nL) (hn : As.length = n) (hst : st0 = As.reverse ++ rest) (hr : (rest.map fun v => v.category).sum ≤ 8) (d : decode cc pc = .ok (.invokestatic idx, 3)) (kk : WW p l e hg s m args below meth c G h' Q (F0 m (pc + 3) ls (.int r :: rest))) : WW p l e hg s m args below meth c G h Q (F0 m pc ls st0) := by
  intro H locs hP hS
  refine va_calli (A0 := Ar G) (A1 := Ar G) (H0 := s.heap) (free := Ar G) (q_runN C S hw hM hhy hl hn hst hr d hP) hS (fun _ _ z => z) (fun _ z => z) ?_
  · intro r0 u t H1 locs1 ht hvm hw hB hz hk1 hS1
    obtain ⟨rfl, rfl⟩ := hw
    exact kk H1 locs1 (by rw [← ht]; exact hB.1) hS1
theorem q_callVl (C : cx p s m args meth c G own cc nL rt) {k ci N : Nat} {T : u_T} {idx hy ny n : Nat} {y : MethodName} {cy : ByteArray} {As st0 : List Value} {r : Int64} (S : sv y cy ny (some .long) n) (hw : Cond.methodLink own idx y ∈ ut) (hM : MLo l G y cy ny hy (.ref (G.2.2.2.2 k) :: As) h (r, h')) (hk : kd k = ci) (hci : vwCl[ci]? = some (y.cls, T, N)) (hkc : ci < 5) {fs : List Value} (he : ce G h k = .inr (ci, fs)) (hhy : hy + 1 ≤ hg) (hl : ls.size = nL) (hn : As.length = n) (hst : st0 = As.reverse ++ .ref (G.2.2.2.2 k) :: rest) (hr : (rest.map fun v => v.category).sum ≤ 8) (d : decode cc pc = .ok (.invokevirtual idx, 3)) (kk : WW p l e hg s m args below meth c G h' Q (F0 m (pc + 3) ls (.long r :: rest))) : WW p l e hg s m args below meth c G h Q (F0 m pc ls st0) := by
  intro H locs hP hS
  refine va_calll (A0 := Ar G) (A1 := Ar G) (H0 := s.heap) (free := Ar G) (q_runV C S hw hM hk hci hkc he hhy hl hn hst hr d hP) hS (fun _ _ z => z) (fun _ z => z) ?_
  · intro r0 u t H1 locs1 ht hvm hw hB hz hk1 hS1
    obtain ⟨rfl, rfl⟩ := hw
    exact kk H1 locs1 (by rw [← ht]; exact hB.1) hS1
theorem q_callSl (C : cx p s m args meth c G own cc nL rt) {idx hy ny n : Nat} {y : MethodName} {cy : ByteArray} {As st0 : List Value} {r : Int64} (S : ss y cy ny (some .long) n) (hw : Cond.methodLink own idx y ∈ ut) (hM : MLo l G y cy ny hy As h (r, h')) (hhy : hy + 1 ≤ hg) (hl : ls.size = nL) (hn : As.length = n) (hst : st0 = As.reverse ++ rest) (hr : (rest.map fun v => v.category).sum ≤ 8) (d : decode cc pc = .ok (.invokestatic idx, 3)) (kk : WW p l e hg s m args below meth c G h' Q (F0 m (pc + 3) ls (.long r :: rest))) : WW p l e hg s m args below meth c G h Q (F0 m pc ls st0) := by
  intro H locs hP hS
  refine va_calll (A0 := Ar G) (A1 := Ar G) (H0 := s.heap) (free := Ar G) (q_runS C S hw hM hhy hl hn hst hr d hP) hS (fun _ _ z => z) (fun _ z => z) ?_
  · intro r0 u t H1 locs1 ht hvm hw hB hz hk1 hS1
    obtain ⟨rfl, rfl⟩ := hw
    exact kk H1 locs1 (by rw [← ht]; exact hB.1) hS1
theorem q_callNl (C : cx p s m args meth c G own cc nL rt) {host : String} {idx hy ny n : Nat} {y : MethodName} {cy : ByteArray} {As st0 : List Value} {r : Int64} (S : ss y cy ny (some .long) n) (hw : (own, idx, y, host) ∈ nl) (hM : MLo l G y cy ny hy As h (r, h')) (hhy : hy + 1 ≤ hg) (hl : ls.size = nL) (hn : As.length = n) (hst : st0 = As.reverse ++ rest) (hr : (rest.map fun v => v.category).sum ≤ 8) (d : decode cc pc = .ok (.invokestatic idx, 3)) (kk : WW p l e hg s m args below meth c G h' Q (F0 m (pc + 3) ls (.long r :: rest))) : WW p l e hg s m args below meth c G h Q (F0 m pc ls st0) := by
  intro H locs hP hS
  refine va_calll (A0 := Ar G) (A1 := Ar G) (H0 := s.heap) (free := Ar G) (q_runN C S hw hM hhy hl hn hst hr d hP) hS (fun _ _ z => z) (fun _ z => z) ?_
  · intro r0 u t H1 locs1 ht hvm hw hB hz hk1 hS1
    obtain ⟨rfl, rfl⟩ := hw
    exact kk H1 locs1 (by rw [← ht]; exact hB.1) hS1
theorem q_callVv (C : cx p s m args meth c G own cc nL rt) {k ci N : Nat} {T : u_T} {idx hy ny n : Nat} {y : MethodName} {cy : ByteArray} {As st0 : List Value} {r : Unit} (S : sv y cy ny none n) (hw : Cond.methodLink own idx y ∈ ut) (hM : MV l G y cy ny hy (.ref (G.2.2.2.2 k) :: As) h (r, h')) (hk : kd k = ci) (hci : vwCl[ci]? = some (y.cls, T, N)) (hkc : ci < 5) {fs : List Value} (he : ce G h k = .inr (ci, fs)) (hhy : hy + 1 ≤ hg) (hl : ls.size = nL) (hn : As.length = n) (hst : st0 = As.reverse ++ .ref (G.2.2.2.2 k) :: rest) (hr : (rest.map fun v => v.category).sum ≤ 8) (d : decode cc pc = .ok (.invokevirtual idx, 3)) (kk : WW p l e hg s m args below meth c G h' Q (F0 m (pc + 3) ls (rest))) : WW p l e hg s m args below meth c G h Q (F0 m pc ls st0) := by
  intro H locs hP hS
  refine va_callv (A0 := Ar G) (A1 := Ar G) (H0 := s.heap) (free := Ar G) (q_runV C S hw hM hk hci hkc he hhy hl hn hst hr d hP) hS (fun _ _ z => z) (fun _ z => z) ?_
  · intro u t H1 locs1 ht hvm hw hB hz hk1 hS1
    cases hw
    exact kk H1 locs1 (by rw [← ht]; exact hB.1) hS1
theorem q_callSv (C : cx p s m args meth c G own cc nL rt) {idx hy ny n : Nat} {y : MethodName} {cy : ByteArray} {As st0 : List Value} {r : Unit} (S : ss y cy ny none n) (hw : Cond.methodLink own idx y ∈ ut) (hM : MV l G y cy ny hy As h (r, h')) (hhy : hy + 1 ≤ hg) (hl : ls.size = nL) (hn : As.length = n) (hst : st0 = As.reverse ++ rest) (hr : (rest.map fun v => v.category).sum ≤ 8) (d : decode cc pc = .ok (.invokestatic idx, 3)) (kk : WW p l e hg s m args below meth c G h' Q (F0 m (pc + 3) ls (rest))) : WW p l e hg s m args below meth c G h Q (F0 m pc ls st0) := by
  intro H locs hP hS
  refine va_callv (A0 := Ar G) (A1 := Ar G) (H0 := s.heap) (free := Ar G) (q_runS C S hw hM hhy hl hn hst hr d hP) hS (fun _ _ z => z) (fun _ z => z) ?_
  · intro u t H1 locs1 ht hvm hw hB hz hk1 hS1
    cases hw
    exact kk H1 locs1 (by rw [← ht]; exact hB.1) hS1
theorem q_callNv (C : cx p s m args meth c G own cc nL rt) {host : String} {idx hy ny n : Nat} {y : MethodName} {cy : ByteArray} {As st0 : List Value} {r : Unit} (S : ss y cy ny none n) (hw : (own, idx, y, host) ∈ nl) (hM : MV l G y cy ny hy As h (r, h')) (hhy : hy + 1 ≤ hg) (hl : ls.size = nL) (hn : As.length = n) (hst : st0 = As.reverse ++ rest) (hr : (rest.map fun v => v.category).sum ≤ 8) (d : decode cc pc = .ok (.invokestatic idx, 3)) (kk : WW p l e hg s m args below meth c G h' Q (F0 m (pc + 3) ls (rest))) : WW p l e hg s m args below meth c G h Q (F0 m pc ls st0) := by
  intro H locs hP hS
  refine va_callv (A0 := Ar G) (A1 := Ar G) (H0 := s.heap) (free := Ar G) (q_runN C S hw hM hhy hl hn hst hr d hP) hS (fun _ _ z => z) (fun _ z => z) ?_
  · intro u t H1 locs1 ht hvm hw hB hz hk1 hS1
    cases hw
    exact kk H1 locs1 (by rw [← ht]; exact hB.1) hS1
theorem q_iret (C : cx p s m args meth c G own cc nL (some .int)) {v : Int32} (d : decode cc pc = .ok (.ireturn, 1)) : WW p l e hg s m args below meth c G h (MQ below (QI G (v, h)) args s 0 0 (Ar G)) (F0 m pc ls [.int v]) := fun H locs hP hS =>
  W.iret (v := v) C.1 C.2.1 C.2.2.2.2.2.2.2.2.1 (fun t ht hW => ⟨⟨v, h, rfl, ⟨rfl, rfl⟩, by rw [ht]; exact hP, va_K.moved hW.alike C.2.2.2.2.2.1, C.2.2.2.2.2.2.1⟩, hS.F ht⟩) hS.2.2 d C.2.2.2.2.2.2.2.2.2
theorem q_zret (C : cx p s m args meth c G own cc nL (some .boolean)) {v : Int32} (hv : v = 0 ∨ v = 1) (d : decode cc pc = .ok (.ireturn, 1)) : WW p l e hg s m args below meth c G h (MQ below (QI G (v, h)) args s 0 0 (Ar G)) (F0 m pc ls [.int v]) := fun H locs hP hS =>
  W.zret (v := v) C.1 C.2.1 C.2.2.2.2.2.2.2.2.1 (by rcases hv with rfl | rfl <;> rfl) (fun t ht hW => ⟨⟨v, h, rfl, ⟨rfl, rfl⟩, by rw [ht]; exact hP, va_K.moved hW.alike C.2.2.2.2.2.1, C.2.2.2.2.2.2.1⟩, hS.F ht⟩) hS.2.2 d C.2.2.2.2.2.2.2.2.2
theorem q_lret (C : cx p s m args meth c G own cc nL (some .long)) {v : Int64} (d : decode cc pc = .ok (.lreturn, 1)) : WW p l e hg s m args below meth c G h (MQ below (QL G (v, h)) args s 0 0 (Ar G)) (F0 m pc ls [.long v]) := fun H locs hP hS =>
  W.lret (v := v) C.1 C.2.1 C.2.2.2.2.2.2.2.2.1 (fun t ht hW => ⟨⟨v, h, rfl, ⟨rfl, rfl⟩, by rw [ht]; exact hP, va_K.moved hW.alike C.2.2.2.2.2.1, C.2.2.2.2.2.2.1⟩, hS.F ht⟩) hS.2.2 d C.2.2.2.2.2.2.2.2.2
theorem q_vret (C : cx p s m args meth c G own cc nL none) (d : decode cc pc = .ok (.return_, 1)) : WW p l e hg s m args below meth c G h (MQ below (QV G ((), h)) args s 0 0 (Ar G)) (F0 m pc ls []) := fun H locs hP hS =>
  W.vret C.1 C.2.1 C.2.2.2.2.2.2.2.2.1 (fun t ht hW => ⟨⟨h, rfl, rfl, by rw [ht]; exact hP, va_K.moved hW.alike C.2.2.2.2.2.1, C.2.2.2.2.2.2.1⟩, hS.F ht⟩) hS.2.2 d C.2.2.2.2.2.2.2.2.2
theorem MI_of {y : MethodName} {rty : FieldType} {As : List Value} {res : Int32 × PH} (hy : plainName y.cls = true) (hlen : (lg_sl As).length ≤ nL) (body : ∀ (p : Program) (e : Env) (s : State) (m : MethodId) (args : Array Value) (below : List Frame) (meth : Method) (c : Code) (ls : Array Slot), cx p s m args meth c G y.cls cc nL (some rty) → lv_has ls nL (lv_args 0 As) → WW p l e hg s m args below meth c G h (MQ below (QI G res) args s 0 0 (Ar G)) (F0 m 0 ls [])) : MI l G y cc nL rty hg As h res := by
  refine Met.ofW (cc := cc) (maxL := nL) (ret := (some rty)) hy rfl ?_
  intro p e s m args below meth c s₁ B hml hv
  obtain ⟨rfl, ⟨hP, hK, hj⟩, hw⟩ := hv
  have hts := atoms_spec (ws := Cond.code y cc nL (some rty) :: ut) B.pre
  rw [lg_entry_eq]
  exact body p e s m As.toArray below meth c _ ⟨B.exec, B.bytes, hml, findClass_of_methodNamed B.named, fun w h => hts w (List.mem_cons_of_mem _ h), hK, hj, hw, B.returns, B.notSynchronized⟩ (lv_entry As hlen) s.heap [] hP va_S.rf
theorem MLo_of {y : MethodName} {As : List Value} {res : Int64 × PH} (hy : plainName y.cls = true) (hlen : (lg_sl As).length ≤ nL) (body : ∀ (p : Program) (e : Env) (s : State) (m : MethodId) (args : Array Value) (below : List Frame) (meth : Method) (c : Code) (ls : Array Slot), cx p s m args meth c G y.cls cc nL (some .long) → lv_has ls nL (lv_args 0 As) → WW p l e hg s m args below meth c G h (MQ below (QL G res) args s 0 0 (Ar G)) (F0 m 0 ls [])) : MLo l G y cc nL hg As h res := by
  refine Met.ofW (cc := cc) (maxL := nL) (ret := (some .long)) hy rfl ?_
  intro p e s m args below meth c s₁ B hml hv
  obtain ⟨rfl, ⟨hP, hK, hj⟩, hw⟩ := hv
  have hts := atoms_spec (ws := Cond.code y cc nL (some .long) :: ut) B.pre
  rw [lg_entry_eq]
  exact body p e s m As.toArray below meth c _ ⟨B.exec, B.bytes, hml, findClass_of_methodNamed B.named, fun w h => hts w (List.mem_cons_of_mem _ h), hK, hj, hw, B.returns, B.notSynchronized⟩ (lv_entry As hlen) s.heap [] hP va_S.rf
theorem MV_of {y : MethodName} {As : List Value} {res : Unit × PH} (hy : plainName y.cls = true) (hlen : (lg_sl As).length ≤ nL) (body : ∀ (p : Program) (e : Env) (s : State) (m : MethodId) (args : Array Value) (below : List Frame) (meth : Method) (c : Code) (ls : Array Slot), cx p s m args meth c G y.cls cc nL none → lv_has ls nL (lv_args 0 As) → WW p l e hg s m args below meth c G h (MQ below (QV G res) args s 0 0 (Ar G)) (F0 m 0 ls [])) : MV l G y cc nL hg As h res := by
  refine Met.ofW (cc := cc) (maxL := nL) (ret := none) hy rfl ?_
  intro p e s m args below meth c s₁ B hml hv
  obtain ⟨rfl, ⟨hP, hK, hj⟩, hw⟩ := hv
  have hts := atoms_spec (ws := Cond.code y cc nL none :: ut) B.pre
  rw [lg_entry_eq]
  exact body p e s m As.toArray below meth c _ ⟨B.exec, B.bytes, hml, findClass_of_methodNamed B.named, fun w h => hts w (List.mem_cons_of_mem _ h), hK, hj, hw, B.returns, B.notSynchronized⟩ (lv_entry As hlen) s.heap [] hP va_S.rf
end
end
section
theorem zz_end : True := trivial
end
