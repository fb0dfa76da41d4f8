section
-- ===== PART A: goes FIRST, ahead of the names: the tables' words, and 'selects' of the private methods out of them =====
/-- a private method of a class that the tables say can be made, by its rows of tables_1 -/
def lw_okq (q : MethodName × Nat) : Prop := (q.1.cls ≠ "java/lang/invoke/MethodHandle" ∧ q.1.cls ≠ "java/lang/invoke/VarHandle") ∧ Cond.instantiable q.1.cls q.2 ∈ tables_1 ∧ Cond.privateMethod q.1 ∈ tables_1 ∧ Cond.instanceMethod q.1 ∈ tables_1
theorem lw_p0 : lw_okq (⟨"AfterFire", "give", "(II)V"⟩, 12) := ⟨⟨by decide +kernel, by decide +kernel⟩, List.mem_of_getElem? (i := 21) (by decide +kernel), List.mem_of_getElem? (i := 208) (by decide +kernel), List.mem_of_getElem? (i := 209) (by decide +kernel)⟩
theorem lw_p1 : lw_okq (⟨"AfterFire", "streetAt", "(I)LAfterFire$Street;"⟩, 12) := ⟨⟨by decide +kernel, by decide +kernel⟩, List.mem_of_getElem? (i := 21) (by decide +kernel), List.mem_of_getElem? (i := 216) (by decide +kernel), List.mem_of_getElem? (i := 217) (by decide +kernel)⟩
theorem lw_p2 : lw_okq (⟨"AfterFire$Street", "append", "(LAfterFire$Plot;)Z"⟩, 2) := ⟨⟨by decide +kernel, by decide +kernel⟩, List.mem_of_getElem? (i := 141) (by decide +kernel), List.mem_of_getElem? (i := 295) (by decide +kernel), List.mem_of_getElem? (i := 296) (by decide +kernel)⟩
theorem lw_p3 : lw_okq (⟨"java/util/ArrayList", "add", "(Ljava/lang/Object;[Ljava/lang/Object;I)V"⟩, 3) := ⟨⟨by decide +kernel, by decide +kernel⟩, List.mem_of_getElem? (i := 29) (by decide +kernel), List.mem_of_getElem? (i := 344) (by decide +kernel), List.mem_of_getElem? (i := 345) (by decide +kernel)⟩
theorem lw_p4 : lw_okq (⟨"java/util/ArrayList", "grow", "()[Ljava/lang/Object;"⟩, 3) := ⟨⟨by decide +kernel, by decide +kernel⟩, List.mem_of_getElem? (i := 29) (by decide +kernel), List.mem_of_getElem? (i := 348) (by decide +kernel), List.mem_of_getElem? (i := 349) (by decide +kernel)⟩
theorem lw_p5 : lw_okq (⟨"java/util/ArrayList", "grow", "(I)[Ljava/lang/Object;"⟩, 3) := ⟨⟨by decide +kernel, by decide +kernel⟩, List.mem_of_getElem? (i := 29) (by decide +kernel), List.mem_of_getElem? (i := 352) (by decide +kernel), List.mem_of_getElem? (i := 353) (by decide +kernel)⟩
theorem lw_p6 : lw_okq (⟨"AfterFire", "plotAt", "(I)LAfterFire$Plot;"⟩, 12) := ⟨⟨by decide +kernel, by decide +kernel⟩, List.mem_of_getElem? (i := 21) (by decide +kernel), List.mem_of_getElem? (i := 403) (by decide +kernel), List.mem_of_getElem? (i := 404) (by decide +kernel)⟩
theorem lw_p7 : lw_okq (⟨"AfterFire$Chain", "append", "(III)Z"⟩, 4) := ⟨⟨by decide +kernel, by decide +kernel⟩, List.mem_of_getElem? (i := 230) (by decide +kernel), List.mem_of_getElem? (i := 408) (by decide +kernel), List.mem_of_getElem? (i := 409) (by decide +kernel)⟩
theorem lw_p8 : lw_okq (⟨"AfterFire$Chain", "yearsAt", "(I)I"⟩, 4) := ⟨⟨by decide +kernel, by decide +kernel⟩, List.mem_of_getElem? (i := 230) (by decide +kernel), List.mem_of_getElem? (i := 412) (by decide +kernel), List.mem_of_getElem? (i := 413) (by decide +kernel)⟩
theorem lw_p9 : lw_okq (⟨"AfterFire$Chain", "reaches", "(I)Z"⟩, 4) := ⟨⟨by decide +kernel, by decide +kernel⟩, List.mem_of_getElem? (i := 230) (by decide +kernel), List.mem_of_getElem? (i := 416) (by decide +kernel), List.mem_of_getElem? (i := 417) (by decide +kernel)⟩
theorem lw_p10 : lw_okq (⟨"AfterFire$Chain", "leases", "()I"⟩, 4) := ⟨⟨by decide +kernel, by decide +kernel⟩, List.mem_of_getElem? (i := 230) (by decide +kernel), List.mem_of_getElem? (i := 421) (by decide +kernel), List.mem_of_getElem? (i := 422) (by decide +kernel)⟩
theorem lw_p11 : lw_okq (⟨"AfterFire$Plot", "yearlyWorth", "()I"⟩, 9) := ⟨⟨by decide +kernel, by decide +kernel⟩, List.mem_of_getElem? (i := 224) (by decide +kernel), List.mem_of_getElem? (i := 437) (by decide +kernel), List.mem_of_getElem? (i := 438) (by decide +kernel)⟩
theorem lw_p12 : lw_okq (⟨"AfterFire$Chain", "interestOf", "(II)I"⟩, 4) := ⟨⟨by decide +kernel, by decide +kernel⟩, List.mem_of_getElem? (i := 230) (by decide +kernel), List.mem_of_getElem? (i := 446) (by decide +kernel), List.mem_of_getElem? (i := 447) (by decide +kernel)⟩
theorem lw_p13 : lw_okq (⟨"AfterFire", "findBuilder", "(LAfterFire$Plot;)I"⟩, 12) := ⟨⟨by decide +kernel, by decide +kernel⟩, List.mem_of_getElem? (i := 21) (by decide +kernel), List.mem_of_getElem? (i := 454) (by decide +kernel), List.mem_of_getElem? (i := 455) (by decide +kernel)⟩
theorem lw_p14 : lw_okq (⟨"AfterFire", "costOf", "(LAfterFire$Plot;)I"⟩, 12) := ⟨⟨by decide +kernel, by decide +kernel⟩, List.mem_of_getElem? (i := 21) (by decide +kernel), List.mem_of_getElem? (i := 458) (by decide +kernel), List.mem_of_getElem? (i := 459) (by decide +kernel)⟩
theorem lw_p15 : lw_okq (⟨"AfterFire$Chain", "personAt", "(I)I"⟩, 4) := ⟨⟨by decide +kernel, by decide +kernel⟩, List.mem_of_getElem? (i := 230) (by decide +kernel), List.mem_of_getElem? (i := 462) (by decide +kernel), List.mem_of_getElem? (i := 463) (by decide +kernel)⟩
def lw_privs_1 : List (MethodName × Nat) := [(⟨"AfterFire", "give", "(II)V"⟩, 12), (⟨"AfterFire", "streetAt", "(I)LAfterFire$Street;"⟩, 12), (⟨"AfterFire$Street", "append", "(LAfterFire$Plot;)Z"⟩, 2), (⟨"java/util/ArrayList", "add", "(Ljava/lang/Object;[Ljava/lang/Object;I)V"⟩, 3), (⟨"java/util/ArrayList", "grow", "()[Ljava/lang/Object;"⟩, 3), (⟨"java/util/ArrayList", "grow", "(I)[Ljava/lang/Object;"⟩, 3), (⟨"AfterFire", "plotAt", "(I)LAfterFire$Plot;"⟩, 12), (⟨"AfterFire$Chain", "append", "(III)Z"⟩, 4), (⟨"AfterFire$Chain", "yearsAt", "(I)I"⟩, 4), (⟨"AfterFire$Chain", "reaches", "(I)Z"⟩, 4), (⟨"AfterFire$Chain", "leases", "()I"⟩, 4), (⟨"AfterFire$Plot", "yearlyWorth", "()I"⟩, 9), (⟨"AfterFire$Chain", "interestOf", "(II)I"⟩, 4), (⟨"AfterFire", "findBuilder", "(LAfterFire$Plot;)I"⟩, 12), (⟨"AfterFire", "costOf", "(LAfterFire$Plot;)I"⟩, 12), (⟨"AfterFire$Chain", "personAt", "(I)I"⟩, 4)]
theorem lw_r1 : ∀ q ∈ lw_privs_1, lw_okq q := List.forall_mem_cons.mpr ⟨lw_p0, List.forall_mem_cons.mpr ⟨lw_p1, List.forall_mem_cons.mpr ⟨lw_p2, List.forall_mem_cons.mpr ⟨lw_p3, List.forall_mem_cons.mpr ⟨lw_p4, List.forall_mem_cons.mpr ⟨lw_p5, List.forall_mem_cons.mpr ⟨lw_p6, List.forall_mem_cons.mpr ⟨lw_p7, List.forall_mem_cons.mpr ⟨lw_p8, List.forall_mem_cons.mpr ⟨lw_p9, List.forall_mem_cons.mpr ⟨lw_p10, List.forall_mem_cons.mpr ⟨lw_p11, List.forall_mem_cons.mpr ⟨lw_p12, List.forall_mem_cons.mpr ⟨lw_p13, List.forall_mem_cons.mpr ⟨lw_p14, List.forall_mem_cons.mpr ⟨lw_p15, fun _ h => absurd h List.not_mem_nil⟩⟩⟩⟩⟩⟩⟩⟩⟩⟩⟩⟩⟩⟩⟩⟩
theorem lw_p16 : lw_okq (⟨"AfterFire$Shares", "divide", "(LAfterFire$Plot;II)V"⟩, 2) := ⟨⟨by decide +kernel, by decide +kernel⟩, List.mem_of_getElem? (i := 58) (by decide +kernel), List.mem_of_getElem? (i := 466) (by decide +kernel), List.mem_of_getElem? (i := 467) (by decide +kernel)⟩
theorem lw_p17 : lw_okq (⟨"AfterFire$Shares", "divideByInterest", "(LAfterFire$Plot;IJ)V"⟩, 2) := ⟨⟨by decide +kernel, by decide +kernel⟩, List.mem_of_getElem? (i := 58) (by decide +kernel), List.mem_of_getElem? (i := 472) (by decide +kernel), List.mem_of_getElem? (i := 473) (by decide +kernel)⟩
theorem lw_p18 : lw_okq (⟨"AfterFire$Shares", "placeOfMostCutOff", "()I"⟩, 2) := ⟨⟨by decide +kernel, by decide +kernel⟩, List.mem_of_getElem? (i := 58) (by decide +kernel), List.mem_of_getElem? (i := 476) (by decide +kernel), List.mem_of_getElem? (i := 477) (by decide +kernel)⟩
theorem lw_p19 : lw_okq (⟨"AfterFire$Shares", "partOf", "(I)I"⟩, 2) := ⟨⟨by decide +kernel, by decide +kernel⟩, List.mem_of_getElem? (i := 58) (by decide +kernel), List.mem_of_getElem? (i := 481) (by decide +kernel), List.mem_of_getElem? (i := 482) (by decide +kernel)⟩
theorem lw_p20 : lw_okq (⟨"AfterFire", "payForBuilding", "(LAfterFire$Plot;I)V"⟩, 12) := ⟨⟨by decide +kernel, by decide +kernel⟩, List.mem_of_getElem? (i := 21) (by decide +kernel), List.mem_of_getElem? (i := 490) (by decide +kernel), List.mem_of_getElem? (i := 491) (by decide +kernel)⟩
theorem lw_p21 : lw_okq (⟨"AfterFire", "move", "(III)V"⟩, 12) := ⟨⟨by decide +kernel, by decide +kernel⟩, List.mem_of_getElem? (i := 21) (by decide +kernel), List.mem_of_getElem? (i := 494) (by decide +kernel), List.mem_of_getElem? (i := 495) (by decide +kernel)⟩
theorem lw_p22 : lw_okq (⟨"AfterFire$Chain", "prolong", "(II)V"⟩, 4) := ⟨⟨by decide +kernel, by decide +kernel⟩, List.mem_of_getElem? (i := 230) (by decide +kernel), List.mem_of_getElem? (i := 498) (by decide +kernel), List.mem_of_getElem? (i := 499) (by decide +kernel)⟩
theorem lw_p23 : lw_okq (⟨"AfterFire$Plot", "raise", "(II)V"⟩, 9) := ⟨⟨by decide +kernel, by decide +kernel⟩, List.mem_of_getElem? (i := 224) (by decide +kernel), List.mem_of_getElem? (i := 502) (by decide +kernel), List.mem_of_getElem? (i := 503) (by decide +kernel)⟩
theorem lw_p24 : lw_okq (⟨"AfterFire", "settleWall", "(LAfterFire$Wall;I)V"⟩, 12) := ⟨⟨by decide +kernel, by decide +kernel⟩, List.mem_of_getElem? (i := 21) (by decide +kernel), List.mem_of_getElem? (i := 506) (by decide +kernel), List.mem_of_getElem? (i := 507) (by decide +kernel)⟩
theorem lw_p25 : lw_okq (⟨"AfterFire$Wall", "hasBothSides", "()Z"⟩, 4) := ⟨⟨by decide +kernel, by decide +kernel⟩, List.mem_of_getElem? (i := 319) (by decide +kernel), List.mem_of_getElem? (i := 510) (by decide +kernel), List.mem_of_getElem? (i := 511) (by decide +kernel)⟩
theorem lw_p26 : lw_okq (⟨"AfterFire$Plot", "isThere", "()Z"⟩, 9) := ⟨⟨by decide +kernel, by decide +kernel⟩, List.mem_of_getElem? (i := 224) (by decide +kernel), List.mem_of_getElem? (i := 514) (by decide +kernel), List.mem_of_getElem? (i := 515) (by decide +kernel)⟩
theorem lw_p27 : lw_okq (⟨"AfterFire$Wall", "isPaid", "()Z"⟩, 4) := ⟨⟨by decide +kernel, by decide +kernel⟩, List.mem_of_getElem? (i := 319) (by decide +kernel), List.mem_of_getElem? (i := 518) (by decide +kernel), List.mem_of_getElem? (i := 519) (by decide +kernel)⟩
theorem lw_p28 : lw_okq (⟨"AfterFire$Wall", "lesserDepth", "()I"⟩, 4) := ⟨⟨by decide +kernel, by decide +kernel⟩, List.mem_of_getElem? (i := 319) (by decide +kernel), List.mem_of_getElem? (i := 522) (by decide +kernel), List.mem_of_getElem? (i := 523) (by decide +kernel)⟩
theorem lw_p29 : lw_okq (⟨"AfterFire", "widenInto", "(LAfterFire$Plot;I)I"⟩, 12) := ⟨⟨by decide +kernel, by decide +kernel⟩, List.mem_of_getElem? (i := 21) (by decide +kernel), List.mem_of_getElem? (i := 531) (by decide +kernel), List.mem_of_getElem? (i := 532) (by decide +kernel)⟩
theorem lw_p30 : lw_okq (⟨"AfterFire$Plot", "lose", "(I)V"⟩, 9) := ⟨⟨by decide +kernel, by decide +kernel⟩, List.mem_of_getElem? (i := 224) (by decide +kernel), List.mem_of_getElem? (i := 535) (by decide +kernel), List.mem_of_getElem? (i := 536) (by decide +kernel)⟩
theorem lw_p31 : lw_okq (⟨"AfterFire$Chain", "end", "()V"⟩, 4) := ⟨⟨by decide +kernel, by decide +kernel⟩, List.mem_of_getElem? (i := 230) (by decide +kernel), List.mem_of_getElem? (i := 539) (by decide +kernel), List.mem_of_getElem? (i := 540) (by decide +kernel)⟩
def lw_privs_2 : List (MethodName × Nat) := [(⟨"AfterFire$Shares", "divide", "(LAfterFire$Plot;II)V"⟩, 2), (⟨"AfterFire$Shares", "divideByInterest", "(LAfterFire$Plot;IJ)V"⟩, 2), (⟨"AfterFire$Shares", "placeOfMostCutOff", "()I"⟩, 2), (⟨"AfterFire$Shares", "partOf", "(I)I"⟩, 2), (⟨"AfterFire", "payForBuilding", "(LAfterFire$Plot;I)V"⟩, 12), (⟨"AfterFire", "move", "(III)V"⟩, 12), (⟨"AfterFire$Chain", "prolong", "(II)V"⟩, 4), (⟨"AfterFire$Plot", "raise", "(II)V"⟩, 9), (⟨"AfterFire", "settleWall", "(LAfterFire$Wall;I)V"⟩, 12), (⟨"AfterFire$Wall", "hasBothSides", "()Z"⟩, 4), (⟨"AfterFire$Plot", "isThere", "()Z"⟩, 9), (⟨"AfterFire$Wall", "isPaid", "()Z"⟩, 4), (⟨"AfterFire$Wall", "lesserDepth", "()I"⟩, 4), (⟨"AfterFire", "widenInto", "(LAfterFire$Plot;I)I"⟩, 12), (⟨"AfterFire$Plot", "lose", "(I)V"⟩, 9), (⟨"AfterFire$Chain", "end", "()V"⟩, 4)]
theorem lw_r2 : ∀ q ∈ lw_privs_2, lw_okq q := List.forall_mem_cons.mpr ⟨lw_p16, List.forall_mem_cons.mpr ⟨lw_p17, List.forall_mem_cons.mpr ⟨lw_p18, List.forall_mem_cons.mpr ⟨lw_p19, List.forall_mem_cons.mpr ⟨lw_p20, List.forall_mem_cons.mpr ⟨lw_p21, List.forall_mem_cons.mpr ⟨lw_p22, List.forall_mem_cons.mpr ⟨lw_p23, List.forall_mem_cons.mpr ⟨lw_p24, List.forall_mem_cons.mpr ⟨lw_p25, List.forall_mem_cons.mpr ⟨lw_p26, List.forall_mem_cons.mpr ⟨lw_p27, List.forall_mem_cons.mpr ⟨lw_p28, List.forall_mem_cons.mpr ⟨lw_p29, List.forall_mem_cons.mpr ⟨lw_p30, List.forall_mem_cons.mpr ⟨lw_p31, fun _ h => absurd h List.not_mem_nil⟩⟩⟩⟩⟩⟩⟩⟩⟩⟩⟩⟩⟩⟩⟩⟩
theorem lw_p32 : lw_okq (⟨"AfterFire", "forfeitBurned", "()I"⟩, 12) := ⟨⟨by decide +kernel, by decide +kernel⟩, List.mem_of_getElem? (i := 21) (by decide +kernel), List.mem_of_getElem? (i := 547) (by decide +kernel), List.mem_of_getElem? (i := 548) (by decide +kernel)⟩
theorem lw_p33 : lw_okq (⟨"AfterFire$Chain", "passYear", "()V"⟩, 4) := ⟨⟨by decide +kernel, by decide +kernel⟩, List.mem_of_getElem? (i := 230) (by decide +kernel), List.mem_of_getElem? (i := 551) (by decide +kernel), List.mem_of_getElem? (i := 552) (by decide +kernel)⟩
theorem lw_p34 : lw_okq (⟨"AfterFire$Chest", "endYear", "()V"⟩, 5) := ⟨⟨by decide +kernel, by decide +kernel⟩, List.mem_of_getElem? (i := 105) (by decide +kernel), List.mem_of_getElem? (i := 555) (by decide +kernel), List.mem_of_getElem? (i := 556) (by decide +kernel)⟩
theorem lw_p35 : lw_okq (⟨"AfterFire", "planBricks", "(I)Z"⟩, 12) := ⟨⟨by decide +kernel, by decide +kernel⟩, List.mem_of_getElem? (i := 21) (by decide +kernel), List.mem_of_getElem? (i := 567) (by decide +kernel), List.mem_of_getElem? (i := 568) (by decide +kernel)⟩
theorem lw_p36 : lw_okq (⟨"AfterFire$BrickPlan", "clear", "()V"⟩, 8) := ⟨⟨by decide +kernel, by decide +kernel⟩, List.mem_of_getElem? (i := 72) (by decide +kernel), List.mem_of_getElem? (i := 571) (by decide +kernel), List.mem_of_getElem? (i := 572) (by decide +kernel)⟩
theorem lw_p37 : lw_okq (⟨"AfterFire$BrickPlan", "add", "(ILAfterFire$Plot;I)Z"⟩, 8) := ⟨⟨by decide +kernel, by decide +kernel⟩, List.mem_of_getElem? (i := 72) (by decide +kernel), List.mem_of_getElem? (i := 575) (by decide +kernel), List.mem_of_getElem? (i := 576) (by decide +kernel)⟩
theorem lw_p38 : lw_okq (⟨"AfterFire$BrickPlan", "choose", "()V"⟩, 8) := ⟨⟨by decide +kernel, by decide +kernel⟩, List.mem_of_getElem? (i := 72) (by decide +kernel), List.mem_of_getElem? (i := 580) (by decide +kernel), List.mem_of_getElem? (i := 581) (by decide +kernel)⟩
theorem lw_p39 : lw_okq (⟨"AfterFire$BrickPlan", "keepIfBetter", "(II)V"⟩, 8) := ⟨⟨by decide +kernel, by decide +kernel⟩, List.mem_of_getElem? (i := 72) (by decide +kernel), List.mem_of_getElem? (i := 587) (by decide +kernel), List.mem_of_getElem? (i := 588) (by decide +kernel)⟩
theorem lw_p40 : lw_okq (⟨"AfterFire$Chest", "addWork", "(I)I"⟩, 5) := ⟨⟨by decide +kernel, by decide +kernel⟩, List.mem_of_getElem? (i := 105) (by decide +kernel), List.mem_of_getElem? (i := 599) (by decide +kernel), List.mem_of_getElem? (i := 600) (by decide +kernel)⟩
theorem lw_p41 : lw_okq (⟨"AfterFire$Street", "canMeasure", "(I)Z"⟩, 2) := ⟨⟨by decide +kernel, by decide +kernel⟩, List.mem_of_getElem? (i := 141) (by decide +kernel), List.mem_of_getElem? (i := 615) (by decide +kernel), List.mem_of_getElem? (i := 616) (by decide +kernel)⟩
theorem lw_p42 : lw_okq (⟨"AfterFire$Survey", "measure", "(LAfterFire$Street;I)V"⟩, 1) := ⟨⟨by decide +kernel, by decide +kernel⟩, List.mem_of_getElem? (i := 130) (by decide +kernel), List.mem_of_getElem? (i := 621) (by decide +kernel), List.mem_of_getElem? (i := 622) (by decide +kernel)⟩
theorem lw_p43 : lw_okq (⟨"AfterFire$Survey", "fillRow", "(LAfterFire$Street;II)V"⟩, 1) := ⟨⟨by decide +kernel, by decide +kernel⟩, List.mem_of_getElem? (i := 130) (by decide +kernel), List.mem_of_getElem? (i := 627) (by decide +kernel), List.mem_of_getElem? (i := 628) (by decide +kernel)⟩
theorem lw_p44 : lw_okq (⟨"AfterFire$Street", "frontOf", "(I)I"⟩, 2) := ⟨⟨by decide +kernel, by decide +kernel⟩, List.mem_of_getElem? (i := 141) (by decide +kernel), List.mem_of_getElem? (i := 631) (by decide +kernel), List.mem_of_getElem? (i := 632) (by decide +kernel)⟩
theorem lw_p45 : lw_okq (⟨"AfterFire$Street", "stakeGap", "(II)I"⟩, 2) := ⟨⟨by decide +kernel, by decide +kernel⟩, List.mem_of_getElem? (i := 141) (by decide +kernel), List.mem_of_getElem? (i := 645) (by decide +kernel), List.mem_of_getElem? (i := 646) (by decide +kernel)⟩
theorem lw_p46 : lw_okq (⟨"AfterFire$Survey", "leastQuarrel", "(LAfterFire$Street;I)I"⟩, 1) := ⟨⟨by decide +kernel, by decide +kernel⟩, List.mem_of_getElem? (i := 130) (by decide +kernel), List.mem_of_getElem? (i := 650) (by decide +kernel), List.mem_of_getElem? (i := 651) (by decide +kernel)⟩
theorem lw_p47 : lw_okq (⟨"AfterFire$Survey", "endOf", "(LAfterFire$Street;III)I"⟩, 1) := ⟨⟨by decide +kernel, by decide +kernel⟩, List.mem_of_getElem? (i := 130) (by decide +kernel), List.mem_of_getElem? (i := 654) (by decide +kernel), List.mem_of_getElem? (i := 655) (by decide +kernel)⟩
def lw_privs_3 : List (MethodName × Nat) := [(⟨"AfterFire", "forfeitBurned", "()I"⟩, 12), (⟨"AfterFire$Chain", "passYear", "()V"⟩, 4), (⟨"AfterFire$Chest", "endYear", "()V"⟩, 5), (⟨"AfterFire", "planBricks", "(I)Z"⟩, 12), (⟨"AfterFire$BrickPlan", "clear", "()V"⟩, 8), (⟨"AfterFire$BrickPlan", "add", "(ILAfterFire$Plot;I)Z"⟩, 8), (⟨"AfterFire$BrickPlan", "choose", "()V"⟩, 8), (⟨"AfterFire$BrickPlan", "keepIfBetter", "(II)V"⟩, 8), (⟨"AfterFire$Chest", "addWork", "(I)I"⟩, 5), (⟨"AfterFire$Street", "canMeasure", "(I)Z"⟩, 2), (⟨"AfterFire$Survey", "measure", "(LAfterFire$Street;I)V"⟩, 1), (⟨"AfterFire$Survey", "fillRow", "(LAfterFire$Street;II)V"⟩, 1), (⟨"AfterFire$Street", "frontOf", "(I)I"⟩, 2), (⟨"AfterFire$Street", "stakeGap", "(II)I"⟩, 2), (⟨"AfterFire$Survey", "leastQuarrel", "(LAfterFire$Street;I)I"⟩, 1), (⟨"AfterFire$Survey", "endOf", "(LAfterFire$Street;III)I"⟩, 1)]
theorem lw_r3 : ∀ q ∈ lw_privs_3, lw_okq q := List.forall_mem_cons.mpr ⟨lw_p32, List.forall_mem_cons.mpr ⟨lw_p33, List.forall_mem_cons.mpr ⟨lw_p34, List.forall_mem_cons.mpr ⟨lw_p35, List.forall_mem_cons.mpr ⟨lw_p36, List.forall_mem_cons.mpr ⟨lw_p37, List.forall_mem_cons.mpr ⟨lw_p38, List.forall_mem_cons.mpr ⟨lw_p39, List.forall_mem_cons.mpr ⟨lw_p40, List.forall_mem_cons.mpr ⟨lw_p41, List.forall_mem_cons.mpr ⟨lw_p42, List.forall_mem_cons.mpr ⟨lw_p43, List.forall_mem_cons.mpr ⟨lw_p44, List.forall_mem_cons.mpr ⟨lw_p45, List.forall_mem_cons.mpr ⟨lw_p46, List.forall_mem_cons.mpr ⟨lw_p47, fun _ h => absurd h List.not_mem_nil⟩⟩⟩⟩⟩⟩⟩⟩⟩⟩⟩⟩⟩⟩⟩⟩
theorem lw_p48 : lw_okq (⟨"AfterFire$Survey", "borderBehind", "(LAfterFire$Street;II)I"⟩, 1) := ⟨⟨by decide +kernel, by decide +kernel⟩, List.mem_of_getElem? (i := 130) (by decide +kernel), List.mem_of_getElem? (i := 662) (by decide +kernel), List.mem_of_getElem? (i := 663) (by decide +kernel)⟩
theorem lw_p49 : lw_okq (⟨"AfterFire$Plot", "paidWalls", "()I"⟩, 9) := ⟨⟨by decide +kernel, by decide +kernel⟩, List.mem_of_getElem? (i := 224) (by decide +kernel), List.mem_of_getElem? (i := 670) (by decide +kernel), List.mem_of_getElem? (i := 671) (by decide +kernel)⟩
theorem lw_p50 : lw_okq (⟨"AfterFire$Chain", "rentAt", "(I)I"⟩, 4) := ⟨⟨by decide +kernel, by decide +kernel⟩, List.mem_of_getElem? (i := 230) (by decide +kernel), List.mem_of_getElem? (i := 680) (by decide +kernel), List.mem_of_getElem? (i := 681) (by decide +kernel)⟩
theorem lw_p51 : lw_okq (⟨"AfterFire", "countIn", "(I)I"⟩, 12) := ⟨⟨by decide +kernel, by decide +kernel⟩, List.mem_of_getElem? (i := 21) (by decide +kernel), List.mem_of_getElem? (i := 692) (by decide +kernel), List.mem_of_getElem? (i := 693) (by decide +kernel)⟩
theorem lw_p52 : lw_okq (⟨"AfterFireModel", "onStreet", "(I)I"⟩, 32) := ⟨⟨by decide +kernel, by decide +kernel⟩, List.mem_of_getElem? (i := 696) (by decide +kernel), List.mem_of_getElem? (i := 815) (by decide +kernel), List.mem_of_getElem? (i := 816) (by decide +kernel)⟩
theorem lw_p53 : lw_okq (⟨"AfterFireModel", "isPlot", "(I)Z"⟩, 32) := ⟨⟨by decide +kernel, by decide +kernel⟩, List.mem_of_getElem? (i := 696) (by decide +kernel), List.mem_of_getElem? (i := 823) (by decide +kernel), List.mem_of_getElem? (i := 824) (by decide +kernel)⟩
theorem lw_p54 : lw_okq (⟨"AfterFireModel", "isPlace", "(II)Z"⟩, 32) := ⟨⟨by decide +kernel, by decide +kernel⟩, List.mem_of_getElem? (i := 696) (by decide +kernel), List.mem_of_getElem? (i := 839) (by decide +kernel), List.mem_of_getElem? (i := 840) (by decide +kernel)⟩
theorem lw_p55 : lw_okq (⟨"AfterFireModel", "isGone", "(I)Z"⟩, 32) := ⟨⟨by decide +kernel, by decide +kernel⟩, List.mem_of_getElem? (i := 696) (by decide +kernel), List.mem_of_getElem? (i := 843) (by decide +kernel), List.mem_of_getElem? (i := 844) (by decide +kernel)⟩
theorem lw_p56 : lw_okq (⟨"AfterFireModel", "interestOf", "(II)I"⟩, 32) := ⟨⟨by decide +kernel, by decide +kernel⟩, List.mem_of_getElem? (i := 696) (by decide +kernel), List.mem_of_getElem? (i := 847) (by decide +kernel), List.mem_of_getElem? (i := 848) (by decide +kernel)⟩
theorem lw_p57 : lw_okq (⟨"AfterFireModel", "parted", "(I)I"⟩, 32) := ⟨⟨by decide +kernel, by decide +kernel⟩, List.mem_of_getElem? (i := 696) (by decide +kernel), List.mem_of_getElem? (i := 856) (by decide +kernel), List.mem_of_getElem? (i := 857) (by decide +kernel)⟩
theorem lw_p58 : lw_okq (⟨"AfterFireModel", "builder", "(I)I"⟩, 32) := ⟨⟨by decide +kernel, by decide +kernel⟩, List.mem_of_getElem? (i := 696) (by decide +kernel), List.mem_of_getElem? (i := 860) (by decide +kernel), List.mem_of_getElem? (i := 861) (by decide +kernel)⟩
theorem lw_p59 : lw_okq (⟨"AfterFireModel", "costOf", "(I)I"⟩, 32) := ⟨⟨by decide +kernel, by decide +kernel⟩, List.mem_of_getElem? (i := 696) (by decide +kernel), List.mem_of_getElem? (i := 864) (by decide +kernel), List.mem_of_getElem? (i := 865) (by decide +kernel)⟩
theorem lw_p60 : lw_okq (⟨"AfterFireModel", "before", "(I)I"⟩, 32) := ⟨⟨by decide +kernel, by decide +kernel⟩, List.mem_of_getElem? (i := 696) (by decide +kernel), List.mem_of_getElem? (i := 873) (by decide +kernel), List.mem_of_getElem? (i := 874) (by decide +kernel)⟩
theorem lw_p61 : lw_okq (⟨"AfterFireModel", "wall", "(III)V"⟩, 32) := ⟨⟨by decide +kernel, by decide +kernel⟩, List.mem_of_getElem? (i := 696) (by decide +kernel), List.mem_of_getElem? (i := 877) (by decide +kernel), List.mem_of_getElem? (i := 878) (by decide +kernel)⟩
theorem lw_p62 : lw_okq (⟨"AfterFireModel", "behind", "(I)I"⟩, 32) := ⟨⟨by decide +kernel, by decide +kernel⟩, List.mem_of_getElem? (i := 696) (by decide +kernel), List.mem_of_getElem? (i := 881) (by decide +kernel), List.mem_of_getElem? (i := 882) (by decide +kernel)⟩
theorem lw_p63 : lw_okq (⟨"AfterFireModel", "ends", "(II)V"⟩, 32) := ⟨⟨by decide +kernel, by decide +kernel⟩, List.mem_of_getElem? (i := 696) (by decide +kernel), List.mem_of_getElem? (i := 889) (by decide +kernel), List.mem_of_getElem? (i := 890) (by decide +kernel)⟩
def lw_privs_4 : List (MethodName × Nat) := [(⟨"AfterFire$Survey", "borderBehind", "(LAfterFire$Street;II)I"⟩, 1), (⟨"AfterFire$Plot", "paidWalls", "()I"⟩, 9), (⟨"AfterFire$Chain", "rentAt", "(I)I"⟩, 4), (⟨"AfterFire", "countIn", "(I)I"⟩, 12), (⟨"AfterFireModel", "onStreet", "(I)I"⟩, 32), (⟨"AfterFireModel", "isPlot", "(I)Z"⟩, 32), (⟨"AfterFireModel", "isPlace", "(II)Z"⟩, 32), (⟨"AfterFireModel", "isGone", "(I)Z"⟩, 32), (⟨"AfterFireModel", "interestOf", "(II)I"⟩, 32), (⟨"AfterFireModel", "parted", "(I)I"⟩, 32), (⟨"AfterFireModel", "builder", "(I)I"⟩, 32), (⟨"AfterFireModel", "costOf", "(I)I"⟩, 32), (⟨"AfterFireModel", "before", "(I)I"⟩, 32), (⟨"AfterFireModel", "wall", "(III)V"⟩, 32), (⟨"AfterFireModel", "behind", "(I)I"⟩, 32), (⟨"AfterFireModel", "ends", "(II)V"⟩, 32)]
theorem lw_r4 : ∀ q ∈ lw_privs_4, lw_okq q := List.forall_mem_cons.mpr ⟨lw_p48, List.forall_mem_cons.mpr ⟨lw_p49, List.forall_mem_cons.mpr ⟨lw_p50, List.forall_mem_cons.mpr ⟨lw_p51, List.forall_mem_cons.mpr ⟨lw_p52, List.forall_mem_cons.mpr ⟨lw_p53, List.forall_mem_cons.mpr ⟨lw_p54, List.forall_mem_cons.mpr ⟨lw_p55, List.forall_mem_cons.mpr ⟨lw_p56, List.forall_mem_cons.mpr ⟨lw_p57, List.forall_mem_cons.mpr ⟨lw_p58, List.forall_mem_cons.mpr ⟨lw_p59, List.forall_mem_cons.mpr ⟨lw_p60, List.forall_mem_cons.mpr ⟨lw_p61, List.forall_mem_cons.mpr ⟨lw_p62, List.forall_mem_cons.mpr ⟨lw_p63, fun _ h => absurd h List.not_mem_nil⟩⟩⟩⟩⟩⟩⟩⟩⟩⟩⟩⟩⟩⟩⟩⟩
theorem lw_p64 : lw_okq (⟨"AfterFireModel", "older", "(I)V"⟩, 32) := ⟨⟨by decide +kernel, by decide +kernel⟩, List.mem_of_getElem? (i := 696) (by decide +kernel), List.mem_of_getElem? (i := 897) (by decide +kernel), List.mem_of_getElem? (i := 898) (by decide +kernel)⟩
theorem lw_p65 : lw_okq (⟨"AfterFireModel", "saves", "(I)Z"⟩, 32) := ⟨⟨by decide +kernel, by decide +kernel⟩, List.mem_of_getElem? (i := 696) (by decide +kernel), List.mem_of_getElem? (i := 909) (by decide +kernel), List.mem_of_getElem? (i := 910) (by decide +kernel)⟩
theorem lw_p66 : lw_okq (⟨"AfterFireModel", "canBe", "(III)Z"⟩, 32) := ⟨⟨by decide +kernel, by decide +kernel⟩, List.mem_of_getElem? (i := 696) (by decide +kernel), List.mem_of_getElem? (i := 913) (by decide +kernel), List.mem_of_getElem? (i := 914) (by decide +kernel)⟩
theorem lw_p67 : lw_okq (⟨"AfterFireModel", "dueOf", "(I)I"⟩, 32) := ⟨⟨by decide +kernel, by decide +kernel⟩, List.mem_of_getElem? (i := 696) (by decide +kernel), List.mem_of_getElem? (i := 917) (by decide +kernel), List.mem_of_getElem? (i := 918) (by decide +kernel)⟩
theorem lw_p68 : lw_okq (⟨"AfterFireModel", "quarrels", "(II)I"⟩, 32) := ⟨⟨by decide +kernel, by decide +kernel⟩, List.mem_of_getElem? (i := 696) (by decide +kernel), List.mem_of_getElem? (i := 941) (by decide +kernel), List.mem_of_getElem? (i := 942) (by decide +kernel)⟩
theorem lw_p69 : lw_okq (⟨"AfterFireModel", "from", "(IIII)I"⟩, 32) := ⟨⟨by decide +kernel, by decide +kernel⟩, List.mem_of_getElem? (i := 696) (by decide +kernel), List.mem_of_getElem? (i := 946) (by decide +kernel), List.mem_of_getElem? (i := 947) (by decide +kernel)⟩
theorem lw_p70 : lw_okq (⟨"AfterFireModel", "costs", "(IIIII)I"⟩, 32) := ⟨⟨by decide +kernel, by decide +kernel⟩, List.mem_of_getElem? (i := 696) (by decide +kernel), List.mem_of_getElem? (i := 950) (by decide +kernel), List.mem_of_getElem? (i := 951) (by decide +kernel)⟩
theorem lw_p71 : lw_okq (⟨"AfterFireModel", "wallsOf", "(I)I"⟩, 32) := ⟨⟨by decide +kernel, by decide +kernel⟩, List.mem_of_getElem? (i := 696) (by decide +kernel), List.mem_of_getElem? (i := 965) (by decide +kernel), List.mem_of_getElem? (i := 966) (by decide +kernel)⟩
theorem lw_p72 : lw_okq (⟨"AfterFireModel", "countOf", "(I)I"⟩, 32) := ⟨⟨by decide +kernel, by decide +kernel⟩, List.mem_of_getElem? (i := 696) (by decide +kernel), List.mem_of_getElem? (i := 981) (by decide +kernel), List.mem_of_getElem? (i := 982) (by decide +kernel)⟩
def lw_privs_5 : List (MethodName × Nat) := [(⟨"AfterFireModel", "older", "(I)V"⟩, 32), (⟨"AfterFireModel", "saves", "(I)Z"⟩, 32), (⟨"AfterFireModel", "canBe", "(III)Z"⟩, 32), (⟨"AfterFireModel", "dueOf", "(I)I"⟩, 32), (⟨"AfterFireModel", "quarrels", "(II)I"⟩, 32), (⟨"AfterFireModel", "from", "(IIII)I"⟩, 32), (⟨"AfterFireModel", "costs", "(IIIII)I"⟩, 32), (⟨"AfterFireModel", "wallsOf", "(I)I"⟩, 32), (⟨"AfterFireModel", "countOf", "(I)I"⟩, 32)]
theorem lw_r5 : ∀ q ∈ lw_privs_5, lw_okq q := List.forall_mem_cons.mpr ⟨lw_p64, List.forall_mem_cons.mpr ⟨lw_p65, List.forall_mem_cons.mpr ⟨lw_p66, List.forall_mem_cons.mpr ⟨lw_p67, List.forall_mem_cons.mpr ⟨lw_p68, List.forall_mem_cons.mpr ⟨lw_p69, List.forall_mem_cons.mpr ⟨lw_p70, List.forall_mem_cons.mpr ⟨lw_p71, List.forall_mem_cons.mpr ⟨lw_p72, fun _ h => absurd h List.not_mem_nil⟩⟩⟩⟩⟩⟩⟩⟩⟩
def lw_privs : List (MethodName × Nat) := lw_privs_1 ++ (lw_privs_2 ++ (lw_privs_3 ++ (lw_privs_4 ++ (lw_privs_5))))
def lw_tbl : List Cond := k2_sels lw_privs ++ tables_1
theorem lw_privs_ok : ∀ q ∈ lw_privs, lw_okq q := by
  show ∀ q ∈ lw_privs_1 ++ (lw_privs_2 ++ (lw_privs_3 ++ (lw_privs_4 ++ (lw_privs_5)))), lw_okq q
  exact List.forall_mem_append.mpr ⟨lw_r1, List.forall_mem_append.mpr ⟨lw_r2, List.forall_mem_append.mpr ⟨lw_r3, List.forall_mem_append.mpr ⟨lw_r4, lw_r5⟩⟩⟩⟩
end
section
/-! classes: names, fields, words (by program) -/
def R_af : String := "AfterFire"
def T_af : u_T := fun k => match k with
  | 0 => ("AfterFire", "purses", "[I", true)
  | 1 => ("AfterFire", "plots", "Ljava/util/ArrayList;", true)
  | 2 => ("AfterFire", "streets", "[LAfterFire$Street;", true)
  | 3 => ("AfterFire", "shares", "LAfterFire$Shares;", true)
  | 4 => ("AfterFire", "bricks", "LAfterFire$BrickPlan;", true)
  | 5 => ("AfterFire", "chest", "LAfterFire$Chest;", true)
  | 6 => ("AfterFire", "survey", "LAfterFire$Survey;", true)
  | 7 => ("AfterFire", "now", "I", false)
  | 8 => ("AfterFire", "rate", "I", false)
  | 9 => ("AfterFire", "pay", "I", false)
  | 10 => ("AfterFire", "limit", "I", false)
  | _ => ("AfterFire", "paidByActs", "I", false)
def ty_af : Nat → FieldType := fun k => match k with
  | 0 => .array .int
  | 1 => .object "java/util/ArrayList"
  | 2 => .array (.object "AfterFire$Street")
  | 3 => .object "AfterFire$Shares"
  | 4 => .object "AfterFire$BrickPlan"
  | 5 => .object "AfterFire$Chest"
  | 6 => .object "AfterFire$Survey"
  | 7 => .int
  | 8 => .int
  | 9 => .int
  | 10 => .int
  | _ => .int
theorem nm_af : ∀ a, a < 12 → ∀ b, b < 12 → a ≠ b → (T_af a).2.1 ≠ (T_af b).2.1 := by decide +kernel
theorem tyok_af : ∀ k, k < 12 → parseFieldDescriptor (T_af k).2.2.1 = some (ty_af k) := by decide +kernel
def R_md : String := "AfterFireModel"
def T_md : u_T := fun k => match k with
  | 0 => ("AfterFireModel", "now", "I", false)
  | 1 => ("AfterFireModel", "coins", "[I", true)
  | 2 => ("AfterFireModel", "plots", "I", false)
  | 3 => ("AfterFireModel", "street", "[I", true)
  | 4 => ("AfterFireModel", "front", "[I", true)
  | 5 => ("AfterFireModel", "depth", "[I", true)
  | 6 => ("AfterFireModel", "state", "[I", true)
  | 7 => ("AfterFireModel", "leases", "[I", true)
  | 8 => ("AfterFireModel", "holder", "[I", true)
  | 9 => ("AfterFireModel", "years", "[I", true)
  | 10 => ("AfterFireModel", "rent", "[I", true)
  | 11 => ("AfterFireModel", "builtBy", "[I", true)
  | 12 => ("AfterFireModel", "builtIn", "[I", true)
  | 13 => ("AfterFireModel", "dueIn", "[I", true)
  | 14 => ("AfterFireModel", "wallBy", "[I", true)
  | 15 => ("AfterFireModel", "wallPaid", "[I", true)
  | 16 => ("AfterFireModel", "rate", "I", false)
  | 17 => ("AfterFireModel", "pay", "I", false)
  | 18 => ("AfterFireModel", "limit", "I", false)
  | 19 => ("AfterFireModel", "works", "I", false)
  | 20 => ("AfterFireModel", "left", "[I", true)
  | 21 => ("AfterFireModel", "tax", "I", false)
  | 22 => ("AfterFireModel", "chest", "I", false)
  | 23 => ("AfterFireModel", "paid", "I", false)
  | 24 => ("AfterFireModel", "stakes", "[I", true)
  | 25 => ("AfterFireModel", "parts", "[I", true)
  | 26 => ("AfterFireModel", "cut", "[J", true)
  | 27 => ("AfterFireModel", "few", "[I", true)
  | 28 => ("AfterFireModel", "best", "I", false)
  | 29 => ("AfterFireModel", "bestHeap", "I", false)
  | 30 => ("AfterFireModel", "deeds", "[I", true)
  | _ => ("AfterFireModel", "least", "[I", true)
def ty_md : Nat → FieldType := fun k => match k with
  | 0 => .int
  | 1 => .array .int
  | 2 => .int
  | 3 => .array .int
  | 4 => .array .int
  | 5 => .array .int
  | 6 => .array .int
  | 7 => .array .int
  | 8 => .array .int
  | 9 => .array .int
  | 10 => .array .int
  | 11 => .array .int
  | 12 => .array .int
  | 13 => .array .int
  | 14 => .array .int
  | 15 => .array .int
  | 16 => .int
  | 17 => .int
  | 18 => .int
  | 19 => .int
  | 20 => .array .int
  | 21 => .int
  | 22 => .int
  | 23 => .int
  | 24 => .array .int
  | 25 => .array .int
  | 26 => .array .long
  | 27 => .array .int
  | 28 => .int
  | 29 => .int
  | 30 => .array .int
  | _ => .array .int
theorem nm_md : ∀ a, a < 32 → ∀ b, b < 32 → a ≠ b → (T_md a).2.1 ≠ (T_md b).2.1 := by decide +kernel
theorem tyok_md : ∀ k, k < 32 → parseFieldDescriptor (T_md k).2.2.1 = some (ty_md k) := by decide +kernel
def R_bp : String := "AfterFire$BrickPlan"
def T_bp : u_T := fun k => match k with
  | 0 => ("AfterFire$BrickPlan", "numbers", "[I", true)
  | 1 => ("AfterFire$BrickPlan", "needs", "[I", true)
  | 2 => ("AfterFire$BrickPlan", "worths", "[I", true)
  | 3 => ("AfterFire$BrickPlan", "rooms", "[I", true)
  | 4 => ("AfterFire$BrickPlan", "worthFrom", "[I", true)
  | 5 => ("AfterFire$BrickPlan", "size", "I", false)
  | 6 => ("AfterFire$BrickPlan", "bestWorth", "I", false)
  | _ => ("AfterFire$BrickPlan", "bestBits", "I", false)
def ty_bp : Nat → FieldType := fun k => match k with
  | 0 => .array .int
  | 1 => .array .int
  | 2 => .array .int
  | 3 => .array .int
  | 4 => .array .int
  | 5 => .int
  | 6 => .int
  | _ => .int
theorem nm_bp : ∀ a, a < 8 → ∀ b, b < 8 → a ≠ b → (T_bp a).2.1 ≠ (T_bp b).2.1 := by decide +kernel
theorem tyok_bp : ∀ k, k < 8 → parseFieldDescriptor (T_bp k).2.2.1 = some (ty_bp k) := by decide +kernel
def R_ch : String := "AfterFire$Chain"
def T_ch : u_T := fun k => match k with
  | 0 => ("AfterFire$Chain", "persons", "[I", true)
  | 1 => ("AfterFire$Chain", "years", "[I", true)
  | 2 => ("AfterFire$Chain", "rents", "[I", true)
  | _ => ("AfterFire$Chain", "size", "I", false)
def ty_ch : Nat → FieldType := fun k => match k with
  | 0 => .array .int
  | 1 => .array .int
  | 2 => .array .int
  | _ => .int
theorem nm_ch : ∀ a, a < 4 → ∀ b, b < 4 → a ≠ b → (T_ch a).2.1 ≠ (T_ch b).2.1 := by decide +kernel
theorem tyok_ch : ∀ k, k < 4 → parseFieldDescriptor (T_ch k).2.2.1 = some (ty_ch k) := by decide +kernel
def R_ct : String := "AfterFire$Chest"
def T_ct : u_T := fun k => match k with
  | 0 => ("AfterFire$Chest", "unpaid", "[I", true)
  | 1 => ("AfterFire$Chest", "size", "I", false)
  | 2 => ("AfterFire$Chest", "paidWhole", "I", false)
  | 3 => ("AfterFire$Chest", "money", "I", false)
  | _ => ("AfterFire$Chest", "yearlyTax", "I", false)
def ty_ct : Nat → FieldType := fun k => match k with
  | 0 => .array .int
  | 1 => .int
  | 2 => .int
  | 3 => .int
  | _ => .int
theorem nm_ct : ∀ a, a < 5 → ∀ b, b < 5 → a ≠ b → (T_ct a).2.1 ≠ (T_ct b).2.1 := by decide +kernel
theorem tyok_ct : ∀ k, k < 5 → parseFieldDescriptor (T_ct k).2.2.1 = some (ty_ct k) := by decide +kernel
def R_pl : String := "AfterFire$Plot"
def T_pl : u_T := fun k => match k with
  | 0 => ("AfterFire$Plot", "front", "I", true)
  | 1 => ("AfterFire$Plot", "depth", "I", false)
  | 2 => ("AfterFire$Plot", "state", "I", false)
  | 3 => ("AfterFire$Plot", "holders", "LAfterFire$Chain;", true)
  | 4 => ("AfterFire$Plot", "builder", "I", false)
  | 5 => ("AfterFire$Plot", "builtIn", "I", false)
  | 6 => ("AfterFire$Plot", "dueYear", "I", false)
  | 7 => ("AfterFire$Plot", "wallAhead", "LAfterFire$Wall;", false)
  | _ => ("AfterFire$Plot", "wallBehind", "LAfterFire$Wall;", false)
def ty_pl : Nat → FieldType := fun k => match k with
  | 0 => .int
  | 1 => .int
  | 2 => .int
  | 3 => .object "AfterFire$Chain"
  | 4 => .int
  | 5 => .int
  | 6 => .int
  | 7 => .object "AfterFire$Wall"
  | _ => .object "AfterFire$Wall"
theorem nm_pl : ∀ a, a < 9 → ∀ b, b < 9 → a ≠ b → (T_pl a).2.1 ≠ (T_pl b).2.1 := by decide +kernel
theorem tyok_pl : ∀ k, k < 9 → parseFieldDescriptor (T_pl k).2.2.1 = some (ty_pl k) := by decide +kernel
def R_sh : String := "AfterFire$Shares"
def T_sh : u_T := fun k => match k with
  | 0 => ("AfterFire$Shares", "parts", "[I", true)
  | _ => ("AfterFire$Shares", "cutOff", "[J", true)
def ty_sh : Nat → FieldType := fun k => match k with
  | 0 => .array .int
  | _ => .array .long
theorem nm_sh : ∀ a, a < 2 → ∀ b, b < 2 → a ≠ b → (T_sh a).2.1 ≠ (T_sh b).2.1 := by decide +kernel
theorem tyok_sh : ∀ k, k < 2 → parseFieldDescriptor (T_sh k).2.2.1 = some (ty_sh k) := by decide +kernel
def R_sr : String := "AfterFire$Street"
def T_sr : u_T := fun k => match k with
  | 0 => ("AfterFire$Street", "row", "Ljava/util/ArrayList;", true)
  | _ => ("AfterFire$Street", "stakes", "[I", true)
def ty_sr : Nat → FieldType := fun k => match k with
  | 0 => .object "java/util/ArrayList"
  | _ => .array .int
theorem nm_sr : ∀ a, a < 2 → ∀ b, b < 2 → a ≠ b → (T_sr a).2.1 ≠ (T_sr b).2.1 := by decide +kernel
theorem tyok_sr : ∀ k, k < 2 → parseFieldDescriptor (T_sr k).2.2.1 = some (ty_sr k) := by decide +kernel
def R_sv : String := "AfterFire$Survey"
def T_sv : u_T := fun k => match k with
  | _ => ("AfterFire$Survey", "beyond", "[[I", true)
def ty_sv : Nat → FieldType := fun k => match k with
  | _ => .array (.array .int)
theorem nm_sv : ∀ a, a < 1 → ∀ b, b < 1 → a ≠ b → (T_sv a).2.1 ≠ (T_sv b).2.1 := by decide +kernel
theorem tyok_sv : ∀ k, k < 1 → parseFieldDescriptor (T_sv k).2.2.1 = some (ty_sv k) := by decide +kernel
def R_wl : String := "AfterFire$Wall"
def T_wl : u_T := fun k => match k with
  | 0 => ("AfterFire$Wall", "ahead", "LAfterFire$Plot;", true)
  | 1 => ("AfterFire$Wall", "behind", "LAfterFire$Plot;", true)
  | 2 => ("AfterFire$Wall", "price", "I", false)
  | _ => ("AfterFire$Wall", "payer", "I", false)
def ty_wl : Nat → FieldType := fun k => match k with
  | 0 => .object "AfterFire$Plot"
  | 1 => .object "AfterFire$Plot"
  | 2 => .int
  | _ => .int
theorem nm_wl : ∀ a, a < 4 → ∀ b, b < 4 → a ≠ b → (T_wl a).2.1 ≠ (T_wl b).2.1 := by decide +kernel
theorem tyok_wl : ∀ k, k < 4 → parseFieldDescriptor (T_wl k).2.2.1 = some (ty_wl k) := by decide +kernel
def R_al : String := "java/util/ArrayList"
def T_al : u_T := fun k => match k with
  | 0 => ("java/util/AbstractList", "modCount", "I", false)
  | 1 => ("java/util/ArrayList", "elementData", "[Ljava/lang/Object;", false)
  | _ => ("java/util/ArrayList", "size", "I", false)
def ty_al : Nat → FieldType := fun k => match k with
  | 0 => .int
  | 1 => .array (.object "java/lang/Object")
  | _ => .int
theorem nm_al : ∀ a, a < 3 → ∀ b, b < 3 → a ≠ b → (T_al a).2.1 ≠ (T_al b).2.1 := by decide +kernel
theorem tyok_al : ∀ k, k < 3 → parseFieldDescriptor (T_al k).2.2.1 = some (ty_al k) := by decide +kernel
abbrev classes : List vw_C := [(R_af, T_af, 12), (R_md, T_md, 32), (R_bp, T_bp, 8), (R_ch, T_ch, 4), (R_ct, T_ct, 5), (R_pl, T_pl, 9), (R_sh, T_sh, 2), (R_sr, T_sr, 2), (R_sv, T_sv, 1), (R_wl, T_wl, 4), (R_al, T_al, 3)]
/-- a method: its name, its bytes, its locals, its answer's type -/
abbrev MI : Type := MethodName × ByteArray × Nat × Option FieldType
abbrev mcode (y : MI) : ByteArray := y.2.1
abbrev mcls (y : MI) : String := y.1.cls
def M_bp_init : MI := (⟨"AfterFire$BrickPlan", "<init>", "()V"⟩, prog_2_method_1_code, 1, none)
def M_bp_clear : MI := (⟨"AfterFire$BrickPlan", "clear", "()V"⟩, prog_2_method_2_code, 1, none)
def M_bp_add : MI := (⟨"AfterFire$BrickPlan", "add", "(ILAfterFire$Plot;I)Z"⟩, prog_2_method_3_code, 5, (some .boolean))
def M_bp_choose : MI := (⟨"AfterFire$BrickPlan", "choose", "()V"⟩, prog_2_method_4_code, 2, none)
def M_bp_keepIfBetter : MI := (⟨"AfterFire$BrickPlan", "keepIfBetter", "(II)V"⟩, prog_2_method_5_code, 3, none)
def M_bp_search : MI := (⟨"AfterFire$BrickPlan", "search", "(LAfterFire$BrickPlan;IIII)V"⟩, prog_2_method_6_code, 6, none)
def M_ch_init : MI := (⟨"AfterFire$Chain", "<init>", "(I)V"⟩, prog_3_method_1_code, 2, none)
def M_ch_reaches : MI := (⟨"AfterFire$Chain", "reaches", "(I)Z"⟩, prog_3_method_2_code, 2, (some .boolean))
def M_ch_personAt : MI := (⟨"AfterFire$Chain", "personAt", "(I)I"⟩, prog_3_method_3_code, 2, (some .int))
def M_ch_yearsAt : MI := (⟨"AfterFire$Chain", "yearsAt", "(I)I"⟩, prog_3_method_4_code, 2, (some .int))
def M_ch_rentAt : MI := (⟨"AfterFire$Chain", "rentAt", "(I)I"⟩, prog_3_method_5_code, 2, (some .int))
def M_ch_leases : MI := (⟨"AfterFire$Chain", "leases", "()I"⟩, prog_3_method_6_code, 1, (some .int))
def M_ch_append : MI := (⟨"AfterFire$Chain", "append", "(III)Z"⟩, prog_3_method_7_code, 4, (some .boolean))
def M_ch_interestOf : MI := (⟨"AfterFire$Chain", "interestOf", "(II)I"⟩, prog_3_method_8_code, 5, (some .int))
def M_ch_prolong : MI := (⟨"AfterFire$Chain", "prolong", "(II)V"⟩, prog_3_method_9_code, 4, none)
def M_ch_passYear : MI := (⟨"AfterFire$Chain", "passYear", "()V"⟩, prog_3_method_10_code, 2, none)
def M_ch_end : MI := (⟨"AfterFire$Chain", "end", "()V"⟩, prog_3_method_11_code, 1, none)
def M_ct_init : MI := (⟨"AfterFire$Chest", "<init>", "()V"⟩, prog_4_method_1_code, 1, none)
def M_ct_addWork : MI := (⟨"AfterFire$Chest", "addWork", "(I)I"⟩, prog_4_method_2_code, 2, (some .int))
def M_ct_endYear : MI := (⟨"AfterFire$Chest", "endYear", "()V"⟩, prog_4_method_3_code, 1, none)
def M_pl_init : MI := (⟨"AfterFire$Plot", "<init>", "(III)V"⟩, prog_5_method_1_code, 4, none)
def M_pl_yearlyWorth : MI := (⟨"AfterFire$Plot", "yearlyWorth", "()I"⟩, prog_5_method_2_code, 1, (some .int))
def M_pl_isThere : MI := (⟨"AfterFire$Plot", "isThere", "()Z"⟩, prog_5_method_3_code, 1, (some .boolean))
def M_pl_raise : MI := (⟨"AfterFire$Plot", "raise", "(II)V"⟩, prog_5_method_4_code, 3, none)
def M_pl_lose : MI := (⟨"AfterFire$Plot", "lose", "(I)V"⟩, prog_5_method_5_code, 2, none)
def M_pl_paidWalls : MI := (⟨"AfterFire$Plot", "paidWalls", "()I"⟩, prog_5_method_6_code, 2, (some .int))
def M_sh_init : MI := (⟨"AfterFire$Shares", "<init>", "()V"⟩, prog_6_method_1_code, 1, none)
def M_sh_partOf : MI := (⟨"AfterFire$Shares", "partOf", "(I)I"⟩, prog_6_method_2_code, 2, (some .int))
def M_sh_divide : MI := (⟨"AfterFire$Shares", "divide", "(LAfterFire$Plot;II)V"⟩, prog_6_method_3_code, 7, none)
def M_sh_divideByInterest : MI := (⟨"AfterFire$Shares", "divideByInterest", "(LAfterFire$Plot;IJ)V"⟩, prog_6_method_4_code, 9, none)
def M_sh_placeOfMostCutOff : MI := (⟨"AfterFire$Shares", "placeOfMostCutOff", "()I"⟩, prog_6_method_5_code, 3, (some .int))
def M_sr_init : MI := (⟨"AfterFire$Street", "<init>", "()V"⟩, prog_7_method_1_code, 2, none)
def M_sr_append : MI := (⟨"AfterFire$Street", "append", "(LAfterFire$Plot;)Z"⟩, prog_7_method_2_code, 4, (some .boolean))
def M_sr_canMeasure : MI := (⟨"AfterFire$Street", "canMeasure", "(I)Z"⟩, prog_7_method_3_code, 2, (some .boolean))
def M_sr_frontOf : MI := (⟨"AfterFire$Street", "frontOf", "(I)I"⟩, prog_7_method_4_code, 2, (some .int))
def M_sr_stakeGap : MI := (⟨"AfterFire$Street", "stakeGap", "(II)I"⟩, prog_7_method_5_code, 3, (some .int))
def M_sv_init : MI := (⟨"AfterFire$Survey", "<init>", "()V"⟩, prog_8_method_1_code, 1, none)
def M_sv_measure : MI := (⟨"AfterFire$Survey", "measure", "(LAfterFire$Street;I)V"⟩, prog_8_method_2_code, 5, none)
def M_sv_fillRow : MI := (⟨"AfterFire$Survey", "fillRow", "(LAfterFire$Street;II)V"⟩, prog_8_method_3_code, 8, none)
def M_sv_quarrelAt : MI := (⟨"AfterFire$Survey", "quarrelAt", "([III)I"⟩, prog_8_method_4_code, 3, (some .int))
def M_sv_firstBest : MI := (⟨"AfterFire$Survey", "firstBest", "([IIII)I"⟩, prog_8_method_5_code, 7, (some .int))
def M_sv_leastQuarrel : MI := (⟨"AfterFire$Survey", "leastQuarrel", "(LAfterFire$Street;I)I"⟩, prog_8_method_6_code, 3, (some .int))
def M_sv_borderBehind : MI := (⟨"AfterFire$Survey", "borderBehind", "(LAfterFire$Street;II)I"⟩, prog_8_method_7_code, 6, (some .int))
def M_sv_endOf : MI := (⟨"AfterFire$Survey", "endOf", "(LAfterFire$Street;III)I"⟩, prog_8_method_8_code, 6, (some .int))
def M_wl_init : MI := (⟨"AfterFire$Wall", "<init>", "(LAfterFire$Plot;LAfterFire$Plot;)V"⟩, prog_9_method_1_code, 3, none)
def M_wl_isPaid : MI := (⟨"AfterFire$Wall", "isPaid", "()Z"⟩, prog_9_method_2_code, 1, (some .boolean))
def M_wl_hasBothSides : MI := (⟨"AfterFire$Wall", "hasBothSides", "()Z"⟩, prog_9_method_3_code, 1, (some .boolean))
def M_wl_lesserDepth : MI := (⟨"AfterFire$Wall", "lesserDepth", "()I"⟩, prog_9_method_4_code, 1, (some .int))
def M_af_init : MI := (⟨"AfterFire", "<init>", "()V"⟩, prog_1_method_1_code, 2, none)
def M_af_coins : MI := (⟨"AfterFire", "coins", "(II)I"⟩, prog_1_method_2_code, 3, (some .int))
def M_af_plot : MI := (⟨"AfterFire", "plot", "(III)I"⟩, prog_1_method_3_code, 8, (some .int))
def M_af_lease : MI := (⟨"AfterFire", "lease", "(IIII)I"⟩, prog_1_method_4_code, 6, (some .int))
def M_af_rates : MI := (⟨"AfterFire", "rates", "(III)Z"⟩, prog_1_method_5_code, 4, (some .boolean))
def M_af_worth : MI := (⟨"AfterFire", "worth", "(I)I"⟩, prog_1_method_6_code, 3, (some .int))
def M_af_interest : MI := (⟨"AfterFire", "interest", "(II)I"⟩, prog_1_method_7_code, 4, (some .int))
def M_af_bears : MI := (⟨"AfterFire", "bears", "(II)I"⟩, prog_1_method_8_code, 5, (some .int))
def M_af_decree : MI := (⟨"AfterFire", "decree", "(I)I"⟩, prog_1_method_9_code, 5, (some .int))
def M_af_act : MI := (⟨"AfterFire", "act", "(II)I"⟩, prog_1_method_10_code, 6, (some .int))
def M_af_year : MI := (⟨"AfterFire", "year", "()I"⟩, prog_1_method_11_code, 3, (some .int))
def M_af_due : MI := (⟨"AfterFire", "due", "(II)Z"⟩, prog_1_method_12_code, 4, (some .boolean))
def M_af_saved : MI := (⟨"AfterFire", "saved", "(I)I"⟩, prog_1_method_13_code, 2, (some .int))
def M_af_heap : MI := (⟨"AfterFire", "heap", "(I)I"⟩, prog_1_method_14_code, 2, (some .int))
def M_af_works : MI := (⟨"AfterFire", "works", "(I)I"⟩, prog_1_method_15_code, 2, (some .int))
def M_af_tax : MI := (⟨"AfterFire", "tax", "(I)Z"⟩, prog_1_method_16_code, 2, (some .boolean))
def M_af_stake : MI := (⟨"AfterFire", "stake", "(III)Z"⟩, prog_1_method_17_code, 5, (some .boolean))
def M_af_quarrel : MI := (⟨"AfterFire", "quarrel", "(II)I"⟩, prog_1_method_18_code, 4, (some .int))
def M_af_border : MI := (⟨"AfterFire", "border", "(III)I"⟩, prog_1_method_19_code, 5, (some .int))
def M_af_told : MI := (⟨"AfterFire", "told", "(II)I"⟩, prog_1_method_20_code, 4, (some .int))
def M_af_chain : MI := (⟨"AfterFire", "chain", "(III)I"⟩, prog_1_method_21_code, 5, (some .int))
def M_af_has : MI := (⟨"AfterFire", "has", "(I)I"⟩, prog_1_method_22_code, 2, (some .int))
def M_af_count : MI := (⟨"AfterFire", "count", "(I)I"⟩, prog_1_method_23_code, 2, (some .int))
def M_af_within : MI := (⟨"AfterFire", "within", "(III)Z"⟩, prog_1_method_24_code, 3, (some .boolean))
def M_af_isPerson : MI := (⟨"AfterFire", "isPerson", "(I)Z"⟩, prog_1_method_25_code, 1, (some .boolean))
def M_af_isYear : MI := (⟨"AfterFire", "isYear", "(I)Z"⟩, prog_1_method_26_code, 1, (some .boolean))
def M_af_plotAt : MI := (⟨"AfterFire", "plotAt", "(I)LAfterFire$Plot;"⟩, prog_1_method_27_code, 2, (some (.object "AfterFire$Plot")))
def M_af_streetAt : MI := (⟨"AfterFire", "streetAt", "(I)LAfterFire$Street;"⟩, prog_1_method_28_code, 2, (some (.object "AfterFire$Street")))
def M_af_give : MI := (⟨"AfterFire", "give", "(II)V"⟩, prog_1_method_29_code, 3, none)
def M_af_move : MI := (⟨"AfterFire", "move", "(III)V"⟩, prog_1_method_30_code, 4, none)
def M_af_costOf : MI := (⟨"AfterFire", "costOf", "(LAfterFire$Plot;)I"⟩, prog_1_method_31_code, 2, (some .int))
def M_af_countIn : MI := (⟨"AfterFire", "countIn", "(I)I"⟩, prog_1_method_32_code, 4, (some .int))
def M_af_findBuilder : MI := (⟨"AfterFire", "findBuilder", "(LAfterFire$Plot;)I"⟩, prog_1_method_33_code, 5, (some .int))
def M_af_payForBuilding : MI := (⟨"AfterFire", "payForBuilding", "(LAfterFire$Plot;I)V"⟩, prog_1_method_34_code, 6, none)
def M_af_settleWall : MI := (⟨"AfterFire", "settleWall", "(LAfterFire$Wall;I)V"⟩, prog_1_method_35_code, 3, none)
def M_af_widenInto : MI := (⟨"AfterFire", "widenInto", "(LAfterFire$Plot;I)I"⟩, prog_1_method_36_code, 5, (some .int))
def M_af_forfeitBurned : MI := (⟨"AfterFire", "forfeitBurned", "()I"⟩, prog_1_method_37_code, 4, (some .int))
def M_af_planBricks : MI := (⟨"AfterFire", "planBricks", "(I)Z"⟩, prog_1_method_38_code, 5, (some .boolean))
def M_md_init : MI := (⟨"AfterFireModel", "<init>", "()V"⟩, prog_11_method_1_code, 2, none)
def M_md_in : MI := (⟨"AfterFireModel", "in", "(III)Z"⟩, prog_11_method_2_code, 3, (some .boolean))
def M_md_isPlot : MI := (⟨"AfterFireModel", "isPlot", "(I)Z"⟩, prog_11_method_3_code, 2, (some .boolean))
def M_md_isStreet : MI := (⟨"AfterFireModel", "isStreet", "(I)Z"⟩, prog_11_method_4_code, 1, (some .boolean))
def M_md_isGone : MI := (⟨"AfterFireModel", "isGone", "(I)Z"⟩, prog_11_method_5_code, 2, (some .boolean))
def M_md_coins : MI := (⟨"AfterFireModel", "coins", "(II)I"⟩, prog_11_method_6_code, 3, (some .int))
def M_md_onStreet : MI := (⟨"AfterFireModel", "onStreet", "(I)I"⟩, prog_11_method_7_code, 4, (some .int))
def M_md_plot : MI := (⟨"AfterFireModel", "plot", "(III)I"⟩, prog_11_method_8_code, 4, (some .int))
def M_md_lease : MI := (⟨"AfterFireModel", "lease", "(IIII)I"⟩, prog_11_method_9_code, 6, (some .int))
def M_md_rates : MI := (⟨"AfterFireModel", "rates", "(III)Z"⟩, prog_11_method_10_code, 4, (some .boolean))
def M_md_worth : MI := (⟨"AfterFireModel", "worth", "(I)I"⟩, prog_11_method_11_code, 2, (some .int))
def M_md_isPlace : MI := (⟨"AfterFireModel", "isPlace", "(II)Z"⟩, prog_11_method_12_code, 3, (some .boolean))
def M_md_interestOf : MI := (⟨"AfterFireModel", "interestOf", "(II)I"⟩, prog_11_method_13_code, 5, (some .int))
def M_md_interest : MI := (⟨"AfterFireModel", "interest", "(II)I"⟩, prog_11_method_14_code, 3, (some .int))
def M_md_costOf : MI := (⟨"AfterFireModel", "costOf", "(I)I"⟩, prog_11_method_15_code, 2, (some .int))
def M_md_builder : MI := (⟨"AfterFireModel", "builder", "(I)I"⟩, prog_11_method_16_code, 3, (some .int))
def M_md_parted : MI := (⟨"AfterFireModel", "parted", "(I)I"⟩, prog_11_method_17_code, 9, (some .int))
def M_md_bears : MI := (⟨"AfterFireModel", "bears", "(II)I"⟩, prog_11_method_18_code, 3, (some .int))
def M_md_decree : MI := (⟨"AfterFireModel", "decree", "(I)I"⟩, prog_11_method_19_code, 6, (some .int))
def M_md_before : MI := (⟨"AfterFireModel", "before", "(I)I"⟩, prog_11_method_20_code, 4, (some .int))
def M_md_behind : MI := (⟨"AfterFireModel", "behind", "(I)I"⟩, prog_11_method_21_code, 3, (some .int))
def M_md_wall : MI := (⟨"AfterFireModel", "wall", "(III)V"⟩, prog_11_method_22_code, 4, none)
def M_md_act : MI := (⟨"AfterFireModel", "act", "(II)I"⟩, prog_11_method_23_code, 7, (some .int))
def M_md_ends : MI := (⟨"AfterFireModel", "ends", "(II)V"⟩, prog_11_method_24_code, 3, none)
def M_md_year : MI := (⟨"AfterFireModel", "year", "()I"⟩, prog_11_method_25_code, 4, (some .int))
def M_md_older : MI := (⟨"AfterFireModel", "older", "(I)V"⟩, prog_11_method_26_code, 4, none)
def M_md_due : MI := (⟨"AfterFireModel", "due", "(II)Z"⟩, prog_11_method_27_code, 3, (some .boolean))
def M_md_dueOf : MI := (⟨"AfterFireModel", "dueOf", "(I)I"⟩, prog_11_method_28_code, 2, (some .int))
def M_md_canBe : MI := (⟨"AfterFireModel", "canBe", "(III)Z"⟩, prog_11_method_29_code, 8, (some .boolean))
def M_md_saves : MI := (⟨"AfterFireModel", "saves", "(I)Z"⟩, prog_11_method_30_code, 6, (some .boolean))
def M_md_saved : MI := (⟨"AfterFireModel", "saved", "(I)I"⟩, prog_11_method_31_code, 2, (some .int))
def M_md_heap : MI := (⟨"AfterFireModel", "heap", "(I)I"⟩, prog_11_method_32_code, 2, (some .int))
def M_md_works : MI := (⟨"AfterFireModel", "works", "(I)I"⟩, prog_11_method_33_code, 2, (some .int))
def M_md_tax : MI := (⟨"AfterFireModel", "tax", "(I)Z"⟩, prog_11_method_34_code, 2, (some .boolean))
def M_md_stake : MI := (⟨"AfterFireModel", "stake", "(III)Z"⟩, prog_11_method_35_code, 4, (some .boolean))
def M_md_apart : MI := (⟨"AfterFireModel", "apart", "(II)I"⟩, prog_11_method_36_code, 2, (some .int))
def M_md_quarrels : MI := (⟨"AfterFireModel", "quarrels", "(II)I"⟩, prog_11_method_37_code, 6, (some .int))
def M_md_from : MI := (⟨"AfterFireModel", "from", "(IIII)I"⟩, prog_11_method_38_code, 8, (some .int))
def M_md_costs : MI := (⟨"AfterFireModel", "costs", "(IIIII)I"⟩, prog_11_method_39_code, 8, (some .int))
def M_md_quarrel : MI := (⟨"AfterFireModel", "quarrel", "(II)I"⟩, prog_11_method_40_code, 3, (some .int))
def M_md_border : MI := (⟨"AfterFireModel", "border", "(III)I"⟩, prog_11_method_41_code, 8, (some .int))
def M_md_wallsOf : MI := (⟨"AfterFireModel", "wallsOf", "(I)I"⟩, prog_11_method_42_code, 3, (some .int))
def M_md_told : MI := (⟨"AfterFireModel", "told", "(II)I"⟩, prog_11_method_43_code, 3, (some .int))
def M_md_chain : MI := (⟨"AfterFireModel", "chain", "(III)I"⟩, prog_11_method_44_code, 4, (some .int))
def M_md_has : MI := (⟨"AfterFireModel", "has", "(I)I"⟩, prog_11_method_45_code, 2, (some .int))
def M_md_countOf : MI := (⟨"AfterFireModel", "countOf", "(I)I"⟩, prog_11_method_46_code, 4, (some .int))
def M_md_count : MI := (⟨"AfterFireModel", "count", "(I)I"⟩, prog_11_method_47_code, 4, (some .int))
def M_ac_init : MI := (⟨"java/util/AbstractCollection", "<init>", "()V"⟩, prog_17_method_1_code, 1, none)
def M_ab_init : MI := (⟨"java/util/AbstractList", "<init>", "()V"⟩, prog_18_method_1_code, 1, none)
def M_al_init : MI := (⟨"java/util/ArrayList", "<init>", "()V"⟩, prog_19_method_2_code, 1, none)
def M_al_grow : MI := (⟨"java/util/ArrayList", "grow", "(I)[Ljava/lang/Object;"⟩, prog_19_method_6_code, 4, (some (.array (.object "java/lang/Object"))))
def M_al_grow2 : MI := (⟨"java/util/ArrayList", "grow", "()[Ljava/lang/Object;"⟩, prog_19_method_7_code, 1, (some (.array (.object "java/lang/Object"))))
def M_al_size : MI := (⟨"java/util/ArrayList", "size", "()I"⟩, prog_19_method_8_code, 1, (some .int))
def M_al_isEmpty : MI := (⟨"java/util/ArrayList", "isEmpty", "()Z"⟩, prog_19_method_9_code, 1, (some .boolean))
def M_al_elementData : MI := (⟨"java/util/ArrayList", "elementData", "(I)Ljava/lang/Object;"⟩, prog_19_method_18_code, 2, (some (.object "java/lang/Object")))
def M_al_get : MI := (⟨"java/util/ArrayList", "get", "(I)Ljava/lang/Object;"⟩, prog_19_method_20_code, 2, (some (.object "java/lang/Object")))
def M_al_add : MI := (⟨"java/util/ArrayList", "add", "(Ljava/lang/Object;[Ljava/lang/Object;I)V"⟩, prog_19_method_24_code, 4, none)
def M_al_add2 : MI := (⟨"java/util/ArrayList", "add", "(Ljava/lang/Object;)Z"⟩, prog_19_method_25_code, 2, (some .boolean))
def M_ar_copyOf : MI := (⟨"java/util/Arrays", "copyOf", "([Ljava/lang/Object;I)[Ljava/lang/Object;"⟩, prog_20_method_119_code, 2, (some (.array (.object "java/lang/Object"))))
def M_ar_copyOf2 : MI := (⟨"java/util/Arrays", "copyOf", "([Ljava/lang/Object;ILjava/lang/Class;)[Ljava/lang/Object;"⟩, prog_20_method_120_code, 4, (some (.array (.object "java/lang/Object"))))
def M_ob_checkIndex : MI := (⟨"java/util/Objects", "checkIndex", "(II)I"⟩, prog_23_method_17_code, 2, (some .int))
def M_as_newLength : MI := (⟨"jdk/internal/util/ArraysSupport", "newLength", "(III)I"⟩, prog_26_method_27_code, 4, (some .int))
def M_as_hugeLength : MI := (⟨"jdk/internal/util/ArraysSupport", "hugeLength", "(II)I"⟩, prog_26_method_28_code, 3, (some .int))
def M_pr_checkIndex : MI := (⟨"jdk/internal/util/Preconditions", "checkIndex", "(IILjava/util/function/BiFunction;)I"⟩, prog_27_method_11_code, 3, (some .int))
def M_lw_law : MI := (x, code, maxLocals, ret)
end
section
/-! THE ABSTRACT MACHINE: cells have names (numbers), the heap is a function of names; one judgement A hides the machine. Names below 16 are kept for what was there before: 1 the JDK's shared empty array, 2 the script, 3 the mirror of Object[]. -/
def gt : List Cond := lw_tbl.filter goodWord
theorem gt_in {w : Cond} (h : w ∈ lw_tbl) (hg : goodWord w = true) : w ∈ gt := List.mem_filter.mpr ⟨h, hg⟩
theorem gt_good : GoodIn gt gt := fun w h => ⟨h, good_of_word (List.mem_filter.mp h).2⟩
def isNest : Cond → Bool
  | .fieldLinkNest .. => true
  | .methodLinkNest .. => true
  | .castable .. => true
  | _ => false
def nt : List Cond := lw_tbl.filter isNest
theorem nt_in {w : Cond} (h : w ∈ lw_tbl) (hg : isNest w = true) : w ∈ nt := List.mem_filter.mpr ⟨h, hg⟩
def AOI (U : State) : Prop := (Cond.arrayOver (.array .int)).before #[] U = true
theorem AOI.moved {u U : State} (hvm : u.vm.Alike U.vm) (h : AOI u) : AOI U := by
  unfold AOI Cond.before Cond.holds at h ⊢
  simp only [Cond.value] at h ⊢
  have hf : ∀ n, U.vm.findClass n = u.vm.findClass n := fun n => hvm.findClass n none
  simp only [hf]
  cases hc : u.vm.findClass (FieldType.array .int).toString with
  | none => rw [hc] at h; exact h
  | some comp =>
    rw [hc] at h
    simp only [Option.bind_some, beq_iff_eq] at h ⊢
    rw [Option.bind_eq_some_iff] at h ⊢
    obtain ⟨c, h1, h2⟩ := h
    have e1 := va_idx_bare U.vm comp
    have e2 := va_idx_bare u.vm comp
    have e3 : U.vm.bare = u.vm.bare := by first | exact hvm.bare_eq | exact hvm.bare_eq.symm
    rw [e3] at e1
    refine ⟨c, (e1.symm.trans e2).trans h1, ?_⟩
    rw [Option.map_eq_some_iff] at h2 ⊢
    obtain ⟨k, hk, h3⟩ := h2
    obtain ⟨k', hk', he⟩ := hvm.2.2 _ _ hk
    refine ⟨k', hk', ?_⟩
    rw [he]
    exact h3
/-- the words that no list keeps: links between nest mates, casts, arrays of references -/
def NX (s : State) : Prop := (∀ w ∈ nt, va_Nw w s) ∧ va_AO "AfterFire$Street" s ∧ va_AO "java/lang/Object" s ∧ AOI s ∧ va_Dc s
theorem NX.warm {s U : State} (hW : s.WarmedH U.vm) (h : NX s) : NX U := by
  refine ⟨fun w hw => ?_, h.2.1.moved hW.alike, h.2.2.1.moved hW.alike, h.2.2.2.1.moved hW.alike, h.2.2.2.2.moved hW.alike⟩
  have h1 := h.1 w hw
  have h2 := (List.mem_filter.mp hw).2
  cases w <;> first | (cases h2; done) | exact va_Nw.warmF hW h1 | exact va_Nw.warmM hW h1 | exact va_Nw.warmC hW h1
abbrev ACell : Type := (FieldType × vp_A) ⊕ (Nat × List Value)
abbrev AHp : Type := Nat → Option ACell
abbrev aI (n : Nat) (f : Nat → Int32) : ACell := .inl (.int, n, .inl f)
abbrev aL (n : Nat) (f : Nat → Int64) : ACell := .inl (.long, n, .inr (.inl f))
abbrev aR (ty : FieldType) (n : Nat) (f : Nat → Option Nat) : ACell := .inl (ty, n, .inr (.inr (.inr (.inr f))))
abbrev oB (ci : Nat) (fs : List Value) : ACell := .inr (ci, fs)
def tv (φ : Nat → Nat) : Value → Value
  | .ref a => .ref (φ a)
  | v => v
def ta (φ : Nat → Nat) : vp_A → vp_A
  | (n, .inr (.inr (.inr (.inr f)))) => (n, .inr (.inr (.inr (.inr (fun j => (f j).map φ)))))
  | x => x
def Cz (s : State) (φ : Nat → Nat) (c : ACell) (e : va_E) : Prop := match c with
  | .inl (ty, x) => ∃ cA : ClassId, e = .inl (cA, ta φ x) ∧ ArrOfT s cA ty ∧ va_RA s cA ty
  | .inr (ci, fs) => e = .inr (ci, fs.map (tv φ))
def okn (G : AHp) (a : Nat) : Prop := a < 16 ∨ G a ≠ none
def okv (G : AHp) (v : Value) : Prop := ∀ a, v = .ref a → okn G a
def okc (G : AHp) (c : ACell) : Prop := match c with
  | .inl (_, _, .inr (.inr (.inr (.inr f)))) => ∀ j b, f j = some b → okn G b
  | .inl _ => True
  | .inr (_, fs) => ∀ v ∈ fs, okv G v
def up (G : AHp) (a : Nat) (c : ACell) : AHp := fun b => if b = a then some c else G b
theorem up_s {G : AHp} {a : Nat} {c : ACell} : up G a c a = some c := if_pos rfl
theorem up_n {G : AHp} {a b : Nat} {c : ACell} (h : b ≠ a) : up G a c b = G b := if_neg h
theorem up_e {G : AHp} {a b : Nat} {c : ACell} {x : Option ACell} (h : b ≠ a) (e : G b = x) : up G a c b = x := (up_n h).trans e
theorem up_up {G : AHp} {a : Nat} {c c' : ACell} : up (up G a c) a c' = up G a c' := by
  funext b; unfold up; by_cases h : b = a <;> simp [h]
theorem up_ne {G : AHp} {a b : Nat} {c : ACell} (h : G b ≠ none) : up G a c b ≠ none := by
  by_cases e : b = a
  · subst e; rw [up_s]; simp
  · rw [up_n e]; exact h
def Wl (φ : Nat → Nat) (E : Nat → va_E) (L : List Nat) : va_W := L.map (fun a => (φ a, E a))
/-- the heap H holds the abstract heap G, by the map φ of names -/
def Rel (D : va_G) (N0 : Nat) (r : Nat → Nat) (s : State) (φ : Nat → Nat) (G : AHp) (H : Heap) : Prop :=
  ∃ (L : List Nat) (E : Nat → va_E), L.Nodup ∧ (∀ a, a ∈ L ↔ (16 ≤ a ∧ G a ≠ none)) ∧ (∀ a c, 16 ≤ a → G a = some c → Cz s φ c (E a) ∧ okc G c) ∧ va_P D classes (Wl φ E L) H ∧ va_D (fun q => N0 ≤ q) (Wl φ E L) ∧ (∀ a, a < 16 → φ a = r a) ∧
    (∀ a c, a < 16 → G a = some c → a = 2 ∧ ∃ (n : Nat) (f : Nat → Int32), c = aI n f ∧ va_X (r 2) n f s H ∧ r 2 < N0)
def Ext (φ0 : Nat → Nat) (G0 : AHp) (φ : Nat → Nat) (G : AHp) : Prop := (∀ a, G0 a ≠ none → G a ≠ none ∧ φ a = φ0 a) ∧ ∀ a, a < 16 → φ a = φ0 a
/-- what the machine had before: the shared empty array, the mirror -/
def Sta (N0 : Nat) (r : Nat → Nat) (s : State) (H : Heap) : Prop :=
  va_Z "java/util/ArrayList" "DEFAULTCAPACITY_EMPTY_ELEMENTDATA" "[Ljava/lang/Object;" (.ref (r 1)) (fun q => N0 ≤ q) s H ∧ (∃ f, va_T (.object "java/lang/Object") (r 1) 0 f (fun q => N0 ≤ q) s H) ∧ va_Mi "[Ljava/lang/Object;" (r 3) s ∧ r 1 < N0
def LH (la : Array Slot) (n : Nat) (φ : Nat → Nat) (ls : List (Option Value)) : Prop := la.size = n ∧ lv_wf la ∧ ∀ (i : Nat) (v : Value), ls[i]? = some (some v) → la[i]? = some (.val (tv φ v))
def okl (G : AHp) (st : List Value) : Prop := ∀ v ∈ st, okv G v
def oks (G : AHp) (ls : List (Option Value)) : Prop := ∀ v, some v ∈ ls → okv G v
def Env0 (d : Nat) (y : MI) (D : va_G) (N0 : Nat) (r : Nat → Nat) (p : Program) (R : Room) (s : State) (m : MethodId) (args : Array Value) (meth : Method) (c : Code) : Prop :=
  p.tables.exec = Jvm.exec ∧ c.code = mcode y ∧ meth.sig.returnType = y.2.2.2 ∧ c.maxLocals = y.2.2.1 ∧ s.vm.findClass (mcls y) = some m.cls ∧ (∀ w ∈ gt, w.before args s = true) ∧ meth.locks = false ∧ meth.name = y.1.name ∧ va_K D classes [] s ∧ Sta N0 r s s.heap ∧ d ≤ R.frames ∧ 40 * d ≤ R.locals ∧ N0 ≤ s.heap.size ∧ NX s
def AQ (D : va_G) (N0 : Nat) (r φ0 : Nat → Nat) (G0 : AHp) (Q : Option Value → AHp → Prop) : Array Value → State → Outcome → State → Prop := fun _ st o t =>
  ∃ (v : Option Value) (φ : Nat → Nat) (G : AHp), o = .returned (v.map (tv φ)) ∧ Q v G ∧ Ext φ0 G0 φ G ∧ (∀ u, v = some u → okv G u) ∧ Rel D N0 r t φ G t.heap ∧ va_F (fun q => N0 ≤ q) st t
/-- THE JUDGEMENT: at pc of the method y, with the locals ls, the stack st, the heap G, room for d frames, kc cells and ks slots, the method comes to its end, and there Q holds of its answer and of the heap -/
def A (d : Nat) (y : MI) (pc : Nat) (ls : List (Option Value)) (st : List Value) (G : AHp) (kc ks : Nat) (Q : Option Value → AHp → Prop) : Prop :=
  ∀ (l : Launch) (D : va_G) (N0 : Nat) (r φ0 : Nat → Nat) (G0 : AHp) (mc ms : Nat) (p : Program) (e : Env) (R : Room) (s : State) (m : MethodId) (args : Array Value) (below : List Frame) (meth : Method) (c : Code) (H : Heap) (locs : List Loc) (cells slots : Nat) (φ : Nat → Nat) (la : Array Slot),
    Env0 d y D N0 r p R s m args meth c → Rel D N0 r s φ G H → Ext φ0 G0 φ G → va_S (fun q => N0 ≤ q) s.heap H locs → (cells + kc ≤ mc ∧ slots + ks ≤ ms ∧ mc ≤ R.cells ∧ ms ≤ R.slots) → LH la y.2.2.1 φ ls → oks G ls → okl G st →
    W p l e R s m args below meth c H locs cells slots (MQ below (AQ D N0 r φ0 G0 Q) args s mc ms (fun q => N0 ≤ q)) (F0 m pc la (st.map (tv φ)))

theorem okv_i {G : AHp} {x : Int32} : okv G (.int x) := fun _ h => by cases h
theorem okv_l {G : AHp} {x : Int64} : okv G (.long x) := fun _ h => by cases h
theorem okv_0 {G : AHp} : okv G .null := fun _ h => by cases h
theorem okv_r {G : AHp} {a : Nat} (h : okn G a) : okv G (.ref a) := fun b e => by cases e; exact h
theorem okl_nil {G : AHp} : okl G [] := fun _ h => by cases h
theorem okl_cons {G : AHp} {v : Value} {st : List Value} (h1 : okv G v) (h2 : okl G st) : okl G (v :: st) := fun u hu => by
  rcases List.mem_cons.mp hu with h | h
  · rw [h]; exact h1
  · exact h2 u h
theorem okl_tail {G : AHp} {v : Value} {st : List Value} (h : okl G (v :: st)) : okl G st := fun u hu => h u (List.mem_cons_of_mem _ hu)
theorem okl_head {G : AHp} {v : Value} {st : List Value} (h : okl G (v :: st)) : okv G v := h v List.mem_cons_self
theorem okn_mono {G G' : AHp} (h : ∀ a, G a ≠ none → G' a ≠ none) {a : Nat} (k : okn G a) : okn G' a := k.elim Or.inl (fun q => Or.inr (h a q))
theorem okv_mono {G G' : AHp} (h : ∀ a, G a ≠ none → G' a ≠ none) {v : Value} (k : okv G v) : okv G' v := fun a e => okn_mono h (k a e)
theorem okl_mono {G G' : AHp} (h : ∀ a, G a ≠ none → G' a ≠ none) {st : List Value} (k : okl G st) : okl G' st := fun v hv => okv_mono h (k v hv)
theorem oks_mono {G G' : AHp} (h : ∀ a, G a ≠ none → G' a ≠ none) {ls : List (Option Value)} (k : oks G ls) : oks G' ls := fun v hv => okv_mono h (k v hv)
theorem okc_mono {G G' : AHp} (h : ∀ a, G a ≠ none → G' a ≠ none) {c : ACell} (k : okc G c) : okc G' c := by
  obtain ⟨ty, n, f | f | f | f | f⟩ | ⟨ci, fs⟩ := c
  · trivial
  · trivial
  · trivial
  · trivial
  · exact fun j b e => okn_mono h (k j b e)
  · exact fun v hv => okv_mono h (k v hv)
theorem tv_cat (φ : Nat → Nat) (v : Value) : (tv φ v).category = v.category := by cases v <;> rfl
theorem tv_eq {G : AHp} {φ φ' : Nat → Nat} (h : ∀ a, okn G a → φ' a = φ a) {v : Value} (k : okv G v) : tv φ' v = tv φ v := by
  cases v <;> first | rfl | (show Value.ref _ = Value.ref _; rw [h _ (k _ rfl)])
theorem tvl_eq {G : AHp} {φ φ' : Nat → Nat} (h : ∀ a, okn G a → φ' a = φ a) {st : List Value} (k : okl G st) : st.map (tv φ') = st.map (tv φ) := List.map_congr_left fun v hv => tv_eq h (k v hv)
theorem Cz_eq {s : State} {G : AHp} {φ φ' : Nat → Nat} (h : ∀ a, okn G a → φ' a = φ a) {c : ACell} {e : va_E} (k : okc G c) (hz : Cz s φ c e) : Cz s φ' c e := by
  obtain ⟨ty, n, f | f | f | f | f⟩ | ⟨ci, fs⟩ := c
  · exact hz
  · exact hz
  · exact hz
  · exact hz
  · obtain ⟨cA, h1, h2⟩ := hz
    refine ⟨cA, ?_, h2⟩
    rw [h1]
    show Sum.inl (cA, n, _) = Sum.inl (cA, n, _)
    have : (fun j => (f j).map φ) = (fun j => (f j).map φ') := by
      funext j
      cases hj : f j with
      | none => rfl
      | some b => show some _ = some _; rw [h b (k j b hj)]
    rw [this]
  · show e = _
    rw [show e = _ from hz]
    rw [tvl_eq h k]
theorem Cz_moved {u U : State} (hvm : u.vm.Alike U.vm) {φ : Nat → Nat} {c : ACell} {e : va_E} (hz : Cz u φ c e) : Cz U φ c e := by
  obtain ⟨ty, x⟩ | ⟨ci, fs⟩ := c
  · obtain ⟨cA, h1, h2, h3⟩ := hz
    exact ⟨cA, h1, arrOfT_moved hvm h2, h3.moved hvm⟩
  · exact hz
theorem Rel.moved {D : va_G} {N0 : Nat} {r φ : Nat → Nat} {u U : State} {G : AHp} {H : Heap} (hvm : u.vm.Alike U.vm) (h : Rel D N0 r u φ G H) : Rel D N0 r U φ G H := by
  obtain ⟨L, E, h1, h2, h3, h4, h5, h6, h7⟩ := h
  refine ⟨L, E, h1, h2, fun a c ha hc => ⟨Cz_moved hvm (h3 a c ha hc).1, (h3 a c ha hc).2⟩, h4, h5, h6, fun a c ha hc => ?_⟩
  obtain ⟨e0, n, f, e1, e2, e3⟩ := h7 a c ha hc
  exact ⟨e0, n, f, e1, e2.moved hvm, e3⟩
theorem Sta.moved {N0 : Nat} {r : Nat → Nat} {u U : State} {H : Heap} (hvm : u.vm.Alike U.vm) (h : Sta N0 r u H) : Sta N0 r U H := by
  obtain ⟨h1, ⟨f, h2⟩, h3, h4⟩ := h
  exact ⟨h1.moved hvm, ⟨f, h2.moved hvm⟩, h3.moved hvm, h4⟩
theorem Sta.kept {N0 : Nat} {r : Nat → Nat} {U : State} {H H1 : Heap} (h : Sta N0 r U H) (hq : ∀ a : Nat, a < H.size → ¬ N0 ≤ a → H1[a]? = H[a]?) : Sta N0 r U H1 := by
  obtain ⟨h1, ⟨f, h2⟩, h3, h4⟩ := h
  exact ⟨h1.kept hq, ⟨f, h2.kept hq⟩, h3, h4⟩
theorem Wl_get {φ : Nat → Nat} {E : Nat → va_E} {L : List Nat} {k a : Nat} (h : L[k]? = some a) : (Wl φ E L)[k]? = some (φ a, E a) := by
  unfold Wl; rw [List.getElem?_map, h]; rfl
/-- a cell of the abstract heap, at its place in the machine's -/
theorem Rel.at {D : va_G} {N0 : Nat} {r φ : Nat → Nat} {s : State} {G : AHp} {H : Heap} (h : Rel D N0 r s φ G H) {a : Nat} {c : ACell} (ha : 16 ≤ a) (hc : G a = some c) :
    ∃ e : va_E, va_P D classes [(φ a, e)] H ∧ Cz s φ c e ∧ okc G c ∧ N0 ≤ φ a := by
  obtain ⟨L, E, h1, h2, h3, h4, h5, h6, h7⟩ := h
  have hm : a ∈ L := (h2 a).mpr ⟨ha, by rw [hc]; simp⟩
  obtain ⟨k, hk⟩ := List.getElem?_of_mem hm
  refine ⟨E a, fun j q hq => ?_, (h3 a c ha hc).1, (h3 a c ha hc).2, h5.2 k _ (Wl_get hk)⟩
  have h0 : j < 1 := (List.getElem?_eq_some_iff.mp hq).1
  rw [show j = 0 by omega] at hq
  cases hq
  exact h4 k _ (Wl_get hk)
theorem Rel.inj {D : va_G} {N0 : Nat} {r φ : Nat → Nat} {s : State} {G : AHp} {H : Heap} (h : Rel D N0 r s φ G H) {a b : Nat} (ha : 16 ≤ a) (ga : G a ≠ none) (hb : 16 ≤ b) (gb : G b ≠ none) (e : φ a = φ b) : a = b := by
  obtain ⟨L, E, h1, h2, h3, h4, h5, h6, h7⟩ := h
  obtain ⟨i, hi⟩ := List.getElem?_of_mem ((h2 a).mpr ⟨ha, ga⟩)
  obtain ⟨j, hj⟩ := List.getElem?_of_mem ((h2 b).mpr ⟨hb, gb⟩)
  have := h5.1 i j _ _ (Wl_get hi) (Wl_get hj) e
  subst this
  rw [hi] at hj
  exact Option.some.inj hj
theorem up_dom {G : AHp} {a : Nat} {c : ACell} (ga : G a ≠ none) (b : Nat) : up G a c b ≠ none ↔ G b ≠ none := by
  by_cases e : b = a
  · subst e; rw [up_s]; simp [ga]
  · rw [up_n e]
theorem Wl_set {φ : Nat → Nat} {E : Nat → va_E} {L : List Nat} (hn : L.Nodup) {k a : Nat} {e' : va_E} (h : L[k]? = some a) : (Wl φ E L).set k (φ a, e') = Wl φ (fun b => if b = a then e' else E b) L := by
  apply List.ext_getElem?
  intro j
  unfold Wl
  rw [List.getElem?_set, List.getElem?_map, List.getElem?_map]
  by_cases e : k = j
  · subst e
    have hlt := (List.getElem?_eq_some_iff.mp h).1
    rw [if_pos rfl, if_pos (by simpa using hlt), h]
    show some (φ a, e') = some (φ a, if a = a then e' else E a)
    rw [if_pos rfl]
  · rw [if_neg e]
    cases hj : L[j]? with
    | none => rfl
    | some b =>
      have hb : ¬ b = a := fun eb => by
        subst eb
        have h1 := (List.getElem?_eq_some_iff.mp h)
        have h2 := (List.getElem?_eq_some_iff.mp hj)
        obtain ⟨l1, g1⟩ := h1
        obtain ⟨l2, g2⟩ := h2
        exact e ((List.getElem_inj hn).mp (g1.trans g2.symm))
      show some (φ b, E b) = some (φ b, if b = a then e' else E b)
      rw [if_neg hb]
/-- a cell, laid bare for a write: what the machine's rows ask, and the way back -/
theorem Rel.gap {D : va_G} {N0 : Nat} {r φ : Nat → Nat} {s : State} {G : AHp} {H : Heap} (h : Rel D N0 r s φ G H) {a : Nat} {c : ACell} (ha : 16 ≤ a) (hc : G a = some c) :
    ∃ (L : List Nat) (E : Nat → va_E) (k : Nat), (Wl φ E L)[k]? = some (φ a, E a) ∧ va_P D classes (Wl φ E L) H ∧ va_D (fun q => N0 ≤ q) (Wl φ E L) ∧ Cz s φ c (E a) ∧ okc G c ∧
      ∀ (c' : ACell) (e' : va_E) (H1 : Heap), Cz s φ c' e' → okc G c' → va_P D classes ((Wl φ E L).set k (φ a, e')) H1 → va_D (fun q => N0 ≤ q) ((Wl φ E L).set k (φ a, e')) → (∀ q : Nat, q < N0 → H1[q]? = H[q]?) → Rel D N0 r s φ (up G a c') H1 := by
  obtain ⟨L, E, h1, h2, h3, h4, h5, h6, h7⟩ := h
  have ga : G a ≠ none := by rw [hc]; simp
  obtain ⟨k, hk⟩ := List.getElem?_of_mem ((h2 a).mpr ⟨ha, ga⟩)
  refine ⟨L, E, k, Wl_get hk, h4, h5, (h3 a c ha hc).1, (h3 a c ha hc).2, fun c' e' H1 hz hok hP hD hX => ?_⟩
  have hdom : ∀ b, up G a c' b ≠ none ↔ G b ≠ none := up_dom ga
  rw [Wl_set h1 hk] at hP hD
  refine ⟨L, _, h1, fun b => by rw [hdom b]; exact h2 b, fun b x hb hx => ?_, hP, hD, h6, fun b x hb hx => ?_⟩
  · show Cz s _ x (if b = a then e' else E b) ∧ _
    by_cases e : b = a
    · subst e
      rw [up_s] at hx
      cases hx
      rw [if_pos rfl]
      exact ⟨hz, okc_mono (fun x hx => (hdom x).mpr hx) hok⟩
    · rw [up_n e] at hx
      rw [if_neg e]
      exact ⟨(h3 b x hb hx).1, okc_mono (fun x hx => (hdom x).mpr hx) (h3 b x hb hx).2⟩
  · rw [up_n (show b ≠ a by omega)] at hx
    obtain ⟨e0, n, f, e1, e2, e3⟩ := h7 b x hb hx
    exact ⟨e0, n, f, e1, e2.kept (hX _ e3), e3⟩
/-- the heap, laid bare for a new cell -/
theorem Rel.gapX {D : va_G} {N0 : Nat} {r φ : Nat → Nat} {s : State} {G : AHp} {H : Heap} (h : Rel D N0 r s φ G H) {a : Nat} (ha : 16 ≤ a) (ga : G a = none) :
    ∃ (L : List Nat) (E : Nat → va_E), (∀ (k : Nat) (x : Nat × va_E), (Wl φ E L)[k]? = some x → ∃ b, 16 ≤ b ∧ G b ≠ none ∧ x.1 = φ b) ∧ va_P D classes (Wl φ E L) H ∧ va_D (fun q => N0 ≤ q) (Wl φ E L) ∧ (∀ q b, okn G b → va_up φ a q b = φ b) ∧
      ∀ (q : Nat) (c' : ACell) (e' : va_E) (H1 : Heap), Cz s (va_up φ a q) c' e' → okc (up G a c') c' → va_P D classes (Wl φ E L ++ [(q, e')]) H1 → va_D (fun q => N0 ≤ q) (Wl φ E L ++ [(q, e')]) → (∀ q : Nat, q < N0 → H1[q]? = H[q]?) → Rel D N0 r s (va_up φ a q) (up G a c') H1 := by
  have hφ : ∀ q b, okn G b → va_up φ a q b = φ b := fun q b hb => by
    have : b ≠ a := fun e => by
      subst e
      rcases hb with hb | hb
      · omega
      · exact hb ga
    exact if_neg this
  obtain ⟨L, E, h1, h2, h3, h4, h5, h6, h7⟩ := h
  refine ⟨L, E, fun k x hx => ?_, h4, h5, hφ, fun q c' e' H1 hz hk hP hD hX => ?_⟩
  · unfold Wl at hx
    rw [List.getElem?_map] at hx
    cases hk : L[k]? with
    | none => rw [hk] at hx; cases hx
    | some b =>
      rw [hk] at hx
      cases hx
      exact ⟨b, ((h2 b).mp (List.mem_of_getElem? hk)).1, ((h2 b).mp (List.mem_of_getElem? hk)).2, rfl⟩
  have haL : a ∉ L := fun z => ((h2 a).mp z).2 ga
  have hone : ∀ b ∈ L, va_up φ a q b = φ b := fun b hb => hφ q b (Or.inr ((h2 b).mp hb).2)
  have hW : Wl (va_up φ a q) (fun b => if b = a then e' else E b) (L ++ [a]) = Wl φ E L ++ [(q, e')] := by
    unfold Wl
    rw [List.map_append]
    congr 1
    · apply List.map_congr_left
      intro b hb
      show (va_up φ a q b, if b = a then e' else E b) = (φ b, E b)
      rw [hone b hb, if_neg (show ¬ b = a from fun e => haL (e ▸ hb))]
    · show [(va_up φ a q a, if a = a then e' else E a)] = [(q, e')]
      rw [if_pos rfl, show va_up φ a q a = q from if_pos rfl]
  have hmono : ∀ b, G b ≠ none → up G a c' b ≠ none := fun b hb => up_ne hb
  refine ⟨L ++ [a], fun b => if b = a then e' else E b, ?_, fun b => ?_, fun b x hb hx => ?_, ?_, ?_, fun b hb => ?_, fun b x hb hx => ?_⟩
  · exact List.nodup_append.mpr ⟨h1, by simp, fun x hx y hy => by
      simp at hy; subst hy; exact fun e => haL (e ▸ hx)⟩
  · rw [List.mem_append, List.mem_singleton]
    by_cases e : b = a
    · subst e; rw [up_s]; simp [ha]
    · rw [up_n e, h2 b]; simp [e]
  · show Cz s _ x (if b = a then e' else E b) ∧ _
    by_cases e : b = a
    · subst e
      rw [up_s] at hx
      cases hx
      rw [if_pos rfl]
      exact ⟨hz, hk⟩
    · rw [up_n e] at hx
      rw [if_neg e]
      exact ⟨Cz_eq (hφ q) (h3 b x hb hx).2 (h3 b x hb hx).1, okc_mono hmono (h3 b x hb hx).2⟩
  · rw [hW]; exact hP
  · rw [hW]; exact hD
  · rw [show va_up φ a q b = φ b from if_neg (by omega)]
    exact h6 b hb
  · rw [up_n (show b ≠ a by omega)] at hx
    obtain ⟨e0, n, f, e1, e2, e3⟩ := h7 b x hb hx
    exact ⟨e0, n, f, e1, e2.kept (hX _ e3), e3⟩
theorem Rel.gapN {D : va_G} {N0 : Nat} {r φ : Nat → Nat} {s : State} {G : AHp} {H : Heap} (h : Rel D N0 r s φ G H) {a : Nat} (ha : 16 ≤ a) (ga : G a = none) :
    ∃ (L : List Nat) (E : Nat → va_E), va_P D classes (Wl φ E L) H ∧ va_D (fun q => N0 ≤ q) (Wl φ E L) ∧ (∀ q b, okn G b → va_up φ a q b = φ b) ∧
      ∀ (q : Nat) (c' : ACell) (e' : va_E) (H1 : Heap), Cz s (va_up φ a q) c' e' → okc (up G a c') c' → va_P D classes (Wl φ E L ++ [(q, e')]) H1 → va_D (fun q => N0 ≤ q) (Wl φ E L ++ [(q, e')]) → (∀ q : Nat, q < N0 → H1[q]? = H[q]?) → Rel D N0 r s (va_up φ a q) (up G a c') H1 := by
  obtain ⟨L, E, -, h1, h2, h3, h4⟩ := h.gapX ha ga
  exact ⟨L, E, h1, h2, h3, h4⟩
theorem Rel.hi {D : va_G} {N0 : Nat} {r φ : Nat → Nat} {s : State} {G : AHp} {H : Heap} (h : Rel D N0 r s φ G H) {a : Nat} {c : ACell} (hc : G a = some c) (hn : ∀ n f, c ≠ aI n f) : 16 ≤ a := by
  obtain ⟨L, E, h1, h2, h3, h4, h5, h6, h7⟩ := h
  rcases Nat.lt_or_ge a 16 with ha | ha
  · obtain ⟨-, n, f, e1, -⟩ := h7 a c ha hc
    exact absurd e1 (hn n f)
  · exact ha
theorem Rel.hi2 {D : va_G} {N0 : Nat} {r φ : Nat → Nat} {s : State} {G : AHp} {H : Heap} (h : Rel D N0 r s φ G H) {a : Nat} {c : ACell} (hc : G a = some c) (hn : a ≠ 2) : 16 ≤ a := by
  obtain ⟨L, E, h1, h2, h3, h4, h5, h6, h7⟩ := h
  rcases Nat.lt_or_ge a 16 with ha | ha
  · exact absurd (h7 a c ha hc).1 hn
  · exact ha
theorem low_kept {N0 : Nat} {H0 H H1 : Heap} {locs locs1 : List Loc} (hN : N0 ≤ H0.size) (h : va_S (fun q => N0 ≤ q) H0 H locs) (h1 : va_S (fun q => N0 ≤ q) H0 H1 locs1) : ∀ q : Nat, q < N0 → H1[q]? = H[q]? := fun q hq => (h1.2.1 q (by omega) (by omega)).trans (h.2.1 q (by omega) (by omega)).symm
theorem Ext.put {φ0 φ : Nat → Nat} {G0 G : AHp} {a : Nat} {c : ACell} (h : Ext φ0 G0 φ G) : Ext φ0 G0 φ (up G a c) := ⟨fun b hb => ⟨up_ne (h.1 b hb).1, (h.1 b hb).2⟩, h.2⟩
theorem Ext.new {φ0 φ φ' : Nat → Nat} {G0 G : AHp} {a : Nat} {c : ACell} (h : Ext φ0 G0 φ G) (hφ : ∀ b, okn G b → φ' b = φ b) : Ext φ0 G0 φ' (up G a c) := ⟨fun b hb => ⟨up_ne (h.1 b hb).1, (hφ b (Or.inr (h.1 b hb).1)).trans (h.1 b hb).2⟩, fun b hb => (hφ b (Or.inl hb)).trans (h.2 b hb)⟩
theorem Ext.rf {φ : Nat → Nat} {G : AHp} : Ext φ G φ G := ⟨fun _ h => ⟨h, rfl⟩, fun _ _ => rfl⟩
theorem Ext.tr {φ0 φ1 φ2 : Nat → Nat} {G0 G1 G2 : AHp} (h : Ext φ0 G0 φ1 G1) (k : Ext φ1 G1 φ2 G2) : Ext φ0 G0 φ2 G2 := ⟨fun a ha => ⟨(k.1 a (h.1 a ha).1).1, (k.1 a (h.1 a ha).1).2.trans (h.1 a ha).2⟩, fun a ha => (k.2 a ha).trans (h.2 a ha)⟩
theorem Ext.ok {φ0 φ : Nat → Nat} {G0 G : AHp} (h : Ext φ0 G0 φ G) : ∀ a, okn G0 a → φ a = φ0 a := fun a ha => ha.elim (h.2 a) (fun q => (h.1 a q).2)
theorem LH_eq {la : Array Slot} {n : Nat} {G : AHp} {φ φ' : Nat → Nat} {ls : List (Option Value)} (h : ∀ a, okn G a → φ' a = φ a) (k : oks G ls) (hl : LH la n φ ls) : LH la n φ' ls := ⟨hl.1, hl.2.1, fun i v hv => by rw [tv_eq h (k v (List.mem_of_getElem? hv))]; exact hl.2.2 i v hv⟩
end
section
section RULES
variable {d : Nat} {y : MI} {pc : Nat} {ls : List (Option Value)} {st : List Value} {G : AHp} {kc ks : Nat} {Q : Option Value → AHp → Prop}
theorem A.pure {pc' : Nat} {st' : List Value} (h : ∀ {p : Program} {l : Launch} {e : Env} {R : Room} {s : State} {m : MethodId} {args : Array Value} {below : List Frame} {meth : Method} {c : Code} {H : Heap} {locs : List Loc} {cells slots : Nat} {Z : State → Prop} {la : Array Slot} {φ : Nat → Nat}, p.tables.exec = Jvm.exec → c.code = mcode y → W p l e R s m args below meth c H locs cells slots Z (F0 m pc' la (st'.map (tv φ))) → W p l e R s m args below meth c H locs cells slots Z (F0 m pc la (st.map (tv φ))))
    (hok : ∀ G, okl G st → okl G st') (k : A d y pc' ls st' G kc ks Q) : A d y pc ls st G kc ks Q :=
  fun l D N0 r φ0 G0 mc ms p e R s m args below meth c H locs cells slots φ la h0 h1 h2 h3 h4 h5 h6 h7 => h h0.1 h0.2.1 (k l D N0 r φ0 G0 mc ms p e R s m args below meth c H locs cells slots φ la h0 h1 h2 h3 h4 h5 h6 (hok G h7))
/-- a branch: on which side, the machine says -/
theorem A.br {P : Prop} {pc1 pc2 : Nat} {st' : List Value} (h : ∀ {p : Program} {l : Launch} {e : Env} {R : Room} {s : State} {m : MethodId} {args : Array Value} {below : List Frame} {meth : Method} {c : Code} {H : Heap} {locs : List Loc} {cells slots : Nat} {Z : State → Prop} {la : Array Slot} {φ : Nat → Nat}, p.tables.exec = Jvm.exec → c.code = mcode y → (P → W p l e R s m args below meth c H locs cells slots Z (F0 m pc1 la (st'.map (tv φ)))) → (¬ P → W p l e R s m args below meth c H locs cells slots Z (F0 m pc2 la (st'.map (tv φ)))) → W p l e R s m args below meth c H locs cells slots Z (F0 m pc la (st.map (tv φ))))
    (hok : ∀ G, okl G st → okl G st') (k1 : P → A d y pc1 ls st' G kc ks Q) (k2 : ¬ P → A d y pc2 ls st' G kc ks Q) : A d y pc ls st G kc ks Q :=
  fun l D N0 r φ0 G0 mc ms p e R s m args below meth c H locs cells slots φ la h0 h1 h2 h3 h4 h5 h6 h7 => h h0.1 h0.2.1 (fun hP => k1 hP l D N0 r φ0 G0 mc ms p e R s m args below meth c H locs cells slots φ la h0 h1 h2 h3 h4 h5 h6 (hok G h7)) (fun hP => k2 hP l D N0 r φ0 G0 mc ms p e R s m args below meth c H locs cells slots φ la h0 h1 h2 h3 h4 h5 h6 (hok G h7))
/-- fewer locals known -/
theorem A.drop {ls' : List (Option Value)} (h : ∀ (i : Nat) (v : Value), ls'[i]? = some (some v) → ls[i]? = some (some v)) (k : A d y pc ls' st G kc ks Q) : A d y pc ls st G kc ks Q :=
  fun l D N0 r φ0 G0 mc ms p e R s m args below meth c H locs cells slots φ la h0 h1 h2 h3 h4 h5 h6 h7 => k l D N0 r φ0 G0 mc ms p e R s m args below meth c H locs cells slots φ la h0 h1 h2 h3 h4 ⟨h5.1, h5.2.1, fun i v hv => h5.2.2 i v (h i v hv)⟩ (fun v hv => by
    obtain ⟨i, hi⟩ := List.getElem?_of_mem hv
    exact h6 v (List.mem_of_getElem? (h i v hi))) h7
/-- less room, weaker end -/
theorem A.room {kc' ks' : Nat} (h1 : kc' ≤ kc) (h2 : ks' ≤ ks) (k : A d y pc ls st G kc' ks' Q) : A d y pc ls st G kc ks Q :=
  fun l D N0 r φ0 G0 mc ms p e R s m args below meth c H locs cells slots φ la a0 a1 a2 a3 a4 a5 a6 a7 => k l D N0 r φ0 G0 mc ms p e R s m args below meth c H locs cells slots φ la a0 a1 a2 a3 ⟨Nat.le_trans (Nat.add_le_add_left h1 _) a4.1, Nat.le_trans (Nat.add_le_add_left h2 _) a4.2.1, a4.2.2⟩ a5 a6 a7
theorem A.deep {d' : Nat} (h : d' ≤ d) (k : A d' y pc ls st G kc ks Q) : A d y pc ls st G kc ks Q :=
  fun l D N0 r φ0 G0 mc ms p e R s m args below meth c H locs cells slots φ la a0 a1 a2 a3 a4 a5 a6 a7 => by
    obtain ⟨b1, b2, b3, b4, b5, b6, b7, b8, b9, b10, b11, b12, b13, b14⟩ := a0
    exact k l D N0 r φ0 G0 mc ms p e R s m args below meth c H locs cells slots φ la ⟨b1, b2, b3, b4, b5, b6, b7, b8, b9, b10, by omega, by omega, b13, b14⟩ a1 a2 a3 a4 a5 a6 a7
theorem A.post {Q' : Option Value → AHp → Prop} (h : ∀ v G, Q' v G → Q v G) (k : A d y pc ls st G kc ks Q') : A d y pc ls st G kc ks Q :=
  fun l D N0 r φ0 G0 mc ms p e R s m args below meth c H locs cells slots φ la a0 a1 a2 a3 a4 a5 a6 a7 T hT X => by
    obtain ⟨t, b1, o, b2, b3, b4, b5⟩ := k l D N0 r φ0 G0 mc ms p e R s m args below meth c H locs cells slots φ la a0 a1 a2 a3 a4 a5 a6 a7 T hT X
    obtain ⟨v, φ1, G1, c1, c2, c3⟩ := b4
    exact ⟨t, b1, o, b2, b3, ⟨v, φ1, G1, c1, h v G1 c2, c3⟩, b5⟩

theorem A.iconst {n : Int} {v : Int32} (hv : Int32.ofInt n = v) (hd : decode (mcode y) pc = .ok (.iconst n, 1)) (k : A d y (pc + 1) ls (.int v :: st) G kc ks Q) : A d y pc ls st G kc ks Q := A.pure (fun hx hb k => lv_iconst hx hb hd hv k) (fun _ h => okl_cons okv_i h) k
theorem A.bipush {n : Int} {v : Int32} (hv : (Int8.ofInt n).toInt32 = v) (hd : decode (mcode y) pc = .ok (.bipush n, 2)) (k : A d y (pc + 2) ls (.int v :: st) G kc ks Q) : A d y pc ls st G kc ks Q := A.pure (fun hx hb k => lv_bipush hx hb hd hv k) (fun _ h => okl_cons okv_i h) k
theorem A.sipush {n : Int} {v : Int32} (hv : (Int16.ofInt n).toInt32 = v) (hd : decode (mcode y) pc = .ok (.sipush n, 3)) (k : A d y (pc + 3) ls (.int v :: st) G kc ks Q) : A d y pc ls st G kc ks Q := A.pure (fun hx hb k => lv_sipush hx hb hd hv k) (fun _ h => okl_cons okv_i h) k
theorem A.lconst {n : Fin 2} {v : Int64} (hv : Int64.ofNat (n : Nat) = v) (hd : decode (mcode y) pc = .ok (.lconst n, 1)) (k : A d y (pc + 1) ls (.long v :: st) G kc ks Q) : A d y pc ls st G kc ks Q := A.pure (fun hx hb k => lv_lconst hx hb hd hv k) (fun _ h => okl_cons okv_l h) k
theorem A.null  (hd : decode (mcode y) pc = .ok (.aconst_null, 1)) (k : A d y (pc + 1) ls (.null :: st) G kc ks Q) : A d y pc ls st G kc ks Q := A.pure (fun hx hb k => lv_null hx hb hd k) (fun _ h => okl_cons okv_0 h) k
theorem A.iadd {x z : Int32} (hd : decode (mcode y) pc = .ok (.iadd, 1)) (k : A d y (pc + 1) ls (.int (x + z) :: st) G kc ks Q) : A d y pc ls (.int z :: .int x :: st) G kc ks Q := A.pure (fun hx hb k => lv_iadd hx hb hd k) (fun _ h => okl_cons okv_i (okl_tail (okl_tail h))) k
theorem A.isub {x z : Int32} (hd : decode (mcode y) pc = .ok (.isub, 1)) (k : A d y (pc + 1) ls (.int (x - z) :: st) G kc ks Q) : A d y pc ls (.int z :: .int x :: st) G kc ks Q := A.pure (fun hx hb k => lv_isub hx hb hd k) (fun _ h => okl_cons okv_i (okl_tail (okl_tail h))) k
theorem A.imul {x z : Int32} (hd : decode (mcode y) pc = .ok (.imul, 1)) (k : A d y (pc + 1) ls (.int (x * z) :: st) G kc ks Q) : A d y pc ls (.int z :: .int x :: st) G kc ks Q := A.pure (fun hx hb k => lv_imul hx hb hd k) (fun _ h => okl_cons okv_i (okl_tail (okl_tail h))) k
theorem A.iand {x z : Int32} (hd : decode (mcode y) pc = .ok (.iand, 1)) (k : A d y (pc + 1) ls (.int (x &&& z) :: st) G kc ks Q) : A d y pc ls (.int z :: .int x :: st) G kc ks Q := A.pure (fun hx hb k => lv_iand hx hb hd k) (fun _ h => okl_cons okv_i (okl_tail (okl_tail h))) k
theorem A.ior {x z : Int32} (hd : decode (mcode y) pc = .ok (.ior, 1)) (k : A d y (pc + 1) ls (.int (x ||| z) :: st) G kc ks Q) : A d y pc ls (.int z :: .int x :: st) G kc ks Q := A.pure (fun hx hb k => lv_ior hx hb hd k) (fun _ h => okl_cons okv_i (okl_tail (okl_tail h))) k
theorem A.ishl {x z : Int32} (hd : decode (mcode y) pc = .ok (.ishl, 1)) (k : A d y (pc + 1) ls (.int (x <<< (z &&& 31)) :: st) G kc ks Q) : A d y pc ls (.int z :: .int x :: st) G kc ks Q := A.pure (fun hx hb k => lv_ishl hx hb hd k) (fun _ h => okl_cons okv_i (okl_tail (okl_tail h))) k
theorem A.ishr {x z : Int32} (hd : decode (mcode y) pc = .ok (.ishr, 1)) (k : A d y (pc + 1) ls (.int (x >>> (z &&& 31)) :: st) G kc ks Q) : A d y pc ls (.int z :: .int x :: st) G kc ks Q := A.pure (fun hx hb k => lv_ishr hx hb hd k) (fun _ h => okl_cons okv_i (okl_tail (okl_tail h))) k
theorem A.idiv {x z : Int32} (hne : ¬ z = 0) (hd : decode (mcode y) pc = .ok (.idiv, 1)) (k : A d y (pc + 1) ls (.int (x / z) :: st) G kc ks Q) : A d y pc ls (.int z :: .int x :: st) G kc ks Q := A.pure (fun hx hb k => lv_idiv hx hb hd hne k) (fun _ h => okl_cons okv_i (okl_tail (okl_tail h))) k
theorem A.irem {x z : Int32} (hne : ¬ z = 0) (hd : decode (mcode y) pc = .ok (.irem, 1)) (k : A d y (pc + 1) ls (.int (x - x / z * z) :: st) G kc ks Q) : A d y pc ls (.int z :: .int x :: st) G kc ks Q := A.pure (fun hx hb k => lv_irem hx hb hd hne k) (fun _ h => okl_cons okv_i (okl_tail (okl_tail h))) k
theorem A.ladd {x z : Int64} (hd : decode (mcode y) pc = .ok (.ladd, 1)) (k : A d y (pc + 1) ls (.long (x + z) :: st) G kc ks Q) : A d y pc ls (.long z :: .long x :: st) G kc ks Q := A.pure (fun hx hb k => lv_ladd hx hb hd k) (fun _ h => okl_cons okv_l (okl_tail (okl_tail h))) k
theorem A.lmul {x z : Int64} (hd : decode (mcode y) pc = .ok (.lmul, 1)) (k : A d y (pc + 1) ls (.long (x * z) :: st) G kc ks Q) : A d y pc ls (.long z :: .long x :: st) G kc ks Q := A.pure (fun hx hb k => lv_lmul hx hb hd k) (fun _ h => okl_cons okv_l (okl_tail (okl_tail h))) k
theorem A.ldiv {x z : Int64} (hne : ¬ z = 0) (hd : decode (mcode y) pc = .ok (.ldiv, 1)) (k : A d y (pc + 1) ls (.long (x / z) :: st) G kc ks Q) : A d y pc ls (.long z :: .long x :: st) G kc ks Q := A.pure (fun hx hb k => lv_ldiv hx hb hd hne k) (fun _ h => okl_cons okv_l (okl_tail (okl_tail h))) k
theorem A.lrem {x z : Int64} (hne : ¬ z = 0) (hd : decode (mcode y) pc = .ok (.lrem, 1)) (k : A d y (pc + 1) ls (.long (x - x / z * z) :: st) G kc ks Q) : A d y pc ls (.long z :: .long x :: st) G kc ks Q := A.pure (fun hx hb k => lv_lrem hx hb hd hne k) (fun _ h => okl_cons okv_l (okl_tail (okl_tail h))) k
theorem A.lcmp {x z : Int64} (hd : decode (mcode y) pc = .ok (.lcmp, 1)) (k : A d y (pc + 1) ls (.int (lg_cmp x z) :: st) G kc ks Q) : A d y pc ls (.long z :: .long x :: st) G kc ks Q := A.pure (fun hx hb k => W.lcmp hx hb hd k) (fun _ h => okl_cons okv_i (okl_tail (okl_tail h))) k
theorem A.ineg {x : Int32} (hd : decode (mcode y) pc = .ok (.ineg, 1)) (k : A d y (pc + 1) ls (.int (-x) :: st) G kc ks Q) : A d y pc ls (.int x :: st) G kc ks Q := A.pure (fun hx hb k => lv_ineg hx hb hd k) (fun _ h => okl_cons okv_i (okl_tail h)) k
theorem A.i2l {x : Int32} (hd : decode (mcode y) pc = .ok (.i2l, 1)) (k : A d y (pc + 1) ls (.long x.toInt64 :: st) G kc ks Q) : A d y pc ls (.int x :: st) G kc ks Q := A.pure (fun hx hb k => lv_i2l hx hb hd rfl k) (fun _ h => okl_cons okv_l (okl_tail h)) k
theorem A.l2i {x : Int64} (hd : decode (mcode y) pc = .ok (.l2i, 1)) (k : A d y (pc + 1) ls (.int x.toInt32 :: st) G kc ks Q) : A d y pc ls (.long x :: st) G kc ks Q := A.pure (fun hx hb k => lv_l2i hx hb hd rfl k) (fun _ h => okl_cons okv_i (okl_tail h)) k
theorem A.dup {v : Value} (hc : v.category = 1) (hd : decode (mcode y) pc = .ok (.dup, 1)) (k : A d y (pc + 1) ls (v :: v :: st) G kc ks Q) : A d y pc ls (v :: st) G kc ks Q := A.pure (fun hx hb k => lv_dup hx hb hd ((tv_cat _ v).trans hc) k) (fun _ h => okl_cons (okl_head h) h) k
theorem A.pop {v : Value} (hc : v.category = 1) (hd : decode (mcode y) pc = .ok (.pop, 1)) (k : A d y (pc + 1) ls st G kc ks Q) : A d y pc ls (v :: st) G kc ks Q := A.pure (fun hx hb k => lv_pop hx hb hd ((tv_cat _ v).trans hc) k) (fun _ h => okl_tail h) k
theorem A.dup_x1 {v w : Value} (hc : v.category = 1) (hc2 : w.category = 1) (hd : decode (mcode y) pc = .ok (.dup_x1, 1)) (k : A d y (pc + 1) ls (v :: w :: v :: st) G kc ks Q) : A d y pc ls (v :: w :: st) G kc ks Q := A.pure (fun hx hb k => lv_dup_x1 hx hb hd ((tv_cat _ v).trans hc) ((tv_cat _ w).trans hc2) k) (fun _ h => okl_cons (okl_head h) (okl_cons (okl_head (okl_tail h)) (okl_cons (okl_head h) (okl_tail (okl_tail h))))) k
theorem A.dup2 {v w : Value} (hc : v.category = 1) (hc2 : w.category = 1) (hd : decode (mcode y) pc = .ok (.dup2, 1)) (k : A d y (pc + 1) ls (v :: w :: v :: w :: st) G kc ks Q) : A d y pc ls (v :: w :: st) G kc ks Q := A.pure (fun hx hb k => lv_dup2_11 hx hb hd ((tv_cat _ v).trans hc) ((tv_cat _ w).trans hc2) k) (fun _ h => okl_cons (okl_head h) (okl_cons (okl_head (okl_tail h)) h)) k
theorem A.goto {off : Int} (tgt : Nat) (ht : (pc : Int) + off = (tgt : Int)) (hd : decode (mcode y) pc = .ok (.goto off, 3)) (k : A d y tgt ls st G kc ks Q) : A d y pc ls st G kc ks Q := A.pure (fun hx hb k => lv_goto hx hb hd ht k) (fun _ h => h) k
theorem A.if_eq {x : Int32} {off : Int} (tgt : Nat) (ht : (pc : Int) + off = (tgt : Int)) (hd : decode (mcode y) pc = .ok (.ifCond .eq off, 3)) (kt : x = 0 → A d y tgt ls st G kc ks Q) (kf : ¬ x = 0 → A d y (pc + 3) ls st G kc ks Q) : A d y pc ls (.int x :: st) G kc ks Q := A.br (P := x = 0) (fun hx hb k1 k2 => lv_if_eq hx hb hd ht k1 k2) (fun _ h => okl_tail h) kt kf
theorem A.if_ne {x : Int32} {off : Int} (tgt : Nat) (ht : (pc : Int) + off = (tgt : Int)) (hd : decode (mcode y) pc = .ok (.ifCond .ne off, 3)) (kt : ¬ x = 0 → A d y tgt ls st G kc ks Q) (kf : x = 0 → A d y (pc + 3) ls st G kc ks Q) : A d y pc ls (.int x :: st) G kc ks Q := A.br (P := x = 0) (fun hx hb k1 k2 => lv_if_ne hx hb hd ht k2 k1) (fun _ h => okl_tail h) kf kt
theorem A.if_lt {x : Int32} {off : Int} (tgt : Nat) (ht : (pc : Int) + off = (tgt : Int)) (hd : decode (mcode y) pc = .ok (.ifCond .lt off, 3)) (kt : x < 0 → A d y tgt ls st G kc ks Q) (kf : ¬ x < 0 → A d y (pc + 3) ls st G kc ks Q) : A d y pc ls (.int x :: st) G kc ks Q := A.br (P := x < 0) (fun hx hb k1 k2 => lv_if_lt hx hb hd ht k1 k2) (fun _ h => okl_tail h) kt kf
theorem A.if_ge {x : Int32} {off : Int} (tgt : Nat) (ht : (pc : Int) + off = (tgt : Int)) (hd : decode (mcode y) pc = .ok (.ifCond .ge off, 3)) (kt : 0 ≤ x → A d y tgt ls st G kc ks Q) (kf : ¬ 0 ≤ x → A d y (pc + 3) ls st G kc ks Q) : A d y pc ls (.int x :: st) G kc ks Q := A.br (P := 0 ≤ x) (fun hx hb k1 k2 => lv_if_ge hx hb hd ht k1 k2) (fun _ h => okl_tail h) kt kf
theorem A.if_gt {x : Int32} {off : Int} (tgt : Nat) (ht : (pc : Int) + off = (tgt : Int)) (hd : decode (mcode y) pc = .ok (.ifCond .gt off, 3)) (kt : 0 < x → A d y tgt ls st G kc ks Q) (kf : ¬ 0 < x → A d y (pc + 3) ls st G kc ks Q) : A d y pc ls (.int x :: st) G kc ks Q := A.br (P := 0 < x) (fun hx hb k1 k2 => lv_if_gt hx hb hd ht k1 k2) (fun _ h => okl_tail h) kt kf
theorem A.if_le {x : Int32} {off : Int} (tgt : Nat) (ht : (pc : Int) + off = (tgt : Int)) (hd : decode (mcode y) pc = .ok (.ifCond .le off, 3)) (kt : x ≤ 0 → A d y tgt ls st G kc ks Q) (kf : ¬ x ≤ 0 → A d y (pc + 3) ls st G kc ks Q) : A d y pc ls (.int x :: st) G kc ks Q := A.br (P := x ≤ 0) (fun hx hb k1 k2 => lv_if_le hx hb hd ht k1 k2) (fun _ h => okl_tail h) kt kf
theorem A.icmp_eq {x z : Int32} {off : Int} (tgt : Nat) (ht : (pc : Int) + off = (tgt : Int)) (hd : decode (mcode y) pc = .ok (.if_icmp .eq off, 3)) (kt : x = z → A d y tgt ls st G kc ks Q) (kf : ¬ x = z → A d y (pc + 3) ls st G kc ks Q) : A d y pc ls (.int z :: .int x :: st) G kc ks Q := A.br (P := x = z) (fun hx hb k1 k2 => lv_icmp_eq hx hb hd ht k1 k2) (fun _ h => okl_tail (okl_tail h)) kt kf
theorem A.icmp_ne {x z : Int32} {off : Int} (tgt : Nat) (ht : (pc : Int) + off = (tgt : Int)) (hd : decode (mcode y) pc = .ok (.if_icmp .ne off, 3)) (kt : ¬ x = z → A d y tgt ls st G kc ks Q) (kf : x = z → A d y (pc + 3) ls st G kc ks Q) : A d y pc ls (.int z :: .int x :: st) G kc ks Q := A.br (P := x = z) (fun hx hb k1 k2 => lv_icmp_ne hx hb hd ht k2 k1) (fun _ h => okl_tail (okl_tail h)) kf kt
theorem A.icmp_lt {x z : Int32} {off : Int} (tgt : Nat) (ht : (pc : Int) + off = (tgt : Int)) (hd : decode (mcode y) pc = .ok (.if_icmp .lt off, 3)) (kt : x < z → A d y tgt ls st G kc ks Q) (kf : ¬ x < z → A d y (pc + 3) ls st G kc ks Q) : A d y pc ls (.int z :: .int x :: st) G kc ks Q := A.br (P := x < z) (fun hx hb k1 k2 => lv_icmp_lt hx hb hd ht k1 k2) (fun _ h => okl_tail (okl_tail h)) kt kf
theorem A.icmp_ge {x z : Int32} {off : Int} (tgt : Nat) (ht : (pc : Int) + off = (tgt : Int)) (hd : decode (mcode y) pc = .ok (.if_icmp .ge off, 3)) (kt : z ≤ x → A d y tgt ls st G kc ks Q) (kf : ¬ z ≤ x → A d y (pc + 3) ls st G kc ks Q) : A d y pc ls (.int z :: .int x :: st) G kc ks Q := A.br (P := z ≤ x) (fun hx hb k1 k2 => lv_icmp_ge hx hb hd ht k1 k2) (fun _ h => okl_tail (okl_tail h)) kt kf
theorem A.icmp_gt {x z : Int32} {off : Int} (tgt : Nat) (ht : (pc : Int) + off = (tgt : Int)) (hd : decode (mcode y) pc = .ok (.if_icmp .gt off, 3)) (kt : z < x → A d y tgt ls st G kc ks Q) (kf : ¬ z < x → A d y (pc + 3) ls st G kc ks Q) : A d y pc ls (.int z :: .int x :: st) G kc ks Q := A.br (P := z < x) (fun hx hb k1 k2 => lv_icmp_gt hx hb hd ht k1 k2) (fun _ h => okl_tail (okl_tail h)) kt kf
theorem A.icmp_le {x z : Int32} {off : Int} (tgt : Nat) (ht : (pc : Int) + off = (tgt : Int)) (hd : decode (mcode y) pc = .ok (.if_icmp .le off, 3)) (kt : x ≤ z → A d y tgt ls st G kc ks Q) (kf : ¬ x ≤ z → A d y (pc + 3) ls st G kc ks Q) : A d y pc ls (.int z :: .int x :: st) G kc ks Q := A.br (P := x ≤ z) (fun hx hb k1 k2 => lv_icmp_le hx hb hd ht k1 k2) (fun _ h => okl_tail (okl_tail h)) kt kf
theorem A.ifnull_r {a : Nat} {off : Int} (hd : decode (mcode y) pc = .ok (.ifnull off, 3)) (k : A d y (pc + 3) ls st G kc ks Q) : A d y pc ls (.ref a :: st) G kc ks Q := A.pure (fun hx hb k => lv_ifnull hx hb hd k) (fun _ h => okl_tail h) k
theorem A.ifnull_0 {off : Int} (tgt : Nat) (ht : (pc : Int) + off = (tgt : Int)) (hd : decode (mcode y) pc = .ok (.ifnull off, 3)) (k : A d y tgt ls st G kc ks Q) : A d y pc ls (.null :: st) G kc ks Q := A.pure (fun hx hb k => lv_ifnullN hx hb hd ht k) (fun _ h => okl_tail h) k
theorem A.ifnonnull_r {a : Nat} {off : Int} (tgt : Nat) (ht : (pc : Int) + off = (tgt : Int)) (hd : decode (mcode y) pc = .ok (.ifnonnull off, 3)) (k : A d y tgt ls st G kc ks Q) : A d y pc ls (.ref a :: st) G kc ks Q := A.pure (fun hx hb k => lv_ifnonnull hx hb hd ht k) (fun _ h => okl_tail h) k
theorem A.ifnonnull_0 {off : Int} (hd : decode (mcode y) pc = .ok (.ifnonnull off, 3)) (k : A d y (pc + 3) ls st G kc ks Q) : A d y pc ls (.null :: st) G kc ks Q := A.pure (fun hx hb k => lv_ifnonnullN hx hb hd k) (fun _ h => okl_tail h) k
theorem A.tableIn {x : Int32} {dflt lo hi off : Int} {offs : Array Int} {len : Nat} (tgt : Nat) (h1 : ¬ x.toInt < lo) (h2 : ¬ hi < x.toInt) (ho : offs[(x.toInt - lo).toNat]? = some off) (ht : (pc : Int) + off = (tgt : Int)) (hd : decode (mcode y) pc = .ok (.tableswitch dflt lo hi offs, len)) (k : A d y tgt ls st G kc ks Q) : A d y pc ls (.int x :: st) G kc ks Q := A.pure (fun hx hb k => lv_tableIn hx hb hd h1 h2 ho ht k) (fun _ h => okl_tail h) k
theorem A.tableOut {x : Int32} {dflt lo hi : Int} {offs : Array Int} {len : Nat} (tgt : Nat) (h : x.toInt < lo ∨ hi < x.toInt) (ht : (pc : Int) + dflt = (tgt : Int)) (hd : decode (mcode y) pc = .ok (.tableswitch dflt lo hi offs, len)) (k : A d y tgt ls st G kc ks Q) : A d y pc ls (.int x :: st) G kc ks Q := A.pure (fun hx hb k => lv_tableOut hx hb hd h ht k) (fun _ h => okl_tail h) k
theorem A.load {pc' i : Nat} {v : Value} (hl : ls[i]? = some (some v)) (h : ∀ {p : Program} {l : Launch} {e : Env} {R : Room} {s : State} {m : MethodId} {args : Array Value} {below : List Frame} {meth : Method} {c : Code} {H : Heap} {locs : List Loc} {cells slots : Nat} {Z : State → Prop} {la : Array Slot} {φ : Nat → Nat}, p.tables.exec = Jvm.exec → c.code = mcode y → la[i]? = some (.val (tv φ v)) → W p l e R s m args below meth c H locs cells slots Z (F0 m pc' la ((v :: st).map (tv φ))) → W p l e R s m args below meth c H locs cells slots Z (F0 m pc la (st.map (tv φ))))
    (k : A d y pc' ls (v :: st) G kc ks Q) : A d y pc ls st G kc ks Q :=
  fun l D N0 r φ0 G0 mc ms p e R s m args below meth c H locs cells slots φ la h0 h1 h2 h3 h4 h5 h6 h7 => h h0.1 h0.2.1 (h5.2.2 i v hl) (k l D N0 r φ0 G0 mc ms p e R s m args below meth c H locs cells slots φ la h0 h1 h2 h3 h4 h5 h6 (okl_cons (h6 v (List.mem_of_getElem? hl)) h7))
theorem A.iload_n {n : Fin 4} {x : Int32} (hl : ls[(n : Nat)]? = some (some (.int x))) (hd : decode (mcode y) pc = .ok (.iload_n n, 1)) (k : A d y (pc + 1) ls (.int x :: st) G kc ks Q) : A d y pc ls st G kc ks Q := A.load hl (fun hx hb hl k => lv_iload_n hx hb hd rfl hl k) k
theorem A.iload {n : Nat} {x : Int32} (hl : ls[n]? = some (some (.int x))) (hd : decode (mcode y) pc = .ok (.iload n, 2)) (k : A d y (pc + 2) ls (.int x :: st) G kc ks Q) : A d y pc ls st G kc ks Q := A.load hl (fun hx hb hl k => lv_iload hx hb hd hl k) k
theorem A.lload_n {n : Fin 4} {x : Int64} (hl : ls[(n : Nat)]? = some (some (.long x))) (hd : decode (mcode y) pc = .ok (.lload_n n, 1)) (k : A d y (pc + 1) ls (.long x :: st) G kc ks Q) : A d y pc ls st G kc ks Q := A.load hl (fun hx hb hl k => lv_lload_n hx hb hd rfl hl k) k
theorem A.lload {n : Nat} {x : Int64} (hl : ls[n]? = some (some (.long x))) (hd : decode (mcode y) pc = .ok (.lload n, 2)) (k : A d y (pc + 2) ls (.long x :: st) G kc ks Q) : A d y pc ls st G kc ks Q := A.load hl (fun hx hb hl k => lv_lload hx hb hd hl k) k
def isrf (v : Value) : Bool := match v with
  | .ref _ => true
  | .null => true
  | _ => false
theorem A.aload_n {n : Fin 4} {v : Value} (hl : ls[(n : Nat)]? = some (some v)) (hr : isrf v = true) (hd : decode (mcode y) pc = .ok (.aload_n n, 1)) (k : A d y (pc + 1) ls (v :: st) G kc ks Q) : A d y pc ls st G kc ks Q := by
  cases v <;> first | (cases hr; done) | exact A.load hl (fun hx hb hl k => lv_aload_n hx hb hd rfl hl k) k | exact A.load hl (fun hx hb hl k => lv_aload_nN hx hb hd rfl hl k) k
theorem A.aload {n : Nat} {v : Value} (hl : ls[n]? = some (some v)) (hr : isrf v = true) (hd : decode (mcode y) pc = .ok (.aload n, 2)) (k : A d y (pc + 2) ls (v :: st) G kc ks Q) : A d y pc ls st G kc ks Q := by
  cases v <;> first | (cases hr; done) | exact A.load hl (fun hx hb hl k => lv_aload hx hb hd hl k) k | exact A.load hl (fun hx hb hl k => lv_aloadN hx hb hd hl k) k
/-- nothing of two words lies just below the place -/
def okst (ls : List (Option Value)) (i : Nat) : Bool := match i with
  | 0 => true
  | j + 1 => match ls[j]? with
    | some (some v) => v.category != 2
    | _ => true
theorem LH_set1 {la la' : Array Slot} {n i : Nat} {φ : Nat → Nat} {ls : List (Option Value)} {v : Value} (h : LH la n φ ls) (hi : i < n) (hc : v.category = 1) (hp : okst ls i = true) (hs : storeLocals la i (tv φ v) = some la') : LH la' n φ (ls.set i (some v)) := by
  have hc' : (tv φ v).category = 1 := (tv_cat φ v).trans hc
  have key : ∀ l : List (Nat × Value), lv_has la n l → lv_has la' n ((i, tv φ v) :: l.filter (fun q => !(q.1 == i) && !(q.1 + 1 == i && q.2.category == 2))) := fun l hl => by
    obtain ⟨la2, e, h2⟩ := lv_store1 (v := tv φ v) hl hi hc'
    rw [hs] at e
    cases e
    exact h2
  have h0 := key [] ⟨h.1, h.2.1, fun q hq => by cases hq⟩
  refine ⟨h0.1, h0.2.1, fun j w hw => ?_⟩
  by_cases e : j = i
  · subst e
    have hlt : j < ls.length := by
      have := (List.getElem?_eq_some_iff.mp hw).1
      simpa using this
    rw [List.getElem?_set_self hlt] at hw
    cases hw
    exact h0.2.2 (j, _) List.mem_cons_self
  · rw [List.getElem?_set_ne (Ne.symm e)] at hw
    have h1 := key [(j, tv φ w)] ⟨h.1, h.2.1, fun q hq => by
      rw [List.mem_singleton] at hq
      subst hq
      exact h.2.2 j w hw⟩
    refine h1.2.2 (j, tv φ w) (List.mem_cons_of_mem _ (List.mem_filter.mpr ⟨List.mem_singleton.mpr rfl, ?_⟩))
    have hcat : j + 1 = i → w.category ≠ 2 := fun ei => by
      subst ei
      unfold okst at hp
      simp only [hw] at hp
      simpa using hp
    simp only [tv_cat, Bool.and_eq_true, Bool.not_eq_true', Bool.and_eq_false_iff, beq_eq_false_iff_ne, ne_eq]
    refine ⟨e, ?_⟩
    by_cases ei : j + 1 = i
    · exact Or.inr (by simpa using hcat ei)
    · exact Or.inl ei
theorem LH_set2 {la la' : Array Slot} {n i : Nat} {φ : Nat → Nat} {ls : List (Option Value)} {v : Value} (h : LH la n φ ls) (hi : i + 1 < n) (hc : v.category = 2) (hp : okst ls i = true) (hs : storeLocals la i (tv φ v) = some la') : LH la' n φ ((ls.set i (some v)).set (i + 1) none) := by
  have hc' : (tv φ v).category = 2 := (tv_cat φ v).trans hc
  have key : ∀ l : List (Nat × Value), lv_has la n l → lv_has la' n ((i, tv φ v) :: l.filter (fun q => !(q.1 == i) && (!(q.1 == i + 1) && !(q.1 + 1 == i && q.2.category == 2)))) := fun l hl => by
    obtain ⟨la2, e, h2⟩ := lv_store2 (v := tv φ v) hl hi hc'
    rw [hs] at e
    cases e
    exact h2
  have h0 := key [] ⟨h.1, h.2.1, fun q hq => by cases hq⟩
  refine ⟨h0.1, h0.2.1, fun j w hw => ?_⟩
  by_cases e1 : j = i + 1
  · subst e1
    have hlt : i + 1 < (ls.set i (some v)).length := by
      have := (List.getElem?_eq_some_iff.mp hw).1
      simpa using this
    rw [List.getElem?_set_self hlt] at hw
    cases hw
  · rw [List.getElem?_set_ne (Ne.symm e1)] at hw
    by_cases e : j = i
    · subst e
      have hlt : j < ls.length := by
        have := (List.getElem?_eq_some_iff.mp hw).1
        simpa using this
      rw [List.getElem?_set_self hlt] at hw
      cases hw
      exact h0.2.2 (j, _) List.mem_cons_self
    · rw [List.getElem?_set_ne (Ne.symm e)] at hw
      have h1 := key [(j, tv φ w)] ⟨h.1, h.2.1, fun q hq => by
        rw [List.mem_singleton] at hq
        subst hq
        exact h.2.2 j w hw⟩
      refine h1.2.2 (j, tv φ w) (List.mem_cons_of_mem _ (List.mem_filter.mpr ⟨List.mem_singleton.mpr rfl, ?_⟩))
      have hcat : j + 1 = i → w.category ≠ 2 := fun ei => by
        subst ei
        unfold okst at hp
        simp only [hw] at hp
        simpa using hp
      simp only [tv_cat, Bool.and_eq_true, Bool.not_eq_true', Bool.and_eq_false_iff, beq_eq_false_iff_ne, ne_eq]
      refine ⟨e, e1, ?_⟩
      by_cases ei : j + 1 = i
      · exact Or.inr (by simpa using hcat ei)
      · exact Or.inl ei
theorem oks_set {G : AHp} {ls : List (Option Value)} {i : Nat} {v : Value} (h : oks G ls) (hv : okv G v) : oks G (ls.set i (some v)) := fun u hu => by
  rcases List.mem_or_eq_of_mem_set hu with h1 | h1
  · exact h u h1
  · cases h1; exact hv
theorem oks_set0 {G : AHp} {ls : List (Option Value)} {i : Nat} (h : oks G ls) : oks G (ls.set i none) := fun u hu => by
  rcases List.mem_or_eq_of_mem_set hu with h1 | h1
  · exact h u h1
  · cases h1
theorem A.store1 {pc' i : Nat} {v : Value} (hi : i < y.2.2.1) (hc : v.category = 1) (hp : okst ls i = true)
    (h : ∀ {p : Program} {l : Launch} {e : Env} {R : Room} {s : State} {m : MethodId} {args : Array Value} {below : List Frame} {meth : Method} {c : Code} {H : Heap} {locs : List Loc} {cells slots : Nat} {Z : State → Prop} {la : Array Slot} {φ : Nat → Nat}, p.tables.exec = Jvm.exec → c.code = mcode y → lv_has la y.2.2.1 [] → (∀ la' : Array Slot, storeLocals la i (tv φ v) = some la' → W p l e R s m args below meth c H locs cells slots Z (F0 m pc' la' (st.map (tv φ)))) → W p l e R s m args below meth c H locs cells slots Z (F0 m pc la ((v :: st).map (tv φ))))
    (k : A d y pc' (ls.set i (some v)) st G kc ks Q) : A d y pc ls (v :: st) G kc ks Q :=
  fun l D N0 r φ0 G0 mc ms p e R s m args below meth c H locs cells slots φ la h0 h1 h2 h3 h4 h5 h6 h7 => h h0.1 h0.2.1 ⟨h5.1, h5.2.1, fun q hq => by cases hq⟩ (fun la' hs => k l D N0 r φ0 G0 mc ms p e R s m args below meth c H locs cells slots φ la' h0 h1 h2 h3 h4 (LH_set1 h5 hi hc hp hs) (oks_set h6 (okl_head h7)) (okl_tail h7))
theorem A.store2 {pc' i : Nat} {v : Value} (hi : i + 1 < y.2.2.1) (hc : v.category = 2) (hp : okst ls i = true)
    (h : ∀ {p : Program} {l : Launch} {e : Env} {R : Room} {s : State} {m : MethodId} {args : Array Value} {below : List Frame} {meth : Method} {c : Code} {H : Heap} {locs : List Loc} {cells slots : Nat} {Z : State → Prop} {la : Array Slot} {φ : Nat → Nat}, p.tables.exec = Jvm.exec → c.code = mcode y → lv_has la y.2.2.1 [] → (∀ la' : Array Slot, storeLocals la i (tv φ v) = some la' → W p l e R s m args below meth c H locs cells slots Z (F0 m pc' la' (st.map (tv φ)))) → W p l e R s m args below meth c H locs cells slots Z (F0 m pc la ((v :: st).map (tv φ))))
    (k : A d y pc' ((ls.set i (some v)).set (i + 1) none) st G kc ks Q) : A d y pc ls (v :: st) G kc ks Q :=
  fun l D N0 r φ0 G0 mc ms p e R s m args below meth c H locs cells slots φ la h0 h1 h2 h3 h4 h5 h6 h7 => h h0.1 h0.2.1 ⟨h5.1, h5.2.1, fun q hq => by cases hq⟩ (fun la' hs => k l D N0 r φ0 G0 mc ms p e R s m args below meth c H locs cells slots φ la' h0 h1 h2 h3 h4 (LH_set2 h5 hi hc hp hs) (oks_set0 (oks_set h6 (okl_head h7))) (okl_tail h7))
theorem A.istore_n {n : Fin 4} {x : Int32} (hi : (n : Nat) < y.2.2.1) (hp : okst ls (n : Nat) = true) (hd : decode (mcode y) pc = .ok (.istore_n n, 1)) (k : A d y (pc + 1) (ls.set (n : Nat) (some (.int x))) st G kc ks Q) : A d y pc ls (.int x :: st) G kc ks Q := by
  refine A.store1 hi rfl hp ?_ k
  intro p l e R s m args below meth c H locs cells slots Z la φ hx hb hl kk
  obtain ⟨la', e', -⟩ := lv_store1 (v := tv φ (.int x)) hl hi rfl
  have kk := kk la' e'
  intro T hT X
  obtain ⟨t, a, b⟩ := kk T hT X
  refine ⟨t, ?_, b⟩
  have e' : storeLocals la (n : Nat) (tv φ (.int x)) = some la' := e'
  simp only [tv] at e'
  simp only [List.map_cons, tv]
  jvm_step X.here [X.here.top, ↓top_set X.here.top, hx, hb, hd, e']
  first | exact a | exact ⟨rfl, a⟩
theorem A.istore {n : Nat} {x : Int32} (hi : (n : Nat) < y.2.2.1) (hp : okst ls (n : Nat) = true) (hd : decode (mcode y) pc = .ok (.istore n, 2)) (k : A d y (pc + 2) (ls.set (n : Nat) (some (.int x))) st G kc ks Q) : A d y pc ls (.int x :: st) G kc ks Q := by
  refine A.store1 hi rfl hp ?_ k
  intro p l e R s m args below meth c H locs cells slots Z la φ hx hb hl kk
  obtain ⟨la', e', -⟩ := lv_store1 (v := tv φ (.int x)) hl hi rfl
  have kk := kk la' e'
  intro T hT X
  obtain ⟨t, a, b⟩ := kk T hT X
  refine ⟨t, ?_, b⟩
  have e' : storeLocals la (n : Nat) (tv φ (.int x)) = some la' := e'
  simp only [tv] at e'
  simp only [List.map_cons, tv]
  jvm_step X.here [X.here.top, ↓top_set X.here.top, hx, hb, hd, e']
  first | exact a | exact ⟨rfl, a⟩
theorem A.astore_nr {n : Fin 4} {x : Nat} (hi : (n : Nat) < y.2.2.1) (hp : okst ls (n : Nat) = true) (hd : decode (mcode y) pc = .ok (.astore_n n, 1)) (k : A d y (pc + 1) (ls.set (n : Nat) (some (.ref x))) st G kc ks Q) : A d y pc ls (.ref x :: st) G kc ks Q := by
  refine A.store1 hi rfl hp ?_ k
  intro p l e R s m args below meth c H locs cells slots Z la φ hx hb hl kk
  obtain ⟨la', e', -⟩ := lv_store1 (v := tv φ (.ref x)) hl hi rfl
  have kk := kk la' e'
  intro T hT X
  obtain ⟨t, a, b⟩ := kk T hT X
  refine ⟨t, ?_, b⟩
  have e' : storeLocals la (n : Nat) (tv φ (.ref x)) = some la' := e'
  simp only [tv] at e'
  simp only [List.map_cons, tv]
  jvm_step X.here [X.here.top, ↓top_set X.here.top, hx, hb, hd, e']
  first | exact a | exact ⟨rfl, a⟩
theorem A.astore_r {n : Nat} {x : Nat} (hi : (n : Nat) < y.2.2.1) (hp : okst ls (n : Nat) = true) (hd : decode (mcode y) pc = .ok (.astore n, 2)) (k : A d y (pc + 2) (ls.set (n : Nat) (some (.ref x))) st G kc ks Q) : A d y pc ls (.ref x :: st) G kc ks Q := by
  refine A.store1 hi rfl hp ?_ k
  intro p l e R s m args below meth c H locs cells slots Z la φ hx hb hl kk
  obtain ⟨la', e', -⟩ := lv_store1 (v := tv φ (.ref x)) hl hi rfl
  have kk := kk la' e'
  intro T hT X
  obtain ⟨t, a, b⟩ := kk T hT X
  refine ⟨t, ?_, b⟩
  have e' : storeLocals la (n : Nat) (tv φ (.ref x)) = some la' := e'
  simp only [tv] at e'
  simp only [List.map_cons, tv]
  jvm_step X.here [X.here.top, ↓top_set X.here.top, hx, hb, hd, e']
  first | exact a | exact ⟨rfl, a⟩
theorem A.astore_n0 {n : Fin 4} (hi : (n : Nat) < y.2.2.1) (hp : okst ls (n : Nat) = true) (hd : decode (mcode y) pc = .ok (.astore_n n, 1)) (k : A d y (pc + 1) (ls.set (n : Nat) (some .null)) st G kc ks Q) : A d y pc ls (.null :: st) G kc ks Q := by
  refine A.store1 hi rfl hp ?_ k
  intro p l e R s m args below meth c H locs cells slots Z la φ hx hb hl kk
  obtain ⟨la', e', -⟩ := lv_store1 (v := tv φ .null) hl hi rfl
  have kk := kk la' e'
  intro T hT X
  obtain ⟨t, a, b⟩ := kk T hT X
  refine ⟨t, ?_, b⟩
  simp only [tv] at e'
  simp only [List.map_cons, tv]
  jvm_step X.here [X.here.top, ↓top_set X.here.top, hx, hb, hd, e']
  first | exact a | exact ⟨rfl, a⟩
theorem A.astore_0 {n : Nat} (hi : (n : Nat) < y.2.2.1) (hp : okst ls (n : Nat) = true) (hd : decode (mcode y) pc = .ok (.astore n, 2)) (k : A d y (pc + 2) (ls.set (n : Nat) (some .null)) st G kc ks Q) : A d y pc ls (.null :: st) G kc ks Q := by
  refine A.store1 hi rfl hp ?_ k
  intro p l e R s m args below meth c H locs cells slots Z la φ hx hb hl kk
  obtain ⟨la', e', -⟩ := lv_store1 (v := tv φ .null) hl hi rfl
  have kk := kk la' e'
  intro T hT X
  obtain ⟨t, a, b⟩ := kk T hT X
  refine ⟨t, ?_, b⟩
  simp only [tv] at e'
  simp only [List.map_cons, tv]
  jvm_step X.here [X.here.top, ↓top_set X.here.top, hx, hb, hd, e']
  first | exact a | exact ⟨rfl, a⟩
theorem A.lstore_n {n : Fin 4} {x : Int64} (hi : (n : Nat) + 1 < y.2.2.1) (hp : okst ls (n : Nat) = true) (hd : decode (mcode y) pc = .ok (.lstore_n n, 1)) (k : A d y (pc + 1) ((ls.set (n : Nat) (some (.long x))).set ((n : Nat) + 1) none) st G kc ks Q) : A d y pc ls (.long x :: st) G kc ks Q := by
  refine A.store2 hi rfl hp ?_ k
  intro p l e R s m args below meth c H locs cells slots Z la φ hx hb hl kk
  obtain ⟨la', e', -⟩ := lv_store2 (v := tv φ (.long x)) hl hi rfl
  have kk := kk la' e'
  intro T hT X
  obtain ⟨t, a, b⟩ := kk T hT X
  refine ⟨t, ?_, b⟩
  simp only [tv] at e'
  simp only [List.map_cons, tv]
  jvm_step X.here [X.here.top, ↓top_set X.here.top, hx, hb, hd, e']
  first | exact a | exact ⟨rfl, a⟩
theorem A.lstore {n : Nat} {x : Int64} (hi : (n : Nat) + 1 < y.2.2.1) (hp : okst ls (n : Nat) = true) (hd : decode (mcode y) pc = .ok (.lstore n, 2)) (k : A d y (pc + 2) ((ls.set (n : Nat) (some (.long x))).set ((n : Nat) + 1) none) st G kc ks Q) : A d y pc ls (.long x :: st) G kc ks Q := by
  refine A.store2 hi rfl hp ?_ k
  intro p l e R s m args below meth c H locs cells slots Z la φ hx hb hl kk
  obtain ⟨la', e', -⟩ := lv_store2 (v := tv φ (.long x)) hl hi rfl
  have kk := kk la' e'
  intro T hT X
  obtain ⟨t, a, b⟩ := kk T hT X
  refine ⟨t, ?_, b⟩
  simp only [tv] at e'
  simp only [List.map_cons, tv]
  jvm_step X.here [X.here.top, ↓top_set X.here.top, hx, hb, hd, e']
  first | exact a | exact ⟨rfl, a⟩
theorem A.iinc {n : Nat} {k : Int} {x v : Int32} (hl : ls[n]? = some (some (.int x))) (hv : x + Int32.ofInt k = v) (hi : n < y.2.2.1) (hd : decode (mcode y) pc = .ok (.iinc n k, 3)) (kk : A d y (pc + 3) (ls.set n (some (.int v))) st G kc ks Q) : A d y pc ls st G kc ks Q :=
  fun l D N0 r φ0 G0 mc ms p e R s m args below meth c H locs cells slots φ la h0 h1 h2 h3 h4 h5 h6 h7 => by
    have hlx : la[n]? = some (.val (.int x)) := h5.2.2 n _ hl
    obtain ⟨la', e', -⟩ := lv_store1 (v := Value.int v) (l := []) ⟨h5.1, h5.2.1, fun q hq => by cases hq⟩ hi rfl
    have hokp : okst ls n = true := by
      unfold okst
      cases n with
      | zero => rfl
      | succ j =>
        cases hj : ls[j]? with
        | none => simp [hj]
        | some o =>
          cases o with
          | none => simp [hj]
          | some w =>
            simp only [hj]
            by_cases hw : w.category = 2
            · have h8 := h5.2.1.1 j (tv φ w) (h5.2.2 j w hj) ((tv_cat φ w).trans hw)
              rw [hlx] at h8
              cases h8
            · simpa using hw
    have kk2 := kk l D N0 r φ0 G0 mc ms p e R s m args below meth c H locs cells slots φ la' h0 h1 h2 h3 h4 (LH_set1 h5 hi rfl hokp e') (oks_set h6 okv_i) h7
    subst hv
    have hx := h0.1
    have hb := h0.2.1
    intro T hT X
    obtain ⟨t, a, b⟩ := kk2 T hT X
    refine ⟨t, ?_, b⟩
    jvm_step X.here [X.here.top, ↓top_set X.here.top, hx, hb, hd, hlx, e']
    exact a
end RULES
end
section
/-! ROWS OVER THE HEAP -/
def CK (ci : Nat) (C : String) (T : u_T) (N : Nat) (ty : Nat → FieldType) : Prop :=
  classes[ci]? = some (C, T, N) ∧ (∀ w ∈ u_ws C T N, w ∈ gt) ∧ (∀ k, k < N → parseFieldDescriptor (T k).2.2.1 = some (ty k)) ∧ (∀ a, a < N → ∀ b, b < N → a ≠ b → (T a).2.1 ≠ (T b).2.1)
/-- the field that the entry idx of own's pool names: the k-th of the class ci, of type t -/
def FL (own : String) (idx ci k : Nat) (t : FieldType) : Prop :=
  ∃ (C : String) (T : u_T) (N : Nat) (ty : Nat → FieldType), CK ci C T N ty ∧ k < N ∧ ty k = t ∧
    ((∃ ref, Cond.fieldLink own idx ref (T k).2.1 (T k).2.2.1 ∈ gt ∧ (ref = (T k).1 ∨ Cond.sameField ref (T k).1 (T k).2.1 (T k).2.2.1 ∈ gt)) ∨ ∃ host, Cond.fieldLinkNest own idx (T k).1 (T k).2.1 (T k).2.2.1 host ∈ nt)
/-- ... and it isn't final -/
def FP (own : String) (idx ci k : Nat) (t : FieldType) : Prop :=
  ∃ (C : String) (T : u_T) (N : Nat) (ty : Nat → FieldType), CK ci C T N ty ∧ k < N ∧ ty k = t ∧ (T k).2.2.2 = false ∧
    ((∃ ref, Cond.fieldLink own idx ref (T k).2.1 (T k).2.2.1 ∈ gt ∧ (ref = (T k).1 ∨ Cond.sameField ref (T k).1 (T k).2.1 (T k).2.2.1 ∈ gt)) ∨ ∃ host, Cond.fieldLinkNest own idx (T k).1 (T k).2.1 (T k).2.2.1 host ∈ nt)
/-- ... final, of own itself -/
def FF (own : String) (idx ci k : Nat) (t : FieldType) : Prop :=
  ∃ (C : String) (T : u_T) (N : Nat) (ty : Nat → FieldType), CK ci C T N ty ∧ k < N ∧ ty k = t ∧ (T k).2.2.2 = true ∧ (T k).1 = own ∧ Cond.fieldLink own idx (T k).1 (T k).2.1 (T k).2.2.1 ∈ gt
def fitv (t : FieldType) (v : Value) : Bool := match t, v with
  | .int, .int _ => true
  | .object _, .ref _ => true
  | .object _, .null => true
  | .array _, .ref _ => true
  | .array _, .null => true
  | _, _ => false
theorem fitv_ok {t : FieldType} {v : Value} (h : fitv t v = true) (φ : Nat → Nat) : narrow t (tv φ v) = tv φ v ∧ fits t (tv φ v) = true := by
  cases t <;> cases v <;> first | (cases h; done) | exact ⟨rfl, rfl⟩
section HEAP
variable {d : Nat} {y : MI} {pc : Nat} {ls : List (Option Value)} {st : List Value} {G : AHp} {kc ks : Nat} {Q : Option Value → AHp → Prop}
theorem A.getfield {idx ci k a : Nat} {t : FieldType} {fs : List Value} {v : Value} (hf : FL (mcls y) idx ci k t) (hd : decode (mcode y) pc = .ok (.getfield idx, 3)) (ha : G a = some (oB ci fs)) (hv : fs[k]? = some v) (kk : A d y (pc + 3) ls (v :: st) G kc ks Q) : A d y pc ls (.ref a :: st) G kc ks Q := by
  intro l D N0 r φ0 G0 mc ms p e R s m args below meth c H locs cells slots φ la h0 h1 h2 h3 h4 h5 h6 h7
  have h16 := h1.hi ha (fun n f h => by cases h)
  obtain ⟨e', hP, hz, hok, -⟩ := h1.at h16 ha
  have kk := kk l D N0 r φ0 G0 mc ms p e R s m args below meth c H locs cells slots φ la h0 h1 h2 h3 h4 h5 h6 (okl_cons (hok v (List.mem_of_getElem? hv)) (okl_tail h7))
  obtain ⟨hx, hb, hr, hml, hown, hts, hlocks, hnm, hK, hSt, hd1, hd2, hN, hnx⟩ := h0
  cases (show e' = _ from hz)
  obtain ⟨C, T, N, ty, ⟨hc, hin, hty, hnm⟩, hk, -, hl⟩ := hf
  have hv' : (fs.map (tv φ))[k]? = some (tv φ v) := by rw [List.getElem?_map, hv]; rfl
  rcases hl with ⟨ref, hl, hs⟩ | ⟨host, hl⟩
  · exact va_get (D := D) (ci := ci) hx hb hts hin hown hK hP 0 rfl hc k hk (hts _ hl) (fun x h => by
      rcases hs with rfl | hs
      · exact h
      · exact u_same (hts _ hs) x h) hv' hd kk
  · exact va_getN (D := D) (ci := ci) hx hb hts hin hown hK hP 0 rfl hc k hk (va_Nw.use rfl (hnx.1 _ hl)) (fun x h => h) hv' hd kk
theorem okc_set {G : AHp} {ci k : Nat} {fs : List Value} {v : Value} (h : okc G (oB ci fs)) (hv : okv G v) : okc G (oB ci (fs.set k v)) := fun u hu => by
  rcases List.mem_or_eq_of_mem_set hu with h1 | h1
  · exact h u h1
  · rw [h1]; exact hv
theorem A.putfield {idx ci k a : Nat} {t : FieldType} {fs : List Value} {v : Value} (hf : FP (mcls y) idx ci k t) (hd : decode (mcode y) pc = .ok (.putfield idx, 3)) (ha : G a = some (oB ci fs)) (hl : k < fs.length) (hfit : fitv t v = true) (kk : A d y (pc + 3) ls st (up G a (oB ci (fs.set k v))) kc ks Q) : A d y pc ls (v :: .ref a :: st) G kc ks Q := by
  intro l D N0 r φ0 G0 mc ms p e R s m args below meth c H locs cells slots φ la h0 h1 h2 h3 h4 h5 h6 h7
  have h16 := h1.hi ha (fun n f h => by cases h)
  obtain ⟨L, E, k0, hk0, hP, hD, hz, hok, back⟩ := h1.gap h16 ha
  have hz' : E a = .inr (ci, fs.map (tv φ)) := hz
  rw [hz'] at hk0
  have hmono : ∀ b, G b ≠ none → up G a (oB ci (fs.set k v)) b ≠ none := fun b hb => up_ne hb
  have fin : ∀ (H1 : Heap) (locs1 : List Loc), va_P D classes ((Wl φ E L).set k0 (φ a, .inr (ci, (fs.map (tv φ)).set k (tv φ v)))) H1 → va_D (fun q => N0 ≤ q) ((Wl φ E L).set k0 (φ a, .inr (ci, (fs.map (tv φ)).set k (tv φ v)))) → va_S (fun q => N0 ≤ q) s.heap H1 locs1 → W p l e R s m args below meth c H1 locs1 cells slots (MQ below (AQ D N0 r φ0 G0 Q) args s mc ms (fun q => N0 ≤ q)) (F0 m (pc + 3) la (st.map (tv φ))) := fun H1 locs1 hP1 hD1 hS1 =>
    kk l D N0 r φ0 G0 mc ms p e R s m args below meth c H1 locs1 cells slots φ la h0 (back (oB ci (fs.set k v)) _ H1 (by show _ = _; rw [List.map_set]) (okc_set hok (okl_head h7)) hP1 hD1 (low_kept h0.2.2.2.2.2.2.2.2.2.2.2.2.1 h3 hS1)) h2.put hS1 h4 h5 (oks_mono hmono h6) (okl_mono hmono (okl_tail (okl_tail h7)))
  obtain ⟨hx, hb, hr, hml, hown, hts, hlocks, hnm, hK, hSt, hd1, hd2, hN, hnx⟩ := h0
  obtain ⟨C, T, N, ty, ⟨hc, hin, hty, hnm⟩, hk, ht, hfin, hlk⟩ := hf
  have hpd : parseFieldDescriptor (T k).2.2.1 = some t := by rw [hty k hk, ht]
  obtain ⟨f1, f2⟩ := fitv_ok hfit φ
  rcases hlk with ⟨ref, hlk, hs⟩ | ⟨host, hlk⟩
  · exact va_put (D := D) (ci := ci) hx hb hts hin ty hty hnm hown hK hP hD h3 k0 hk0 hc k hk (hts _ hlk) (fun x h => by
      rcases hs with rfl | hs
      · exact h
      · exact u_same (hts _ hs) x h) hfin hpd f1 f2 (by simpa using hl) hd fin
  · exact va_putN (D := D) (ci := ci) hx hb hts hin ty hty hnm hown hK hP hD h3 k0 hk0 hc k hk (va_Nw.use rfl (hnx.1 _ hlk)) (fun x h => h) hfin hpd f1 f2 (by simpa using hl) hd fin
theorem A.putfin {idx ci k a : Nat} {t : FieldType} {fs : List Value} {v : Value} (hf : FF (mcls y) idx ci k t) (hi : y.1.name = "<init>") (hd : decode (mcode y) pc = .ok (.putfield idx, 3)) (ha : G a = some (oB ci fs)) (hl : k < fs.length) (hfit : fitv t v = true) (kk : A d y (pc + 3) ls st (up G a (oB ci (fs.set k v))) kc ks Q) : A d y pc ls (v :: .ref a :: st) G kc ks Q := by
  intro l D N0 r φ0 G0 mc ms p e R s m args below meth c H locs cells slots φ la h0 h1 h2 h3 h4 h5 h6 h7
  have h16 := h1.hi ha (fun n f h => by cases h)
  obtain ⟨L, E, k0, hk0, hP, hD, hz, hok, back⟩ := h1.gap h16 ha
  have hz' : E a = .inr (ci, fs.map (tv φ)) := hz
  rw [hz'] at hk0
  have hmono : ∀ b, G b ≠ none → up G a (oB ci (fs.set k v)) b ≠ none := fun b hb => up_ne hb
  have fin : ∀ (H1 : Heap) (locs1 : List Loc), va_P D classes ((Wl φ E L).set k0 (φ a, .inr (ci, (fs.map (tv φ)).set k (tv φ v)))) H1 → va_D (fun q => N0 ≤ q) ((Wl φ E L).set k0 (φ a, .inr (ci, (fs.map (tv φ)).set k (tv φ v)))) → va_S (fun q => N0 ≤ q) s.heap H1 locs1 → W p l e R s m args below meth c H1 locs1 cells slots (MQ below (AQ D N0 r φ0 G0 Q) args s mc ms (fun q => N0 ≤ q)) (F0 m (pc + 3) la (st.map (tv φ))) := fun H1 locs1 hP1 hD1 hS1 =>
    kk l D N0 r φ0 G0 mc ms p e R s m args below meth c H1 locs1 cells slots φ la h0 (back (oB ci (fs.set k v)) _ H1 (by show _ = _; rw [List.map_set]) (okc_set hok (okl_head h7)) hP1 hD1 (low_kept h0.2.2.2.2.2.2.2.2.2.2.2.2.1 h3 hS1)) h2.put hS1 h4 h5 (oks_mono hmono h6) (okl_mono hmono (okl_tail (okl_tail h7)))
  obtain ⟨hx, hb, hr, hml, hown, hts, hlocks, hname, hK, hSt, hd1, hd2, hN, hnx⟩ := h0
  obtain ⟨C, T, N, ty, ⟨hc, hin, hty, hnm⟩, hk, ht, hfin, hdecl, hlk⟩ := hf
  have hpd : parseFieldDescriptor (T k).2.2.1 = some t := by rw [hty k hk, ht]
  obtain ⟨f1, f2⟩ := fitv_ok hfit φ
  exact va_putF (D := D) (ci := ci) hx hb hts hin ty hty hnm hown hK hP hD h3 k0 hk0 hc k hk (hts _ hlk) (fun x h => h) hfin (hname.trans hi) hdecl hpd f1 f2 (by simpa using hl) hd fin
/-- an int array's element; the script's too -/
theorem A.iaload {a n j : Nat} {f : Nat → Int32} {i : Int32} (hd : decode (mcode y) pc = .ok (.iaload, 1)) (ha : G a = some (aI n f)) (hi : i.toInt = (j : Int)) (hj : j < n) (kk : A d y (pc + 1) ls (.int (f j) :: st) G kc ks Q) : A d y pc ls (.int i :: .ref a :: st) G kc ks Q := by
  intro l D N0 r φ0 G0 mc ms p e R s m args below meth c H locs cells slots φ la h0 h1 h2 h3 h4 h5 h6 h7
  have kk := kk l D N0 r φ0 G0 mc ms p e R s m args below meth c H locs cells slots φ la h0 h1 h2 h3 h4 h5 h6 (okl_cons okv_i (okl_tail (okl_tail h7)))
  obtain ⟨hx, hb, hr, hml, hown, hts, hlocks, hnm, hK, hSt, hd1, hd2, hN, hnx⟩ := h0
  have hcl : i.toNatClampNeg = j := by show i.toInt.toNat = j; omega
  have hin : vp_in i n := vp_in_iff.mpr ⟨by omega, by omega⟩
  rcases Nat.lt_or_ge a 16 with h16 | h16
  · obtain ⟨L, E, g1, g2, g3, g4, g5, g6, g7⟩ := h1
    obtain ⟨rfl, n', f', e1, ⟨scr, x1, x2, x3, x4, x5⟩, hlt⟩ := g7 a _ h16 ha
    cases e1
    refine W.iald (v := .int (f j)) (cell := scr) (a := r 2) hx hb x1 x2 x3 (by rw [x4]; exact hin) (by rw [hcl]; exact x5 j hj) rfl ?_ hd kk
    show [_, Value.ref (φ 2)] ++ _ = _
    rw [g6 2 (by omega)]
    rfl
  · obtain ⟨e', hP, ⟨cA, rfl, hA1, hA2⟩, hok, -⟩ := h1.at h16 ha
    have kk : W p l e R s m args below meth c H locs cells slots (MQ below (AQ D N0 r φ0 G0 Q) args s mc ms (fun q => N0 ≤ q)) (F0 m (pc + 1) la (.int (f i.toNatClampNeg) :: st.map (tv φ))) := by rw [hcl]; exact kk
    exact va_iald (tys := [(cA, .int)]) hx hb ⟨hK.1, fun k q hk => by
      have h0 : k < 1 := (List.getElem?_eq_some_iff.mp hk).1
      rw [show k = 0 by omega] at hk
      cases hk
      exact ⟨hA1, hA2⟩⟩ hP 0 0 rfl rfl hin hd kk
theorem one_ty {D : va_G} {s : State} (hK : va_K D classes [] s) {cA : ClassId} {ty : FieldType} (h1 : ArrOfT s cA ty) (h2 : va_RA s cA ty) : va_K D classes [(cA, ty)] s := ⟨hK.1, fun k q hk => by
  have h0 : k < 1 := (List.getElem?_eq_some_iff.mp hk).1
  rw [show k = 0 by omega] at hk
  cases hk
  exact ⟨h1, h2⟩⟩
theorem A.laload {a n j : Nat} {f : Nat → Int64} {i : Int32} (hd : decode (mcode y) pc = .ok (.laload, 1)) (ha : G a = some (aL n f)) (hi : i.toInt = (j : Int)) (hj : j < n) (kk : A d y (pc + 1) ls (.long (f j) :: st) G kc ks Q) : A d y pc ls (.int i :: .ref a :: st) G kc ks Q := by
  intro l D N0 r φ0 G0 mc ms p e R s m args below meth c H locs cells slots φ la h0 h1 h2 h3 h4 h5 h6 h7
  have kk := kk l D N0 r φ0 G0 mc ms p e R s m args below meth c H locs cells slots φ la h0 h1 h2 h3 h4 h5 h6 (okl_cons okv_l (okl_tail (okl_tail h7)))
  obtain ⟨hx, hb, hr, hml, hown, hts, hlocks, hnm, hK, hSt, hd1, hd2, hN, hnx⟩ := h0
  have hcl : i.toNatClampNeg = j := by show i.toInt.toNat = j; omega
  have hin : vp_in i n := vp_in_iff.mpr ⟨by omega, by omega⟩
  have h16 := h1.hi ha (fun n f h => by cases h)
  obtain ⟨e', hP, ⟨cA, rfl, hA1, hA2⟩, hok, -⟩ := h1.at h16 ha
  have kk : W p l e R s m args below meth c H locs cells slots (MQ below (AQ D N0 r φ0 G0 Q) args s mc ms (fun q => N0 ≤ q)) (F0 m (pc + 1) la (.long (f i.toNatClampNeg) :: st.map (tv φ))) := by rw [hcl]; exact kk
  exact va_lald (tys := [(cA, .long)]) hx hb (one_ty hK hA1 hA2) hP 0 0 rfl rfl hin hd kk
theorem va_rf_map {φ : Nat → Nat} {o : Option Nat} : va_rf (o.map φ) = tv φ (va_rf o) := by cases o <;> rfl
/-- an element of an array of objects -/
theorem A.aaload {a n j : Nat} {C : String} {f : Nat → Option Nat} {i : Int32} (hd : decode (mcode y) pc = .ok (.aaload, 1)) (ha : G a = some (aR (.object C) n f)) (hi : i.toInt = (j : Int)) (hj : j < n) (kk : A d y (pc + 1) ls (va_rf (f j) :: st) G kc ks Q) : A d y pc ls (.int i :: .ref a :: st) G kc ks Q := by
  intro l D N0 r φ0 G0 mc ms p e R s m args below meth c H locs cells slots φ la h0 h1 h2 h3 h4 h5 h6 h7
  have h16 := h1.hi ha (fun n f h => by cases h)
  obtain ⟨e', hP, ⟨cA, rfl, hA1, hA2⟩, hok, -⟩ := h1.at h16 ha
  have hokj : okv G (va_rf (f j)) := by
    cases hf : f j with
    | none => exact okv_0
    | some b => exact okv_r (hok j b hf)
  have kk := kk l D N0 r φ0 G0 mc ms p e R s m args below meth c H locs cells slots φ la h0 h1 h2 h3 h4 h5 h6 (okl_cons hokj (okl_tail (okl_tail h7)))
  obtain ⟨hx, hb, hr, hml, hown, hts, hlocks, hnm, hK, hSt, hd1, hd2, hN, hnx⟩ := h0
  have hcl : i.toNatClampNeg = j := by show i.toInt.toNat = j; omega
  have hin : vp_in i n := vp_in_iff.mpr ⟨by omega, by omega⟩
  have kk : W p l e R s m args below meth c H locs cells slots (MQ below (AQ D N0 r φ0 G0 Q) args s mc ms (fun q => N0 ≤ q)) (F0 m (pc + 1) la (va_rf ((f i.toNatClampNeg).map φ) :: st.map (tv φ))) := by rw [hcl, va_rf_map]; exact kk
  exact va_aldq (tys := [(cA, .object C)]) (f := fun j => (f j).map φ) hx hb (one_ty hK hA1 hA2) hP 0 0 rfl rfl hin hd kk
/-- a row of an array of int arrays -/
theorem A.aaload2 {a n j : Nat} {f : Nat → Option Nat} {i : Int32} (hd : decode (mcode y) pc = .ok (.aaload, 1)) (ha : G a = some (aR (.array .int) n f)) (hi : i.toInt = (j : Int)) (hj : j < n) (kk : A d y (pc + 1) ls (va_rf (f j) :: st) G kc ks Q) : A d y pc ls (.int i :: .ref a :: st) G kc ks Q := by
  intro l D N0 r φ0 G0 mc ms p e R s m args below meth c H locs cells slots φ la h0 h1 h2 h3 h4 h5 h6 h7
  have h16 := h1.hi ha (fun n f h => by cases h)
  obtain ⟨e', hP, ⟨cA, rfl, hA1, hA2⟩, hok, -⟩ := h1.at h16 ha
  have hokj : okv G (va_rf (f j)) := by
    cases hf : f j with
    | none => exact okv_0
    | some b => exact okv_r (hok j b hf)
  have kk := kk l D N0 r φ0 G0 mc ms p e R s m args below meth c H locs cells slots φ la h0 h1 h2 h3 h4 h5 h6 (okl_cons hokj (okl_tail (okl_tail h7)))
  obtain ⟨hx, hb, hr, hml, hown, hts, hlocks, hnm, hK, hSt, hd1, hd2, hN, hnx⟩ := h0
  have hcl : i.toNatClampNeg = j := by show i.toInt.toNat = j; omega
  have hin : vp_in i n := vp_in_iff.mpr ⟨by omega, by omega⟩
  have hlt : i.toNatClampNeg < n := by omega
  refine W.aald (v := va_rf ((f j).map φ)) (ty := .array .int) hx hb (hP 0 _ rfl) (hA1 n (fun j => va_rf ((f j).map φ))) rfl (fun q => by cases q) (by show ¬ (i < 0 ∨ (arrV _ _ _).slots.size ≤ _); rw [arrV_size]; exact hin) (by show (arrV cA n (fun j => va_rf ((f j).map φ))).slots[_]? = _; rw [arrV_read _ _ hlt, hcl]) rfl rfl hd ?_
  rw [va_rf_map]
  exact kk
theorem A.iastore {a n j : Nat} {f : Nat → Int32} {i x : Int32} (hd : decode (mcode y) pc = .ok (.iastore, 1)) (ha : G a = some (aI n f)) (h2a : a ≠ 2) (hi : i.toInt = (j : Int)) (hj : j < n) (kk : A d y (pc + 1) ls st (up G a (aI n (upd f j x))) kc ks Q) : A d y pc ls (.int x :: .int i :: .ref a :: st) G kc ks Q := by
  intro l D N0 r φ0 G0 mc ms p e R s m args below meth c H locs cells slots φ la h0 h1 h2 h3 h4 h5 h6 h7
  have h16 := h1.hi2 ha h2a
  have hcl : i.toNatClampNeg = j := by show i.toInt.toNat = j; omega
  have hin : vp_in i n := vp_in_iff.mpr ⟨by omega, by omega⟩
  obtain ⟨L, E, k0, hk0, hP, hD, ⟨cA, hz, hA1, hA2⟩, hok, back⟩ := h1.gap h16 ha
  rw [hz] at hk0
  have hmono : ∀ b, G b ≠ none → up G a (aI n (upd f j x)) b ≠ none := fun b hb => up_ne hb
  refine va_iast (tys := [(cA, .int)]) h0.1 h0.2.1 (one_ty h0.2.2.2.2.2.2.2.2.1 hA1 hA2) hP hD h3 k0 0 hk0 rfl hin hd (fun H1 locs1 hP1 hD1 hS1 => ?_)
  rw [hcl] at hP1 hD1
  exact kk l D N0 r φ0 G0 mc ms p e R s m args below meth c H1 locs1 cells slots φ la h0 (back (aI n (upd f j x)) _ H1 ⟨cA, rfl, hA1, hA2⟩ trivial hP1 hD1 (low_kept h0.2.2.2.2.2.2.2.2.2.2.2.2.1 h3 hS1)) h2.put hS1 h4 h5 (oks_mono hmono h6) (okl_mono hmono (okl_tail (okl_tail (okl_tail h7))))
theorem A.lastore {a n j : Nat} {f : Nat → Int64} {i : Int32} {x : Int64} (hd : decode (mcode y) pc = .ok (.lastore, 1)) (ha : G a = some (aL n f)) (hi : i.toInt = (j : Int)) (hj : j < n) (kk : A d y (pc + 1) ls st (up G a (aL n (vp_updL f j x))) kc ks Q) : A d y pc ls (.long x :: .int i :: .ref a :: st) G kc ks Q := by
  intro l D N0 r φ0 G0 mc ms p e R s m args below meth c H locs cells slots φ la h0 h1 h2 h3 h4 h5 h6 h7
  have h16 := h1.hi ha (fun n f h => by cases h)
  have hcl : i.toNatClampNeg = j := by show i.toInt.toNat = j; omega
  have hin : vp_in i n := vp_in_iff.mpr ⟨by omega, by omega⟩
  obtain ⟨L, E, k0, hk0, hP, hD, ⟨cA, hz, hA1, hA2⟩, hok, back⟩ := h1.gap h16 ha
  rw [hz] at hk0
  have hmono : ∀ b, G b ≠ none → up G a (aL n (vp_updL f j x)) b ≠ none := fun b hb => up_ne hb
  refine va_last (tys := [(cA, .long)]) h0.1 h0.2.1 (one_ty h0.2.2.2.2.2.2.2.2.1 hA1 hA2) hP hD h3 k0 0 hk0 rfl hin hd (fun H1 locs1 hP1 hD1 hS1 => ?_)
  rw [hcl] at hP1 hD1
  exact kk l D N0 r φ0 G0 mc ms p e R s m args below meth c H1 locs1 cells slots φ la h0 (back (aL n (vp_updL f j x)) _ H1 ⟨cA, rfl, hA1, hA2⟩ trivial hP1 hD1 (low_kept h0.2.2.2.2.2.2.2.2.2.2.2.2.1 h3 hS1)) h2.put hS1 h4 h5 (oks_mono hmono h6) (okl_mono hmono (okl_tail (okl_tail (okl_tail h7))))
theorem A.alen {a : Nat} {ty : FieldType} {x : vp_A} {v : Int32} (hd : decode (mcode y) pc = .ok (.arraylength, 1)) (ha : G a = some (.inl (ty, x))) (hv : Int32.ofNat x.1 = v) (kk : A d y (pc + 1) ls (.int v :: st) G kc ks Q) : A d y pc ls (.ref a :: st) G kc ks Q := by
  intro l D N0 r φ0 G0 mc ms p e R s m args below meth c H locs cells slots φ la h0 h1 h2 h3 h4 h5 h6 h7
  have kk := kk l D N0 r φ0 G0 mc ms p e R s m args below meth c H locs cells slots φ la h0 h1 h2 h3 h4 h5 h6 (okl_cons okv_i (okl_tail h7))
  obtain ⟨hx, hb, hr, hml, hown, hts, hlocks, hnm, hK, hSt, hd1, hd2, hN, hnx⟩ := h0
  rcases Nat.lt_or_ge a 16 with h16 | h16
  · obtain ⟨L, E, g1, g2, g3, g4, g5, g6, g7⟩ := h1
    obtain ⟨rfl, n', f', e1, ⟨scr, x1, x2, x3, x4, x5⟩, hlt⟩ := g7 a _ h16 ha
    cases e1
    refine W.alen (cell := scr) (a := r 2) (n := v) hx hb x1 x2 (by rw [x4]; exact hv) rfl ?_ hd kk
    show [Value.ref (φ 2)] ++ _ = _
    rw [g6 2 (by omega)]
    rfl
  · obtain ⟨e', hP, ⟨cA, rfl, hA1, hA2⟩, hok, -⟩ := h1.at h16 ha
    exact va_alen (tys := [(cA, ty)]) hx hb (one_ty hK hA1 hA2) hP 0 0 rfl rfl (by obtain ⟨n, f | f | f | f | f⟩ := x <;> exact hv) hd kk
/-- the length of the JDK's shared empty array -/
theorem A.alen1 (hd : decode (mcode y) pc = .ok (.arraylength, 1)) (kk : A d y (pc + 1) ls (.int 0 :: st) G kc ks Q) : A d y pc ls (.ref 1 :: st) G kc ks Q := by
  intro l D N0 r φ0 G0 mc ms p e R s m args below meth c H locs cells slots φ la h0 h1 h2 h3 h4 h5 h6 h7
  have kk := kk l D N0 r φ0 G0 mc ms p e R s m args below meth c H locs cells slots φ la h0 h1 h2 h3 h4 h5 h6 (okl_cons okv_i (okl_tail h7))
  obtain ⟨hx, hb, hr, hml, hown, hts, hlocks, hnm, hK, hSt, hd1, hd2, hN, hnx⟩ := h0
  obtain ⟨f, hT⟩ := hSt.2.1
  obtain ⟨L, E, g1, g2, g3, g4, g5, g6, g7⟩ := h1
  have e1 : φ 1 = r 1 := g6 1 (by omega)
  show W p l e R s m args below meth c H locs cells slots (MQ below (AQ D N0 r φ0 G0 Q) args s mc ms (fun q => N0 ≤ q)) (F0 m pc la (.ref (φ 1) :: st.map (tv φ)))
  rw [e1]
  exact va_tlen hx hb hT h3 rfl hd kk
/-- the JDK's shared empty array is read -/
theorem A.getstatic {idx : Nat} (hl : Cond.fieldLink (mcls y) idx "java/util/ArrayList" "DEFAULTCAPACITY_EMPTY_ELEMENTDATA" "[Ljava/lang/Object;" ∈ gt) (hd : decode (mcode y) pc = .ok (.getstatic idx, 3)) (kk : A d y (pc + 3) ls (.ref 1 :: st) G kc ks Q) : A d y pc ls st G kc ks Q := by
  intro l D N0 r φ0 G0 mc ms p e R s m args below meth c H locs cells slots φ la h0 h1 h2 h3 h4 h5 h6 h7
  have kk := kk l D N0 r φ0 G0 mc ms p e R s m args below meth c H locs cells slots φ la h0 h1 h2 h3 h4 h5 h6 (okl_cons (okv_r (Or.inl (by omega))) h7)
  obtain ⟨hx, hb, hr, hml, hown, hts, hlocks, hnm, hK, hSt, hd1, hd2, hN, hnx⟩ := h0
  obtain ⟨L, E, g1, g2, g3, g4, g5, g6, g7⟩ := h1
  have e1 : φ 1 = r 1 := g6 1 (by omega)
  have kk : W p l e R s m args below meth c H locs cells slots (MQ below (AQ D N0 r φ0 G0 Q) args s mc ms (fun q => N0 ≤ q)) (F0 m (pc + 3) la (.ref (φ 1) :: st.map (tv φ))) := kk
  rw [e1] at kk
  exact va_gets hx hb hSt.1 h3 hown (hts _ hl) (fun x h => h) hd kk
end HEAP
end
section
/-! RETURNS AND CALLS -/
section RET
variable {d : Nat} {y : MI} {pc : Nat} {ls : List (Option Value)} {st : List Value} {G : AHp} {kc ks : Nat} {Q : Option Value → AHp → Prop}
theorem A.iret {v : Int32} (hd : decode (mcode y) pc = .ok (.ireturn, 1)) (ht : y.2.2.2 = some .int) (h : Q (some (.int v)) G) : A d y pc ls [.int v] G kc ks Q := by
  intro l D N0 r φ0 G0 mc ms p e R s m args below meth c H locs cells slots φ la h0 h1 h2 h3 h4 h5 h6 h7
  obtain ⟨hx, hb, hr, hml, hown, hts, hlocks, hnm, hK, hSt, hd1, hd2, hN, hnx⟩ := h0
  refine W.widen (k := mc) (n := ms) (by omega) (by omega) ?_
  exact W.iret hx hb (hr.trans ht) (fun t ht hW => ⟨some (.int v), φ, G, rfl, h, h2, fun u hu => by cases hu; exact okv_i, by rw [ht]; exact h1.moved hW.alike, h3.F ht⟩) h3.2.2 hd hlocks
theorem A.zret {v : Int32} (hd : decode (mcode y) pc = .ok (.ireturn, 1)) (ht : y.2.2.2 = some .boolean) (hv : v = 0 ∨ v = 1) (h : Q (some (.int v)) G) : A d y pc ls [.int v] G kc ks Q := by
  intro l D N0 r φ0 G0 mc ms p e R s m args below meth c H locs cells slots φ la h0 h1 h2 h3 h4 h5 h6 h7
  obtain ⟨hx, hb, hr, hml, hown, hts, hlocks, hnm, hK, hSt, hd1, hd2, hN, hnx⟩ := h0
  refine W.widen (k := mc) (n := ms) (by omega) (by omega) ?_
  exact W.zret hx hb (hr.trans ht) (by rcases hv with rfl | rfl <;> rfl) (fun t ht hW => ⟨some (.int v), φ, G, rfl, h, h2, fun u hu => by cases hu; exact okv_i, by rw [ht]; exact h1.moved hW.alike, h3.F ht⟩) h3.2.2 hd hlocks
theorem A.vret (hd : decode (mcode y) pc = .ok (.return_, 1)) (ht : y.2.2.2 = none) (h : Q none G) : A d y pc ls [] G kc ks Q := by
  intro l D N0 r φ0 G0 mc ms p e R s m args below meth c H locs cells slots φ la h0 h1 h2 h3 h4 h5 h6 h7
  obtain ⟨hx, hb, hr, hml, hown, hts, hlocks, hnm, hK, hSt, hd1, hd2, hN, hnx⟩ := h0
  refine W.widen (k := mc) (n := ms) (by omega) (by omega) ?_
  exact W.vret hx hb (hr.trans ht) (fun t ht hW => ⟨none, φ, G, rfl, h, h2, (fun u hu => by cases hu), by rw [ht]; exact h1.moved hW.alike, h3.F ht⟩) h3.2.2 hd hlocks
theorem A.aret {v : Value} {rt : FieldType} (hd : decode (mcode y) pc = .ok (.areturn, 1)) (ht : y.2.2.2 = some rt) (hrt : (∃ n, rt = .object n) ∨ ∃ t, rt = .array t) (hv : isrf v = true) (h : Q (some v) G) : A d y pc ls [v] G kc ks Q := by
  intro l D N0 r φ0 G0 mc ms p e R s m args below meth c H locs cells slots φ la h0 h1 h2 h3 h4 h5 h6 h7
  obtain ⟨hx, hb, hr, hml, hown, hts, hlocks, hnm, hK, hSt, hd1, hd2, hN, hnx⟩ := h0
  refine W.widen (k := mc) (n := ms) (by omega) (by omega) ?_
  refine W.aret hx hb (hr.trans ht) hrt ?_ (fun t ht hW => ⟨some v, φ, G, rfl, h, h2, fun u hu => by cases hu; exact okl_head h7, by rw [ht]; exact h1.moved hW.alike, h3.F ht⟩) h3.2.2 hd hlocks
  cases v <;> first | (cases hv; done) | exact Or.inl rfl | exact Or.inr ⟨_, rfl⟩
end RET
/-- the locals of a method at its entry -/
def entl : List Value → List (Option Value)
  | [] => []
  | v :: vs => if v.category = 2 then some v :: none :: entl vs else some v :: entl vs
def ent (n : Nat) (As : List Value) : List (Option Value) := entl As ++ List.replicate (n - (entl As).length) none
theorem entl_args (φ : Nat → Nat) : ∀ (As : List Value) (b i : Nat) (v : Value), (entl As)[i]? = some (some v) → (b + i, tv φ v) ∈ lv_args b (As.map (tv φ))
  | [], b, i, v, h => by simp [entl] at h
  | w :: As, b, i, v, h => by
    simp only [List.map_cons, lv_args, tv_cat]
    unfold entl at h
    by_cases hc : w.category = 2
    · rw [if_pos hc] at h
      rw [if_pos hc]
      match i with
      | 0 => simp at h; subst h; exact List.mem_cons_self
      | 1 => simp at h
      | i + 2 =>
        have := entl_args φ As (b + 2) i v (by simpa using h)
        rw [show b + 2 + i = b + (i + 2) by omega] at this
        exact List.mem_cons_of_mem _ this
    · rw [if_neg hc] at h
      rw [if_neg hc]
      match i with
      | 0 => simp at h; subst h; exact List.mem_cons_self
      | i + 1 =>
        have := entl_args φ As (b + 1) i v (by simpa using h)
        rw [show b + 1 + i = b + (i + 1) by omega] at this
        exact List.mem_cons_of_mem _ this
theorem entl_len (φ : Nat → Nat) : ∀ As : List Value, (lg_sl (As.map (tv φ))).length = (entl As).length
  | [] => rfl
  | w :: As => by
    have ih := entl_len φ As
    simp only [lg_sl, List.map_cons, List.flatMap_cons, List.length_append, tv_cat] at ih ⊢
    unfold entl
    by_cases hc : w.category = 2
    · rw [if_pos hc, if_pos hc]; simp only [List.length_cons, List.length_nil]; omega
    · rw [if_neg hc, if_neg hc]; simp only [List.length_cons, List.length_nil]; omega
theorem ent_LH {φ : Nat → Nat} {n : Nat} {As : List Value} (h : (entl As).length ≤ n) : LH ((lg_sl (As.map (tv φ)) ++ List.replicate (n - (lg_sl (As.map (tv φ))).length) Slot.unset).toArray) n φ (ent n As) := by
  have h1 := lv_entry (As.map (tv φ)) (n := n) (by rw [entl_len]; exact h)
  refine ⟨h1.1, h1.2.1, fun i v hv => ?_⟩
  unfold ent at hv
  by_cases hi : i < (entl As).length
  · rw [List.getElem?_append_left hi] at hv
    have h2 := entl_args φ As 0 i v hv
    rw [Nat.zero_add] at h2
    exact h1.2.2 _ h2
  · rw [List.getElem?_append_right (by omega)] at hv
    have := List.eq_of_mem_replicate (List.mem_of_getElem? hv)
    cases this
theorem ent_ok {G : AHp} {n : Nat} {As : List Value} (h : okl G As) : oks G (ent n As) := by
  have key : ∀ As : List Value, okl G As → oks G (entl As) := by
    intro As
    induction As with
    | nil => intro _ v hv; cases hv
    | cons w As ih =>
      intro h v hv
      unfold entl at hv
      by_cases hc : w.category = 2
      · rw [if_pos hc] at hv
        rcases List.mem_cons.mp hv with e | hv
        · cases e; exact okl_head h
        · rcases List.mem_cons.mp hv with e | hv
          · cases e
          · exact ih (okl_tail h) v hv
      · rw [if_neg hc] at hv
        rcases List.mem_cons.mp hv with e | hv
        · cases e; exact okl_head h
        · exact ih (okl_tail h) v hv
  intro v hv
  rcases List.mem_append.mp hv with hv | hv
  · exact key As h v hv
  · have := List.eq_of_mem_replicate hv
    cases this
/-- what a method's name and bytes must be for a call -/
def Cal (y : MI) (n : Nat) : Prop := Cond.initialized y.1.cls ∈ gt ∧ Cond.code y.1 y.2.1 y.2.2.1 y.2.2.2 ∈ gt ∧ (y.1.cls ≠ "java/lang/invoke/MethodHandle" ∧ y.1.cls ≠ "java/lang/invoke/VarHandle" ∧ (parseMethodDescriptor y.1.desc).map (fun d => d.parameters.length) = some n) ∧ y.2.2.1 ≤ 21 ∧ plainName y.1.cls = true
abbrev wsO (y : MI) : List Cond := Cond.code y.1 y.2.1 y.2.2.1 y.2.2.2 :: gt
abbrev rmO (d kc ks : Nat) : Room := { frames := d, cells := kc, slots := ks, locals := 40 * d }
def PcO (D : va_G) (N0 : Nat) (r φ : Nat → Nat) (G : AHp) (H : Heap) (As : List Value) : Array Value → State → Prop := fun v U =>
  v = (As.map (tv φ)).toArray ∧ U.heap = H ∧ N0 ≤ H.size ∧ va_K D classes [] U ∧ Sta N0 r U H ∧ NX U ∧ Rel D N0 r U φ G H ∧ okl G As
/-- a judgement of a method at its entry is a contract of it -/
theorem A.met {l : Launch} {d : Nat} {y : MI} {n : Nat} {As : List Value} {G : AHp} {kc ks : Nat} {Q : Option Value → AHp → Prop} {D : va_G} {N0 : Nat} {r φ : Nat → Nat} {H : Heap} (hy : Cal y n) (hlen : (entl As).length ≤ y.2.2.1) (h : A d y 0 (ent y.2.2.1 As) [] G kc ks Q) :
    Met l y.1 (wsO y) (rmO d kc ks) (PcO D N0 r φ G H As) (AQ D N0 r φ G Q) kc ks (fun q => N0 ≤ q) := by
  refine Met.ofW (cc := y.2.1) (maxL := y.2.2.1) (ret := y.2.2.2) hy.2.2.2.2 rfl ?_
  intro p e s m args below meth c s₁ B hml hv
  obtain ⟨rfl, hH, hN, hK, hSt, hnx, hR, hok⟩ := hv
  have hts := atoms_spec (ws := wsO y) B.pre
  rw [lg_entry_eq]
  have hSt' : Sta N0 r s s.heap := by rw [hH]; exact hSt
  have hR' : Rel D N0 r s φ G s.heap := by rw [hH]; exact hR
  exact h l D N0 r φ G kc ks p e (rmO d kc ks) s m _ below meth c s.heap [] 0 0 φ _
    ⟨B.exec, B.bytes, B.returns, hml, findClass_of_methodNamed B.named, fun w hw => hts w (List.mem_cons_of_mem _ hw), B.notSynchronized, (name_of_methodNamed B.named B.method).1, hK, hSt', Nat.le_refl _, Nat.le_refl _, by rw [hH]; exact hN, hnx⟩
    hR' Ext.rf va_S.rf ⟨by omega, by omega, Nat.le_refl _, Nat.le_refl _⟩ (ent_LH hlen) (ent_ok hok) okl_nil
def psh (v : Option Value) (st : List Value) : List Value := match v with
  | none => st
  | some v => v :: st
theorem psh_map (φ : Nat → Nat) (v : Option Value) (st : List Value) : (psh v st).map (tv φ) = (v.map (tv φ)).toList ++ st.map (tv φ) := by cases v <;> rfl
theorem good_wsO {y : MI} {n : Nat} (hy : Cal y n) : GoodIn gt (wsO y) := fun w hw => by
  rcases List.mem_cons.mp hw with rfl | hw
  · exact gt_good _ hy.2.1
  · exact gt_good w hw
theorem blindO {D : va_G} {N0 : Nat} {r φ : Nat → Nat} {G : AHp} {H : Heap} {As : List Value} : FrameBlind (PcO D N0 r φ G H As) := fun a U g mk q => by
  obtain ⟨q1, q2, q3, q4, q5, q6, q7, q8⟩ := q
  exact ⟨q1, q2, q3, va_K.moved (u := U) (U := U.calling g mk a) (Vm.Alike.refl U.vm) q4, Sta.moved (u := U) (U := U.calling g mk a) (Vm.Alike.refl U.vm) q5, NX.warm (s := U) (U := U.calling g mk a) (State.WarmedH.refl U) q6, Rel.moved (u := U) (U := U.calling g mk a) (Vm.Alike.refl U.vm) q7, q8⟩
theorem preO {D : va_G} {N0 : Nat} {r φ : Nat → Nat} {G : AHp} {H : Heap} {As : List Value} {s : State} {locs : List Loc} (hN : N0 ≤ s.heap.size) (hK : va_K D classes [] s) (hSt : Sta N0 r s s.heap) (hnx : NX s) (hR : Rel D N0 r s φ G H) (hS : va_S (fun q => N0 ≤ q) s.heap H locs) (hok : okl G As) : ∀ U : State, U.heap = H → s.WarmedH U.vm → PcO D N0 r φ G H As (As.map (tv φ)).toArray U := fun U hU hW =>
  ⟨rfl, hU, Nat.le_trans hN hS.1, va_K.moved hW.alike hK, (hSt.kept hS.2.1).moved hW.alike, hnx.warm hW, hR.moved hW.alike, hok⟩
/-- behind a call -/
theorem callO {p : Program} {l : Launch} {e : Env} {R : Room} {s : State} {m : MethodId} {args a : Array Value} {below : List Frame} {meth : Method} {c : Code} {H : Heap} {locs : List Loc} {cells slots kc1 ks1 pc : Nat} {la : Array Slot} {st0 rest : List Value} {Z : State → Prop} {D : va_G} {N0 : Nat} {r φ : Nat → Nat} {G : AHp} {Q1 : Option Value → AHp → Prop}
    (hr : va_Run p l e R s m args below meth c H locs cells slots kc1 ks1 (F0 m pc la st0) rest (AQ D N0 r φ G Q1 a) (fun q => N0 ≤ q)) (hS : va_S (fun q => N0 ≤ q) s.heap H locs)
    (kk : ∀ (v : Option Value) (φ' : Nat → Nat) (G' : AHp) (H1 : Heap) (locs1 : List Loc), Q1 v G' → Ext φ G φ' G' → (∀ u, v = some u → okv G' u) → Rel D N0 r s φ' G' H1 → va_S (fun q => N0 ≤ q) s.heap H1 locs1 → W p l e R s m args below meth c H1 locs1 (cells + kc1) (slots + ks1) Z (F0 m (pc + 3) la ((v.map (tv φ')).toList ++ rest))) :
    W p l e R s m args below meth c H locs cells slots Z (F0 m pc la st0) := by
  intro T hT X
  obtain ⟨v, st₀, t, T', L, h0, X', hL, e1, e2, ⟨v', φ', G', hv, hq, hE, hok, hR, hz, hk⟩, st⟩ := hr T hT X
  cases hv
  rw [h0] at hz hk
  have hal : s.vm.Alike t.vm := by rw [← e2]; exact X'.warmed.alike
  obtain ⟨t2, a1, b1⟩ := kk v' φ' G' T'.heap (locs ++ L) hq hE hok (by rw [e1]; exact hR.moved hal.symm) ⟨by rw [e1]; exact Nat.le_trans hS.1 hz, fun q h1 h2 => by rw [e1, hk q (Nat.lt_of_lt_of_le h1 hS.1) h2]; exact hS.2.1 q h1 h2, fun q hq => by
    rcases List.mem_append.mp hq with h | h
    · exact hS.2.2 q h
    · exact hL q h⟩ T' rfl X'
  exact ⟨t2, st t2 a1, b1⟩
def LkS (own : String) (idx : Nat) (y : MI) (n : Nat) : Prop := Cal y n ∧ Cond.static y.1 ∈ gt ∧ (Cond.methodLink own idx y.1 ∈ gt ∨ ∃ host, Cond.methodLinkNest own idx y.1 host ∈ nt)
def LkV (own : String) (idx : Nat) (y : MI) (ci n : Nat) : Prop := Cal y n ∧ Cond.instanceMethod y.1 ∈ gt ∧ (∃ T N, classes[ci]? = some (y.1.cls, T, N)) ∧ Cond.selects y.1.cls y.1 y.1 ∈ gt ∧ (Cond.methodLink own idx y.1 ∈ gt ∨ ∃ host, Cond.methodLinkNest own idx y.1 host ∈ nt)
def LkI (own : String) (idx : Nat) (y : MI) (n : Nat) : Prop := Cal y n ∧ Cond.instanceMethod y.1 ∈ gt ∧ y.1.name = "<init>" ∧ y.2.2.2 = none ∧ (Cond.methodLink own idx y.1 ∈ gt ∨ ∃ host, Cond.methodLinkNest own idx y.1 host ∈ nt)
section CALL
variable {d : Nat} {y : MI} {pc : Nat} {ls : List (Option Value)} {st : List Value} {G : AHp} {kc ks : Nat} {Q : Option Value → AHp → Prop}
theorem catm (φ : Nat → Nat) (st : List Value) : ((st.map (tv φ)).map fun v => v.category).sum = (st.map fun v => v.category).sum := by
  rw [List.map_map]
  congr 1
  exact List.map_congr_left fun v _ => tv_cat φ v
theorem A.afterCall {l : Launch} {D : va_G} {N0 : Nat} {r φ0 : Nat → Nat} {G0 : AHp} {mc ms : Nat} {p : Program} {e : Env} {R : Room} {s : State} {m : MethodId} {args a : Array Value} {below : List Frame} {meth : Method} {c : Code} {H : Heap} {locs : List Loc} {cells slots : Nat} {φ : Nat → Nat} {la : Array Slot} {st0 : List Value} {kc1 ks1 kc2 ks2 : Nat}
    (h0 : Env0 d y D N0 r p R s m args meth c) (h2 : Ext φ0 G0 φ G) (h3 : va_S (fun q => N0 ≤ q) s.heap H locs) (h4 : cells + kc ≤ mc ∧ slots + ks ≤ ms ∧ mc ≤ R.cells ∧ ms ≤ R.slots) (h5 : LH la y.2.2.1 φ ls) (h6 : oks G ls) (h7 : okl G st) (hkc : kc1 + kc2 ≤ kc) (hks : ks1 + ks2 ≤ ks)
    (hr : va_Run p l e R s m args below meth c H locs cells slots kc1 ks1 (F0 m pc la st0) (st.map (tv φ)) (AQ D N0 r φ G (fun v G' => A d y (pc + 3) ls (psh v st) G' kc2 ks2 Q) a) (fun q => N0 ≤ q)) :
    W p l e R s m args below meth c H locs cells slots (MQ below (AQ D N0 r φ0 G0 Q) args s mc ms (fun q => N0 ≤ q)) (F0 m pc la st0) := by
  refine callO hr h3 (fun v φ' G' H1 locs1 hQ hE hok hR hS => ?_)
  have hmono : ∀ b, G b ≠ none → G' b ≠ none := fun b hb => (hE.1 b hb).1
  have hst : (v.map (tv φ')).toList ++ st.map (tv φ) = (psh v st).map (tv φ') := by rw [psh_map, tvl_eq hE.ok h7]
  rw [hst]
  refine hQ l D N0 r φ0 G0 mc ms p e R s m args below meth c H1 locs1 (cells + kc1) (slots + ks1) φ' la h0 hR (h2.tr hE) hS ⟨by omega, by omega, h4.2.2⟩ (LH_eq hE.ok h6 h5) (oks_mono hmono h6) ?_
  cases v with
  | none => exact okl_mono hmono h7
  | some u => exact okl_cons (hok u rfl) (okl_mono hmono h7)
theorem A.callS {idx n d1 kc1 ks1 kc2 ks2 : Nat} {y' : MI} {As : List Value} (hl : LkS (mcls y) idx y' n) (hn : As.length = n) (hlen : (entl As).length ≤ y'.2.2.1) (hw : (st.map fun v => v.category).sum ≤ 8) (hdd : d1 + 1 ≤ d) (hkc : kc1 + kc2 ≤ kc) (hks : ks1 + ks2 ≤ ks) (hd : decode (mcode y) pc = .ok (.invokestatic idx, 3))
    (kk : A d1 y' 0 (ent y'.2.2.1 As) [] G kc1 ks1 (fun v G' => A d y (pc + 3) ls (psh v st) G' kc2 ks2 Q)) : A d y pc ls (As.reverse ++ st) G kc ks Q := by
  intro l D N0 r φ0 G0 mc ms p e R s m args below meth c H locs cells slots φ la h0 h1 h2 h3 h4 h5 h6 h7
  have hA : okl G As := fun v hv => h7 v (List.mem_append_left _ (List.mem_reverse.mpr hv))
  have hst : okl G st := fun v hv => h7 v (List.mem_append_right _ hv)
  have hM := A.met (l := l) (D := D) (N0 := N0) (r := r) (φ := φ) (H := H) hl.1 hlen kk
  refine A.afterCall (a := (As.map (tv φ)).toArray) h0 h2 h3 h4 h5 h6 hst hkc hks ?_
  obtain ⟨hx, hb, hr, hml, hown, hts, hlocks, hnm, hK, hSt, hd1, hd2, hN, hnx⟩ := h0
  obtain ⟨hc, hstat, hlk⟩ := hl
  have h21 := hc.2.2.2.1
  have hRm : (rmO d1 kc1 ks1).frames + 1 ≤ R.frames ∧ 8 + (y'.2.2.1 + 11) + (rmO d1 kc1 ks1).locals ≤ R.locals := ⟨by show d1 + 1 ≤ _; omega, by show _ + 40 * d1 ≤ _; omega⟩
  have hstk : ((As.reverse ++ st).map (tv φ)) = (As.map (tv φ)).reverse ++ st.map (tv φ) := by rw [List.map_append, List.map_reverse]
  rcases hlk with hlk | ⟨host, hlk⟩
  · exact va_runS ⟨hx, hb, hml, hown, hts⟩ hM ⟨callB_of n hts (good_wsO hc) rfl rfl rfl (hts _ hc.1) (hts _ hlk) hc.2.2.1 hRm, hts _ hstat⟩ ⟨blindO, preO hN hK hSt hnx h1 h3 hA⟩ rfl (by rw [List.length_map]; exact hn) h5.1 hstk (by rw [catm]; exact lv_room hw) hd ⟨by omega, by omega⟩
  · exact va_runSN ⟨hx, hb, hml, hown, hts⟩ hM ⟨va_cnB n hts (good_wsO hc) rfl rfl rfl (hnx.1 _ hlk) (hts _ hc.1) hc.2.2.1 hRm, hts _ hstat, trivial⟩ ⟨blindO, preO hN hK hSt hnx h1 h3 hA⟩ rfl (by rw [List.length_map]; exact hn) h5.1 hstk (by rw [catm]; exact lv_room hw) hd ⟨by omega, by omega⟩
theorem A.callV {idx n ci a d1 kc1 ks1 kc2 ks2 : Nat} {fs : List Value} {y' : MI} {As : List Value} (hl : LkV (mcls y) idx y' ci n) (ha : G a = some (oB ci fs)) (hn : As.length = n) (hlen : (entl (.ref a :: As)).length ≤ y'.2.2.1) (hw : (st.map fun v => v.category).sum ≤ 8) (hdd : d1 + 1 ≤ d) (hkc : kc1 + kc2 ≤ kc) (hks : ks1 + ks2 ≤ ks) (hd : decode (mcode y) pc = .ok (.invokevirtual idx, 3))
    (kk : A d1 y' 0 (ent y'.2.2.1 (.ref a :: As)) [] G kc1 ks1 (fun v G' => A d y (pc + 3) ls (psh v st) G' kc2 ks2 Q)) : A d y pc ls (As.reverse ++ .ref a :: st) G kc ks Q := by
  intro l D N0 r φ0 G0 mc ms p e R s m args below meth c H locs cells slots φ la h0 h1 h2 h3 h4 h5 h6 h7
  have hA : okl G (.ref a :: As) := fun v hv => by
    rcases List.mem_cons.mp hv with rfl | hv
    · exact h7 _ (List.mem_append_right _ List.mem_cons_self)
    · exact h7 v (List.mem_append_left _ (List.mem_reverse.mpr hv))
  have hst : okl G st := fun v hv => h7 v (List.mem_append_right _ (List.mem_cons_of_mem _ hv))
  have hM := A.met (l := l) (D := D) (N0 := N0) (r := r) (φ := φ) (H := H) hl.1 hlen kk
  refine A.afterCall (a := (Value.ref (φ a) :: As.map (tv φ)).toArray) h0 h2 h3 h4 h5 h6 hst hkc hks ?_
  obtain ⟨hx, hb, hr, hml, hown, hts, hlocks, hnm, hK, hSt, hd1, hd2, hN, hnx⟩ := h0
  obtain ⟨hc, hinst, ⟨T, N, hcl⟩, hsel, hlk⟩ := hl
  have h21 := hc.2.2.2.1
  have hRm : (rmO d1 kc1 ks1).frames + 1 ≤ R.frames ∧ 8 + (y'.2.2.1 + 11) + (rmO d1 kc1 ks1).locals ≤ R.locals := ⟨by show d1 + 1 ≤ _; omega, by show _ + 40 * d1 ≤ _; omega⟩
  have hstk : ((As.reverse ++ .ref a :: st).map (tv φ)) = (As.map (tv φ)).reverse ++ .ref (φ a) :: st.map (tv φ) := by rw [List.map_append, List.map_reverse]; rfl
  have h16 := h1.hi ha (fun n f h => by cases h)
  obtain ⟨e', hP, hz, -, -⟩ := h1.at h16 ha
  cases (show e' = _ from hz)
  have hrecv := va_recv hK hP hcl (q0 := 0) rfl
  rcases hlk with hlk | ⟨host, hlk⟩
  · exact va_runV ⟨hx, hb, hml, hown, hts⟩ hM ⟨callB_of n hts (good_wsO hc) rfl rfl rfl (hts _ hc.1) (hts _ hlk) hc.2.2.1 hRm, hts _ hinst, hts _ hsel⟩ ⟨blindO, hrecv, preO hN hK hSt hnx h1 h3 hA⟩ rfl (by rw [List.length_map]; exact hn) h5.1 hstk (by rw [catm]; exact lv_room hw) hd ⟨by omega, by omega⟩
  · exact va_runVN ⟨hx, hb, hml, hown, hts⟩ hM ⟨va_cnB n hts (good_wsO hc) rfl rfl rfl (hnx.1 _ hlk) (hts _ hc.1) hc.2.2.1 hRm, hts _ hinst, hts _ hsel⟩ ⟨blindO, hrecv, preO hN hK hSt hnx h1 h3 hA⟩ rfl (by rw [List.length_map]; exact hn) h5.1 hstk (by rw [catm]; exact lv_room hw) hd ⟨by omega, by omega⟩
theorem A.callI {idx n a d1 kc1 ks1 kc2 ks2 : Nat} {y' : MI} {As : List Value} (hl : LkI (mcls y) idx y' n) (hn : As.length = n) (hlen : (entl (.ref a :: As)).length ≤ y'.2.2.1) (hw : (st.map fun v => v.category).sum ≤ 8) (hdd : d1 + 1 ≤ d) (hkc : kc1 + kc2 ≤ kc) (hks : ks1 + ks2 ≤ ks) (hd : decode (mcode y) pc = .ok (.invokespecial idx, 3))
    (kk : A d1 y' 0 (ent y'.2.2.1 (.ref a :: As)) [] G kc1 ks1 (fun v G' => A d y (pc + 3) ls (psh v st) G' kc2 ks2 Q)) : A d y pc ls (As.reverse ++ .ref a :: st) G kc ks Q := by
  intro l D N0 r φ0 G0 mc ms p e R s m args below meth c H locs cells slots φ la h0 h1 h2 h3 h4 h5 h6 h7
  have hA : okl G (.ref a :: As) := fun v hv => by
    rcases List.mem_cons.mp hv with rfl | hv
    · exact h7 _ (List.mem_append_right _ List.mem_cons_self)
    · exact h7 v (List.mem_append_left _ (List.mem_reverse.mpr hv))
  have hst : okl G st := fun v hv => h7 v (List.mem_append_right _ (List.mem_cons_of_mem _ hv))
  have hM := A.met (l := l) (D := D) (N0 := N0) (r := r) (φ := φ) (H := H) hl.1 hlen kk
  refine A.afterCall (a := (Value.ref (φ a) :: As.map (tv φ)).toArray) h0 h2 h3 h4 h5 h6 hst hkc hks ?_
  obtain ⟨hx, hb, hr, hml, hown, hts, hlocks, hnm, hK, hSt, hd1, hd2, hN, hnx⟩ := h0
  obtain ⟨hc, hinst, hin, hnone, hlk⟩ := hl
  have h21 := hc.2.2.2.1
  have hRm : (rmO d1 kc1 ks1).frames + 1 ≤ R.frames ∧ 8 + (y'.2.2.1 + 11) + (rmO d1 kc1 ks1).locals ≤ R.locals := ⟨by show d1 + 1 ≤ _; omega, by show _ + 40 * d1 ≤ _; omega⟩
  have hstk : ((As.reverse ++ .ref a :: st).map (tv φ)) = (As.map (tv φ)).reverse ++ .ref (φ a) :: st.map (tv φ) := by rw [List.map_append, List.map_reverse]; rfl
  obtain ⟨yn, yb, yl, yr⟩ := y'
  cases (show yr = none from hnone)
  rcases hlk with hlk | ⟨host, hlk⟩
  · exact va_runI (As := As.map (tv φ)) ⟨hx, hb, hml, hown, hts⟩ hM ⟨callB_of n hts (good_wsO hc) rfl rfl rfl (hts _ hc.1) (hts _ hlk) hc.2.2.1 hRm, hin, hts _ hinst⟩ ⟨blindO, preO hN hK hSt hnx h1 h3 hA⟩ rfl (by rw [List.length_map]; exact hn) h5.1 hstk (by rw [catm]; exact lv_room hw) hd ⟨by omega, by omega⟩
  · exact va_runIN (As := As.map (tv φ)) ⟨hx, hb, hml, hown, hts⟩ hM ⟨va_cnB n hts (good_wsO hc) rfl rfl rfl (hnx.1 _ hlk) (hts _ hc.1) hc.2.2.1 hRm, hin, hts _ hinst⟩ ⟨blindO, preO hN hK hSt hnx h1 h3 hA⟩ rfl (by rw [List.length_map]; exact hn) h5.1 hstk (by rw [catm]; exact lv_room hw) hd ⟨by omega, by omega⟩
end CALL
end
section
/-! MAKING, CASTS, CONSTANTS, Math -/
section MAKE
variable {d : Nat} {y : MI} {pc : Nat} {ls : List (Option Value)} {st : List Value} {G : AHp} {kc ks : Nat} {Q : Option Value → AHp → Prop}
/-- a class that can be made: its fields at first -/
def NW (own : String) (idx ci N : Nat) (fs : List Value) : Prop :=
  ∃ (C : String) (T : u_T) (ty : Nat → FieldType), CK ci C T N ty ∧ Cond.classLink own idx C ∈ gt ∧ Cond.instantiable C N ∈ gt ∧ Cond.initialized C ∈ gt ∧ (∀ j, j < N → defaultValue (ty j) = vp_V fs j) ∧ ∀ v ∈ fs, ∀ a, v ≠ .ref a
theorem tvl_nr {φ : Nat → Nat} {fs : List Value} (h : ∀ v ∈ fs, ∀ a, v ≠ .ref a) : fs.map (tv φ) = fs := by
  conv => rhs; rw [← List.map_id fs]
  apply List.map_congr_left
  intro v hv
  have := h v hv
  cases v <;> first | rfl | exact absurd rfl (this _)
theorem A.new {idx ci N a : Nat} {fs : List Value} (hf : NW (mcls y) idx ci N fs) (hd : decode (mcode y) pc = .ok (.new idx, 3)) (ha : 16 ≤ a) (ga : G a = none) {kc' ks' : Nat} (hkc : kc' + 1 ≤ kc) (hks : ks' + N ≤ ks) (kk : A d y (pc + 3) ls (.ref a :: st) (up G a (oB ci fs)) kc' ks' Q) : A d y pc ls st G kc ks Q := by
  intro l D N0 r φ0 G0 mc ms p e R s m args below meth c H locs cells slots φ la h0 h1 h2 h3 h4 h5 h6 h7
  obtain ⟨L, E, hP, hD, hφ, back⟩ := h1.gapN ha ga
  obtain ⟨C, T, ty, ⟨hc, hin, hty, hnm⟩, hcl, hins, hini, hfs, hnr⟩ := hf
  have hmono : ∀ b, G b ≠ none → up G a (oB ci fs) b ≠ none := fun b hb => up_ne hb
  refine va_new (ci := ci) (fs := fs) h0.1 h0.2.1 h0.2.2.2.2.2.1 hin ty hty h0.2.2.2.2.1 (h0.2.2.2.2.2.1 _ hcl) (h0.2.2.2.2.2.1 _ hins) (h0.2.2.2.2.2.1 _ hini) h0.2.2.2.2.2.2.2.2.1 hP hD h3 (fun q hq => Nat.le_trans h0.2.2.2.2.2.2.2.2.2.2.2.2.1 hq) hc hfs (by omega) (by omega) hd (fun q H1 hP1 hD1 hS1 => ?_)
  have hφq := hφ q
  have hst : Value.ref q :: st.map (tv φ) = (Value.ref a :: st).map (tv (va_up φ a q)) := by
    rw [List.map_cons, tvl_eq hφq h7]
    show _ = Value.ref (va_up φ a q a) :: _
    rw [show va_up φ a q a = q from if_pos rfl]
  rw [hst]
  refine kk l D N0 r φ0 G0 mc ms p e R s m args below meth c H1 locs (cells + 1) (slots + N) (va_up φ a q) la h0 (back q (oB ci fs) _ H1 (by show _ = _; rw [tvl_nr hnr]) (fun v hv b e => absurd e (hnr v hv b)) hP1 hD1 (low_kept h0.2.2.2.2.2.2.2.2.2.2.2.2.1 h3 hS1)) (h2.new hφq) hS1 ⟨by omega, by omega, h4.2.2⟩ (LH_eq hφq h6 h5) (oks_mono hmono h6) (okl_cons (okv_r (Or.inr (by rw [up_s]; simp))) (okl_mono hmono h7))
theorem A.newI {a n : Nat} {i : Int32} (hd : decode (mcode y) pc = .ok (.newarray .int, 2)) (hi : i.toInt = (n : Int)) (hn : n ≤ 100000) (ha : 16 ≤ a) (ga : G a = none) {kc' ks' : Nat} (hkc : kc' + 1 ≤ kc) (hks : ks' + n ≤ ks) (hac : Cond.arrayClass .int ∈ gt) (kk : A d y (pc + 2) ls (.ref a :: st) (up G a (aI n (fun _ => 0))) kc' ks' Q) : A d y pc ls (.int i :: st) G kc ks Q := by
  intro l D N0 r φ0 G0 mc ms p e R s m args below meth c H locs cells slots φ la h0 h1 h2 h3 h4 h5 h6 h7
  obtain ⟨L, E, hP, hD, hφ, back⟩ := h1.gapN ha ga
  have hmono : ∀ b, G b ≠ none → up G a (aI n (fun _ => 0)) b ≠ none := fun b hb => up_ne hb
  have hcl : i.toNatClampNeg = n := by show i.toInt.toNat = n; omega
  have hi0 : ¬ i < 0 := by rw [Int32.lt_iff_toInt_lt]; show ¬ i.toInt < 0; omega
  refine va_newa (tys := []) (atype := .int) (ty := .int) (n := i) (N' := n) (a0 := (n, .inl (fun _ => 0))) h0.1 h0.2.1 (h0.2.2.2.2.2.1 _ hac) rfl h0.2.2.2.2.2.2.2.2.1 hP hD h3 (fun q hq => Nat.le_trans h0.2.2.2.2.2.2.2.2.2.2.2.2.1 hq) (fun cA => rfl) hi0 hcl (by show n * 4 ≤ _; omega) (by omega) (by omega) hd (fun q cA H1 hK1 hP1 hD1 hS1 => ?_)
  have hφq := hφ q
  have hst : Value.ref q :: st.map (tv φ) = (Value.ref a :: st).map (tv (va_up φ a q)) := by
    rw [List.map_cons, tvl_eq hφq (okl_tail h7)]
    show _ = Value.ref (va_up φ a q a) :: _
    rw [show va_up φ a q a = q from if_pos rfl]
  have hcz := hK1.2 0 _ rfl
  show W p l e R s m args below meth c H1 locs _ _ _ (F0 m (pc + 2) la (Value.ref q :: st.map (tv φ)))
  rw [hst]
  exact kk l D N0 r φ0 G0 mc ms p e R s m args below meth c H1 locs (cells + 1) (slots + n) (va_up φ a q) la h0 (back q (aI n (fun _ => 0)) _ H1 ⟨cA, rfl, hcz.1, hcz.2⟩ trivial hP1 hD1 (low_kept h0.2.2.2.2.2.2.2.2.2.2.2.2.1 h3 hS1)) (h2.new hφq) hS1 ⟨by omega, by omega, h4.2.2⟩ (LH_eq hφq h6 h5) (oks_mono hmono h6) (okl_cons (okv_r (Or.inr (by rw [up_s]; simp))) (okl_mono hmono (okl_tail h7)))
theorem A.newL {a n : Nat} {i : Int32} (hd : decode (mcode y) pc = .ok (.newarray .long, 2)) (hi : i.toInt = (n : Int)) (hn : n ≤ 100000) (ha : 16 ≤ a) (ga : G a = none) {kc' ks' : Nat} (hkc : kc' + 1 ≤ kc) (hks : ks' + n ≤ ks) (hac : Cond.arrayClass .long ∈ gt) (kk : A d y (pc + 2) ls (.ref a :: st) (up G a (aL n (fun _ => 0))) kc' ks' Q) : A d y pc ls (.int i :: st) G kc ks Q := by
  intro l D N0 r φ0 G0 mc ms p e R s m args below meth c H locs cells slots φ la h0 h1 h2 h3 h4 h5 h6 h7
  obtain ⟨L, E, hP, hD, hφ, back⟩ := h1.gapN ha ga
  have hmono : ∀ b, G b ≠ none → up G a (aL n (fun _ => 0)) b ≠ none := fun b hb => up_ne hb
  have hcl : i.toNatClampNeg = n := by show i.toInt.toNat = n; omega
  have hi0 : ¬ i < 0 := by rw [Int32.lt_iff_toInt_lt]; show ¬ i.toInt < 0; omega
  refine va_newa (tys := []) (atype := .long) (ty := .long) (n := i) (N' := n) (a0 := (n, .inr (.inl (fun _ => 0)))) h0.1 h0.2.1 (h0.2.2.2.2.2.1 _ hac) rfl h0.2.2.2.2.2.2.2.2.1 hP hD h3 (fun q hq => Nat.le_trans h0.2.2.2.2.2.2.2.2.2.2.2.2.1 hq) (fun cA => rfl) hi0 hcl (by show n * 8 ≤ _; omega) (by omega) (by omega) hd (fun q cA H1 hK1 hP1 hD1 hS1 => ?_)
  have hφq := hφ q
  have hst : Value.ref q :: st.map (tv φ) = (Value.ref a :: st).map (tv (va_up φ a q)) := by
    rw [List.map_cons, tvl_eq hφq (okl_tail h7)]
    show _ = Value.ref (va_up φ a q a) :: _
    rw [show va_up φ a q a = q from if_pos rfl]
  have hcz := hK1.2 0 _ rfl
  show W p l e R s m args below meth c H1 locs _ _ _ (F0 m (pc + 2) la (Value.ref q :: st.map (tv φ)))
  rw [hst]
  exact kk l D N0 r φ0 G0 mc ms p e R s m args below meth c H1 locs (cells + 1) (slots + n) (va_up φ a q) la h0 (back q (aL n (fun _ => 0)) _ H1 ⟨cA, rfl, hcz.1, hcz.2⟩ trivial hP1 hD1 (low_kept h0.2.2.2.2.2.2.2.2.2.2.2.2.1 h3 hS1)) (h2.new hφq) hS1 ⟨by omega, by omega, h4.2.2⟩ (LH_eq hφq h6 h5) (oks_mono hmono h6) (okl_cons (okv_r (Or.inr (by rw [up_s]; simp))) (okl_mono hmono (okl_tail h7)))
def AOv (C : String) : Prop := ∀ s, NX s → va_AO C s
theorem aov_street : AOv "AfterFire$Street" := fun _ h => h.2.1
theorem aov_object : AOv "java/lang/Object" := fun _ h => h.2.2.1
theorem A.anew {C : String} {idx a n : Nat} {i : Int32} (hC : AOv C) (hl : Cond.classLink (mcls y) idx C ∈ gt) (hd : decode (mcode y) pc = .ok (.anewarray idx, 3)) (hi : i.toInt = (n : Int)) (hn : n ≤ 100000) (ha : 16 ≤ a) (ga : G a = none) {kc' ks' : Nat} (hkc : kc' + 1 ≤ kc) (hks : ks' + n ≤ ks) (kk : A d y (pc + 3) ls (.ref a :: st) (up G a (aR (.object C) n (fun _ => none))) kc' ks' Q) : A d y pc ls (.int i :: st) G kc ks Q := by
  intro l D N0 r φ0 G0 mc ms p e R s m args below meth c H locs cells slots φ la h0 h1 h2 h3 h4 h5 h6 h7
  obtain ⟨L, E, hP, hD, hφ, back⟩ := h1.gapN ha ga
  have hmono : ∀ b, G b ≠ none → up G a (aR (.object C) n (fun _ => none)) b ≠ none := fun b hb => up_ne hb
  have hcl : i.toNatClampNeg = n := by show i.toInt.toNat = n; omega
  have hi0 : ¬ i < 0 := by rw [Int32.lt_iff_toInt_lt]; show ¬ i.toInt < 0; omega
  refine va_newq (tys := []) (n := i) (N' := n) h0.1 h0.2.1 h0.2.2.2.2.1 (h0.2.2.2.2.2.1 _ hl) (hC s h0.2.2.2.2.2.2.2.2.2.2.2.2.2) h0.2.2.2.2.2.2.2.2.1 hP hD h3 (fun q hq => Nat.le_trans h0.2.2.2.2.2.2.2.2.2.2.2.2.1 hq) hi0 hcl (by omega) (by omega) (by omega) hd (fun q cA H1 hK1 hP1 hD1 hS1 => ?_)
  have hφq := hφ q
  have hst : Value.ref q :: st.map (tv φ) = (Value.ref a :: st).map (tv (va_up φ a q)) := by
    rw [List.map_cons, tvl_eq hφq (okl_tail h7)]
    show _ = Value.ref (va_up φ a q a) :: _
    rw [show va_up φ a q a = q from if_pos rfl]
  have hcz := hK1.2 0 _ rfl
  show W p l e R s m args below meth c H1 locs _ _ _ (F0 m (pc + 3) la (Value.ref q :: st.map (tv φ)))
  rw [hst]
  exact kk l D N0 r φ0 G0 mc ms p e R s m args below meth c H1 locs (cells + 1) (slots + n) (va_up φ a q) la h0 (back q (aR (.object C) n (fun _ => none)) _ H1 ⟨cA, rfl, hcz.1, hcz.2⟩ (fun j b e => by cases e) hP1 hD1 (low_kept h0.2.2.2.2.2.2.2.2.2.2.2.2.1 h3 hS1)) (h2.new hφq) hS1 ⟨by omega, by omega, h4.2.2⟩ (LH_eq hφq h6 h5) (oks_mono hmono h6) (okl_cons (okv_r (Or.inr (by rw [up_s]; simp))) (okl_mono hmono (okl_tail h7)))
/-- an object into an array of its class, or of Object -/
theorem A.aastore {a b n j ci : Nat} {C E : String} {T : u_T} {N : Nat} {f : Nat → Option Nat} {fs : List Value} {i : Int32} (hd : decode (mcode y) pc = .ok (.aastore, 1)) (ha : G a = some (aR (.object E) n f)) (hb : G b = some (oB ci fs)) (hc : classes[ci]? = some (C, T, N)) (hce : C = E ∨ Cond.castable C E ∈ nt) (hi : i.toInt = (j : Int)) (hj : j < n) (kk : A d y (pc + 1) ls st (up G a (aR (.object E) n (va_up f j (some b)))) kc ks Q) : A d y pc ls (.ref b :: .int i :: .ref a :: st) G kc ks Q := by
  intro l D N0 r φ0 G0 mc ms p e R s m args below meth c H locs cells slots φ la h0 h1 h2 h3 h4 h5 h6 h7
  have h16 := h1.hi ha (fun n f h => by cases h)
  have h16b := h1.hi hb (fun n f h => by cases h)
  have hcl : i.toNatClampNeg = j := by show i.toInt.toNat = j; omega
  have hin : vp_in i n := vp_in_iff.mpr ⟨by omega, by omega⟩
  have h1' := h1
  obtain ⟨L, E', k0, hk0, hP, hD, ⟨cA, hz, hA1, hA2⟩, hok, back⟩ := h1.gap h16 ha
  rw [hz] at hk0
  have hmono : ∀ q, G q ≠ none → up G a (aR (.object E) n (va_up f j (some b))) q ≠ none := fun q hq => up_ne hq
  have hmap : (fun k => ((va_up f j (some b)) k).map φ) = va_up (fun k => (f k).map φ) j (some (φ b)) := by
    funext k
    unfold va_up
    by_cases e : k = j <;> simp [e]
  have fin : ∀ (H1 : Heap) (locs1 : List Loc), va_P D classes ((Wl φ E' L).set k0 (φ a, .inl (cA, n, .inr (.inr (.inr (.inr (va_up (fun k => (f k).map φ) i.toNatClampNeg (some (φ b))))))))) H1 → va_D (fun q => N0 ≤ q) ((Wl φ E' L).set k0 (φ a, .inl (cA, n, .inr (.inr (.inr (.inr (va_up (fun k => (f k).map φ) i.toNatClampNeg (some (φ b))))))))) → va_S (fun q => N0 ≤ q) s.heap H1 locs1 → W p l e R s m args below meth c H1 locs1 cells slots (MQ below (AQ D N0 r φ0 G0 Q) args s mc ms (fun q => N0 ≤ q)) (F0 m (pc + 1) la (st.map (tv φ))) := fun H1 locs1 hP1 hD1 hS1 => by
    rw [hcl] at hP1 hD1
    refine kk l D N0 r φ0 G0 mc ms p e R s m args below meth c H1 locs1 cells slots φ la h0 (back (aR (.object E) n (va_up f j (some b))) _ H1 ⟨cA, ?_, hA1, hA2⟩ (fun k x hx => ?_) hP1 hD1 (low_kept h0.2.2.2.2.2.2.2.2.2.2.2.2.1 h3 hS1)) h2.put hS1 h4 h5 (oks_mono hmono h6) (okl_mono hmono (okl_tail (okl_tail (okl_tail h7))))
    · show Sum.inl (cA, n, _) = Sum.inl (cA, n, _)
      rw [hmap]
    · unfold va_up at hx
      by_cases e : k = j
      · rw [if_pos e] at hx; cases hx; exact Or.inr (by rw [hb]; simp)
      · rw [if_neg e] at hx; exact hok k x hx
  have hK := one_ty h0.2.2.2.2.2.2.2.2.1 hA1 hA2
  have hany : va_Any E s H (φ b) := by
    obtain ⟨eb, hPb, hzb, -, -⟩ := h1'.at h16b hb
    cases (show eb = _ from hzb)
    obtain ⟨cell, g1, g2, g3⟩ := va_recv h0.2.2.2.2.2.2.2.2.1 hPb hc (q0 := 0) rfl
    have hcls := (h0.2.2.2.2.2.2.2.2.1.1 ci _ hc).2
    refine ⟨cell, g1, g2, ?_, fun comp hcomp => ?_⟩
    · obtain ⟨f1, kC, f2, -⟩ := hcls
      rw [g3] at f1
      have e : cell.cls = D.1 ci := Option.some.inj f1
      exact ⟨kC, by rw [e]; exact f2⟩
    · rcases hce with rfl | hce
      · rw [g3] at hcomp
        have e : cell.cls = comp := Option.some.inj hcomp
        rw [e]
        first | exact Vm.assignable_self _ _ | exact assignable_self _ _
      · exact vb_asgC (h0.2.2.2.2.2.2.2.2.2.2.2.2.2.1 _ hce) comp cell.cls hcomp g3
  exact va_astqM (f := fun k => (f k).map φ) h0.1 h0.2.1 hK hP hD h3 k0 0 hk0 rfl hany hin hd fin
/-- a cast to the object's own class -/
theorem A.cast {idx ci a N : Nat} {C : String} {T : u_T} {fs : List Value} (hd : decode (mcode y) pc = .ok (.checkcast idx, 3)) (hl : Cond.classLink (mcls y) idx C ∈ gt) (hc : classes[ci]? = some (C, T, N)) (ha : G a = some (oB ci fs)) (kk : A d y (pc + 3) ls (.ref a :: st) G kc ks Q) : A d y pc ls (.ref a :: st) G kc ks Q := by
  intro l D N0 r φ0 G0 mc ms p e R s m args below meth c H locs cells slots φ la h0 h1 h2 h3 h4 h5 h6 h7
  have h16 := h1.hi ha (fun n f h => by cases h)
  obtain ⟨e', hP, hz, hok, -⟩ := h1.at h16 ha
  have kk := kk l D N0 r φ0 G0 mc ms p e R s m args below meth c H locs cells slots φ la h0 h1 h2 h3 h4 h5 h6 h7
  obtain ⟨hx, hb, hr, hml, hown, hts, hlocks, hnm, hK, hSt, hd1, hd2, hN, hnx⟩ := h0
  cases (show e' = _ from hz)
  exact va_castS hx hb hown (hts _ hl) (hK.1 ci _ hc).2 (va_recv hK hP hc (q0 := 0) rfl) hd kk
theorem A.objInit {idx a : Nat} (hd : decode (mcode y) pc = .ok (.invokespecial idx, 3)) (hl : Cond.methodLink (mcls y) idx objectInit ∈ gt ∧ Cond.instanceMethod objectInit ∈ gt ∧ Cond.code objectInit ⟨#[0xb1]⟩ 1 none ∈ gt) (hw : (st.map fun v => v.category).sum ≤ 8) (hdd : 1 ≤ d) (kk : A d y (pc + 3) ls st G kc ks Q) : A d y pc ls (.ref a :: st) G kc ks Q := by
  intro l D N0 r φ0 G0 mc ms p e R s m args below meth c H locs cells slots φ la h0 h1 h2 h3 h4 h5 h6 h7
  have kk := kk l D N0 r φ0 G0 mc ms p e R s m args below meth c H locs cells slots φ la h0 h1 h2 h3 h4 h5 h6 (okl_tail h7)
  obtain ⟨hx, hb, hr, hml, hown, hts, hlocks, hnm, hK, hSt, hd1, hd2, hN, hnx⟩ := h0
  have hw' : (((st.map (tv φ)).map fun v => v.category).sum) ≤ 8 := by rw [catm]; exact hw
  have hw2 := lv_room (m := m) (pc := pc) (ls := la) (rest := (Value.ref a :: st).map (tv φ)) hw'
  exact W.objInit (g := F0 m pc la ((Value.ref a :: st).map (tv φ))) hx hb hown (hts _ hl.1) (hts _ hl.2.1) (hts _ hl.2.2) rfl (by rw [hml]; exact h5.1) rfl hd (by omega) (by omega) kk
theorem A.ldc {idx : Nat} {v : Int32} (hd : decode (mcode y) pc = .ok (.ldc idx, 2)) (hl : Cond.constant (mcls y) idx v ∈ gt) (kk : A d y (pc + 2) ls (.int v :: st) G kc ks Q) : A d y pc ls st G kc ks Q := by
  intro l D N0 r φ0 G0 mc ms p e R s m args below meth c H locs cells slots φ la h0 h1 h2 h3 h4 h5 h6 h7
  exact lv_ldc h0.1 h0.2.1 h0.2.2.2.2.1 (h0.2.2.2.2.2.1 _ hl) hd (kk l D N0 r φ0 G0 mc ms p e R s m args below meth c H locs cells slots φ la h0 h1 h2 h3 h4 h5 h6 (okl_cons okv_i h7))
theorem A.ldc2 {idx : Nat} {v : Int64} (hd : decode (mcode y) pc = .ok (.ldc2_w idx, 3)) (hl : Cond.constantLong (mcls y) idx v ∈ gt) (kk : A d y (pc + 3) ls (.long v :: st) G kc ks Q) : A d y pc ls st G kc ks Q := by
  intro l D N0 r φ0 G0 mc ms p e R s m args below meth c H locs cells slots φ la h0 h1 h2 h3 h4 h5 h6 h7
  exact lv_ldc2 h0.1 h0.2.1 h0.2.2.2.2.1 (h0.2.2.2.2.2.1 _ hl) hd (kk l D N0 r φ0 G0 mc ms p e R s m args below meth c H locs cells slots φ la h0 h1 h2 h3 h4 h5 h6 (okl_cons okv_l h7))
def LkM (own : String) (idx : Nat) (x : MethodName) (cc : ByteArray) (n : Nat) : Prop := Cond.methodLink own idx x ∈ gt ∧ Cond.static x ∈ gt ∧ Cond.initialized "java/lang/Math" ∈ gt ∧ Cond.code x cc n (some .int) ∈ gt
theorem A.max {idx : Nat} {x z : Int32} (hd : decode (mcode y) pc = .ok (.invokestatic idx, 3)) (hl : LkM (mcls y) idx Lib.Math.max.name Lib.Math.max.code 2) (hw : (st.map fun v => v.category).sum ≤ 8) (hdd : 1 ≤ d) (kk : A d y (pc + 3) ls (.int (if x < z then z else x) :: st) G kc ks Q) : A d y pc ls (.int z :: .int x :: st) G kc ks Q := by
  intro l D N0 r φ0 G0 mc ms p e R s m args below meth c H locs cells slots φ la h0 h1 h2 h3 h4 h5 h6 h7
  have kk := kk l D N0 r φ0 G0 mc ms p e R s m args below meth c H locs cells slots φ la h0 h1 h2 h3 h4 h5 h6 (okl_cons okv_i (okl_tail (okl_tail h7)))
  obtain ⟨hx, hb, hr, hml, hown, hts, hlocks, hnm, hK, hSt, hd1, hd2, hN, hnx⟩ := h0
  exact va_mmax hx hb (hml.trans h5.1.symm) hown (hts _ hl.1) (hts _ hl.2.1) (hts _ hl.2.2.1) (hts _ hl.2.2.2) (by omega) (by rw [catm]; omega) (by omega) (by omega) hd kk
theorem A.min {idx : Nat} {x z : Int32} (hd : decode (mcode y) pc = .ok (.invokestatic idx, 3)) (hl : LkM (mcls y) idx Lib.Math.min.name Lib.Math.min.code 2) (hw : (st.map fun v => v.category).sum ≤ 8) (hdd : 1 ≤ d) (kk : A d y (pc + 3) ls (.int (if z < x then z else x) :: st) G kc ks Q) : A d y pc ls (.int z :: .int x :: st) G kc ks Q := by
  intro l D N0 r φ0 G0 mc ms p e R s m args below meth c H locs cells slots φ la h0 h1 h2 h3 h4 h5 h6 h7
  have kk := kk l D N0 r φ0 G0 mc ms p e R s m args below meth c H locs cells slots φ la h0 h1 h2 h3 h4 h5 h6 (okl_cons okv_i (okl_tail (okl_tail h7)))
  obtain ⟨hx, hb, hr, hml, hown, hts, hlocks, hnm, hK, hSt, hd1, hd2, hN, hnx⟩ := h0
  exact va_mmin hx hb (hml.trans h5.1.symm) hown (hts _ hl.1) (hts _ hl.2.1) (hts _ hl.2.2.1) (hts _ hl.2.2.2) (by omega) (by rw [catm]; omega) (by omega) (by omega) hd kk
theorem A.abs {idx : Nat} {x : Int32} (hd : decode (mcode y) pc = .ok (.invokestatic idx, 3)) (hl : LkM (mcls y) idx Lib.Math.abs.name Lib.Math.abs.code 1) (hw : (st.map fun v => v.category).sum ≤ 8) (hdd : 1 ≤ d) (kk : A d y (pc + 3) ls (.int (if 0 ≤ x then x else 0 - x) :: st) G kc ks Q) : A d y pc ls (.int x :: st) G kc ks Q := by
  intro l D N0 r φ0 G0 mc ms p e R s m args below meth c H locs cells slots φ la h0 h1 h2 h3 h4 h5 h6 h7
  have kk := kk l D N0 r φ0 G0 mc ms p e R s m args below meth c H locs cells slots φ la h0 h1 h2 h3 h4 h5 h6 (okl_cons okv_i (okl_tail h7))
  obtain ⟨hx, hb, hr, hml, hown, hts, hlocks, hnm, hK, hSt, hd1, hd2, hN, hnx⟩ := h0
  exact va_mabs hx hb (hml.trans h5.1.symm) hown (hts _ hl.1) (hts _ hl.2.1) (hts _ hl.2.2.1) (hts _ hl.2.2.2) (by omega) (by rw [catm]; omega) (by omega) (by omega) hd kk
/-- two references that differ, or are one -/
theorem A.acmp_eq_t {a : Nat} {off : Int} (tgt : Nat) (ht : (pc : Int) + off = (tgt : Int)) (hd : decode (mcode y) pc = .ok (.if_acmp .eq off, 3)) (kk : A d y tgt ls st G kc ks Q) : A d y pc ls (.ref a :: .ref a :: st) G kc ks Q := by
  refine A.pure (fun {p l e R s m args below meth c H locs cells slots Z la φ} hx hb k => ?_) (fun _ h => okl_tail (okl_tail h)) kk
  exact lv_acmp_eq (rx := some (φ a)) (ry := some (φ a)) hx hb hd ht (fun _ => k) (fun h => absurd rfl h)
theorem A.acmp_eq_f {a b : Nat} {off : Int} (hd : decode (mcode y) pc = .ok (.if_acmp .eq off, 3)) (ha : 16 ≤ a) (ga : G a ≠ none) (hb : b < 16) {tgt : Nat} (ht : (pc : Int) + off = (tgt : Int)) (kk : A d y (pc + 3) ls st G kc ks Q) (hb1 : b = 1) : A d y pc ls (.ref b :: .ref a :: st) G kc ks Q := by
  intro l D N0 r φ0 G0 mc ms p e R s m args below meth c H locs cells slots φ la h0 h1 h2 h3 h4 h5 h6 h7
  have kk := kk l D N0 r φ0 G0 mc ms p e R s m args below meth c H locs cells slots φ la h0 h1 h2 h3 h4 h5 h6 (okl_tail (okl_tail h7))
  obtain ⟨c0, hc0⟩ := Option.ne_none_iff_exists'.mp ga
  obtain ⟨e', hP, hz, hok, hge⟩ := h1.at ha hc0
  have hr1 := h0.2.2.2.2.2.2.2.2.2.1.2.2.2
  obtain ⟨L, E, g1, g2, g3, g4, g5, g6, g7⟩ := h1
  have e1 : φ b = r 1 := by rw [hb1]; exact g6 1 (by omega)
  refine lv_acmp_eq (rx := some (φ a)) (ry := some (φ b)) h0.1 h0.2.1 hd ht (fun h => ?_) (fun _ => kk)
  have := Option.some.inj h
  omega
theorem A.acmp_ne_f {a : Nat} {off : Int} {tgt : Nat} (ht : (pc : Int) + off = (tgt : Int)) (hd : decode (mcode y) pc = .ok (.if_acmp .ne off, 3)) (kk : A d y (pc + 3) ls st G kc ks Q) : A d y pc ls (.ref a :: .ref a :: st) G kc ks Q := by
  refine A.pure (fun {p l e R s m args below meth c H locs cells slots Z la φ} hx hb k => ?_) (fun _ h => okl_tail (okl_tail h)) kk
  exact lv_acmp_ne (rx := some (φ a)) (ry := some (φ a)) hx hb hd ht (fun h => absurd rfl h) (fun _ => k)
/-- the mirror of Object[], as a constant and as an array's class -/
theorem A.ldcM {idx : Nat} (hd : decode (mcode y) pc = .ok (.ldc idx, 2)) (hl : Cond.classLink (mcls y) idx "[Ljava/lang/Object;" ∈ gt) (kk : A d y (pc + 2) ls (.ref 3 :: st) G kc ks Q) : A d y pc ls st G kc ks Q := by
  intro l D N0 r φ0 G0 mc ms p e R s m args below meth c H locs cells slots φ la h0 h1 h2 h3 h4 h5 h6 h7
  have kk := kk l D N0 r φ0 G0 mc ms p e R s m args below meth c H locs cells slots φ la h0 h1 h2 h3 h4 h5 h6 (okl_cons (okv_r (Or.inl (by omega))) h7)
  obtain ⟨hx, hb, hr, hml, hown, hts, hlocks, hnm, hK, hSt, hd1, hd2, hN, hnx⟩ := h0
  obtain ⟨L, E, g1, g2, g3, g4, g5, g6, g7⟩ := h1
  have e1 : φ 3 = r 3 := g6 3 (by omega)
  have kk : W p l e R s m args below meth c H locs cells slots (MQ below (AQ D N0 r φ0 G0 Q) args s mc ms (fun q => N0 ≤ q)) (F0 m (pc + 2) la (.ref (φ 3) :: st.map (tv φ))) := kk
  rw [e1] at kk
  exact va_ldcM hx hb hown (hts _ hl) hSt.2.2.1 hd kk
def LkG (own : String) (idx : Nat) : Prop := Cond.methodLink own idx ⟨"java/lang/Object", "getClass", "()Ljava/lang/Class;"⟩ ∈ gt ∧ Cond.selects "[Ljava/lang/Object;" ⟨"java/lang/Object", "getClass", "()Ljava/lang/Class;"⟩ ⟨"java/lang/Object", "getClass", "()Ljava/lang/Class;"⟩ ∈ gt ∧ Cond.instanceMethod ⟨"java/lang/Object", "getClass", "()Ljava/lang/Class;"⟩ ∈ gt ∧ Cond.native ⟨"java/lang/Object", "getClass", "()Ljava/lang/Class;"⟩ ∈ gt
theorem A.getClass {idx a n : Nat} {f : Nat → Option Nat} (hd : decode (mcode y) pc = .ok (.invokevirtual idx, 3)) (hl : LkG (mcls y) idx) (ha : G a = some (aR (.object "java/lang/Object") n f)) (hw : (st.map fun v => v.category).sum ≤ 8) (hdd : 1 ≤ d) (kk : A d y (pc + 3) ls (.ref 3 :: st) G kc ks Q) : A d y pc ls (.ref a :: st) G kc ks Q := by
  intro l D N0 r φ0 G0 mc ms p e R s m args below meth c H locs cells slots φ la h0 h1 h2 h3 h4 h5 h6 h7
  have kk := kk l D N0 r φ0 G0 mc ms p e R s m args below meth c H locs cells slots φ la h0 h1 h2 h3 h4 h5 h6 (okl_cons (okv_r (Or.inl (by omega))) (okl_tail h7))
  have h16 := h1.hi ha (fun n f h => by cases h)
  obtain ⟨e', hP, ⟨cA, rfl, hA1, hA2⟩, hok, -⟩ := h1.at h16 ha
  obtain ⟨hx, hb, hr, hml, hown, hts, hlocks, hnm, hK, hSt, hd1, hd2, hN, hnx⟩ := h0
  obtain ⟨L, E, g1, g2, g3, g4, g5, g6, g7⟩ := h1
  have e1 : φ 3 = r 3 := g6 3 (by omega)
  have kk : W p l e R s m args below meth c H locs cells slots (MQ below (AQ D N0 r φ0 G0 Q) args s mc ms (fun q => N0 ≤ q)) (F0 m (pc + 3) la (.ref (φ 3) :: st.map (tv φ))) := kk
  rw [e1] at kk
  obtain ⟨kA, comp, r1, r2, r3, r4⟩ := hA2
  exact va_getC (C := "[Ljava/lang/Object;") hx hb (hml.trans h5.1.symm) hown (hts _ hl.1) (va_Dc.use hnx.2.2.2.2) (hts _ hl.2.1) (hts _ hl.2.2.1) (hts _ hl.2.2.2) hSt.2.2.1 ⟨_, hP 0 _ rfl, rfl, r4⟩ (by omega) (by rw [catm]; omega) hd kk
end MAKE
end
section
/-! System.arraycopy of references; new int[n][k] -/
theorem any_of {D : va_G} {N0 : Nat} {r φ : Nat → Nat} {s : State} {G : AHp} {H : Heap} (hK : va_K D classes [] s) (hnx : NX s) (h1 : Rel D N0 r s φ G H) {b ci : Nat} {fs : List Value} {C : String} {T : u_T} {N : Nat} {E : String} (hb : G b = some (oB ci fs)) (hc : classes[ci]? = some (C, T, N)) (hce : Cond.castable C E ∈ nt) : va_Any E s H (φ b) := by
  have h16b := h1.hi hb (fun n f h => by cases h)
  obtain ⟨eb, hPb, hzb, -, -⟩ := h1.at h16b hb
  cases (show eb = _ from hzb)
  obtain ⟨cell, g1, g2, g3⟩ := va_recv hK hPb hc (q0 := 0) rfl
  have hcls := (hK.1 ci _ hc).2
  refine ⟨cell, g1, g2, ?_, fun comp hcomp => vb_asgC (hnx.1 _ hce) comp cell.cls hcomp g3⟩
  obtain ⟨f1, kC, f2, -⟩ := hcls
  rw [g3] at f1
  have e : cell.cls = D.1 ci := Option.some.inj f1
  exact ⟨kC, by rw [e]; exact f2⟩
theorem Rel.gap2 {D : va_G} {N0 : Nat} {r φ : Nat → Nat} {s : State} {G : AHp} {H : Heap} (h : Rel D N0 r s φ G H) {a b : Nat} {c cb : ACell} (ha : 16 ≤ a) (hc : G a = some c) (hb : 16 ≤ b) (hcb : G b = some cb) :
    ∃ (L : List Nat) (E : Nat → va_E) (k j : Nat), (Wl φ E L)[k]? = some (φ a, E a) ∧ (Wl φ E L)[j]? = some (φ b, E b) ∧ va_P D classes (Wl φ E L) H ∧ va_D (fun q => N0 ≤ q) (Wl φ E L) ∧ Cz s φ c (E a) ∧ okc G c ∧ Cz s φ cb (E b) ∧ okc G cb ∧
      ∀ (c' : ACell) (e' : va_E) (H1 : Heap), Cz s φ c' e' → okc G c' → va_P D classes ((Wl φ E L).set k (φ a, e')) H1 → va_D (fun q => N0 ≤ q) ((Wl φ E L).set k (φ a, e')) → (∀ q : Nat, q < N0 → H1[q]? = H[q]?) → Rel D N0 r s φ (up G a c') H1 := by
  obtain ⟨L, E, h1, h2, h3, h4, h5, h6, h7⟩ := h
  have ga : G a ≠ none := by rw [hc]; simp
  obtain ⟨k, hk⟩ := List.getElem?_of_mem ((h2 a).mpr ⟨ha, ga⟩)
  obtain ⟨j, hj⟩ := List.getElem?_of_mem ((h2 b).mpr ⟨hb, by rw [hcb]; simp⟩)
  refine ⟨L, E, k, j, Wl_get hk, Wl_get hj, h4, h5, (h3 a c ha hc).1, (h3 a c ha hc).2, (h3 b cb hb hcb).1, (h3 b cb hb hcb).2, fun c' e' H1 hz hok hP hD hX => ?_⟩
  have hdom : ∀ b, up G a c' b ≠ none ↔ G b ≠ none := up_dom ga
  rw [Wl_set h1 hk] at hP hD
  refine ⟨L, _, h1, fun b => by rw [hdom b]; exact h2 b, fun b x hb hx => ?_, hP, hD, h6, fun b x hb hx => ?_⟩
  · show Cz s _ x (if b = a then e' else E b) ∧ _
    by_cases e : b = a
    · subst e
      rw [up_s] at hx
      cases hx
      rw [if_pos rfl]
      exact ⟨hz, okc_mono (fun x hx => (hdom x).mpr hx) hok⟩
    · rw [up_n e] at hx
      rw [if_neg e]
      exact ⟨(h3 b x hb hx).1, okc_mono (fun x hx => (hdom x).mpr hx) (h3 b x hb hx).2⟩
  · rw [up_n (show b ≠ a by omega)] at hx
    obtain ⟨e0, n, f, e1, e2, e3⟩ := h7 b x hb hx
    exact ⟨e0, n, f, e1, e2.kept (hX _ e3), e3⟩
section MORE
variable {d : Nat} {y : MI} {pc : Nat} {ls : List (Option Value)} {st : List Value} {G : AHp} {kc ks : Nat} {Q : Option Value → AHp → Prop}
def LkC (own : String) (idx : Nat) : Prop := Cond.methodLink own idx arraycopyName ∈ gt ∧ Cond.native arraycopyName ∈ gt ∧ Cond.static arraycopyName ∈ gt ∧ Cond.initialized "java/lang/System" ∈ gt
/-- the first n references of an Object[] into another, from 0 on -/
theorem A.copy {idx a0 a1 n0 n1 n : Nat} {f g : Nat → Option Nat} {i : Int32} (hd : decode (mcode y) pc = .ok (.invokestatic idx, 3)) (hl : LkC (mcls y) idx) (ha0 : G a0 = some (aR (.object "java/lang/Object") n0 f)) (ha1 : G a1 = some (aR (.object "java/lang/Object") n1 g)) (hi : i.toInt = (n : Int)) (hn0 : n ≤ n0) (hn1 : n ≤ n1)
    (hel : ∀ k b, k < n → f k = some b → ∃ (ci : Nat) (fs : List Value) (C : String) (T : u_T) (N : Nat), G b = some (oB ci fs) ∧ classes[ci]? = some (C, T, N) ∧ Cond.castable C "java/lang/Object" ∈ nt) (hw : (st.map fun v => v.category).sum ≤ 8) (hdd : 1 ≤ d)
    (kk : A d y (pc + 3) ls st (up G a1 (aR (.object "java/lang/Object") n1 (fun k => if k < n then f k else g k))) kc ks Q) : A d y pc ls (.int i :: .int 0 :: .ref a1 :: .int 0 :: .ref a0 :: st) G kc ks Q := by
  intro l D N0 r φ0 G0 mc ms p e R s m args below meth c H locs cells slots φ la h0 h1 h2 h3 h4 h5 h6 h7
  have h16 := h1.hi ha1 (fun n f h => by cases h)
  have h160 := h1.hi ha0 (fun n f h => by cases h)
  have hcl : i.toNatClampNeg = n := by show i.toInt.toNat = n; omega
  have hi0 : ¬ i < 0 := by rw [Int32.lt_iff_toInt_lt]; show ¬ i.toInt < 0; omega
  have hany : ∀ k : Nat, k < n → ∀ q : Nat, (f k).map φ = some q → va_Any "java/lang/Object" s H q := fun k hk q hq => by
    cases hfk : f k with
    | none => rw [hfk] at hq; cases hq
    | some b =>
      rw [hfk] at hq
      cases hq
      obtain ⟨ci, fs, C, T, N, e1, e2, e3⟩ := hel k b hk hfk
      exact any_of h0.2.2.2.2.2.2.2.2.1 h0.2.2.2.2.2.2.2.2.2.2.2.2.2 h1 e1 e2 e3
  obtain ⟨L, E, k0, j0, hk0, hj0, hP, hD, ⟨c1, hz, hA1, hA2⟩, hok, ⟨c0, hz0, hB1, hB2⟩, hok0, back⟩ := h1.gap2 h16 ha1 h160 ha0
  rw [hz] at hk0
  rw [hz0] at hj0
  have hmono : ∀ q, G q ≠ none → up G a1 (aR (.object "java/lang/Object") n1 (fun k => if k < n then f k else g k)) q ≠ none := fun q hq => up_ne hq
  have hK2 : va_K D classes [(c0, .object "java/lang/Object"), (c1, .object "java/lang/Object")] s := ⟨h0.2.2.2.2.2.2.2.2.1.1, fun k q hk => by
    match k, hk with
    | 0, hk => cases hk; exact ⟨hB1, hB2⟩
    | 1, hk => cases hk; exact ⟨hA1, hA2⟩
    | k + 2, hk => simp at hk⟩
  have hz00 : (0 : Int32).toNatClampNeg = 0 := by decide
  have hcw := catm φ st
  have hd1 : d ≤ R.frames := h0.2.2.2.2.2.2.2.2.2.2.1
  have hd2 : 40 * d ≤ R.locals := h0.2.2.2.2.2.2.2.2.2.2.2.1
  have hnf : nativeFrameWords "java/lang/System" "arraycopy" 5 ≤ 20 := by decide
  refine va_copyM (E0 := "java/lang/Object") (E1 := "java/lang/Object") (f := fun k => (f k).map φ) (g := fun k => (g k).map φ) (sp := 0) (dp := 0) (n := i) h0.1 h0.2.1 (h0.2.2.2.1.trans h5.1.symm) h0.2.2.2.2.1 (h0.2.2.2.2.2.1 _ hl.1) (h0.2.2.2.2.2.1 _ hl.2.1) (h0.2.2.2.2.2.1 _ hl.2.2.1) (h0.2.2.2.2.2.1 _ hl.2.2.2) hK2 hP hD h3 j0 k0 0 1 hj0 hk0 rfl rfl (by decide) (by decide) hi0 (by rw [hz00, hcl]; omega) (by rw [hz00, hcl]; omega) (fun k hk q hq => by
    rw [hz00, Nat.zero_add] at hq
    exact hany k (by omega) q hq) (by omega) (by rw [hcw]; omega) hd (fun H1 locs1 hP1 hD1 hS1 => ?_)
  rw [hz00, hcl] at hP1 hD1
  have hmap : va_cpy (fun k => (f k).map φ) (fun k => (g k).map φ) 0 0 n = (fun k => (if k < n then f k else g k).map φ) := by
    funext k
    unfold va_cpy
    by_cases e : k < n
    · rw [if_pos ⟨Nat.zero_le _, by omega⟩, if_pos e]; simp
    · rw [if_neg (by omega), if_neg e]
  rw [hmap] at hP1 hD1
  refine kk l D N0 r φ0 G0 mc ms p e R s m args below meth c H1 locs1 cells slots φ la h0 (back (aR (.object "java/lang/Object") n1 (fun k => if k < n then f k else g k)) _ H1 ⟨c1, rfl, hA1, hA2⟩ (fun k x hx => ?_) hP1 hD1 (low_kept h0.2.2.2.2.2.2.2.2.2.2.2.2.1 h3 hS1)) h2.put hS1 h4 h5 (oks_mono hmono h6) (okl_mono hmono (okl_tail (okl_tail (okl_tail (okl_tail (okl_tail h7))))))
  have hx : (if k < n then f k else g k) = some x := hx
  by_cases e : k < n
  · rw [if_pos e] at hx; exact hok0 k x hx
  · rw [if_neg e] at hx; exact hok k x hx
end MORE
/-- a cell that lies in the machine's heap unnamed gets a name -/
theorem Rel.add {D : va_G} {N0 : Nat} {r φ : Nat → Nat} {s : State} {G : AHp} {H : Heap} (h : Rel D N0 r s φ G H) {a q : Nat} {c' : ACell} {e' : va_E} (ha : 16 ≤ a) (ga : G a = none) (hq : ∀ b, 16 ≤ b → G b ≠ none → φ b ≠ q) (hN : N0 ≤ q) (hz : Cz s (va_up φ a q) c' e') (hk : okc (up G a c') c') (hat : va_at D classes (q, e') H) : Rel D N0 r s (va_up φ a q) (up G a c') H ∧ ∀ b, okn G b → va_up φ a q b = φ b := by
  obtain ⟨L, E, hL, hP, hD, hφ, back⟩ := h.gapX ha ga
  have one : ∀ (j : Nat) (x : Nat × va_E), [(q, e')][j]? = some x → j = 0 ∧ x = (q, e') := fun j x hx => by
    have h0 : j < 1 := (List.getElem?_eq_some_iff.mp hx).1
    have hj : j = 0 := by omega
    subst hj
    cases hx
    exact ⟨rfl, rfl⟩
  refine ⟨back q c' e' H hz hk (hP.app (fun k x hx => ?_)) (hD.app ⟨fun i j x y hi hj _ => ?_, fun k x hx => ?_⟩ (fun i j x y hx hy hxy => ?_)) (fun _ _ => rfl), hφ q⟩
  · rw [(one k x hx).2]; exact hat
  · rw [(one i x hi).1, (one j y hj).1]
  · rw [(one k x hx).2]; exact hN
  · obtain ⟨b, hb1, hb2, hb3⟩ := hL i x hx
    rw [(one j y hy).2] at hxy
    exact hq b hb1 hb2 (hb3.symm.trans hxy)
theorem Rel.heap {D : va_G} {N0 : Nat} {r φ : Nat → Nat} {s : State} {G : AHp} {H H1 : Heap} (h : Rel D N0 r s φ G H) (hN : N0 ≤ H.size) (ho : ∀ x : Nat, x < H.size → H1[x]? = H[x]?) : Rel D N0 r s φ G H1 := by
  obtain ⟨L, E, h1, h2, h3, h4, h5, h6, h7⟩ := h
  refine ⟨L, E, h1, h2, h3, fun k x hx => (h4 k x hx).kept (ho _ (h4 k x hx).lt), h5, h6, fun a c ha hc => ?_⟩
  obtain ⟨e0, n, f, e1, e2, e3⟩ := h7 a c ha hc
  exact ⟨e0, n, f, e1, e2.kept (ho _ (by omega)), e3⟩
/-- n cells of one kind, at the names from B on -/
def upN (G : AHp) (B n : Nat) (c : ACell) : AHp := fun x => if B ≤ x ∧ x < B + n then some c else G x
def phN (φ : Nat → Nat) (B n q : Nat) : Nat → Nat := fun x => if B ≤ x ∧ x < B + n then q + (x - B) else φ x
theorem upN_s (G : AHp) (B n : Nat) (c : ACell) : upN G B (n + 1) c = up (upN G B n c) (B + n) c := by
  funext x
  show (if B ≤ x ∧ x < B + (n + 1) then some c else G x) = (if x = B + n then some c else (if B ≤ x ∧ x < B + n then some c else G x))
  by_cases e : x = B + n
  · rw [if_pos (by omega), if_pos e]
  · rw [if_neg e]
    by_cases h : B ≤ x ∧ x < B + n
    · rw [if_pos h, if_pos (by omega)]
    · rw [if_neg h, if_neg (by omega)]
theorem phN_s (φ : Nat → Nat) (B n q : Nat) : phN φ B (n + 1) q = va_up (phN φ B n q) (B + n) (q + n) := by
  funext x
  show (if B ≤ x ∧ x < B + (n + 1) then q + (x - B) else φ x) = (if x = B + n then q + n else (if B ≤ x ∧ x < B + n then q + (x - B) else φ x))
  by_cases e : x = B + n
  · rw [if_pos (by omega), if_pos e]; omega
  · rw [if_neg e]
    by_cases h : B ≤ x ∧ x < B + n
    · rw [if_pos h, if_pos (by omega)]
    · rw [if_neg h, if_neg (by omega)]
theorem Rel.addN {D : va_G} {N0 : Nat} {r φ : Nat → Nat} {s : State} {G : AHp} {H : Heap} (h : Rel D N0 r s φ G H) {B q k : Nat} {cy : ClassId} (hB : 16 ≤ B) (hA1 : ArrOfT s cy .int) (hA2 : va_RA s cy .int) (hN : N0 ≤ q) : ∀ n : Nat, (∀ x, B ≤ x → x < B + n → G x = none) → (∀ b, 16 ≤ b → G b ≠ none → φ b < q) → (∀ j, j < n → H[q + j]? = some (vp_cell cy (k, .inl (fun _ => 0)))) → Rel D N0 r s (phN φ B n q) (upN G B n (aI k (fun _ => 0))) H ∧ (∀ b, okn G b → phN φ B n q b = φ b)
  | 0, _, _, _ => by
    have e1 : upN G B 0 (aI k (fun _ => 0)) = G := by funext x; unfold upN; rw [if_neg (by omega)]
    have e2 : phN φ B 0 q = φ := by funext x; unfold phN; rw [if_neg (by omega)]
    rw [e1, e2]
    exact ⟨h, fun _ _ => rfl⟩
  | n + 1, hf, hlt, hc => by
    obtain ⟨ih, iφ⟩ := Rel.addN h hB hA1 hA2 hN n (fun x h1 h2 => hf x h1 (by omega)) hlt (fun j hj => hc j (by omega))
    rw [upN_s, phN_s]
    have hno : upN G B n (aI k (fun _ => 0)) (B + n) = none := by unfold upN; rw [if_neg (by omega)]; exact hf _ (by omega) (by omega)
    obtain ⟨r1, r2⟩ := ih.add (a := B + n) (q := q + n) (c' := aI k (fun _ => 0)) (e' := .inl (cy, k, .inl (fun _ => 0))) (by omega) hno (fun b hb1 hb2 => by
      unfold upN at hb2
      unfold phN
      by_cases hx : B ≤ b ∧ b < B + n
      · rw [if_pos hx]; omega
      · rw [if_neg hx] at hb2 ⊢
        have := hlt b hb1 hb2
        omega) (by omega) ⟨cy, rfl, hA1, hA2⟩ trivial (hc n (by omega))
    refine ⟨r1, fun b hb => ?_⟩
    rw [r2 b (hb.elim Or.inl (fun z => Or.inr (by unfold upN; by_cases hx : B ≤ b ∧ b < B + n <;> simp [hx, z]))), iφ b hb]
theorem mul_outer (c : ClassId) (N h0 : Nat) : ∀ i : Nat, Jvm.Free.Multi.outerC c N h0 i = arrV c N (fun j => va_rf (if j < i then some (h0 + 1 + j) else none))
  | 0 => by
    show ({ cls := c, slots := Array.replicate N .null, vm := .none } : Cell) = _
    rw [arrV_new]
    exact congrArg (arrV c N) (funext fun j => by simp [va_rf])
  | i + 1 => by
    show (Jvm.Free.Multi.outerC c N h0 i).setSlot i (.ref (h0 + 1 + i)) = _
    rw [mul_outer c N h0 i, arrV_store]
    refine congrArg (arrV c N) (funext fun j => ?_)
    by_cases e : j = i
    · subst e; simp [updV, va_rf]
    · by_cases h : j < i
      · simp [updV, e, h, Nat.lt_succ_of_lt h]
      · simp [updV, e, h, show ¬ j < i + 1 by omega]
section MNA
variable {d : Nat} {y : MI} {pc : Nat} {ls : List (Option Value)} {st : List Value} {G : AHp} {kc ks : Nat} {Q : Option Value → AHp → Prop}
theorem A.mna {idx a B n k : Nat} {i j : Int32} (hd : decode (mcode y) pc = .ok (.multianewarray idx 2, 4)) (hl : Cond.classLink (mcls y) idx ("[" ++ (FieldType.array .int).toString) ∈ gt) (hac : Cond.arrayClass .int ∈ gt) (hi : i.toInt = (n : Int)) (hj : j.toInt = (k : Int)) (hn : n ≤ 1000) (hk : k ≤ 1000) (ha : 16 ≤ a) (ga : G a = none) (hB : 16 ≤ B) (gB : ∀ x, B ≤ x → x < B + n → G x = none) (haB : a < B ∨ B + n ≤ a) {kc' ks' : Nat} (hkc : kc' + (1 + n) ≤ kc) (hks : ks' + (n + n * k) ≤ ks)
    (kk : A d y (pc + 4) ls (.ref a :: st) (up (upN G B n (aI k (fun _ => 0))) a (aR (.array .int) n (fun x => if x < n then some (B + x) else none))) kc' ks' Q) : A d y pc ls (.int j :: .int i :: st) G kc ks Q := by
  intro l D N0 r φ0 G0 mc ms p e R s m args below meth c H locs cells slots φ la h0 h1 h2 h3 h4 h5 h6 h7 T hT Xs
  have hcl : i.toNatClampNeg = n := by show i.toInt.toNat = n; omega
  have hcl2 : j.toNatClampNeg = k := by show j.toInt.toNat = k; omega
  have hi0 : ¬ i < 0 := by rw [Int32.lt_iff_toInt_lt]; show ¬ i.toInt < 0; omega
  have hj0 : ¬ j < 0 := by rw [Int32.lt_iff_toInt_lt]; show ¬ j.toInt < 0; omega
  have hNs : N0 ≤ s.heap.size := h0.2.2.2.2.2.2.2.2.2.2.2.2.1
  have hN : N0 ≤ H.size := Nat.le_trans hNs h3.1
  obtain ⟨vm₁, cA, cy, -, fA, fC, hO, hI, X', step⟩ := Xs.multianewarray2F h0.1 h0.2.2.2.2.1 (h0.2.2.2.2.2.1 _ hl) (show (Cond.arrayOver (.array .int)).before args s = true from h0.2.2.2.2.2.2.2.2.2.2.2.2.2.2.2.2.1) (h0.2.2.2.2.2.1 _ hac) (g := F0 m pc la ((Value.int j :: .int i :: st).map (tv φ))) rfl (by rw [h0.2.1]; exact hd) rfl hi0 hj0 (by rw [hcl]; omega) (by rw [hcl2]; show k * 4 ≤ _; omega) (by rw [hcl2]; omega) rfl rfl (by rw [hcl]; omega) (by rw [hcl, hcl2]; omega)
  rw [hcl, hcl2] at X' step
  generalize hF : Jvm.Free.Multi.fill (T.setVm vm₁) cA cy n k (defaultValue .int) n = F at X' step
  have hTh : (T.setVm vm₁).heap = H := hT
  obtain ⟨f1, f2, -, -⟩ := Jvm.Free.Multi.fill_facts (T.setVm vm₁) cA cy n k (defaultValue .int) n
  rw [hF, hTh] at f1 f2
  have hold : ∀ x : Nat, x < H.size → F.heap[x]? = H[x]? := fun x hx => by
    have := Jvm.Free.Multi.fill_old (T.setVm vm₁) cA cy n k (defaultValue .int) (a := x) (by rw [hTh]; exact hx) n
    rw [hF, hTh] at this
    exact this
  have hrow : ∀ x : Nat, x < n → F.heap[H.size + 1 + x]? = some (vp_cell cy (k, .inl (fun _ => 0))) := fun x hx => by
    have := Jvm.Free.Multi.fill_inner (T.setVm vm₁) cA cy n k (defaultValue .int) n x hx
    rw [hF, hTh] at this
    rw [this]
    show some ({ cls := cy, slots := Array.replicate k (defaultValue .int), vm := .none } : Cell) = _
    rw [arrV_new, vp_cell_i]
    rfl
  have hB1 : ArrOfT s cy .int := fun N9 z9 => by
    obtain ⟨q9, k9, hk9, cm9, hkk9⟩ := (hI 0 (.int 0)).1
    exact ⟨(fun q hq => by cases hq), k9, hk9, cm9, hkk9⟩
  have hA1 : ArrOfT s cA (.array .int) := fun N9 z9 => by
    obtain ⟨-, k9, hk9, cm9, hkk9⟩ := (hO 0 0 0).1
    exact ⟨(fun q hq => by cases hq), k9, hk9, cm9, hkk9⟩
  have hlt : ∀ b, 16 ≤ b → G b ≠ none → φ b < H.size := fun b hb1 hb2 => by
    obtain ⟨c0, hc0⟩ := Option.ne_none_iff_exists'.mp hb2
    obtain ⟨e', hP, -, -, -⟩ := h1.at hb1 hc0
    exact (hP 0 _ rfl).lt
  obtain ⟨R1, p1⟩ := Rel.addN (h1.heap hN hold) (B := B) (q := H.size + 1) (k := k) (cy := cy) hB hB1 fC (by omega) n gB (fun b hb1 hb2 => Nat.lt_succ_of_lt (hlt b hb1 hb2)) hrow
  have hφB : ∀ x, x < n → va_up (phN φ B n (H.size + 1)) a H.size (B + x) = H.size + 1 + x := fun x hx => by
    show (if B + x = a then H.size else phN φ B n (H.size + 1) (B + x)) = _
    rw [if_neg (by omega)]
    unfold phN
    rw [if_pos (by omega)]
    omega
  have hfun : (fun x => (if x < n then some (B + x) else none).map (va_up (phN φ B n (H.size + 1)) a H.size)) = (fun x => if x < n then some (H.size + 1 + x) else none) := by
    funext x
    by_cases hx : x < n
    · rw [if_pos hx, if_pos hx]; show some _ = some _; rw [hφB x hx]
    · rw [if_neg hx, if_neg hx]; rfl
  have hout : F.heap[H.size]? = some (vp_cell cA (n, .inr (.inr (.inr (.inr (fun x => if x < n then some (H.size + 1 + x) else none)))))) := by
    rw [f2, vp_cell_q, mul_outer]
  have hgB : ∀ x, x < n → upN G B n (aI k (fun _ => 0)) (B + x) ≠ none := fun x hx => by unfold upN; rw [if_pos (by omega)]; simp
  obtain ⟨R2, p2⟩ := R1.add (a := a) (q := H.size) (c' := aR (.array .int) n (fun x => if x < n then some (B + x) else none)) (e' := .inl (cA, n, .inr (.inr (.inr (.inr (fun x => if x < n then some (H.size + 1 + x) else none)))))) ha (by unfold upN; rw [if_neg (by omega)]; exact ga) (fun b hb1 hb2 => by
      unfold upN at hb2
      unfold phN
      by_cases hx : B ≤ b ∧ b < B + n
      · rw [if_pos hx]; omega
      · rw [if_neg hx] at hb2 ⊢
        have := hlt b hb1 hb2
        omega) hN ⟨cA, by show Sum.inl (cA, n, _) = Sum.inl (cA, n, _); rw [hfun], hA1, fA⟩ (fun x b hb => by
      have hb : (if x < n then some (B + x) else none) = some b := hb
      by_cases hx : x < n
      · rw [if_pos hx] at hb; cases hb; exact Or.inr (up_ne (hgB x hx))
      · rw [if_neg hx] at hb; cases hb) hout
  have hmono : ∀ b, G b ≠ none → up (upN G B n (aI k (fun _ => 0))) a (aR (.array .int) n (fun x => if x < n then some (B + x) else none)) b ≠ none := fun b hb => up_ne (by unfold upN; by_cases hx : B ≤ b ∧ b < B + n <;> simp [hx, hb])
  have hmid : ∀ b, okn G b → okn (upN G B n (aI k (fun _ => 0))) b := fun b hb => hb.elim Or.inl (fun z => Or.inr (by unfold upN; by_cases hx : B ≤ b ∧ b < B + n <;> simp [hx, z]))
  have hφ : ∀ b, okn G b → va_up (phN φ B n (H.size + 1)) a H.size b = φ b := fun b hb => (p2 b (hmid b hb)).trans (p1 b hb)
  have hst : Value.ref H.size :: st.map (tv φ) = (Value.ref a :: st).map (tv (va_up (phN φ B n (H.size + 1)) a H.size)) := by
    rw [List.map_cons, tvl_eq hφ (okl_tail (okl_tail h7))]
    show _ = Value.ref (va_up _ a H.size a) :: _
    rw [show va_up (phN φ B n (H.size + 1)) a H.size a = H.size from if_pos rfl]
  obtain ⟨t, a1, b1⟩ := kk l D N0 r φ0 G0 mc ms p e R s m args below meth c F.heap locs (cells + 1 + n) (slots + n + n * k) (va_up (phN φ B n (H.size + 1)) a H.size) la h0 R2 ⟨fun b hb => ⟨hmono b (h2.1 b hb).1, (hφ b (Or.inr (h2.1 b hb).1)).trans (h2.1 b hb).2⟩, fun b hb => (hφ b (Or.inl hb)).trans (h2.2 b hb)⟩
    ⟨by rw [f1]; have := h3.1; omega, fun x x1 x2 => (hold x (Nat.lt_of_lt_of_le x1 h3.1)).trans (h3.2.1 x x1 x2), h3.2.2⟩ ⟨by omega, by omega, h4.2.2⟩ (LH_eq hφ h6 h5) (oks_mono hmono h6) (okl_cons (okv_r (Or.inr (by rw [up_s]; simp))) (okl_mono hmono (okl_tail (okl_tail h7)))) F rfl X'
  refine ⟨t, step t ?_, b1⟩
  have e9 : T.heap.size = H.size := by rw [hT]
  rw [e9]
  rw [← hst] at a1
  exact a1
end MNA
end
section
/-! WHAT THE POOLS LINK (by program) -/
theorem tb {w : Cond} (i : Nat) (h : tables_1[i]? = some w) (hg : goodWord w = true) : w ∈ gt := gt_in (List.mem_append_right _ (List.mem_of_getElem? h)) hg
theorem tn {w : Cond} (i : Nat) (h : tables_1[i]? = some w) (hg : isNest w = true) : w ∈ nt := nt_in (List.mem_append_right _ (List.mem_of_getElem? h)) hg
theorem tp {w : Cond} (i : Nat) (h : (k2_sels lw_privs)[i]? = some w) (hg : goodWord w = true) : w ∈ gt := gt_in (List.mem_append_left _ (List.mem_of_getElem? h)) hg
theorem ck_af : CK 0 R_af T_af 12 ty_af := ⟨rfl, by decide +kernel, tyok_af, nm_af⟩
theorem ck_md : CK 1 R_md T_md 32 ty_md := ⟨rfl, by decide +kernel, tyok_md, nm_md⟩
theorem ck_bp : CK 2 R_bp T_bp 8 ty_bp := ⟨rfl, by decide +kernel, tyok_bp, nm_bp⟩
theorem ck_ch : CK 3 R_ch T_ch 4 ty_ch := ⟨rfl, by decide +kernel, tyok_ch, nm_ch⟩
theorem ck_ct : CK 4 R_ct T_ct 5 ty_ct := ⟨rfl, by decide +kernel, tyok_ct, nm_ct⟩
theorem ck_pl : CK 5 R_pl T_pl 9 ty_pl := ⟨rfl, by decide +kernel, tyok_pl, nm_pl⟩
theorem ck_sh : CK 6 R_sh T_sh 2 ty_sh := ⟨rfl, by decide +kernel, tyok_sh, nm_sh⟩
theorem ck_sr : CK 7 R_sr T_sr 2 ty_sr := ⟨rfl, by decide +kernel, tyok_sr, nm_sr⟩
theorem ck_sv : CK 8 R_sv T_sv 1 ty_sv := ⟨rfl, by decide +kernel, tyok_sv, nm_sv⟩
theorem ck_wl : CK 9 R_wl T_wl 4 ty_wl := ⟨rfl, by decide +kernel, tyok_wl, nm_wl⟩
theorem ck_al : CK 10 R_al T_al 3 ty_al := ⟨rfl, by decide +kernel, tyok_al, nm_al⟩
theorem f_af_9 : FL "AfterFire" 9 0 0 (.array .int) := ⟨_, _, _, _, ck_af, by decide, rfl, Or.inl ⟨"AfterFire", tb 158 (by decide +kernel) rfl, Or.inl rfl⟩⟩
theorem q_af_9 : FF "AfterFire" 9 0 0 (.array .int) := ⟨_, _, _, _, ck_af, by decide, rfl, rfl, rfl, tb 158 (by decide +kernel) rfl⟩
theorem f_af_16 : FL "AfterFire" 16 0 1 (.object "java/util/ArrayList") := ⟨_, _, _, _, ck_af, by decide, rfl, Or.inl ⟨"AfterFire", tb 159 (by decide +kernel) rfl, Or.inl rfl⟩⟩
theorem q_af_16 : FF "AfterFire" 16 0 1 (.object "java/util/ArrayList") := ⟨_, _, _, _, ck_af, by decide, rfl, rfl, rfl, tb 159 (by decide +kernel) rfl⟩
theorem f_af_22 : FL "AfterFire" 22 0 2 (.array (.object "AfterFire$Street")) := ⟨_, _, _, _, ck_af, by decide, rfl, Or.inl ⟨"AfterFire", tb 160 (by decide +kernel) rfl, Or.inl rfl⟩⟩
theorem q_af_22 : FF "AfterFire" 22 0 2 (.array (.object "AfterFire$Street")) := ⟨_, _, _, _, ck_af, by decide, rfl, rfl, rfl, tb 160 (by decide +kernel) rfl⟩
theorem f_af_29 : FL "AfterFire" 29 0 3 (.object "AfterFire$Shares") := ⟨_, _, _, _, ck_af, by decide, rfl, Or.inl ⟨"AfterFire", tb 161 (by decide +kernel) rfl, Or.inl rfl⟩⟩
theorem q_af_29 : FF "AfterFire" 29 0 3 (.object "AfterFire$Shares") := ⟨_, _, _, _, ck_af, by decide, rfl, rfl, rfl, tb 161 (by decide +kernel) rfl⟩
theorem f_af_36 : FL "AfterFire" 36 0 4 (.object "AfterFire$BrickPlan") := ⟨_, _, _, _, ck_af, by decide, rfl, Or.inl ⟨"AfterFire", tb 162 (by decide +kernel) rfl, Or.inl rfl⟩⟩
theorem q_af_36 : FF "AfterFire" 36 0 4 (.object "AfterFire$BrickPlan") := ⟨_, _, _, _, ck_af, by decide, rfl, rfl, rfl, tb 162 (by decide +kernel) rfl⟩
theorem f_af_43 : FL "AfterFire" 43 0 5 (.object "AfterFire$Chest") := ⟨_, _, _, _, ck_af, by decide, rfl, Or.inl ⟨"AfterFire", tb 163 (by decide +kernel) rfl, Or.inl rfl⟩⟩
theorem q_af_43 : FF "AfterFire" 43 0 5 (.object "AfterFire$Chest") := ⟨_, _, _, _, ck_af, by decide, rfl, rfl, rfl, tb 163 (by decide +kernel) rfl⟩
theorem f_af_50 : FL "AfterFire" 50 0 6 (.object "AfterFire$Survey") := ⟨_, _, _, _, ck_af, by decide, rfl, Or.inl ⟨"AfterFire", tb 164 (by decide +kernel) rfl, Or.inl rfl⟩⟩
theorem q_af_50 : FF "AfterFire" 50 0 6 (.object "AfterFire$Survey") := ⟨_, _, _, _, ck_af, by decide, rfl, rfl, rfl, tb 164 (by decide +kernel) rfl⟩
theorem f_af_54 : FL "AfterFire" 54 0 7 .int := ⟨_, _, _, _, ck_af, by decide, rfl, Or.inl ⟨"AfterFire", tb 165 (by decide +kernel) rfl, Or.inl rfl⟩⟩
theorem p_af_54 : FP "AfterFire" 54 0 7 .int := ⟨_, _, _, _, ck_af, by decide, rfl, rfl, Or.inl ⟨"AfterFire", tb 165 (by decide +kernel) rfl, Or.inl rfl⟩⟩
theorem f_af_58 : FL "AfterFire" 58 0 8 .int := ⟨_, _, _, _, ck_af, by decide, rfl, Or.inl ⟨"AfterFire", tb 166 (by decide +kernel) rfl, Or.inl rfl⟩⟩
theorem p_af_58 : FP "AfterFire" 58 0 8 .int := ⟨_, _, _, _, ck_af, by decide, rfl, rfl, Or.inl ⟨"AfterFire", tb 166 (by decide +kernel) rfl, Or.inl rfl⟩⟩
theorem f_af_61 : FL "AfterFire" 61 0 9 .int := ⟨_, _, _, _, ck_af, by decide, rfl, Or.inl ⟨"AfterFire", tb 167 (by decide +kernel) rfl, Or.inl rfl⟩⟩
theorem p_af_61 : FP "AfterFire" 61 0 9 .int := ⟨_, _, _, _, ck_af, by decide, rfl, rfl, Or.inl ⟨"AfterFire", tb 167 (by decide +kernel) rfl, Or.inl rfl⟩⟩
theorem f_af_64 : FL "AfterFire" 64 0 10 .int := ⟨_, _, _, _, ck_af, by decide, rfl, Or.inl ⟨"AfterFire", tb 168 (by decide +kernel) rfl, Or.inl rfl⟩⟩
theorem p_af_64 : FP "AfterFire" 64 0 10 .int := ⟨_, _, _, _, ck_af, by decide, rfl, rfl, Or.inl ⟨"AfterFire", tb 168 (by decide +kernel) rfl, Or.inl rfl⟩⟩
theorem f_af_67 : FL "AfterFire" 67 0 11 .int := ⟨_, _, _, _, ck_af, by decide, rfl, Or.inl ⟨"AfterFire", tb 169 (by decide +kernel) rfl, Or.inl rfl⟩⟩
theorem p_af_67 : FP "AfterFire" 67 0 11 .int := ⟨_, _, _, _, ck_af, by decide, rfl, rfl, Or.inl ⟨"AfterFire", tb 169 (by decide +kernel) rfl, Or.inl rfl⟩⟩
theorem f_af_110 : FL "AfterFire" 110 5 2 .int := ⟨_, _, _, _, ck_pl, by decide, rfl, Or.inr ⟨"AfterFire", tn 259 (by decide +kernel) rfl⟩⟩
theorem p_af_110 : FP "AfterFire" 110 5 2 .int := ⟨_, _, _, _, ck_pl, by decide, rfl, rfl, Or.inr ⟨"AfterFire", tn 259 (by decide +kernel) rfl⟩⟩
theorem f_af_113 : FL "AfterFire" 113 5 3 (.object "AfterFire$Chain") := ⟨_, _, _, _, ck_pl, by decide, rfl, Or.inr ⟨"AfterFire", tn 262 (by decide +kernel) rfl⟩⟩
theorem f_af_165 : FL "AfterFire" 165 5 7 (.object "AfterFire$Wall") := ⟨_, _, _, _, ck_pl, by decide, rfl, Or.inr ⟨"AfterFire", tn 271 (by decide +kernel) rfl⟩⟩
theorem p_af_165 : FP "AfterFire" 165 5 7 (.object "AfterFire$Wall") := ⟨_, _, _, _, ck_pl, by decide, rfl, rfl, Or.inr ⟨"AfterFire", tn 271 (by decide +kernel) rfl⟩⟩
theorem f_af_173 : FL "AfterFire" 173 5 8 (.object "AfterFire$Wall") := ⟨_, _, _, _, ck_pl, by decide, rfl, Or.inr ⟨"AfterFire", tn 274 (by decide +kernel) rfl⟩⟩
theorem p_af_173 : FP "AfterFire" 173 5 8 (.object "AfterFire$Wall") := ⟨_, _, _, _, ck_pl, by decide, rfl, rfl, Or.inr ⟨"AfterFire", tn 274 (by decide +kernel) rfl⟩⟩
theorem f_af_176 : FL "AfterFire" 176 7 0 (.object "java/util/ArrayList") := ⟨_, _, _, _, ck_sr, by decide, rfl, Or.inr ⟨"AfterFire", tn 150 (by decide +kernel) rfl⟩⟩
theorem f_af_196 : FL "AfterFire" 196 5 6 .int := ⟨_, _, _, _, ck_pl, by decide, rfl, Or.inr ⟨"AfterFire", tn 268 (by decide +kernel) rfl⟩⟩
theorem p_af_196 : FP "AfterFire" 196 5 6 .int := ⟨_, _, _, _, ck_pl, by decide, rfl, rfl, Or.inr ⟨"AfterFire", tn 268 (by decide +kernel) rfl⟩⟩
theorem f_af_202 : FL "AfterFire" 202 2 6 .int := ⟨_, _, _, _, ck_bp, by decide, rfl, Or.inr ⟨"AfterFire", tn 84 (by decide +kernel) rfl⟩⟩
theorem p_af_202 : FP "AfterFire" 202 2 6 .int := ⟨_, _, _, _, ck_bp, by decide, rfl, rfl, Or.inr ⟨"AfterFire", tn 84 (by decide +kernel) rfl⟩⟩
theorem f_af_205 : FL "AfterFire" 205 2 7 .int := ⟨_, _, _, _, ck_bp, by decide, rfl, Or.inr ⟨"AfterFire", tn 86 (by decide +kernel) rfl⟩⟩
theorem p_af_205 : FP "AfterFire" 205 2 7 .int := ⟨_, _, _, _, ck_bp, by decide, rfl, rfl, Or.inr ⟨"AfterFire", tn 86 (by decide +kernel) rfl⟩⟩
theorem f_af_211 : FL "AfterFire" 211 4 4 .int := ⟨_, _, _, _, ck_ct, by decide, rfl, Or.inr ⟨"AfterFire", tn 117 (by decide +kernel) rfl⟩⟩
theorem p_af_211 : FP "AfterFire" 211 4 4 .int := ⟨_, _, _, _, ck_ct, by decide, rfl, rfl, Or.inr ⟨"AfterFire", tn 117 (by decide +kernel) rfl⟩⟩
theorem f_af_214 : FL "AfterFire" 214 7 1 (.array .int) := ⟨_, _, _, _, ck_sr, by decide, rfl, Or.inr ⟨"AfterFire", tn 152 (by decide +kernel) rfl⟩⟩
theorem f_af_232 : FL "AfterFire" 232 5 0 .int := ⟨_, _, _, _, ck_pl, by decide, rfl, Or.inr ⟨"AfterFire", tn 253 (by decide +kernel) rfl⟩⟩
theorem f_af_235 : FL "AfterFire" 235 5 1 .int := ⟨_, _, _, _, ck_pl, by decide, rfl, Or.inr ⟨"AfterFire", tn 257 (by decide +kernel) rfl⟩⟩
theorem p_af_235 : FP "AfterFire" 235 5 1 .int := ⟨_, _, _, _, ck_pl, by decide, rfl, rfl, Or.inr ⟨"AfterFire", tn 257 (by decide +kernel) rfl⟩⟩
theorem f_af_238 : FL "AfterFire" 238 5 4 .int := ⟨_, _, _, _, ck_pl, by decide, rfl, Or.inr ⟨"AfterFire", tn 264 (by decide +kernel) rfl⟩⟩
theorem p_af_238 : FP "AfterFire" 238 5 4 .int := ⟨_, _, _, _, ck_pl, by decide, rfl, rfl, Or.inr ⟨"AfterFire", tn 264 (by decide +kernel) rfl⟩⟩
theorem f_af_241 : FL "AfterFire" 241 5 5 .int := ⟨_, _, _, _, ck_pl, by decide, rfl, Or.inr ⟨"AfterFire", tn 266 (by decide +kernel) rfl⟩⟩
theorem p_af_241 : FP "AfterFire" 241 5 5 .int := ⟨_, _, _, _, ck_pl, by decide, rfl, rfl, Or.inr ⟨"AfterFire", tn 266 (by decide +kernel) rfl⟩⟩
theorem f_af_256 : FL "AfterFire" 256 4 3 .int := ⟨_, _, _, _, ck_ct, by decide, rfl, Or.inr ⟨"AfterFire", tn 115 (by decide +kernel) rfl⟩⟩
theorem p_af_256 : FP "AfterFire" 256 4 3 .int := ⟨_, _, _, _, ck_ct, by decide, rfl, rfl, Or.inr ⟨"AfterFire", tn 115 (by decide +kernel) rfl⟩⟩
theorem f_af_259 : FL "AfterFire" 259 4 2 .int := ⟨_, _, _, _, ck_ct, by decide, rfl, Or.inr ⟨"AfterFire", tn 113 (by decide +kernel) rfl⟩⟩
theorem p_af_259 : FP "AfterFire" 259 4 2 .int := ⟨_, _, _, _, ck_ct, by decide, rfl, rfl, Or.inr ⟨"AfterFire", tn 113 (by decide +kernel) rfl⟩⟩
theorem f_af_262 : FL "AfterFire" 262 3 3 .int := ⟨_, _, _, _, ck_ch, by decide, rfl, Or.inr ⟨"AfterFire", tn 240 (by decide +kernel) rfl⟩⟩
theorem p_af_262 : FP "AfterFire" 262 3 3 .int := ⟨_, _, _, _, ck_ch, by decide, rfl, rfl, Or.inr ⟨"AfterFire", tn 240 (by decide +kernel) rfl⟩⟩
theorem f_af_276 : FL "AfterFire" 276 9 3 .int := ⟨_, _, _, _, ck_wl, by decide, rfl, Or.inr ⟨"AfterFire", tn 329 (by decide +kernel) rfl⟩⟩
theorem p_af_276 : FP "AfterFire" 276 9 3 .int := ⟨_, _, _, _, ck_wl, by decide, rfl, rfl, Or.inr ⟨"AfterFire", tn 329 (by decide +kernel) rfl⟩⟩
theorem f_af_279 : FL "AfterFire" 279 9 2 .int := ⟨_, _, _, _, ck_wl, by decide, rfl, Or.inr ⟨"AfterFire", tn 327 (by decide +kernel) rfl⟩⟩
theorem p_af_279 : FP "AfterFire" 279 9 2 .int := ⟨_, _, _, _, ck_wl, by decide, rfl, rfl, Or.inr ⟨"AfterFire", tn 327 (by decide +kernel) rfl⟩⟩
theorem f_bp_9 : FL "AfterFire$BrickPlan" 9 2 0 (.array .int) := ⟨_, _, _, _, ck_bp, by decide, rfl, Or.inl ⟨"AfterFire$BrickPlan", tb 77 (by decide +kernel) rfl, Or.inl rfl⟩⟩
theorem q_bp_9 : FF "AfterFire$BrickPlan" 9 2 0 (.array .int) := ⟨_, _, _, _, ck_bp, by decide, rfl, rfl, rfl, tb 77 (by decide +kernel) rfl⟩
theorem f_bp_15 : FL "AfterFire$BrickPlan" 15 2 1 (.array .int) := ⟨_, _, _, _, ck_bp, by decide, rfl, Or.inl ⟨"AfterFire$BrickPlan", tb 78 (by decide +kernel) rfl, Or.inl rfl⟩⟩
theorem q_bp_15 : FF "AfterFire$BrickPlan" 15 2 1 (.array .int) := ⟨_, _, _, _, ck_bp, by decide, rfl, rfl, rfl, tb 78 (by decide +kernel) rfl⟩
theorem f_bp_18 : FL "AfterFire$BrickPlan" 18 2 2 (.array .int) := ⟨_, _, _, _, ck_bp, by decide, rfl, Or.inl ⟨"AfterFire$BrickPlan", tb 79 (by decide +kernel) rfl, Or.inl rfl⟩⟩
theorem q_bp_18 : FF "AfterFire$BrickPlan" 18 2 2 (.array .int) := ⟨_, _, _, _, ck_bp, by decide, rfl, rfl, rfl, tb 79 (by decide +kernel) rfl⟩
theorem f_bp_21 : FL "AfterFire$BrickPlan" 21 2 3 (.array .int) := ⟨_, _, _, _, ck_bp, by decide, rfl, Or.inl ⟨"AfterFire$BrickPlan", tb 80 (by decide +kernel) rfl, Or.inl rfl⟩⟩
theorem q_bp_21 : FF "AfterFire$BrickPlan" 21 2 3 (.array .int) := ⟨_, _, _, _, ck_bp, by decide, rfl, rfl, rfl, tb 80 (by decide +kernel) rfl⟩
theorem f_bp_24 : FL "AfterFire$BrickPlan" 24 2 4 (.array .int) := ⟨_, _, _, _, ck_bp, by decide, rfl, Or.inl ⟨"AfterFire$BrickPlan", tb 81 (by decide +kernel) rfl, Or.inl rfl⟩⟩
theorem q_bp_24 : FF "AfterFire$BrickPlan" 24 2 4 (.array .int) := ⟨_, _, _, _, ck_bp, by decide, rfl, rfl, rfl, tb 81 (by decide +kernel) rfl⟩
theorem f_bp_27 : FL "AfterFire$BrickPlan" 27 2 5 .int := ⟨_, _, _, _, ck_bp, by decide, rfl, Or.inl ⟨"AfterFire$BrickPlan", tb 82 (by decide +kernel) rfl, Or.inl rfl⟩⟩
theorem p_bp_27 : FP "AfterFire$BrickPlan" 27 2 5 .int := ⟨_, _, _, _, ck_bp, by decide, rfl, rfl, Or.inl ⟨"AfterFire$BrickPlan", tb 82 (by decide +kernel) rfl, Or.inl rfl⟩⟩
theorem f_bp_31 : FL "AfterFire$BrickPlan" 31 2 6 .int := ⟨_, _, _, _, ck_bp, by decide, rfl, Or.inl ⟨"AfterFire$BrickPlan", tb 83 (by decide +kernel) rfl, Or.inl rfl⟩⟩
theorem p_bp_31 : FP "AfterFire$BrickPlan" 31 2 6 .int := ⟨_, _, _, _, ck_bp, by decide, rfl, rfl, Or.inl ⟨"AfterFire$BrickPlan", tb 83 (by decide +kernel) rfl, Or.inl rfl⟩⟩
theorem f_bp_34 : FL "AfterFire$BrickPlan" 34 2 7 .int := ⟨_, _, _, _, ck_bp, by decide, rfl, Or.inl ⟨"AfterFire$BrickPlan", tb 85 (by decide +kernel) rfl, Or.inl rfl⟩⟩
theorem p_bp_34 : FP "AfterFire$BrickPlan" 34 2 7 .int := ⟨_, _, _, _, ck_bp, by decide, rfl, rfl, Or.inl ⟨"AfterFire$BrickPlan", tb 85 (by decide +kernel) rfl, Or.inl rfl⟩⟩
theorem f_bp_37 : FL "AfterFire$BrickPlan" 37 5 0 .int := ⟨_, _, _, _, ck_pl, by decide, rfl, Or.inr ⟨"AfterFire", tn 251 (by decide +kernel) rfl⟩⟩
theorem f_bp_42 : FL "AfterFire$BrickPlan" 42 5 1 .int := ⟨_, _, _, _, ck_pl, by decide, rfl, Or.inr ⟨"AfterFire", tn 255 (by decide +kernel) rfl⟩⟩
theorem p_bp_42 : FP "AfterFire$BrickPlan" 42 5 1 .int := ⟨_, _, _, _, ck_pl, by decide, rfl, rfl, Or.inr ⟨"AfterFire", tn 255 (by decide +kernel) rfl⟩⟩
theorem f_ch_9 : FL "AfterFire$Chain" 9 3 0 (.array .int) := ⟨_, _, _, _, ck_ch, by decide, rfl, Or.inl ⟨"AfterFire$Chain", tb 235 (by decide +kernel) rfl, Or.inl rfl⟩⟩
theorem q_ch_9 : FF "AfterFire$Chain" 9 3 0 (.array .int) := ⟨_, _, _, _, ck_ch, by decide, rfl, rfl, rfl, tb 235 (by decide +kernel) rfl⟩
theorem f_ch_15 : FL "AfterFire$Chain" 15 3 1 (.array .int) := ⟨_, _, _, _, ck_ch, by decide, rfl, Or.inl ⟨"AfterFire$Chain", tb 236 (by decide +kernel) rfl, Or.inl rfl⟩⟩
theorem q_ch_15 : FF "AfterFire$Chain" 15 3 1 (.array .int) := ⟨_, _, _, _, ck_ch, by decide, rfl, rfl, rfl, tb 236 (by decide +kernel) rfl⟩
theorem f_ch_18 : FL "AfterFire$Chain" 18 3 2 (.array .int) := ⟨_, _, _, _, ck_ch, by decide, rfl, Or.inl ⟨"AfterFire$Chain", tb 237 (by decide +kernel) rfl, Or.inl rfl⟩⟩
theorem q_ch_18 : FF "AfterFire$Chain" 18 3 2 (.array .int) := ⟨_, _, _, _, ck_ch, by decide, rfl, rfl, rfl, tb 237 (by decide +kernel) rfl⟩
theorem f_ch_21 : FL "AfterFire$Chain" 21 3 3 .int := ⟨_, _, _, _, ck_ch, by decide, rfl, Or.inl ⟨"AfterFire$Chain", tb 238 (by decide +kernel) rfl, Or.inl rfl⟩⟩
theorem p_ch_21 : FP "AfterFire$Chain" 21 3 3 .int := ⟨_, _, _, _, ck_ch, by decide, rfl, rfl, Or.inl ⟨"AfterFire$Chain", tb 238 (by decide +kernel) rfl, Or.inl rfl⟩⟩
theorem f_ct_9 : FL "AfterFire$Chest" 9 4 0 (.array .int) := ⟨_, _, _, _, ck_ct, by decide, rfl, Or.inl ⟨"AfterFire$Chest", tb 110 (by decide +kernel) rfl, Or.inl rfl⟩⟩
theorem q_ct_9 : FF "AfterFire$Chest" 9 4 0 (.array .int) := ⟨_, _, _, _, ck_ct, by decide, rfl, rfl, rfl, tb 110 (by decide +kernel) rfl⟩
theorem f_ct_15 : FL "AfterFire$Chest" 15 4 1 .int := ⟨_, _, _, _, ck_ct, by decide, rfl, Or.inl ⟨"AfterFire$Chest", tb 111 (by decide +kernel) rfl, Or.inl rfl⟩⟩
theorem p_ct_15 : FP "AfterFire$Chest" 15 4 1 .int := ⟨_, _, _, _, ck_ct, by decide, rfl, rfl, Or.inl ⟨"AfterFire$Chest", tb 111 (by decide +kernel) rfl, Or.inl rfl⟩⟩
theorem f_ct_19 : FL "AfterFire$Chest" 19 4 2 .int := ⟨_, _, _, _, ck_ct, by decide, rfl, Or.inl ⟨"AfterFire$Chest", tb 112 (by decide +kernel) rfl, Or.inl rfl⟩⟩
theorem p_ct_19 : FP "AfterFire$Chest" 19 4 2 .int := ⟨_, _, _, _, ck_ct, by decide, rfl, rfl, Or.inl ⟨"AfterFire$Chest", tb 112 (by decide +kernel) rfl, Or.inl rfl⟩⟩
theorem f_ct_22 : FL "AfterFire$Chest" 22 4 3 .int := ⟨_, _, _, _, ck_ct, by decide, rfl, Or.inl ⟨"AfterFire$Chest", tb 114 (by decide +kernel) rfl, Or.inl rfl⟩⟩
theorem p_ct_22 : FP "AfterFire$Chest" 22 4 3 .int := ⟨_, _, _, _, ck_ct, by decide, rfl, rfl, Or.inl ⟨"AfterFire$Chest", tb 114 (by decide +kernel) rfl, Or.inl rfl⟩⟩
theorem f_ct_25 : FL "AfterFire$Chest" 25 4 4 .int := ⟨_, _, _, _, ck_ct, by decide, rfl, Or.inl ⟨"AfterFire$Chest", tb 116 (by decide +kernel) rfl, Or.inl rfl⟩⟩
theorem p_ct_25 : FP "AfterFire$Chest" 25 4 4 .int := ⟨_, _, _, _, ck_ct, by decide, rfl, rfl, Or.inl ⟨"AfterFire$Chest", tb 116 (by decide +kernel) rfl, Or.inl rfl⟩⟩
theorem f_pl_9 : FL "AfterFire$Plot" 9 5 2 .int := ⟨_, _, _, _, ck_pl, by decide, rfl, Or.inl ⟨"AfterFire$Plot", tb 258 (by decide +kernel) rfl, Or.inl rfl⟩⟩
theorem p_pl_9 : FP "AfterFire$Plot" 9 5 2 .int := ⟨_, _, _, _, ck_pl, by decide, rfl, rfl, Or.inl ⟨"AfterFire$Plot", tb 258 (by decide +kernel) rfl, Or.inl rfl⟩⟩
theorem f_pl_15 : FL "AfterFire$Plot" 15 5 4 .int := ⟨_, _, _, _, ck_pl, by decide, rfl, Or.inl ⟨"AfterFire$Plot", tb 263 (by decide +kernel) rfl, Or.inl rfl⟩⟩
theorem p_pl_15 : FP "AfterFire$Plot" 15 5 4 .int := ⟨_, _, _, _, ck_pl, by decide, rfl, rfl, Or.inl ⟨"AfterFire$Plot", tb 263 (by decide +kernel) rfl, Or.inl rfl⟩⟩
theorem f_pl_18 : FL "AfterFire$Plot" 18 5 5 .int := ⟨_, _, _, _, ck_pl, by decide, rfl, Or.inl ⟨"AfterFire$Plot", tb 265 (by decide +kernel) rfl, Or.inl rfl⟩⟩
theorem p_pl_18 : FP "AfterFire$Plot" 18 5 5 .int := ⟨_, _, _, _, ck_pl, by decide, rfl, rfl, Or.inl ⟨"AfterFire$Plot", tb 265 (by decide +kernel) rfl, Or.inl rfl⟩⟩
theorem f_pl_21 : FL "AfterFire$Plot" 21 5 6 .int := ⟨_, _, _, _, ck_pl, by decide, rfl, Or.inl ⟨"AfterFire$Plot", tb 267 (by decide +kernel) rfl, Or.inl rfl⟩⟩
theorem p_pl_21 : FP "AfterFire$Plot" 21 5 6 .int := ⟨_, _, _, _, ck_pl, by decide, rfl, rfl, Or.inl ⟨"AfterFire$Plot", tb 267 (by decide +kernel) rfl, Or.inl rfl⟩⟩
theorem f_pl_24 : FL "AfterFire$Plot" 24 5 7 (.object "AfterFire$Wall") := ⟨_, _, _, _, ck_pl, by decide, rfl, Or.inl ⟨"AfterFire$Plot", tb 269 (by decide +kernel) rfl, Or.inl rfl⟩⟩
theorem p_pl_24 : FP "AfterFire$Plot" 24 5 7 (.object "AfterFire$Wall") := ⟨_, _, _, _, ck_pl, by decide, rfl, rfl, Or.inl ⟨"AfterFire$Plot", tb 269 (by decide +kernel) rfl, Or.inl rfl⟩⟩
theorem f_pl_28 : FL "AfterFire$Plot" 28 5 8 (.object "AfterFire$Wall") := ⟨_, _, _, _, ck_pl, by decide, rfl, Or.inl ⟨"AfterFire$Plot", tb 272 (by decide +kernel) rfl, Or.inl rfl⟩⟩
theorem p_pl_28 : FP "AfterFire$Plot" 28 5 8 (.object "AfterFire$Wall") := ⟨_, _, _, _, ck_pl, by decide, rfl, rfl, Or.inl ⟨"AfterFire$Plot", tb 272 (by decide +kernel) rfl, Or.inl rfl⟩⟩
theorem f_pl_31 : FL "AfterFire$Plot" 31 5 0 .int := ⟨_, _, _, _, ck_pl, by decide, rfl, Or.inl ⟨"AfterFire$Plot", tb 250 (by decide +kernel) rfl, Or.inl rfl⟩⟩
theorem q_pl_31 : FF "AfterFire$Plot" 31 5 0 .int := ⟨_, _, _, _, ck_pl, by decide, rfl, rfl, rfl, tb 250 (by decide +kernel) rfl⟩
theorem f_pl_34 : FL "AfterFire$Plot" 34 5 1 .int := ⟨_, _, _, _, ck_pl, by decide, rfl, Or.inl ⟨"AfterFire$Plot", tb 254 (by decide +kernel) rfl, Or.inl rfl⟩⟩
theorem p_pl_34 : FP "AfterFire$Plot" 34 5 1 .int := ⟨_, _, _, _, ck_pl, by decide, rfl, rfl, Or.inl ⟨"AfterFire$Plot", tb 254 (by decide +kernel) rfl, Or.inl rfl⟩⟩
theorem f_pl_42 : FL "AfterFire$Plot" 42 5 3 (.object "AfterFire$Chain") := ⟨_, _, _, _, ck_pl, by decide, rfl, Or.inl ⟨"AfterFire$Plot", tb 260 (by decide +kernel) rfl, Or.inl rfl⟩⟩
theorem q_pl_42 : FF "AfterFire$Plot" 42 5 3 (.object "AfterFire$Chain") := ⟨_, _, _, _, ck_pl, by decide, rfl, rfl, rfl, tb 260 (by decide +kernel) rfl⟩
theorem f_sh_9 : FL "AfterFire$Shares" 9 6 0 (.array .int) := ⟨_, _, _, _, ck_sh, by decide, rfl, Or.inl ⟨"AfterFire$Shares", tb 63 (by decide +kernel) rfl, Or.inl rfl⟩⟩
theorem q_sh_9 : FF "AfterFire$Shares" 9 6 0 (.array .int) := ⟨_, _, _, _, ck_sh, by decide, rfl, rfl, rfl, tb 63 (by decide +kernel) rfl⟩
theorem f_sh_15 : FL "AfterFire$Shares" 15 6 1 (.array .long) := ⟨_, _, _, _, ck_sh, by decide, rfl, Or.inl ⟨"AfterFire$Shares", tb 64 (by decide +kernel) rfl, Or.inl rfl⟩⟩
theorem q_sh_15 : FF "AfterFire$Shares" 15 6 1 (.array .long) := ⟨_, _, _, _, ck_sh, by decide, rfl, rfl, rfl, tb 64 (by decide +kernel) rfl⟩
theorem f_sh_23 : FL "AfterFire$Shares" 23 5 3 (.object "AfterFire$Chain") := ⟨_, _, _, _, ck_pl, by decide, rfl, Or.inr ⟨"AfterFire", tn 261 (by decide +kernel) rfl⟩⟩
theorem f_sh_29 : FL "AfterFire$Shares" 29 3 3 .int := ⟨_, _, _, _, ck_ch, by decide, rfl, Or.inr ⟨"AfterFire", tn 239 (by decide +kernel) rfl⟩⟩
theorem p_sh_29 : FP "AfterFire$Shares" 29 3 3 .int := ⟨_, _, _, _, ck_ch, by decide, rfl, rfl, Or.inr ⟨"AfterFire", tn 239 (by decide +kernel) rfl⟩⟩
theorem f_sr_12 : FL "AfterFire$Street" 12 7 0 (.object "java/util/ArrayList") := ⟨_, _, _, _, ck_sr, by decide, rfl, Or.inl ⟨"AfterFire$Street", tb 148 (by decide +kernel) rfl, Or.inl rfl⟩⟩
theorem q_sr_12 : FF "AfterFire$Street" 12 7 0 (.object "java/util/ArrayList") := ⟨_, _, _, _, ck_sr, by decide, rfl, rfl, rfl, tb 148 (by decide +kernel) rfl⟩
theorem f_sr_18 : FL "AfterFire$Street" 18 7 1 (.array .int) := ⟨_, _, _, _, ck_sr, by decide, rfl, Or.inl ⟨"AfterFire$Street", tb 151 (by decide +kernel) rfl, Or.inl rfl⟩⟩
theorem q_sr_18 : FF "AfterFire$Street" 18 7 1 (.array .int) := ⟨_, _, _, _, ck_sr, by decide, rfl, rfl, rfl, tb 151 (by decide +kernel) rfl⟩
theorem f_sr_41 : FL "AfterFire$Street" 41 5 8 (.object "AfterFire$Wall") := ⟨_, _, _, _, ck_pl, by decide, rfl, Or.inr ⟨"AfterFire", tn 273 (by decide +kernel) rfl⟩⟩
theorem p_sr_41 : FP "AfterFire$Street" 41 5 8 (.object "AfterFire$Wall") := ⟨_, _, _, _, ck_pl, by decide, rfl, rfl, Or.inr ⟨"AfterFire", tn 273 (by decide +kernel) rfl⟩⟩
theorem f_sr_45 : FL "AfterFire$Street" 45 5 7 (.object "AfterFire$Wall") := ⟨_, _, _, _, ck_pl, by decide, rfl, Or.inr ⟨"AfterFire", tn 270 (by decide +kernel) rfl⟩⟩
theorem p_sr_45 : FP "AfterFire$Street" 45 5 7 (.object "AfterFire$Wall") := ⟨_, _, _, _, ck_pl, by decide, rfl, rfl, Or.inr ⟨"AfterFire", tn 270 (by decide +kernel) rfl⟩⟩
theorem f_sr_62 : FL "AfterFire$Street" 62 5 0 .int := ⟨_, _, _, _, ck_pl, by decide, rfl, Or.inr ⟨"AfterFire", tn 252 (by decide +kernel) rfl⟩⟩
theorem f_sv_11 : FL "AfterFire$Survey" 11 8 0 (.array (.array .int)) := ⟨_, _, _, _, ck_sv, by decide, rfl, Or.inl ⟨"AfterFire$Survey", tb 137 (by decide +kernel) rfl, Or.inl rfl⟩⟩
theorem q_sv_11 : FF "AfterFire$Survey" 11 8 0 (.array (.array .int)) := ⟨_, _, _, _, ck_sv, by decide, rfl, rfl, rfl, tb 137 (by decide +kernel) rfl⟩
theorem f_sv_16 : FL "AfterFire$Survey" 16 7 0 (.object "java/util/ArrayList") := ⟨_, _, _, _, ck_sr, by decide, rfl, Or.inr ⟨"AfterFire", tn 149 (by decide +kernel) rfl⟩⟩
theorem f_wl_9 : FL "AfterFire$Wall" 9 9 2 .int := ⟨_, _, _, _, ck_wl, by decide, rfl, Or.inl ⟨"AfterFire$Wall", tb 326 (by decide +kernel) rfl, Or.inl rfl⟩⟩
theorem p_wl_9 : FP "AfterFire$Wall" 9 9 2 .int := ⟨_, _, _, _, ck_wl, by decide, rfl, rfl, Or.inl ⟨"AfterFire$Wall", tb 326 (by decide +kernel) rfl, Or.inl rfl⟩⟩
theorem f_wl_15 : FL "AfterFire$Wall" 15 9 3 .int := ⟨_, _, _, _, ck_wl, by decide, rfl, Or.inl ⟨"AfterFire$Wall", tb 328 (by decide +kernel) rfl, Or.inl rfl⟩⟩
theorem p_wl_15 : FP "AfterFire$Wall" 15 9 3 .int := ⟨_, _, _, _, ck_wl, by decide, rfl, rfl, Or.inl ⟨"AfterFire$Wall", tb 328 (by decide +kernel) rfl, Or.inl rfl⟩⟩
theorem f_wl_18 : FL "AfterFire$Wall" 18 9 0 (.object "AfterFire$Plot") := ⟨_, _, _, _, ck_wl, by decide, rfl, Or.inl ⟨"AfterFire$Wall", tb 324 (by decide +kernel) rfl, Or.inl rfl⟩⟩
theorem q_wl_18 : FF "AfterFire$Wall" 18 9 0 (.object "AfterFire$Plot") := ⟨_, _, _, _, ck_wl, by decide, rfl, rfl, rfl, tb 324 (by decide +kernel) rfl⟩
theorem f_wl_22 : FL "AfterFire$Wall" 22 9 1 (.object "AfterFire$Plot") := ⟨_, _, _, _, ck_wl, by decide, rfl, Or.inl ⟨"AfterFire$Wall", tb 325 (by decide +kernel) rfl, Or.inl rfl⟩⟩
theorem q_wl_22 : FF "AfterFire$Wall" 22 9 1 (.object "AfterFire$Plot") := ⟨_, _, _, _, ck_wl, by decide, rfl, rfl, rfl, tb 325 (by decide +kernel) rfl⟩
theorem f_wl_31 : FL "AfterFire$Wall" 31 5 1 .int := ⟨_, _, _, _, ck_pl, by decide, rfl, Or.inr ⟨"AfterFire", tn 256 (by decide +kernel) rfl⟩⟩
theorem p_wl_31 : FP "AfterFire$Wall" 31 5 1 .int := ⟨_, _, _, _, ck_pl, by decide, rfl, rfl, Or.inr ⟨"AfterFire", tn 256 (by decide +kernel) rfl⟩⟩
theorem f_md_9 : FL "AfterFireModel" 9 1 1 (.array .int) := ⟨_, _, _, _, ck_md, by decide, rfl, Or.inl ⟨"AfterFireModel", tb 702 (by decide +kernel) rfl, Or.inl rfl⟩⟩
theorem q_md_9 : FF "AfterFireModel" 9 1 1 (.array .int) := ⟨_, _, _, _, ck_md, by decide, rfl, rfl, rfl, tb 702 (by decide +kernel) rfl⟩
theorem f_md_13 : FL "AfterFireModel" 13 1 3 (.array .int) := ⟨_, _, _, _, ck_md, by decide, rfl, Or.inl ⟨"AfterFireModel", tb 704 (by decide +kernel) rfl, Or.inl rfl⟩⟩
theorem q_md_13 : FF "AfterFireModel" 13 1 3 (.array .int) := ⟨_, _, _, _, ck_md, by decide, rfl, rfl, rfl, tb 704 (by decide +kernel) rfl⟩
theorem f_md_16 : FL "AfterFireModel" 16 1 4 (.array .int) := ⟨_, _, _, _, ck_md, by decide, rfl, Or.inl ⟨"AfterFireModel", tb 705 (by decide +kernel) rfl, Or.inl rfl⟩⟩
theorem q_md_16 : FF "AfterFireModel" 16 1 4 (.array .int) := ⟨_, _, _, _, ck_md, by decide, rfl, rfl, rfl, tb 705 (by decide +kernel) rfl⟩
theorem f_md_19 : FL "AfterFireModel" 19 1 5 (.array .int) := ⟨_, _, _, _, ck_md, by decide, rfl, Or.inl ⟨"AfterFireModel", tb 706 (by decide +kernel) rfl, Or.inl rfl⟩⟩
theorem q_md_19 : FF "AfterFireModel" 19 1 5 (.array .int) := ⟨_, _, _, _, ck_md, by decide, rfl, rfl, rfl, tb 706 (by decide +kernel) rfl⟩
theorem f_md_22 : FL "AfterFireModel" 22 1 6 (.array .int) := ⟨_, _, _, _, ck_md, by decide, rfl, Or.inl ⟨"AfterFireModel", tb 707 (by decide +kernel) rfl, Or.inl rfl⟩⟩
theorem q_md_22 : FF "AfterFireModel" 22 1 6 (.array .int) := ⟨_, _, _, _, ck_md, by decide, rfl, rfl, rfl, tb 707 (by decide +kernel) rfl⟩
theorem f_md_25 : FL "AfterFireModel" 25 1 7 (.array .int) := ⟨_, _, _, _, ck_md, by decide, rfl, Or.inl ⟨"AfterFireModel", tb 708 (by decide +kernel) rfl, Or.inl rfl⟩⟩
theorem q_md_25 : FF "AfterFireModel" 25 1 7 (.array .int) := ⟨_, _, _, _, ck_md, by decide, rfl, rfl, rfl, tb 708 (by decide +kernel) rfl⟩
theorem f_md_28 : FL "AfterFireModel" 28 1 8 (.array .int) := ⟨_, _, _, _, ck_md, by decide, rfl, Or.inl ⟨"AfterFireModel", tb 709 (by decide +kernel) rfl, Or.inl rfl⟩⟩
theorem q_md_28 : FF "AfterFireModel" 28 1 8 (.array .int) := ⟨_, _, _, _, ck_md, by decide, rfl, rfl, rfl, tb 709 (by decide +kernel) rfl⟩
theorem f_md_31 : FL "AfterFireModel" 31 1 9 (.array .int) := ⟨_, _, _, _, ck_md, by decide, rfl, Or.inl ⟨"AfterFireModel", tb 710 (by decide +kernel) rfl, Or.inl rfl⟩⟩
theorem q_md_31 : FF "AfterFireModel" 31 1 9 (.array .int) := ⟨_, _, _, _, ck_md, by decide, rfl, rfl, rfl, tb 710 (by decide +kernel) rfl⟩
theorem f_md_34 : FL "AfterFireModel" 34 1 10 (.array .int) := ⟨_, _, _, _, ck_md, by decide, rfl, Or.inl ⟨"AfterFireModel", tb 711 (by decide +kernel) rfl, Or.inl rfl⟩⟩
theorem q_md_34 : FF "AfterFireModel" 34 1 10 (.array .int) := ⟨_, _, _, _, ck_md, by decide, rfl, rfl, rfl, tb 711 (by decide +kernel) rfl⟩
theorem f_md_37 : FL "AfterFireModel" 37 1 11 (.array .int) := ⟨_, _, _, _, ck_md, by decide, rfl, Or.inl ⟨"AfterFireModel", tb 712 (by decide +kernel) rfl, Or.inl rfl⟩⟩
theorem q_md_37 : FF "AfterFireModel" 37 1 11 (.array .int) := ⟨_, _, _, _, ck_md, by decide, rfl, rfl, rfl, tb 712 (by decide +kernel) rfl⟩
theorem f_md_40 : FL "AfterFireModel" 40 1 12 (.array .int) := ⟨_, _, _, _, ck_md, by decide, rfl, Or.inl ⟨"AfterFireModel", tb 713 (by decide +kernel) rfl, Or.inl rfl⟩⟩
theorem q_md_40 : FF "AfterFireModel" 40 1 12 (.array .int) := ⟨_, _, _, _, ck_md, by decide, rfl, rfl, rfl, tb 713 (by decide +kernel) rfl⟩
theorem f_md_43 : FL "AfterFireModel" 43 1 13 (.array .int) := ⟨_, _, _, _, ck_md, by decide, rfl, Or.inl ⟨"AfterFireModel", tb 714 (by decide +kernel) rfl, Or.inl rfl⟩⟩
theorem q_md_43 : FF "AfterFireModel" 43 1 13 (.array .int) := ⟨_, _, _, _, ck_md, by decide, rfl, rfl, rfl, tb 714 (by decide +kernel) rfl⟩
theorem f_md_46 : FL "AfterFireModel" 46 1 14 (.array .int) := ⟨_, _, _, _, ck_md, by decide, rfl, Or.inl ⟨"AfterFireModel", tb 715 (by decide +kernel) rfl, Or.inl rfl⟩⟩
theorem q_md_46 : FF "AfterFireModel" 46 1 14 (.array .int) := ⟨_, _, _, _, ck_md, by decide, rfl, rfl, rfl, tb 715 (by decide +kernel) rfl⟩
theorem f_md_49 : FL "AfterFireModel" 49 1 15 (.array .int) := ⟨_, _, _, _, ck_md, by decide, rfl, Or.inl ⟨"AfterFireModel", tb 716 (by decide +kernel) rfl, Or.inl rfl⟩⟩
theorem q_md_49 : FF "AfterFireModel" 49 1 15 (.array .int) := ⟨_, _, _, _, ck_md, by decide, rfl, rfl, rfl, tb 716 (by decide +kernel) rfl⟩
theorem f_md_52 : FL "AfterFireModel" 52 1 16 .int := ⟨_, _, _, _, ck_md, by decide, rfl, Or.inl ⟨"AfterFireModel", tb 717 (by decide +kernel) rfl, Or.inl rfl⟩⟩
theorem p_md_52 : FP "AfterFireModel" 52 1 16 .int := ⟨_, _, _, _, ck_md, by decide, rfl, rfl, Or.inl ⟨"AfterFireModel", tb 717 (by decide +kernel) rfl, Or.inl rfl⟩⟩
theorem f_md_56 : FL "AfterFireModel" 56 1 17 .int := ⟨_, _, _, _, ck_md, by decide, rfl, Or.inl ⟨"AfterFireModel", tb 718 (by decide +kernel) rfl, Or.inl rfl⟩⟩
theorem p_md_56 : FP "AfterFireModel" 56 1 17 .int := ⟨_, _, _, _, ck_md, by decide, rfl, rfl, Or.inl ⟨"AfterFireModel", tb 718 (by decide +kernel) rfl, Or.inl rfl⟩⟩
theorem f_md_59 : FL "AfterFireModel" 59 1 18 .int := ⟨_, _, _, _, ck_md, by decide, rfl, Or.inl ⟨"AfterFireModel", tb 719 (by decide +kernel) rfl, Or.inl rfl⟩⟩
theorem p_md_59 : FP "AfterFireModel" 59 1 18 .int := ⟨_, _, _, _, ck_md, by decide, rfl, rfl, Or.inl ⟨"AfterFireModel", tb 719 (by decide +kernel) rfl, Or.inl rfl⟩⟩
theorem f_md_62 : FL "AfterFireModel" 62 1 20 (.array .int) := ⟨_, _, _, _, ck_md, by decide, rfl, Or.inl ⟨"AfterFireModel", tb 721 (by decide +kernel) rfl, Or.inl rfl⟩⟩
theorem q_md_62 : FF "AfterFireModel" 62 1 20 (.array .int) := ⟨_, _, _, _, ck_md, by decide, rfl, rfl, rfl, tb 721 (by decide +kernel) rfl⟩
theorem f_md_65 : FL "AfterFireModel" 65 1 24 (.array .int) := ⟨_, _, _, _, ck_md, by decide, rfl, Or.inl ⟨"AfterFireModel", tb 725 (by decide +kernel) rfl, Or.inl rfl⟩⟩
theorem q_md_65 : FF "AfterFireModel" 65 1 24 (.array .int) := ⟨_, _, _, _, ck_md, by decide, rfl, rfl, rfl, tb 725 (by decide +kernel) rfl⟩
theorem f_md_68 : FL "AfterFireModel" 68 1 25 (.array .int) := ⟨_, _, _, _, ck_md, by decide, rfl, Or.inl ⟨"AfterFireModel", tb 726 (by decide +kernel) rfl, Or.inl rfl⟩⟩
theorem q_md_68 : FF "AfterFireModel" 68 1 25 (.array .int) := ⟨_, _, _, _, ck_md, by decide, rfl, rfl, rfl, tb 726 (by decide +kernel) rfl⟩
theorem f_md_71 : FL "AfterFireModel" 71 1 26 (.array .long) := ⟨_, _, _, _, ck_md, by decide, rfl, Or.inl ⟨"AfterFireModel", tb 727 (by decide +kernel) rfl, Or.inl rfl⟩⟩
theorem q_md_71 : FF "AfterFireModel" 71 1 26 (.array .long) := ⟨_, _, _, _, ck_md, by decide, rfl, rfl, rfl, tb 727 (by decide +kernel) rfl⟩
theorem f_md_75 : FL "AfterFireModel" 75 1 27 (.array .int) := ⟨_, _, _, _, ck_md, by decide, rfl, Or.inl ⟨"AfterFireModel", tb 728 (by decide +kernel) rfl, Or.inl rfl⟩⟩
theorem q_md_75 : FF "AfterFireModel" 75 1 27 (.array .int) := ⟨_, _, _, _, ck_md, by decide, rfl, rfl, rfl, tb 728 (by decide +kernel) rfl⟩
theorem f_md_78 : FL "AfterFireModel" 78 1 30 (.array .int) := ⟨_, _, _, _, ck_md, by decide, rfl, Or.inl ⟨"AfterFireModel", tb 731 (by decide +kernel) rfl, Or.inl rfl⟩⟩
theorem q_md_78 : FF "AfterFireModel" 78 1 30 (.array .int) := ⟨_, _, _, _, ck_md, by decide, rfl, rfl, rfl, tb 731 (by decide +kernel) rfl⟩
theorem f_md_81 : FL "AfterFireModel" 81 1 31 (.array .int) := ⟨_, _, _, _, ck_md, by decide, rfl, Or.inl ⟨"AfterFireModel", tb 732 (by decide +kernel) rfl, Or.inl rfl⟩⟩
theorem q_md_81 : FF "AfterFireModel" 81 1 31 (.array .int) := ⟨_, _, _, _, ck_md, by decide, rfl, rfl, rfl, tb 732 (by decide +kernel) rfl⟩
theorem f_md_84 : FL "AfterFireModel" 84 1 2 .int := ⟨_, _, _, _, ck_md, by decide, rfl, Or.inl ⟨"AfterFireModel", tb 703 (by decide +kernel) rfl, Or.inl rfl⟩⟩
theorem p_md_84 : FP "AfterFireModel" 84 1 2 .int := ⟨_, _, _, _, ck_md, by decide, rfl, rfl, Or.inl ⟨"AfterFireModel", tb 703 (by decide +kernel) rfl, Or.inl rfl⟩⟩
theorem f_md_129 : FL "AfterFireModel" 129 1 0 .int := ⟨_, _, _, _, ck_md, by decide, rfl, Or.inl ⟨"AfterFireModel", tb 701 (by decide +kernel) rfl, Or.inl rfl⟩⟩
theorem p_md_129 : FP "AfterFireModel" 129 1 0 .int := ⟨_, _, _, _, ck_md, by decide, rfl, rfl, Or.inl ⟨"AfterFireModel", tb 701 (by decide +kernel) rfl, Or.inl rfl⟩⟩
theorem f_md_142 : FL "AfterFireModel" 142 1 23 .int := ⟨_, _, _, _, ck_md, by decide, rfl, Or.inl ⟨"AfterFireModel", tb 724 (by decide +kernel) rfl, Or.inl rfl⟩⟩
theorem p_md_142 : FP "AfterFireModel" 142 1 23 .int := ⟨_, _, _, _, ck_md, by decide, rfl, rfl, Or.inl ⟨"AfterFireModel", tb 724 (by decide +kernel) rfl, Or.inl rfl⟩⟩
theorem f_md_149 : FL "AfterFireModel" 149 1 22 .int := ⟨_, _, _, _, ck_md, by decide, rfl, Or.inl ⟨"AfterFireModel", tb 723 (by decide +kernel) rfl, Or.inl rfl⟩⟩
theorem p_md_149 : FP "AfterFireModel" 149 1 22 .int := ⟨_, _, _, _, ck_md, by decide, rfl, rfl, Or.inl ⟨"AfterFireModel", tb 723 (by decide +kernel) rfl, Or.inl rfl⟩⟩
theorem f_md_152 : FL "AfterFireModel" 152 1 21 .int := ⟨_, _, _, _, ck_md, by decide, rfl, Or.inl ⟨"AfterFireModel", tb 722 (by decide +kernel) rfl, Or.inl rfl⟩⟩
theorem p_md_152 : FP "AfterFireModel" 152 1 21 .int := ⟨_, _, _, _, ck_md, by decide, rfl, rfl, Or.inl ⟨"AfterFireModel", tb 722 (by decide +kernel) rfl, Or.inl rfl⟩⟩
theorem f_md_155 : FL "AfterFireModel" 155 1 19 .int := ⟨_, _, _, _, ck_md, by decide, rfl, Or.inl ⟨"AfterFireModel", tb 720 (by decide +kernel) rfl, Or.inl rfl⟩⟩
theorem p_md_155 : FP "AfterFireModel" 155 1 19 .int := ⟨_, _, _, _, ck_md, by decide, rfl, rfl, Or.inl ⟨"AfterFireModel", tb 720 (by decide +kernel) rfl, Or.inl rfl⟩⟩
theorem f_md_165 : FL "AfterFireModel" 165 1 28 .int := ⟨_, _, _, _, ck_md, by decide, rfl, Or.inl ⟨"AfterFireModel", tb 729 (by decide +kernel) rfl, Or.inl rfl⟩⟩
theorem p_md_165 : FP "AfterFireModel" 165 1 28 .int := ⟨_, _, _, _, ck_md, by decide, rfl, rfl, Or.inl ⟨"AfterFireModel", tb 729 (by decide +kernel) rfl, Or.inl rfl⟩⟩
theorem f_md_171 : FL "AfterFireModel" 171 1 29 .int := ⟨_, _, _, _, ck_md, by decide, rfl, Or.inl ⟨"AfterFireModel", tb 730 (by decide +kernel) rfl, Or.inl rfl⟩⟩
theorem p_md_171 : FP "AfterFireModel" 171 1 29 .int := ⟨_, _, _, _, ck_md, by decide, rfl, rfl, Or.inl ⟨"AfterFireModel", tb 730 (by decide +kernel) rfl, Or.inl rfl⟩⟩
theorem f_ab_7 : FL "java/util/AbstractList" 7 10 0 .int := ⟨_, _, _, _, ck_al, by decide, rfl, Or.inl ⟨"java/util/AbstractList", tb 44 (by decide +kernel) rfl, Or.inl rfl⟩⟩
theorem p_ab_7 : FP "java/util/AbstractList" 7 10 0 .int := ⟨_, _, _, _, ck_al, by decide, rfl, rfl, Or.inl ⟨"java/util/AbstractList", tb 44 (by decide +kernel) rfl, Or.inl rfl⟩⟩
theorem f_al_9 : FL "java/util/ArrayList" 9 10 1 (.array (.object "java/lang/Object")) := ⟨_, _, _, _, ck_al, by decide, rfl, Or.inl ⟨"java/util/ArrayList", tb 42 (by decide +kernel) rfl, Or.inl rfl⟩⟩
theorem p_al_9 : FP "java/util/ArrayList" 9 10 1 (.array (.object "java/lang/Object")) := ⟨_, _, _, _, ck_al, by decide, rfl, rfl, Or.inl ⟨"java/util/ArrayList", tb 42 (by decide +kernel) rfl, Or.inl rfl⟩⟩
theorem f_al_48 : FL "java/util/ArrayList" 48 10 2 .int := ⟨_, _, _, _, ck_al, by decide, rfl, Or.inl ⟨"java/util/ArrayList", tb 43 (by decide +kernel) rfl, Or.inl rfl⟩⟩
theorem p_al_48 : FP "java/util/ArrayList" 48 10 2 .int := ⟨_, _, _, _, ck_al, by decide, rfl, rfl, Or.inl ⟨"java/util/ArrayList", tb 43 (by decide +kernel) rfl, Or.inl rfl⟩⟩
theorem f_al_63 : FL "java/util/ArrayList" 63 10 0 .int := ⟨_, _, _, _, ck_al, by decide, rfl, Or.inl ⟨"java/util/ArrayList", tb 45 (by decide +kernel) rfl, Or.inr (tb 46 (by decide +kernel) rfl)⟩⟩
theorem p_al_63 : FP "java/util/ArrayList" 63 10 0 .int := ⟨_, _, _, _, ck_al, by decide, rfl, rfl, Or.inl ⟨"java/util/ArrayList", tb 45 (by decide +kernel) rfl, Or.inr (tb 46 (by decide +kernel) rfl)⟩⟩
theorem o_af_1 : Cond.methodLink "AfterFire" 1 objectInit ∈ gt ∧ Cond.instanceMethod objectInit ∈ gt ∧ Cond.code objectInit ⟨#[0xb1]⟩ 1 none ∈ gt := ⟨tb 25 (by decide +kernel) rfl, tb 26 (by decide +kernel) rfl, tb 27 (by decide +kernel) rfl⟩
theorem cal_al_init : Cal M_al_init 0 := ⟨tb 4 (by decide +kernel) rfl, tb 32 (by decide +kernel) rfl, by decide +kernel, by decide, by decide +kernel⟩
theorem s_af_15 : LkI "AfterFire" 15 M_al_init 0 := ⟨cal_al_init, tb 31 (by decide +kernel) rfl, rfl, rfl, Or.inl (tb 30 (by decide +kernel) rfl)⟩
theorem cal_sh_init : Cal M_sh_init 0 := ⟨tb 5 (by decide +kernel) rfl, tb 61 (by decide +kernel) rfl, by decide +kernel, by decide, by decide +kernel⟩
theorem s_af_28 : LkI "AfterFire" 28 M_sh_init 0 := ⟨cal_sh_init, tb 60 (by decide +kernel) rfl, rfl, rfl, Or.inr ⟨"AfterFire", tn 59 (by decide +kernel) rfl⟩⟩
theorem cal_bp_init : Cal M_bp_init 0 := ⟨tb 6 (by decide +kernel) rfl, tb 75 (by decide +kernel) rfl, by decide +kernel, by decide, by decide +kernel⟩
theorem s_af_35 : LkI "AfterFire" 35 M_bp_init 0 := ⟨cal_bp_init, tb 74 (by decide +kernel) rfl, rfl, rfl, Or.inr ⟨"AfterFire", tn 73 (by decide +kernel) rfl⟩⟩
theorem cal_ct_init : Cal M_ct_init 0 := ⟨tb 7 (by decide +kernel) rfl, tb 108 (by decide +kernel) rfl, by decide +kernel, by decide, by decide +kernel⟩
theorem s_af_42 : LkI "AfterFire" 42 M_ct_init 0 := ⟨cal_ct_init, tb 107 (by decide +kernel) rfl, rfl, rfl, Or.inr ⟨"AfterFire", tn 106 (by decide +kernel) rfl⟩⟩
theorem cal_sv_init : Cal M_sv_init 0 := ⟨tb 8 (by decide +kernel) rfl, tb 133 (by decide +kernel) rfl, by decide +kernel, by decide, by decide +kernel⟩
theorem s_af_49 : LkI "AfterFire" 49 M_sv_init 0 := ⟨cal_sv_init, tb 132 (by decide +kernel) rfl, rfl, rfl, Or.inr ⟨"AfterFire", tn 131 (by decide +kernel) rfl⟩⟩
theorem cal_sr_init : Cal M_sr_init 0 := ⟨tb 9 (by decide +kernel) rfl, tb 144 (by decide +kernel) rfl, by decide +kernel, by decide, by decide +kernel⟩
theorem s_af_70 : LkI "AfterFire" 70 M_sr_init 0 := ⟨cal_sr_init, tb 143 (by decide +kernel) rfl, rfl, rfl, Or.inr ⟨"AfterFire", tn 142 (by decide +kernel) rfl⟩⟩
theorem cal_af_isPerson : Cal M_af_isPerson 1 := ⟨tb 1 (by decide +kernel) rfl, tb 201 (by decide +kernel) rfl, by decide +kernel, by decide, by decide +kernel⟩
theorem s_af_71 : LkS "AfterFire" 71 M_af_isPerson 1 := ⟨cal_af_isPerson, tb 200 (by decide +kernel) rfl, Or.inl (tb 199 (by decide +kernel) rfl)⟩
theorem cal_af_within : Cal M_af_within 3 := ⟨tb 1 (by decide +kernel) rfl, tb 204 (by decide +kernel) rfl, by decide +kernel, by decide, by decide +kernel⟩
theorem s_af_76 : LkS "AfterFire" 76 M_af_within 3 := ⟨cal_af_within, tb 203 (by decide +kernel) rfl, Or.inl (tb 202 (by decide +kernel) rfl)⟩
theorem cal_af_give : Cal M_af_give 2 := ⟨tb 1 (by decide +kernel) rfl, tb 210 (by decide +kernel) rfl, by decide +kernel, by decide, by decide +kernel⟩
theorem s_af_81 : LkV "AfterFire" 81 M_af_give 0 2 := ⟨cal_af_give, tb 209 (by decide +kernel) rfl, ⟨_, _, rfl⟩, tp 0 (by decide +kernel) rfl, Or.inl (tb 207 (by decide +kernel) rfl)⟩
theorem cal_af_streetAt : Cal M_af_streetAt 1 := ⟨tb 1 (by decide +kernel) rfl, tb 218 (by decide +kernel) rfl, by decide +kernel, by decide, by decide +kernel⟩
theorem s_af_85 : LkV "AfterFire" 85 M_af_streetAt 0 1 := ⟨cal_af_streetAt, tb 217 (by decide +kernel) rfl, ⟨_, _, rfl⟩, tp 1 (by decide +kernel) rfl, Or.inl (tb 215 (by decide +kernel) rfl)⟩
theorem cal_al_size : Cal M_al_size 0 := ⟨tb 4 (by decide +kernel) rfl, tb 222 (by decide +kernel) rfl, by decide +kernel, by decide, by decide +kernel⟩
theorem s_af_89 : LkV "AfterFire" 89 M_al_size 10 0 := ⟨cal_al_size, tb 220 (by decide +kernel) rfl, ⟨_, _, rfl⟩, tb 221 (by decide +kernel) rfl, Or.inl (tb 219 (by decide +kernel) rfl)⟩
theorem cal_pl_init : Cal M_pl_init 3 := ⟨tb 11 (by decide +kernel) rfl, tb 227 (by decide +kernel) rfl, by decide +kernel, by decide, by decide +kernel⟩
theorem s_af_95 : LkI "AfterFire" 95 M_pl_init 3 := ⟨cal_pl_init, tb 226 (by decide +kernel) rfl, rfl, rfl, Or.inr ⟨"AfterFire", tn 225 (by decide +kernel) rfl⟩⟩
theorem cal_sr_append : Cal M_sr_append 1 := ⟨tb 9 (by decide +kernel) rfl, tb 297 (by decide +kernel) rfl, by decide +kernel, by decide, by decide +kernel⟩
theorem s_af_98 : LkV "AfterFire" 98 M_sr_append 7 1 := ⟨cal_sr_append, tb 296 (by decide +kernel) rfl, ⟨_, _, rfl⟩, tp 2 (by decide +kernel) rfl, Or.inr ⟨"AfterFire", tn 294 (by decide +kernel) rfl⟩⟩
theorem cal_al_add2 : Cal M_al_add2 1 := ⟨tb 4 (by decide +kernel) rfl, tb 342 (by decide +kernel) rfl, by decide +kernel, by decide, by decide +kernel⟩
theorem s_af_102 : LkV "AfterFire" 102 M_al_add2 10 1 := ⟨cal_al_add2, tb 340 (by decide +kernel) rfl, ⟨_, _, rfl⟩, tb 341 (by decide +kernel) rfl, Or.inl (tb 397 (by decide +kernel) rfl)⟩
theorem cal_af_plotAt : Cal M_af_plotAt 1 := ⟨tb 1 (by decide +kernel) rfl, tb 405 (by decide +kernel) rfl, by decide +kernel, by decide, by decide +kernel⟩
theorem s_af_106 : LkV "AfterFire" 106 M_af_plotAt 0 1 := ⟨cal_af_plotAt, tb 404 (by decide +kernel) rfl, ⟨_, _, rfl⟩, tp 6 (by decide +kernel) rfl, Or.inl (tb 402 (by decide +kernel) rfl)⟩
theorem cal_ch_append : Cal M_ch_append 3 := ⟨tb 12 (by decide +kernel) rfl, tb 410 (by decide +kernel) rfl, by decide +kernel, by decide, by decide +kernel⟩
theorem s_af_117 : LkV "AfterFire" 117 M_ch_append 3 3 := ⟨cal_ch_append, tb 409 (by decide +kernel) rfl, ⟨_, _, rfl⟩, tp 7 (by decide +kernel) rfl, Or.inr ⟨"AfterFire", tn 407 (by decide +kernel) rfl⟩⟩
theorem cal_ch_leases : Cal M_ch_leases 0 := ⟨tb 12 (by decide +kernel) rfl, tb 423 (by decide +kernel) rfl, by decide +kernel, by decide, by decide +kernel⟩
theorem s_af_121 : LkV "AfterFire" 121 M_ch_leases 3 0 := ⟨cal_ch_leases, tb 422 (by decide +kernel) rfl, ⟨_, _, rfl⟩, tp 10 (by decide +kernel) rfl, Or.inr ⟨"AfterFire", tn 420 (by decide +kernel) rfl⟩⟩
theorem cal_af_isYear : Cal M_af_isYear 1 := ⟨tb 1 (by decide +kernel) rfl, tb 431 (by decide +kernel) rfl, by decide +kernel, by decide, by decide +kernel⟩
theorem s_af_124 : LkS "AfterFire" 124 M_af_isYear 1 := ⟨cal_af_isYear, tb 430 (by decide +kernel) rfl, Or.inl (tb 429 (by decide +kernel) rfl)⟩
theorem cal_pl_yearlyWorth : Cal M_pl_yearlyWorth 0 := ⟨tb 11 (by decide +kernel) rfl, tb 439 (by decide +kernel) rfl, by decide +kernel, by decide, by decide +kernel⟩
theorem s_af_127 : LkV "AfterFire" 127 M_pl_yearlyWorth 5 0 := ⟨cal_pl_yearlyWorth, tb 438 (by decide +kernel) rfl, ⟨_, _, rfl⟩, tp 11 (by decide +kernel) rfl, Or.inr ⟨"AfterFire", tn 436 (by decide +kernel) rfl⟩⟩
theorem cal_ch_reaches : Cal M_ch_reaches 1 := ⟨tb 12 (by decide +kernel) rfl, tb 418 (by decide +kernel) rfl, by decide +kernel, by decide, by decide +kernel⟩
theorem s_af_130 : LkV "AfterFire" 130 M_ch_reaches 3 1 := ⟨cal_ch_reaches, tb 417 (by decide +kernel) rfl, ⟨_, _, rfl⟩, tp 9 (by decide +kernel) rfl, Or.inr ⟨"AfterFire", tn 444 (by decide +kernel) rfl⟩⟩
theorem cal_ch_interestOf : Cal M_ch_interestOf 2 := ⟨tb 12 (by decide +kernel) rfl, tb 448 (by decide +kernel) rfl, by decide +kernel, by decide, by decide +kernel⟩
theorem s_af_133 : LkV "AfterFire" 133 M_ch_interestOf 3 2 := ⟨cal_ch_interestOf, tb 447 (by decide +kernel) rfl, ⟨_, _, rfl⟩, tp 12 (by decide +kernel) rfl, Or.inr ⟨"AfterFire", tn 445 (by decide +kernel) rfl⟩⟩
theorem cal_af_findBuilder : Cal M_af_findBuilder 1 := ⟨tb 1 (by decide +kernel) rfl, tb 456 (by decide +kernel) rfl, by decide +kernel, by decide, by decide +kernel⟩
theorem s_af_137 : LkV "AfterFire" 137 M_af_findBuilder 0 1 := ⟨cal_af_findBuilder, tb 455 (by decide +kernel) rfl, ⟨_, _, rfl⟩, tp 13 (by decide +kernel) rfl, Or.inl (tb 453 (by decide +kernel) rfl)⟩
theorem cal_af_costOf : Cal M_af_costOf 1 := ⟨tb 1 (by decide +kernel) rfl, tb 460 (by decide +kernel) rfl, by decide +kernel, by decide, by decide +kernel⟩
theorem s_af_141 : LkV "AfterFire" 141 M_af_costOf 0 1 := ⟨cal_af_costOf, tb 459 (by decide +kernel) rfl, ⟨_, _, rfl⟩, tp 14 (by decide +kernel) rfl, Or.inl (tb 457 (by decide +kernel) rfl)⟩
theorem cal_sh_divide : Cal M_sh_divide 3 := ⟨tb 5 (by decide +kernel) rfl, tb 468 (by decide +kernel) rfl, by decide +kernel, by decide, by decide +kernel⟩
theorem s_af_144 : LkV "AfterFire" 144 M_sh_divide 6 3 := ⟨cal_sh_divide, tb 467 (by decide +kernel) rfl, ⟨_, _, rfl⟩, tp 16 (by decide +kernel) rfl, Or.inr ⟨"AfterFire", tn 465 (by decide +kernel) rfl⟩⟩
theorem cal_sh_partOf : Cal M_sh_partOf 1 := ⟨tb 5 (by decide +kernel) rfl, tb 483 (by decide +kernel) rfl, by decide +kernel, by decide, by decide +kernel⟩
theorem s_af_148 : LkV "AfterFire" 148 M_sh_partOf 6 1 := ⟨cal_sh_partOf, tb 482 (by decide +kernel) rfl, ⟨_, _, rfl⟩, tp 19 (by decide +kernel) rfl, Or.inr ⟨"AfterFire", tn 480 (by decide +kernel) rfl⟩⟩
theorem cal_ch_personAt : Cal M_ch_personAt 1 := ⟨tb 12 (by decide +kernel) rfl, tb 464 (by decide +kernel) rfl, by decide +kernel, by decide, by decide +kernel⟩
theorem s_af_152 : LkV "AfterFire" 152 M_ch_personAt 3 1 := ⟨cal_ch_personAt, tb 463 (by decide +kernel) rfl, ⟨_, _, rfl⟩, tp 15 (by decide +kernel) rfl, Or.inr ⟨"AfterFire", tn 461 (by decide +kernel) rfl⟩⟩
theorem cal_af_payForBuilding : Cal M_af_payForBuilding 2 := ⟨tb 1 (by decide +kernel) rfl, tb 492 (by decide +kernel) rfl, by decide +kernel, by decide, by decide +kernel⟩
theorem s_af_155 : LkV "AfterFire" 155 M_af_payForBuilding 0 2 := ⟨cal_af_payForBuilding, tb 491 (by decide +kernel) rfl, ⟨_, _, rfl⟩, tp 20 (by decide +kernel) rfl, Or.inl (tb 489 (by decide +kernel) rfl)⟩
theorem cal_ch_prolong : Cal M_ch_prolong 2 := ⟨tb 12 (by decide +kernel) rfl, tb 500 (by decide +kernel) rfl, by decide +kernel, by decide, by decide +kernel⟩
theorem s_af_159 : LkV "AfterFire" 159 M_ch_prolong 3 2 := ⟨cal_ch_prolong, tb 499 (by decide +kernel) rfl, ⟨_, _, rfl⟩, tp 22 (by decide +kernel) rfl, Or.inr ⟨"AfterFire", tn 497 (by decide +kernel) rfl⟩⟩
theorem cal_pl_raise : Cal M_pl_raise 2 := ⟨tb 11 (by decide +kernel) rfl, tb 504 (by decide +kernel) rfl, by decide +kernel, by decide, by decide +kernel⟩
theorem s_af_162 : LkV "AfterFire" 162 M_pl_raise 5 2 := ⟨cal_pl_raise, tb 503 (by decide +kernel) rfl, ⟨_, _, rfl⟩, tp 23 (by decide +kernel) rfl, Or.inr ⟨"AfterFire", tn 501 (by decide +kernel) rfl⟩⟩
theorem cal_af_settleWall : Cal M_af_settleWall 2 := ⟨tb 1 (by decide +kernel) rfl, tb 508 (by decide +kernel) rfl, by decide +kernel, by decide, by decide +kernel⟩
theorem s_af_169 : LkV "AfterFire" 169 M_af_settleWall 0 2 := ⟨cal_af_settleWall, tb 507 (by decide +kernel) rfl, ⟨_, _, rfl⟩, tp 24 (by decide +kernel) rfl, Or.inl (tb 505 (by decide +kernel) rfl)⟩
theorem cal_al_get : Cal M_al_get 1 := ⟨tb 4 (by decide +kernel) rfl, tb 306 (by decide +kernel) rfl, by decide +kernel, by decide, by decide +kernel⟩
theorem s_af_179 : LkV "AfterFire" 179 M_al_get 10 1 := ⟨cal_al_get, tb 304 (by decide +kernel) rfl, ⟨_, _, rfl⟩, tb 305 (by decide +kernel) rfl, Or.inl (tb 406 (by decide +kernel) rfl)⟩
theorem cal_af_widenInto : Cal M_af_widenInto 2 := ⟨tb 1 (by decide +kernel) rfl, tb 533 (by decide +kernel) rfl, by decide +kernel, by decide, by decide +kernel⟩
theorem s_af_183 : LkV "AfterFire" 183 M_af_widenInto 0 2 := ⟨cal_af_widenInto, tb 532 (by decide +kernel) rfl, ⟨_, _, rfl⟩, tp 29 (by decide +kernel) rfl, Or.inl (tb 530 (by decide +kernel) rfl)⟩
theorem cal_af_forfeitBurned : Cal M_af_forfeitBurned 0 := ⟨tb 1 (by decide +kernel) rfl, tb 549 (by decide +kernel) rfl, by decide +kernel, by decide, by decide +kernel⟩
theorem s_af_187 : LkV "AfterFire" 187 M_af_forfeitBurned 0 0 := ⟨cal_af_forfeitBurned, tb 548 (by decide +kernel) rfl, ⟨_, _, rfl⟩, tp 32 (by decide +kernel) rfl, Or.inl (tb 546 (by decide +kernel) rfl)⟩
theorem cal_ch_passYear : Cal M_ch_passYear 0 := ⟨tb 12 (by decide +kernel) rfl, tb 553 (by decide +kernel) rfl, by decide +kernel, by decide, by decide +kernel⟩
theorem s_af_190 : LkV "AfterFire" 190 M_ch_passYear 3 0 := ⟨cal_ch_passYear, tb 552 (by decide +kernel) rfl, ⟨_, _, rfl⟩, tp 33 (by decide +kernel) rfl, Or.inr ⟨"AfterFire", tn 550 (by decide +kernel) rfl⟩⟩
theorem cal_ct_endYear : Cal M_ct_endYear 0 := ⟨tb 7 (by decide +kernel) rfl, tb 557 (by decide +kernel) rfl, by decide +kernel, by decide, by decide +kernel⟩
theorem s_af_193 : LkV "AfterFire" 193 M_ct_endYear 4 0 := ⟨cal_ct_endYear, tb 556 (by decide +kernel) rfl, ⟨_, _, rfl⟩, tp 34 (by decide +kernel) rfl, Or.inr ⟨"AfterFire", tn 554 (by decide +kernel) rfl⟩⟩
theorem cal_af_planBricks : Cal M_af_planBricks 1 := ⟨tb 1 (by decide +kernel) rfl, tb 569 (by decide +kernel) rfl, by decide +kernel, by decide, by decide +kernel⟩
theorem s_af_199 : LkV "AfterFire" 199 M_af_planBricks 0 1 := ⟨cal_af_planBricks, tb 568 (by decide +kernel) rfl, ⟨_, _, rfl⟩, tp 35 (by decide +kernel) rfl, Or.inl (tb 566 (by decide +kernel) rfl)⟩
theorem cal_ct_addWork : Cal M_ct_addWork 1 := ⟨tb 7 (by decide +kernel) rfl, tb 601 (by decide +kernel) rfl, by decide +kernel, by decide, by decide +kernel⟩
theorem s_af_208 : LkV "AfterFire" 208 M_ct_addWork 4 1 := ⟨cal_ct_addWork, tb 600 (by decide +kernel) rfl, ⟨_, _, rfl⟩, tp 40 (by decide +kernel) rfl, Or.inr ⟨"AfterFire", tn 598 (by decide +kernel) rfl⟩⟩
theorem cal_sr_canMeasure : Cal M_sr_canMeasure 1 := ⟨tb 9 (by decide +kernel) rfl, tb 617 (by decide +kernel) rfl, by decide +kernel, by decide, by decide +kernel⟩
theorem s_af_217 : LkV "AfterFire" 217 M_sr_canMeasure 7 1 := ⟨cal_sr_canMeasure, tb 616 (by decide +kernel) rfl, ⟨_, _, rfl⟩, tp 41 (by decide +kernel) rfl, Or.inr ⟨"AfterFire", tn 614 (by decide +kernel) rfl⟩⟩
theorem cal_sv_measure : Cal M_sv_measure 2 := ⟨tb 8 (by decide +kernel) rfl, tb 623 (by decide +kernel) rfl, by decide +kernel, by decide, by decide +kernel⟩
theorem s_af_220 : LkV "AfterFire" 220 M_sv_measure 8 2 := ⟨cal_sv_measure, tb 622 (by decide +kernel) rfl, ⟨_, _, rfl⟩, tp 42 (by decide +kernel) rfl, Or.inr ⟨"AfterFire", tn 620 (by decide +kernel) rfl⟩⟩
theorem cal_sv_leastQuarrel : Cal M_sv_leastQuarrel 2 := ⟨tb 8 (by decide +kernel) rfl, tb 652 (by decide +kernel) rfl, by decide +kernel, by decide, by decide +kernel⟩
theorem s_af_224 : LkV "AfterFire" 224 M_sv_leastQuarrel 8 2 := ⟨cal_sv_leastQuarrel, tb 651 (by decide +kernel) rfl, ⟨_, _, rfl⟩, tp 46 (by decide +kernel) rfl, Or.inr ⟨"AfterFire", tn 649 (by decide +kernel) rfl⟩⟩
theorem cal_sv_borderBehind : Cal M_sv_borderBehind 3 := ⟨tb 8 (by decide +kernel) rfl, tb 664 (by decide +kernel) rfl, by decide +kernel, by decide, by decide +kernel⟩
theorem s_af_228 : LkV "AfterFire" 228 M_sv_borderBehind 8 3 := ⟨cal_sv_borderBehind, tb 663 (by decide +kernel) rfl, ⟨_, _, rfl⟩, tp 48 (by decide +kernel) rfl, Or.inr ⟨"AfterFire", tn 661 (by decide +kernel) rfl⟩⟩
theorem cal_pl_paidWalls : Cal M_pl_paidWalls 0 := ⟨tb 11 (by decide +kernel) rfl, tb 672 (by decide +kernel) rfl, by decide +kernel, by decide, by decide +kernel⟩
theorem s_af_244 : LkV "AfterFire" 244 M_pl_paidWalls 5 0 := ⟨cal_pl_paidWalls, tb 671 (by decide +kernel) rfl, ⟨_, _, rfl⟩, tp 49 (by decide +kernel) rfl, Or.inr ⟨"AfterFire", tn 669 (by decide +kernel) rfl⟩⟩
theorem cal_ch_yearsAt : Cal M_ch_yearsAt 1 := ⟨tb 12 (by decide +kernel) rfl, tb 414 (by decide +kernel) rfl, by decide +kernel, by decide, by decide +kernel⟩
theorem s_af_247 : LkV "AfterFire" 247 M_ch_yearsAt 3 1 := ⟨cal_ch_yearsAt, tb 413 (by decide +kernel) rfl, ⟨_, _, rfl⟩, tp 8 (by decide +kernel) rfl, Or.inr ⟨"AfterFire", tn 678 (by decide +kernel) rfl⟩⟩
theorem cal_ch_rentAt : Cal M_ch_rentAt 1 := ⟨tb 12 (by decide +kernel) rfl, tb 682 (by decide +kernel) rfl, by decide +kernel, by decide, by decide +kernel⟩
theorem s_af_250 : LkV "AfterFire" 250 M_ch_rentAt 3 1 := ⟨cal_ch_rentAt, tb 681 (by decide +kernel) rfl, ⟨_, _, rfl⟩, tp 50 (by decide +kernel) rfl, Or.inr ⟨"AfterFire", tn 679 (by decide +kernel) rfl⟩⟩
theorem cal_af_countIn : Cal M_af_countIn 1 := ⟨tb 1 (by decide +kernel) rfl, tb 694 (by decide +kernel) rfl, by decide +kernel, by decide, by decide +kernel⟩
theorem s_af_253 : LkV "AfterFire" 253 M_af_countIn 0 1 := ⟨cal_af_countIn, tb 693 (by decide +kernel) rfl, ⟨_, _, rfl⟩, tp 51 (by decide +kernel) rfl, Or.inl (tb 691 (by decide +kernel) rfl)⟩
theorem cal_af_move : Cal M_af_move 3 := ⟨tb 1 (by decide +kernel) rfl, tb 496 (by decide +kernel) rfl, by decide +kernel, by decide, by decide +kernel⟩
theorem s_af_264 : LkV "AfterFire" 264 M_af_move 0 3 := ⟨cal_af_move, tb 495 (by decide +kernel) rfl, ⟨_, _, rfl⟩, tp 21 (by decide +kernel) rfl, Or.inl (tb 493 (by decide +kernel) rfl)⟩
theorem cal_wl_hasBothSides : Cal M_wl_hasBothSides 0 := ⟨tb 15 (by decide +kernel) rfl, tb 512 (by decide +kernel) rfl, by decide +kernel, by decide, by decide +kernel⟩
theorem s_af_267 : LkV "AfterFire" 267 M_wl_hasBothSides 9 0 := ⟨cal_wl_hasBothSides, tb 511 (by decide +kernel) rfl, ⟨_, _, rfl⟩, tp 25 (by decide +kernel) rfl, Or.inr ⟨"AfterFire", tn 509 (by decide +kernel) rfl⟩⟩
theorem cal_wl_isPaid : Cal M_wl_isPaid 0 := ⟨tb 15 (by decide +kernel) rfl, tb 520 (by decide +kernel) rfl, by decide +kernel, by decide, by decide +kernel⟩
theorem s_af_273 : LkV "AfterFire" 273 M_wl_isPaid 9 0 := ⟨cal_wl_isPaid, tb 519 (by decide +kernel) rfl, ⟨_, _, rfl⟩, tp 27 (by decide +kernel) rfl, Or.inr ⟨"AfterFire", tn 517 (by decide +kernel) rfl⟩⟩
theorem cal_wl_lesserDepth : Cal M_wl_lesserDepth 0 := ⟨tb 15 (by decide +kernel) rfl, tb 524 (by decide +kernel) rfl, by decide +kernel, by decide, by decide +kernel⟩
theorem s_af_282 : LkV "AfterFire" 282 M_wl_lesserDepth 9 0 := ⟨cal_wl_lesserDepth, tb 523 (by decide +kernel) rfl, ⟨_, _, rfl⟩, tp 28 (by decide +kernel) rfl, Or.inr ⟨"AfterFire", tn 521 (by decide +kernel) rfl⟩⟩
theorem cal_pl_lose : Cal M_pl_lose 1 := ⟨tb 11 (by decide +kernel) rfl, tb 537 (by decide +kernel) rfl, by decide +kernel, by decide, by decide +kernel⟩
theorem s_af_285 : LkV "AfterFire" 285 M_pl_lose 5 1 := ⟨cal_pl_lose, tb 536 (by decide +kernel) rfl, ⟨_, _, rfl⟩, tp 30 (by decide +kernel) rfl, Or.inr ⟨"AfterFire", tn 534 (by decide +kernel) rfl⟩⟩
theorem cal_bp_clear : Cal M_bp_clear 0 := ⟨tb 6 (by decide +kernel) rfl, tb 573 (by decide +kernel) rfl, by decide +kernel, by decide, by decide +kernel⟩
theorem s_af_289 : LkV "AfterFire" 289 M_bp_clear 2 0 := ⟨cal_bp_clear, tb 572 (by decide +kernel) rfl, ⟨_, _, rfl⟩, tp 36 (by decide +kernel) rfl, Or.inr ⟨"AfterFire", tn 570 (by decide +kernel) rfl⟩⟩
theorem cal_bp_add : Cal M_bp_add 3 := ⟨tb 6 (by decide +kernel) rfl, tb 577 (by decide +kernel) rfl, by decide +kernel, by decide, by decide +kernel⟩
theorem s_af_292 : LkV "AfterFire" 292 M_bp_add 2 3 := ⟨cal_bp_add, tb 576 (by decide +kernel) rfl, ⟨_, _, rfl⟩, tp 37 (by decide +kernel) rfl, Or.inr ⟨"AfterFire", tn 574 (by decide +kernel) rfl⟩⟩
theorem cal_bp_choose : Cal M_bp_choose 0 := ⟨tb 6 (by decide +kernel) rfl, tb 582 (by decide +kernel) rfl, by decide +kernel, by decide, by decide +kernel⟩
theorem s_af_295 : LkV "AfterFire" 295 M_bp_choose 2 0 := ⟨cal_bp_choose, tb 581 (by decide +kernel) rfl, ⟨_, _, rfl⟩, tp 38 (by decide +kernel) rfl, Or.inr ⟨"AfterFire", tn 579 (by decide +kernel) rfl⟩⟩
theorem o_bp_3 : Cond.methodLink "AfterFire$BrickPlan" 3 objectInit ∈ gt ∧ Cond.instanceMethod objectInit ∈ gt ∧ Cond.code objectInit ⟨#[0xb1]⟩ 1 none ∈ gt := ⟨tb 76 (by decide +kernel) rfl, tb 26 (by decide +kernel) rfl, tb 27 (by decide +kernel) rfl⟩
theorem s_bp_45 : LkV "AfterFire$BrickPlan" 45 M_pl_yearlyWorth 5 0 := ⟨cal_pl_yearlyWorth, tb 438 (by decide +kernel) rfl, ⟨_, _, rfl⟩, tp 11 (by decide +kernel) rfl, Or.inr ⟨"AfterFire", tn 578 (by decide +kernel) rfl⟩⟩
theorem cal_bp_search : Cal M_bp_search 5 := ⟨tb 6 (by decide +kernel) rfl, tb 585 (by decide +kernel) rfl, by decide +kernel, by decide, by decide +kernel⟩
theorem s_bp_49 : LkS "AfterFire$BrickPlan" 49 M_bp_search 5 := ⟨cal_bp_search, tb 584 (by decide +kernel) rfl, Or.inl (tb 583 (by decide +kernel) rfl)⟩
theorem cal_bp_keepIfBetter : Cal M_bp_keepIfBetter 2 := ⟨tb 6 (by decide +kernel) rfl, tb 589 (by decide +kernel) rfl, by decide +kernel, by decide, by decide +kernel⟩
theorem s_bp_53 : LkV "AfterFire$BrickPlan" 53 M_bp_keepIfBetter 2 2 := ⟨cal_bp_keepIfBetter, tb 588 (by decide +kernel) rfl, ⟨_, _, rfl⟩, tp 39 (by decide +kernel) rfl, Or.inl (tb 586 (by decide +kernel) rfl)⟩
theorem o_ch_3 : Cond.methodLink "AfterFire$Chain" 3 objectInit ∈ gt ∧ Cond.instanceMethod objectInit ∈ gt ∧ Cond.code objectInit ⟨#[0xb1]⟩ 1 none ∈ gt := ⟨tb 234 (by decide +kernel) rfl, tb 26 (by decide +kernel) rfl, tb 27 (by decide +kernel) rfl⟩
theorem s_ch_25 : LkS "AfterFire$Chain" 25 M_af_within 3 := ⟨cal_af_within, tb 203 (by decide +kernel) rfl, Or.inr ⟨"AfterFire", tn 419 (by decide +kernel) rfl⟩⟩
theorem s_ch_29 : LkV "AfterFire$Chain" 29 M_ch_reaches 3 1 := ⟨cal_ch_reaches, tb 417 (by decide +kernel) rfl, ⟨_, _, rfl⟩, tp 9 (by decide +kernel) rfl, Or.inl (tb 415 (by decide +kernel) rfl)⟩
theorem s_ch_33 : LkM "AfterFire$Chain" 33 Lib.Math.max.name Lib.Math.max.code 2 := ⟨tb 424 (by decide +kernel) rfl, tb 359 (by decide +kernel) rfl, tb 17 (by decide +kernel) rfl, tb 360 (by decide +kernel) rfl⟩
theorem s_ch_39 : LkV "AfterFire$Chain" 39 M_ch_yearsAt 3 1 := ⟨cal_ch_yearsAt, tb 413 (by decide +kernel) rfl, ⟨_, _, rfl⟩, tp 8 (by decide +kernel) rfl, Or.inl (tb 411 (by decide +kernel) rfl)⟩
theorem o_ct_3 : Cond.methodLink "AfterFire$Chest" 3 objectInit ∈ gt ∧ Cond.instanceMethod objectInit ∈ gt ∧ Cond.code objectInit ⟨#[0xb1]⟩ 1 none ∈ gt := ⟨tb 109 (by decide +kernel) rfl, tb 26 (by decide +kernel) rfl, tb 27 (by decide +kernel) rfl⟩
theorem o_pl_3 : Cond.methodLink "AfterFire$Plot" 3 objectInit ∈ gt ∧ Cond.instanceMethod objectInit ∈ gt ∧ Cond.code objectInit ⟨#[0xb1]⟩ 1 none ∈ gt := ⟨tb 228 (by decide +kernel) rfl, tb 26 (by decide +kernel) rfl, tb 27 (by decide +kernel) rfl⟩
theorem cal_ch_init : Cal M_ch_init 1 := ⟨tb 12 (by decide +kernel) rfl, tb 233 (by decide +kernel) rfl, by decide +kernel, by decide, by decide +kernel⟩
theorem s_pl_39 : LkI "AfterFire$Plot" 39 M_ch_init 1 := ⟨cal_ch_init, tb 232 (by decide +kernel) rfl, rfl, rfl, Or.inr ⟨"AfterFire", tn 231 (by decide +kernel) rfl⟩⟩
theorem cal_ch_end : Cal M_ch_end 0 := ⟨tb 12 (by decide +kernel) rfl, tb 541 (by decide +kernel) rfl, by decide +kernel, by decide, by decide +kernel⟩
theorem s_pl_46 : LkV "AfterFire$Plot" 46 M_ch_end 3 0 := ⟨cal_ch_end, tb 540 (by decide +kernel) rfl, ⟨_, _, rfl⟩, tp 31 (by decide +kernel) rfl, Or.inr ⟨"AfterFire", tn 538 (by decide +kernel) rfl⟩⟩
theorem s_pl_49 : LkV "AfterFire$Plot" 49 M_wl_isPaid 9 0 := ⟨cal_wl_isPaid, tb 519 (by decide +kernel) rfl, ⟨_, _, rfl⟩, tp 27 (by decide +kernel) rfl, Or.inr ⟨"AfterFire", tn 673 (by decide +kernel) rfl⟩⟩
theorem o_sh_3 : Cond.methodLink "AfterFire$Shares" 3 objectInit ∈ gt ∧ Cond.instanceMethod objectInit ∈ gt ∧ Cond.code objectInit ⟨#[0xb1]⟩ 1 none ∈ gt := ⟨tb 62 (by decide +kernel) rfl, tb 26 (by decide +kernel) rfl, tb 27 (by decide +kernel) rfl⟩
theorem s_sh_19 : LkS "AfterFire$Shares" 19 M_af_within 3 := ⟨cal_af_within, tb 203 (by decide +kernel) rfl, Or.inr ⟨"AfterFire", tn 484 (by decide +kernel) rfl⟩⟩
theorem s_sh_35 : LkV "AfterFire$Shares" 35 M_pl_yearlyWorth 5 0 := ⟨cal_pl_yearlyWorth, tb 438 (by decide +kernel) rfl, ⟨_, _, rfl⟩, tp 11 (by decide +kernel) rfl, Or.inr ⟨"AfterFire", tn 469 (by decide +kernel) rfl⟩⟩
theorem s_sh_39 : LkV "AfterFire$Shares" 39 M_ch_interestOf 3 2 := ⟨cal_ch_interestOf, tb 447 (by decide +kernel) rfl, ⟨_, _, rfl⟩, tp 12 (by decide +kernel) rfl, Or.inr ⟨"AfterFire", tn 470 (by decide +kernel) rfl⟩⟩
theorem cal_sh_divideByInterest : Cal M_sh_divideByInterest 3 := ⟨tb 5 (by decide +kernel) rfl, tb 474 (by decide +kernel) rfl, by decide +kernel, by decide, by decide +kernel⟩
theorem s_sh_43 : LkV "AfterFire$Shares" 43 M_sh_divideByInterest 6 3 := ⟨cal_sh_divideByInterest, tb 473 (by decide +kernel) rfl, ⟨_, _, rfl⟩, tp 17 (by decide +kernel) rfl, Or.inl (tb 471 (by decide +kernel) rfl)⟩
theorem cal_sh_placeOfMostCutOff : Cal M_sh_placeOfMostCutOff 0 := ⟨tb 5 (by decide +kernel) rfl, tb 478 (by decide +kernel) rfl, by decide +kernel, by decide, by decide +kernel⟩
theorem s_sh_47 : LkV "AfterFire$Shares" 47 M_sh_placeOfMostCutOff 6 0 := ⟨cal_sh_placeOfMostCutOff, tb 477 (by decide +kernel) rfl, ⟨_, _, rfl⟩, tp 18 (by decide +kernel) rfl, Or.inl (tb 475 (by decide +kernel) rfl)⟩
theorem o_sr_3 : Cond.methodLink "AfterFire$Street" 3 objectInit ∈ gt ∧ Cond.instanceMethod objectInit ∈ gt ∧ Cond.code objectInit ⟨#[0xb1]⟩ 1 none ∈ gt := ⟨tb 145 (by decide +kernel) rfl, tb 26 (by decide +kernel) rfl, tb 27 (by decide +kernel) rfl⟩
theorem s_sr_11 : LkI "AfterFire$Street" 11 M_al_init 0 := ⟨cal_al_init, tb 31 (by decide +kernel) rfl, rfl, rfl, Or.inl (tb 147 (by decide +kernel) rfl)⟩
theorem s_sr_22 : LkV "AfterFire$Street" 22 M_al_size 10 0 := ⟨cal_al_size, tb 220 (by decide +kernel) rfl, ⟨_, _, rfl⟩, tb 221 (by decide +kernel) rfl, Or.inl (tb 298 (by decide +kernel) rfl)⟩
theorem cal_al_isEmpty : Cal M_al_isEmpty 0 := ⟨tb 4 (by decide +kernel) rfl, tb 302 (by decide +kernel) rfl, by decide +kernel, by decide, by decide +kernel⟩
theorem s_sr_26 : LkV "AfterFire$Street" 26 M_al_isEmpty 10 0 := ⟨cal_al_isEmpty, tb 300 (by decide +kernel) rfl, ⟨_, _, rfl⟩, tb 301 (by decide +kernel) rfl, Or.inl (tb 299 (by decide +kernel) rfl)⟩
theorem s_sr_30 : LkV "AfterFire$Street" 30 M_al_get 10 1 := ⟨cal_al_get, tb 304 (by decide +kernel) rfl, ⟨_, _, rfl⟩, tb 305 (by decide +kernel) rfl, Or.inl (tb 303 (by decide +kernel) rfl)⟩
theorem cal_wl_init : Cal M_wl_init 2 := ⟨tb 15 (by decide +kernel) rfl, tb 322 (by decide +kernel) rfl, by decide +kernel, by decide, by decide +kernel⟩
theorem s_sr_38 : LkI "AfterFire$Street" 38 M_wl_init 2 := ⟨cal_wl_init, tb 321 (by decide +kernel) rfl, rfl, rfl, Or.inr ⟨"AfterFire", tn 320 (by decide +kernel) rfl⟩⟩
theorem s_sr_48 : LkV "AfterFire$Street" 48 M_al_add2 10 1 := ⟨cal_al_add2, tb 340 (by decide +kernel) rfl, ⟨_, _, rfl⟩, tb 341 (by decide +kernel) rfl, Or.inl (tb 339 (by decide +kernel) rfl)⟩
theorem s_sr_52 : LkM "AfterFire$Street" 52 Lib.Math.max.name Lib.Math.max.code 2 := ⟨tb 618 (by decide +kernel) rfl, tb 359 (by decide +kernel) rfl, tb 17 (by decide +kernel) rfl, tb 360 (by decide +kernel) rfl⟩
theorem s_sr_58 : LkS "AfterFire$Street" 58 M_af_within 3 := ⟨cal_af_within, tb 203 (by decide +kernel) rfl, Or.inr ⟨"AfterFire", tn 619 (by decide +kernel) rfl⟩⟩
theorem s_sr_66 : LkM "AfterFire$Street" 66 Lib.Math.abs.name Lib.Math.abs.code 1 := ⟨tb 648 (by decide +kernel) rfl, tb 642 (by decide +kernel) rfl, tb 17 (by decide +kernel) rfl, tb 643 (by decide +kernel) rfl⟩
theorem o_sv_3 : Cond.methodLink "AfterFire$Survey" 3 objectInit ∈ gt ∧ Cond.instanceMethod objectInit ∈ gt ∧ Cond.code objectInit ⟨#[0xb1]⟩ 1 none ∈ gt := ⟨tb 134 (by decide +kernel) rfl, tb 26 (by decide +kernel) rfl, tb 27 (by decide +kernel) rfl⟩
theorem s_sv_22 : LkV "AfterFire$Survey" 22 M_al_size 10 0 := ⟨cal_al_size, tb 220 (by decide +kernel) rfl, ⟨_, _, rfl⟩, tb 221 (by decide +kernel) rfl, Or.inl (tb 624 (by decide +kernel) rfl)⟩
theorem s_sv_28 : LkS "AfterFire$Survey" 28 M_af_within 3 := ⟨cal_af_within, tb 203 (by decide +kernel) rfl, Or.inr ⟨"AfterFire", tn 625 (by decide +kernel) rfl⟩⟩
theorem cal_sv_fillRow : Cal M_sv_fillRow 3 := ⟨tb 8 (by decide +kernel) rfl, tb 629 (by decide +kernel) rfl, by decide +kernel, by decide, by decide +kernel⟩
theorem s_sv_32 : LkV "AfterFire$Survey" 32 M_sv_fillRow 8 3 := ⟨cal_sv_fillRow, tb 628 (by decide +kernel) rfl, ⟨_, _, rfl⟩, tp 43 (by decide +kernel) rfl, Or.inl (tb 626 (by decide +kernel) rfl)⟩
theorem cal_sr_frontOf : Cal M_sr_frontOf 1 := ⟨tb 9 (by decide +kernel) rfl, tb 633 (by decide +kernel) rfl, by decide +kernel, by decide, by decide +kernel⟩
theorem s_sv_36 : LkV "AfterFire$Survey" 36 M_sr_frontOf 7 1 := ⟨cal_sr_frontOf, tb 632 (by decide +kernel) rfl, ⟨_, _, rfl⟩, tp 44 (by decide +kernel) rfl, Or.inr ⟨"AfterFire", tn 630 (by decide +kernel) rfl⟩⟩
theorem s_sv_40 : LkM "AfterFire$Survey" 40 Lib.Math.max.name Lib.Math.max.code 2 := ⟨tb 634 (by decide +kernel) rfl, tb 359 (by decide +kernel) rfl, tb 17 (by decide +kernel) rfl, tb 360 (by decide +kernel) rfl⟩
theorem cal_sv_firstBest : Cal M_sv_firstBest 4 := ⟨tb 8 (by decide +kernel) rfl, tb 637 (by decide +kernel) rfl, by decide +kernel, by decide, by decide +kernel⟩
theorem s_sv_46 : LkS "AfterFire$Survey" 46 M_sv_firstBest 4 := ⟨cal_sv_firstBest, tb 636 (by decide +kernel) rfl, Or.inl (tb 635 (by decide +kernel) rfl)⟩
theorem cal_sr_stakeGap : Cal M_sr_stakeGap 2 := ⟨tb 9 (by decide +kernel) rfl, tb 647 (by decide +kernel) rfl, by decide +kernel, by decide, by decide +kernel⟩
theorem s_sv_50 : LkV "AfterFire$Survey" 50 M_sr_stakeGap 7 2 := ⟨cal_sr_stakeGap, tb 646 (by decide +kernel) rfl, ⟨_, _, rfl⟩, tp 45 (by decide +kernel) rfl, Or.inr ⟨"AfterFire", tn 644 (by decide +kernel) rfl⟩⟩
theorem cal_sv_quarrelAt : Cal M_sv_quarrelAt 3 := ⟨tb 8 (by decide +kernel) rfl, tb 640 (by decide +kernel) rfl, by decide +kernel, by decide, by decide +kernel⟩
theorem s_sv_53 : LkS "AfterFire$Survey" 53 M_sv_quarrelAt 3 := ⟨cal_sv_quarrelAt, tb 639 (by decide +kernel) rfl, Or.inl (tb 638 (by decide +kernel) rfl)⟩
theorem s_sv_57 : LkM "AfterFire$Survey" 57 Lib.Math.abs.name Lib.Math.abs.code 1 := ⟨tb 641 (by decide +kernel) rfl, tb 642 (by decide +kernel) rfl, tb 17 (by decide +kernel) rfl, tb 643 (by decide +kernel) rfl⟩
theorem cal_sv_endOf : Cal M_sv_endOf 4 := ⟨tb 8 (by decide +kernel) rfl, tb 656 (by decide +kernel) rfl, by decide +kernel, by decide, by decide +kernel⟩
theorem s_sv_60 : LkV "AfterFire$Survey" 60 M_sv_endOf 8 4 := ⟨cal_sv_endOf, tb 655 (by decide +kernel) rfl, ⟨_, _, rfl⟩, tp 47 (by decide +kernel) rfl, Or.inl (tb 653 (by decide +kernel) rfl)⟩
theorem o_wl_3 : Cond.methodLink "AfterFire$Wall" 3 objectInit ∈ gt ∧ Cond.instanceMethod objectInit ∈ gt ∧ Cond.code objectInit ⟨#[0xb1]⟩ 1 none ∈ gt := ⟨tb 323 (by decide +kernel) rfl, tb 26 (by decide +kernel) rfl, tb 27 (by decide +kernel) rfl⟩
theorem cal_pl_isThere : Cal M_pl_isThere 0 := ⟨tb 11 (by decide +kernel) rfl, tb 516 (by decide +kernel) rfl, by decide +kernel, by decide, by decide +kernel⟩
theorem s_wl_25 : LkV "AfterFire$Wall" 25 M_pl_isThere 5 0 := ⟨cal_pl_isThere, tb 515 (by decide +kernel) rfl, ⟨_, _, rfl⟩, tp 26 (by decide +kernel) rfl, Or.inr ⟨"AfterFire", tn 513 (by decide +kernel) rfl⟩⟩
theorem s_wl_34 : LkM "AfterFire$Wall" 34 Lib.Math.min.name Lib.Math.min.code 2 := ⟨tb 525 (by decide +kernel) rfl, tb 390 (by decide +kernel) rfl, tb 17 (by decide +kernel) rfl, tb 391 (by decide +kernel) rfl⟩
theorem cal_af_init : Cal M_af_init 0 := ⟨tb 1 (by decide +kernel) rfl, tb 24 (by decide +kernel) rfl, by decide +kernel, by decide, by decide +kernel⟩
theorem s_lw_9 : LkI "AfterFireLaw" 9 M_af_init 0 := ⟨cal_af_init, tb 23 (by decide +kernel) rfl, rfl, rfl, Or.inl (tb 22 (by decide +kernel) rfl)⟩
theorem cal_md_init : Cal M_md_init 0 := ⟨tb 10 (by decide +kernel) rfl, tb 699 (by decide +kernel) rfl, by decide +kernel, by decide, by decide +kernel⟩
theorem s_lw_12 : LkI "AfterFireLaw" 12 M_md_init 0 := ⟨cal_md_init, tb 698 (by decide +kernel) rfl, rfl, rfl, Or.inl (tb 697 (by decide +kernel) rfl)⟩
theorem cal_af_coins : Cal M_af_coins 2 := ⟨tb 1 (by decide +kernel) rfl, tb 198 (by decide +kernel) rfl, by decide +kernel, by decide, by decide +kernel⟩
theorem s_lw_13 : LkV "AfterFireLaw" 13 M_af_coins 0 2 := ⟨cal_af_coins, tb 196 (by decide +kernel) rfl, ⟨_, _, rfl⟩, tb 197 (by decide +kernel) rfl, Or.inl (tb 195 (by decide +kernel) rfl)⟩
theorem cal_md_coins : Cal M_md_coins 2 := ⟨tb 10 (by decide +kernel) rfl, tb 801 (by decide +kernel) rfl, by decide +kernel, by decide, by decide +kernel⟩
theorem s_lw_17 : LkV "AfterFireLaw" 17 M_md_coins 1 2 := ⟨cal_md_coins, tb 799 (by decide +kernel) rfl, ⟨_, _, rfl⟩, tb 800 (by decide +kernel) rfl, Or.inl (tb 798 (by decide +kernel) rfl)⟩
theorem cal_af_plot : Cal M_af_plot 3 := ⟨tb 1 (by decide +kernel) rfl, tb 214 (by decide +kernel) rfl, by decide +kernel, by decide, by decide +kernel⟩
theorem s_lw_18 : LkV "AfterFireLaw" 18 M_af_plot 0 3 := ⟨cal_af_plot, tb 212 (by decide +kernel) rfl, ⟨_, _, rfl⟩, tb 213 (by decide +kernel) rfl, Or.inl (tb 211 (by decide +kernel) rfl)⟩
theorem cal_md_plot : Cal M_md_plot 3 := ⟨tb 10 (by decide +kernel) rfl, tb 810 (by decide +kernel) rfl, by decide +kernel, by decide, by decide +kernel⟩
theorem s_lw_22 : LkV "AfterFireLaw" 22 M_md_plot 1 3 := ⟨cal_md_plot, tb 808 (by decide +kernel) rfl, ⟨_, _, rfl⟩, tb 809 (by decide +kernel) rfl, Or.inl (tb 807 (by decide +kernel) rfl)⟩
theorem cal_af_lease : Cal M_af_lease 4 := ⟨tb 1 (by decide +kernel) rfl, tb 401 (by decide +kernel) rfl, by decide +kernel, by decide, by decide +kernel⟩
theorem s_lw_23 : LkV "AfterFireLaw" 23 M_af_lease 0 4 := ⟨cal_af_lease, tb 399 (by decide +kernel) rfl, ⟨_, _, rfl⟩, tb 400 (by decide +kernel) rfl, Or.inl (tb 398 (by decide +kernel) rfl)⟩
theorem cal_md_lease : Cal M_md_lease 4 := ⟨tb 10 (by decide +kernel) rfl, tb 821 (by decide +kernel) rfl, by decide +kernel, by decide, by decide +kernel⟩
theorem s_lw_27 : LkV "AfterFireLaw" 27 M_md_lease 1 4 := ⟨cal_md_lease, tb 819 (by decide +kernel) rfl, ⟨_, _, rfl⟩, tb 820 (by decide +kernel) rfl, Or.inl (tb 818 (by decide +kernel) rfl)⟩
theorem cal_af_rates : Cal M_af_rates 3 := ⟨tb 1 (by decide +kernel) rfl, tb 428 (by decide +kernel) rfl, by decide +kernel, by decide, by decide +kernel⟩
theorem s_lw_28 : LkV "AfterFireLaw" 28 M_af_rates 0 3 := ⟨cal_af_rates, tb 426 (by decide +kernel) rfl, ⟨_, _, rfl⟩, tb 427 (by decide +kernel) rfl, Or.inl (tb 425 (by decide +kernel) rfl)⟩
theorem cal_md_rates : Cal M_md_rates 3 := ⟨tb 10 (by decide +kernel) rfl, tb 829 (by decide +kernel) rfl, by decide +kernel, by decide, by decide +kernel⟩
theorem s_lw_32 : LkV "AfterFireLaw" 32 M_md_rates 1 3 := ⟨cal_md_rates, tb 827 (by decide +kernel) rfl, ⟨_, _, rfl⟩, tb 828 (by decide +kernel) rfl, Or.inl (tb 826 (by decide +kernel) rfl)⟩
theorem cal_af_worth : Cal M_af_worth 1 := ⟨tb 1 (by decide +kernel) rfl, tb 435 (by decide +kernel) rfl, by decide +kernel, by decide, by decide +kernel⟩
theorem s_lw_33 : LkV "AfterFireLaw" 33 M_af_worth 0 1 := ⟨cal_af_worth, tb 433 (by decide +kernel) rfl, ⟨_, _, rfl⟩, tb 434 (by decide +kernel) rfl, Or.inl (tb 432 (by decide +kernel) rfl)⟩
theorem cal_md_worth : Cal M_md_worth 1 := ⟨tb 10 (by decide +kernel) rfl, tb 833 (by decide +kernel) rfl, by decide +kernel, by decide, by decide +kernel⟩
theorem s_lw_37 : LkV "AfterFireLaw" 37 M_md_worth 1 1 := ⟨cal_md_worth, tb 831 (by decide +kernel) rfl, ⟨_, _, rfl⟩, tb 832 (by decide +kernel) rfl, Or.inl (tb 830 (by decide +kernel) rfl)⟩
theorem cal_af_interest : Cal M_af_interest 2 := ⟨tb 1 (by decide +kernel) rfl, tb 443 (by decide +kernel) rfl, by decide +kernel, by decide, by decide +kernel⟩
theorem s_lw_38 : LkV "AfterFireLaw" 38 M_af_interest 0 2 := ⟨cal_af_interest, tb 441 (by decide +kernel) rfl, ⟨_, _, rfl⟩, tb 442 (by decide +kernel) rfl, Or.inl (tb 440 (by decide +kernel) rfl)⟩
theorem cal_md_interest : Cal M_md_interest 2 := ⟨tb 10 (by decide +kernel) rfl, tb 837 (by decide +kernel) rfl, by decide +kernel, by decide, by decide +kernel⟩
theorem s_lw_41 : LkV "AfterFireLaw" 41 M_md_interest 1 2 := ⟨cal_md_interest, tb 835 (by decide +kernel) rfl, ⟨_, _, rfl⟩, tb 836 (by decide +kernel) rfl, Or.inl (tb 834 (by decide +kernel) rfl)⟩
theorem cal_af_bears : Cal M_af_bears 2 := ⟨tb 1 (by decide +kernel) rfl, tb 452 (by decide +kernel) rfl, by decide +kernel, by decide, by decide +kernel⟩
theorem s_lw_42 : LkV "AfterFireLaw" 42 M_af_bears 0 2 := ⟨cal_af_bears, tb 450 (by decide +kernel) rfl, ⟨_, _, rfl⟩, tb 451 (by decide +kernel) rfl, Or.inl (tb 449 (by decide +kernel) rfl)⟩
theorem cal_md_bears : Cal M_md_bears 2 := ⟨tb 10 (by decide +kernel) rfl, tb 854 (by decide +kernel) rfl, by decide +kernel, by decide, by decide +kernel⟩
theorem s_lw_45 : LkV "AfterFireLaw" 45 M_md_bears 1 2 := ⟨cal_md_bears, tb 852 (by decide +kernel) rfl, ⟨_, _, rfl⟩, tb 853 (by decide +kernel) rfl, Or.inl (tb 851 (by decide +kernel) rfl)⟩
theorem cal_af_decree : Cal M_af_decree 1 := ⟨tb 1 (by decide +kernel) rfl, tb 488 (by decide +kernel) rfl, by decide +kernel, by decide, by decide +kernel⟩
theorem s_lw_46 : LkV "AfterFireLaw" 46 M_af_decree 0 1 := ⟨cal_af_decree, tb 486 (by decide +kernel) rfl, ⟨_, _, rfl⟩, tb 487 (by decide +kernel) rfl, Or.inl (tb 485 (by decide +kernel) rfl)⟩
theorem cal_md_decree : Cal M_md_decree 1 := ⟨tb 10 (by decide +kernel) rfl, tb 871 (by decide +kernel) rfl, by decide +kernel, by decide, by decide +kernel⟩
theorem s_lw_49 : LkV "AfterFireLaw" 49 M_md_decree 1 1 := ⟨cal_md_decree, tb 869 (by decide +kernel) rfl, ⟨_, _, rfl⟩, tb 870 (by decide +kernel) rfl, Or.inl (tb 868 (by decide +kernel) rfl)⟩
theorem cal_af_act : Cal M_af_act 2 := ⟨tb 1 (by decide +kernel) rfl, tb 529 (by decide +kernel) rfl, by decide +kernel, by decide, by decide +kernel⟩
theorem s_lw_50 : LkV "AfterFireLaw" 50 M_af_act 0 2 := ⟨cal_af_act, tb 527 (by decide +kernel) rfl, ⟨_, _, rfl⟩, tb 528 (by decide +kernel) rfl, Or.inl (tb 526 (by decide +kernel) rfl)⟩
theorem cal_md_act : Cal M_md_act 2 := ⟨tb 10 (by decide +kernel) rfl, tb 887 (by decide +kernel) rfl, by decide +kernel, by decide, by decide +kernel⟩
theorem s_lw_53 : LkV "AfterFireLaw" 53 M_md_act 1 2 := ⟨cal_md_act, tb 885 (by decide +kernel) rfl, ⟨_, _, rfl⟩, tb 886 (by decide +kernel) rfl, Or.inl (tb 884 (by decide +kernel) rfl)⟩
theorem cal_af_year : Cal M_af_year 0 := ⟨tb 1 (by decide +kernel) rfl, tb 545 (by decide +kernel) rfl, by decide +kernel, by decide, by decide +kernel⟩
theorem s_lw_54 : LkV "AfterFireLaw" 54 M_af_year 0 0 := ⟨cal_af_year, tb 543 (by decide +kernel) rfl, ⟨_, _, rfl⟩, tb 544 (by decide +kernel) rfl, Or.inl (tb 542 (by decide +kernel) rfl)⟩
theorem cal_md_year : Cal M_md_year 0 := ⟨tb 10 (by decide +kernel) rfl, tb 895 (by decide +kernel) rfl, by decide +kernel, by decide, by decide +kernel⟩
theorem s_lw_58 : LkV "AfterFireLaw" 58 M_md_year 1 0 := ⟨cal_md_year, tb 893 (by decide +kernel) rfl, ⟨_, _, rfl⟩, tb 894 (by decide +kernel) rfl, Or.inl (tb 892 (by decide +kernel) rfl)⟩
theorem cal_af_due : Cal M_af_due 2 := ⟨tb 1 (by decide +kernel) rfl, tb 561 (by decide +kernel) rfl, by decide +kernel, by decide, by decide +kernel⟩
theorem s_lw_59 : LkV "AfterFireLaw" 59 M_af_due 0 2 := ⟨cal_af_due, tb 559 (by decide +kernel) rfl, ⟨_, _, rfl⟩, tb 560 (by decide +kernel) rfl, Or.inl (tb 558 (by decide +kernel) rfl)⟩
theorem cal_md_due : Cal M_md_due 2 := ⟨tb 10 (by decide +kernel) rfl, tb 903 (by decide +kernel) rfl, by decide +kernel, by decide, by decide +kernel⟩
theorem s_lw_63 : LkV "AfterFireLaw" 63 M_md_due 1 2 := ⟨cal_md_due, tb 901 (by decide +kernel) rfl, ⟨_, _, rfl⟩, tb 902 (by decide +kernel) rfl, Or.inl (tb 900 (by decide +kernel) rfl)⟩
theorem cal_af_saved : Cal M_af_saved 1 := ⟨tb 1 (by decide +kernel) rfl, tb 565 (by decide +kernel) rfl, by decide +kernel, by decide, by decide +kernel⟩
theorem s_lw_64 : LkV "AfterFireLaw" 64 M_af_saved 0 1 := ⟨cal_af_saved, tb 563 (by decide +kernel) rfl, ⟨_, _, rfl⟩, tb 564 (by decide +kernel) rfl, Or.inl (tb 562 (by decide +kernel) rfl)⟩
theorem cal_md_saved : Cal M_md_saved 1 := ⟨tb 10 (by decide +kernel) rfl, tb 907 (by decide +kernel) rfl, by decide +kernel, by decide, by decide +kernel⟩
theorem s_lw_67 : LkV "AfterFireLaw" 67 M_md_saved 1 1 := ⟨cal_md_saved, tb 905 (by decide +kernel) rfl, ⟨_, _, rfl⟩, tb 906 (by decide +kernel) rfl, Or.inl (tb 904 (by decide +kernel) rfl)⟩
theorem cal_af_heap : Cal M_af_heap 1 := ⟨tb 1 (by decide +kernel) rfl, tb 593 (by decide +kernel) rfl, by decide +kernel, by decide, by decide +kernel⟩
theorem s_lw_68 : LkV "AfterFireLaw" 68 M_af_heap 0 1 := ⟨cal_af_heap, tb 591 (by decide +kernel) rfl, ⟨_, _, rfl⟩, tb 592 (by decide +kernel) rfl, Or.inl (tb 590 (by decide +kernel) rfl)⟩
theorem cal_md_heap : Cal M_md_heap 1 := ⟨tb 10 (by decide +kernel) rfl, tb 923 (by decide +kernel) rfl, by decide +kernel, by decide, by decide +kernel⟩
theorem s_lw_71 : LkV "AfterFireLaw" 71 M_md_heap 1 1 := ⟨cal_md_heap, tb 921 (by decide +kernel) rfl, ⟨_, _, rfl⟩, tb 922 (by decide +kernel) rfl, Or.inl (tb 920 (by decide +kernel) rfl)⟩
theorem cal_af_works : Cal M_af_works 1 := ⟨tb 1 (by decide +kernel) rfl, tb 597 (by decide +kernel) rfl, by decide +kernel, by decide, by decide +kernel⟩
theorem s_lw_72 : LkV "AfterFireLaw" 72 M_af_works 0 1 := ⟨cal_af_works, tb 595 (by decide +kernel) rfl, ⟨_, _, rfl⟩, tb 596 (by decide +kernel) rfl, Or.inl (tb 594 (by decide +kernel) rfl)⟩
theorem cal_md_works : Cal M_md_works 1 := ⟨tb 10 (by decide +kernel) rfl, tb 927 (by decide +kernel) rfl, by decide +kernel, by decide, by decide +kernel⟩
theorem s_lw_75 : LkV "AfterFireLaw" 75 M_md_works 1 1 := ⟨cal_md_works, tb 925 (by decide +kernel) rfl, ⟨_, _, rfl⟩, tb 926 (by decide +kernel) rfl, Or.inl (tb 924 (by decide +kernel) rfl)⟩
theorem cal_af_tax : Cal M_af_tax 1 := ⟨tb 1 (by decide +kernel) rfl, tb 605 (by decide +kernel) rfl, by decide +kernel, by decide, by decide +kernel⟩
theorem s_lw_76 : LkV "AfterFireLaw" 76 M_af_tax 0 1 := ⟨cal_af_tax, tb 603 (by decide +kernel) rfl, ⟨_, _, rfl⟩, tb 604 (by decide +kernel) rfl, Or.inl (tb 602 (by decide +kernel) rfl)⟩
theorem cal_md_tax : Cal M_md_tax 1 := ⟨tb 10 (by decide +kernel) rfl, tb 931 (by decide +kernel) rfl, by decide +kernel, by decide, by decide +kernel⟩
theorem s_lw_80 : LkV "AfterFireLaw" 80 M_md_tax 1 1 := ⟨cal_md_tax, tb 929 (by decide +kernel) rfl, ⟨_, _, rfl⟩, tb 930 (by decide +kernel) rfl, Or.inl (tb 928 (by decide +kernel) rfl)⟩
theorem cal_af_stake : Cal M_af_stake 3 := ⟨tb 1 (by decide +kernel) rfl, tb 609 (by decide +kernel) rfl, by decide +kernel, by decide, by decide +kernel⟩
theorem s_lw_81 : LkV "AfterFireLaw" 81 M_af_stake 0 3 := ⟨cal_af_stake, tb 607 (by decide +kernel) rfl, ⟨_, _, rfl⟩, tb 608 (by decide +kernel) rfl, Or.inl (tb 606 (by decide +kernel) rfl)⟩
theorem cal_md_stake : Cal M_md_stake 3 := ⟨tb 10 (by decide +kernel) rfl, tb 935 (by decide +kernel) rfl, by decide +kernel, by decide, by decide +kernel⟩
theorem s_lw_84 : LkV "AfterFireLaw" 84 M_md_stake 1 3 := ⟨cal_md_stake, tb 933 (by decide +kernel) rfl, ⟨_, _, rfl⟩, tb 934 (by decide +kernel) rfl, Or.inl (tb 932 (by decide +kernel) rfl)⟩
theorem cal_af_quarrel : Cal M_af_quarrel 2 := ⟨tb 1 (by decide +kernel) rfl, tb 613 (by decide +kernel) rfl, by decide +kernel, by decide, by decide +kernel⟩
theorem s_lw_85 : LkV "AfterFireLaw" 85 M_af_quarrel 0 2 := ⟨cal_af_quarrel, tb 611 (by decide +kernel) rfl, ⟨_, _, rfl⟩, tb 612 (by decide +kernel) rfl, Or.inl (tb 610 (by decide +kernel) rfl)⟩
theorem cal_md_quarrel : Cal M_md_quarrel 2 := ⟨tb 10 (by decide +kernel) rfl, tb 939 (by decide +kernel) rfl, by decide +kernel, by decide, by decide +kernel⟩
theorem s_lw_88 : LkV "AfterFireLaw" 88 M_md_quarrel 1 2 := ⟨cal_md_quarrel, tb 937 (by decide +kernel) rfl, ⟨_, _, rfl⟩, tb 938 (by decide +kernel) rfl, Or.inl (tb 936 (by decide +kernel) rfl)⟩
theorem cal_af_border : Cal M_af_border 3 := ⟨tb 1 (by decide +kernel) rfl, tb 660 (by decide +kernel) rfl, by decide +kernel, by decide, by decide +kernel⟩
theorem s_lw_89 : LkV "AfterFireLaw" 89 M_af_border 0 3 := ⟨cal_af_border, tb 658 (by decide +kernel) rfl, ⟨_, _, rfl⟩, tb 659 (by decide +kernel) rfl, Or.inl (tb 657 (by decide +kernel) rfl)⟩
theorem cal_md_border : Cal M_md_border 3 := ⟨tb 10 (by decide +kernel) rfl, tb 959 (by decide +kernel) rfl, by decide +kernel, by decide, by decide +kernel⟩
theorem s_lw_92 : LkV "AfterFireLaw" 92 M_md_border 1 3 := ⟨cal_md_border, tb 957 (by decide +kernel) rfl, ⟨_, _, rfl⟩, tb 958 (by decide +kernel) rfl, Or.inl (tb 956 (by decide +kernel) rfl)⟩
theorem cal_af_told : Cal M_af_told 2 := ⟨tb 1 (by decide +kernel) rfl, tb 668 (by decide +kernel) rfl, by decide +kernel, by decide, by decide +kernel⟩
theorem s_lw_93 : LkV "AfterFireLaw" 93 M_af_told 0 2 := ⟨cal_af_told, tb 666 (by decide +kernel) rfl, ⟨_, _, rfl⟩, tb 667 (by decide +kernel) rfl, Or.inl (tb 665 (by decide +kernel) rfl)⟩
theorem cal_md_told : Cal M_md_told 2 := ⟨tb 10 (by decide +kernel) rfl, tb 963 (by decide +kernel) rfl, by decide +kernel, by decide, by decide +kernel⟩
theorem s_lw_96 : LkV "AfterFireLaw" 96 M_md_told 1 2 := ⟨cal_md_told, tb 961 (by decide +kernel) rfl, ⟨_, _, rfl⟩, tb 962 (by decide +kernel) rfl, Or.inl (tb 960 (by decide +kernel) rfl)⟩
theorem cal_af_chain : Cal M_af_chain 3 := ⟨tb 1 (by decide +kernel) rfl, tb 677 (by decide +kernel) rfl, by decide +kernel, by decide, by decide +kernel⟩
theorem s_lw_97 : LkV "AfterFireLaw" 97 M_af_chain 0 3 := ⟨cal_af_chain, tb 675 (by decide +kernel) rfl, ⟨_, _, rfl⟩, tb 676 (by decide +kernel) rfl, Or.inl (tb 674 (by decide +kernel) rfl)⟩
theorem cal_md_chain : Cal M_md_chain 3 := ⟨tb 10 (by decide +kernel) rfl, tb 971 (by decide +kernel) rfl, by decide +kernel, by decide, by decide +kernel⟩
theorem s_lw_100 : LkV "AfterFireLaw" 100 M_md_chain 1 3 := ⟨cal_md_chain, tb 969 (by decide +kernel) rfl, ⟨_, _, rfl⟩, tb 970 (by decide +kernel) rfl, Or.inl (tb 968 (by decide +kernel) rfl)⟩
theorem cal_af_has : Cal M_af_has 1 := ⟨tb 1 (by decide +kernel) rfl, tb 686 (by decide +kernel) rfl, by decide +kernel, by decide, by decide +kernel⟩
theorem s_lw_101 : LkV "AfterFireLaw" 101 M_af_has 0 1 := ⟨cal_af_has, tb 684 (by decide +kernel) rfl, ⟨_, _, rfl⟩, tb 685 (by decide +kernel) rfl, Or.inl (tb 683 (by decide +kernel) rfl)⟩
theorem cal_md_has : Cal M_md_has 1 := ⟨tb 10 (by decide +kernel) rfl, tb 975 (by decide +kernel) rfl, by decide +kernel, by decide, by decide +kernel⟩
theorem s_lw_104 : LkV "AfterFireLaw" 104 M_md_has 1 1 := ⟨cal_md_has, tb 973 (by decide +kernel) rfl, ⟨_, _, rfl⟩, tb 974 (by decide +kernel) rfl, Or.inl (tb 972 (by decide +kernel) rfl)⟩
theorem cal_af_count : Cal M_af_count 1 := ⟨tb 1 (by decide +kernel) rfl, tb 690 (by decide +kernel) rfl, by decide +kernel, by decide, by decide +kernel⟩
theorem s_lw_105 : LkV "AfterFireLaw" 105 M_af_count 0 1 := ⟨cal_af_count, tb 688 (by decide +kernel) rfl, ⟨_, _, rfl⟩, tb 689 (by decide +kernel) rfl, Or.inl (tb 687 (by decide +kernel) rfl)⟩
theorem cal_md_count : Cal M_md_count 1 := ⟨tb 10 (by decide +kernel) rfl, tb 979 (by decide +kernel) rfl, by decide +kernel, by decide, by decide +kernel⟩
theorem s_lw_108 : LkV "AfterFireLaw" 108 M_md_count 1 1 := ⟨cal_md_count, tb 977 (by decide +kernel) rfl, ⟨_, _, rfl⟩, tb 978 (by decide +kernel) rfl, Or.inl (tb 976 (by decide +kernel) rfl)⟩
theorem o_md_1 : Cond.methodLink "AfterFireModel" 1 objectInit ∈ gt ∧ Cond.instanceMethod objectInit ∈ gt ∧ Cond.code objectInit ⟨#[0xb1]⟩ 1 none ∈ gt := ⟨tb 700 (by decide +kernel) rfl, tb 26 (by decide +kernel) rfl, tb 27 (by decide +kernel) rfl⟩
theorem cal_md_in : Cal M_md_in 3 := ⟨tb 10 (by decide +kernel) rfl, tb 804 (by decide +kernel) rfl, by decide +kernel, by decide, by decide +kernel⟩
theorem s_md_87 : LkS "AfterFireModel" 87 M_md_in 3 := ⟨cal_md_in, tb 803 (by decide +kernel) rfl, Or.inl (tb 802 (by decide +kernel) rfl)⟩
theorem cal_md_isStreet : Cal M_md_isStreet 1 := ⟨tb 10 (by decide +kernel) rfl, tb 813 (by decide +kernel) rfl, by decide +kernel, by decide, by decide +kernel⟩
theorem s_md_93 : LkS "AfterFireModel" 93 M_md_isStreet 1 := ⟨cal_md_isStreet, tb 812 (by decide +kernel) rfl, Or.inl (tb 811 (by decide +kernel) rfl)⟩
theorem cal_md_onStreet : Cal M_md_onStreet 1 := ⟨tb 10 (by decide +kernel) rfl, tb 817 (by decide +kernel) rfl, by decide +kernel, by decide, by decide +kernel⟩
theorem s_md_97 : LkV "AfterFireModel" 97 M_md_onStreet 1 1 := ⟨cal_md_onStreet, tb 816 (by decide +kernel) rfl, ⟨_, _, rfl⟩, tp 52 (by decide +kernel) rfl, Or.inl (tb 814 (by decide +kernel) rfl)⟩
theorem cal_md_isPlot : Cal M_md_isPlot 1 := ⟨tb 10 (by decide +kernel) rfl, tb 825 (by decide +kernel) rfl, by decide +kernel, by decide, by decide +kernel⟩
theorem s_md_101 : LkV "AfterFireModel" 101 M_md_isPlot 1 1 := ⟨cal_md_isPlot, tb 824 (by decide +kernel) rfl, ⟨_, _, rfl⟩, tp 53 (by decide +kernel) rfl, Or.inl (tb 822 (by decide +kernel) rfl)⟩
theorem cal_md_isGone : Cal M_md_isGone 1 := ⟨tb 10 (by decide +kernel) rfl, tb 845 (by decide +kernel) rfl, by decide +kernel, by decide, by decide +kernel⟩
theorem s_md_104 : LkV "AfterFireModel" 104 M_md_isGone 1 1 := ⟨cal_md_isGone, tb 844 (by decide +kernel) rfl, ⟨_, _, rfl⟩, tp 55 (by decide +kernel) rfl, Or.inl (tb 842 (by decide +kernel) rfl)⟩
theorem s_md_107 : LkV "AfterFireModel" 107 M_md_worth 1 1 := ⟨cal_md_worth, tb 831 (by decide +kernel) rfl, ⟨_, _, rfl⟩, tb 832 (by decide +kernel) rfl, Or.inl (tb 850 (by decide +kernel) rfl)⟩
theorem cal_md_isPlace : Cal M_md_isPlace 2 := ⟨tb 10 (by decide +kernel) rfl, tb 841 (by decide +kernel) rfl, by decide +kernel, by decide, by decide +kernel⟩
theorem s_md_110 : LkV "AfterFireModel" 110 M_md_isPlace 1 2 := ⟨cal_md_isPlace, tb 840 (by decide +kernel) rfl, ⟨_, _, rfl⟩, tp 54 (by decide +kernel) rfl, Or.inl (tb 838 (by decide +kernel) rfl)⟩
theorem cal_md_interestOf : Cal M_md_interestOf 2 := ⟨tb 10 (by decide +kernel) rfl, tb 849 (by decide +kernel) rfl, by decide +kernel, by decide, by decide +kernel⟩
theorem s_md_114 : LkV "AfterFireModel" 114 M_md_interestOf 1 2 := ⟨cal_md_interestOf, tb 848 (by decide +kernel) rfl, ⟨_, _, rfl⟩, tp 56 (by decide +kernel) rfl, Or.inl (tb 846 (by decide +kernel) rfl)⟩
theorem cal_md_costOf : Cal M_md_costOf 1 := ⟨tb 10 (by decide +kernel) rfl, tb 866 (by decide +kernel) rfl, by decide +kernel, by decide, by decide +kernel⟩
theorem s_md_118 : LkV "AfterFireModel" 118 M_md_costOf 1 1 := ⟨cal_md_costOf, tb 865 (by decide +kernel) rfl, ⟨_, _, rfl⟩, tp 59 (by decide +kernel) rfl, Or.inl (tb 863 (by decide +kernel) rfl)⟩
theorem cal_md_builder : Cal M_md_builder 1 := ⟨tb 10 (by decide +kernel) rfl, tb 862 (by decide +kernel) rfl, by decide +kernel, by decide, by decide +kernel⟩
theorem s_md_121 : LkV "AfterFireModel" 121 M_md_builder 1 1 := ⟨cal_md_builder, tb 861 (by decide +kernel) rfl, ⟨_, _, rfl⟩, tp 58 (by decide +kernel) rfl, Or.inl (tb 859 (by decide +kernel) rfl)⟩
theorem cal_md_parted : Cal M_md_parted 1 := ⟨tb 10 (by decide +kernel) rfl, tb 858 (by decide +kernel) rfl, by decide +kernel, by decide, by decide +kernel⟩
theorem s_md_126 : LkV "AfterFireModel" 126 M_md_parted 1 1 := ⟨cal_md_parted, tb 857 (by decide +kernel) rfl, ⟨_, _, rfl⟩, tp 57 (by decide +kernel) rfl, Or.inl (tb 855 (by decide +kernel) rfl)⟩
theorem cal_md_before : Cal M_md_before 1 := ⟨tb 10 (by decide +kernel) rfl, tb 875 (by decide +kernel) rfl, by decide +kernel, by decide, by decide +kernel⟩
theorem s_md_132 : LkV "AfterFireModel" 132 M_md_before 1 1 := ⟨cal_md_before, tb 874 (by decide +kernel) rfl, ⟨_, _, rfl⟩, tp 60 (by decide +kernel) rfl, Or.inl (tb 872 (by decide +kernel) rfl)⟩
theorem cal_md_wall : Cal M_md_wall 3 := ⟨tb 10 (by decide +kernel) rfl, tb 879 (by decide +kernel) rfl, by decide +kernel, by decide, by decide +kernel⟩
theorem s_md_135 : LkV "AfterFireModel" 135 M_md_wall 1 3 := ⟨cal_md_wall, tb 878 (by decide +kernel) rfl, ⟨_, _, rfl⟩, tp 61 (by decide +kernel) rfl, Or.inl (tb 876 (by decide +kernel) rfl)⟩
theorem cal_md_behind : Cal M_md_behind 1 := ⟨tb 10 (by decide +kernel) rfl, tb 883 (by decide +kernel) rfl, by decide +kernel, by decide, by decide +kernel⟩
theorem s_md_139 : LkV "AfterFireModel" 139 M_md_behind 1 1 := ⟨cal_md_behind, tb 882 (by decide +kernel) rfl, ⟨_, _, rfl⟩, tp 62 (by decide +kernel) rfl, Or.inl (tb 880 (by decide +kernel) rfl)⟩
theorem cal_md_ends : Cal M_md_ends 2 := ⟨tb 10 (by decide +kernel) rfl, tb 891 (by decide +kernel) rfl, by decide +kernel, by decide, by decide +kernel⟩
theorem s_md_145 : LkV "AfterFireModel" 145 M_md_ends 1 2 := ⟨cal_md_ends, tb 890 (by decide +kernel) rfl, ⟨_, _, rfl⟩, tp 63 (by decide +kernel) rfl, Or.inl (tb 888 (by decide +kernel) rfl)⟩
theorem cal_md_older : Cal M_md_older 1 := ⟨tb 10 (by decide +kernel) rfl, tb 899 (by decide +kernel) rfl, by decide +kernel, by decide, by decide +kernel⟩
theorem s_md_158 : LkV "AfterFireModel" 158 M_md_older 1 1 := ⟨cal_md_older, tb 898 (by decide +kernel) rfl, ⟨_, _, rfl⟩, tp 64 (by decide +kernel) rfl, Or.inl (tb 896 (by decide +kernel) rfl)⟩
theorem cal_md_dueOf : Cal M_md_dueOf 1 := ⟨tb 10 (by decide +kernel) rfl, tb 919 (by decide +kernel) rfl, by decide +kernel, by decide, by decide +kernel⟩
theorem s_md_162 : LkV "AfterFireModel" 162 M_md_dueOf 1 1 := ⟨cal_md_dueOf, tb 918 (by decide +kernel) rfl, ⟨_, _, rfl⟩, tp 67 (by decide +kernel) rfl, Or.inl (tb 916 (by decide +kernel) rfl)⟩
theorem cal_md_canBe : Cal M_md_canBe 3 := ⟨tb 10 (by decide +kernel) rfl, tb 915 (by decide +kernel) rfl, by decide +kernel, by decide, by decide +kernel⟩
theorem s_md_168 : LkV "AfterFireModel" 168 M_md_canBe 1 3 := ⟨cal_md_canBe, tb 914 (by decide +kernel) rfl, ⟨_, _, rfl⟩, tp 66 (by decide +kernel) rfl, Or.inl (tb 912 (by decide +kernel) rfl)⟩
theorem cal_md_saves : Cal M_md_saves 1 := ⟨tb 10 (by decide +kernel) rfl, tb 911 (by decide +kernel) rfl, by decide +kernel, by decide, by decide +kernel⟩
theorem s_md_174 : LkV "AfterFireModel" 174 M_md_saves 1 1 := ⟨cal_md_saves, tb 910 (by decide +kernel) rfl, ⟨_, _, rfl⟩, tp 65 (by decide +kernel) rfl, Or.inl (tb 908 (by decide +kernel) rfl)⟩
theorem cal_md_from : Cal M_md_from 4 := ⟨tb 10 (by decide +kernel) rfl, tb 948 (by decide +kernel) rfl, by decide +kernel, by decide, by decide +kernel⟩
theorem s_md_178 : LkV "AfterFireModel" 178 M_md_from 1 4 := ⟨cal_md_from, tb 947 (by decide +kernel) rfl, ⟨_, _, rfl⟩, tp 69 (by decide +kernel) rfl, Or.inl (tb 945 (by decide +kernel) rfl)⟩
theorem cal_md_costs : Cal M_md_costs 5 := ⟨tb 10 (by decide +kernel) rfl, tb 952 (by decide +kernel) rfl, by decide +kernel, by decide, by decide +kernel⟩
theorem s_md_182 : LkV "AfterFireModel" 182 M_md_costs 1 5 := ⟨cal_md_costs, tb 951 (by decide +kernel) rfl, ⟨_, _, rfl⟩, tp 70 (by decide +kernel) rfl, Or.inl (tb 949 (by decide +kernel) rfl)⟩
theorem cal_md_apart : Cal M_md_apart 2 := ⟨tb 10 (by decide +kernel) rfl, tb 955 (by decide +kernel) rfl, by decide +kernel, by decide, by decide +kernel⟩
theorem s_md_186 : LkS "AfterFireModel" 186 M_md_apart 2 := ⟨cal_md_apart, tb 954 (by decide +kernel) rfl, Or.inl (tb 953 (by decide +kernel) rfl)⟩
theorem cal_md_quarrels : Cal M_md_quarrels 2 := ⟨tb 10 (by decide +kernel) rfl, tb 943 (by decide +kernel) rfl, by decide +kernel, by decide, by decide +kernel⟩
theorem s_md_189 : LkV "AfterFireModel" 189 M_md_quarrels 1 2 := ⟨cal_md_quarrels, tb 942 (by decide +kernel) rfl, ⟨_, _, rfl⟩, tp 68 (by decide +kernel) rfl, Or.inl (tb 940 (by decide +kernel) rfl)⟩
theorem cal_md_wallsOf : Cal M_md_wallsOf 1 := ⟨tb 10 (by decide +kernel) rfl, tb 967 (by decide +kernel) rfl, by decide +kernel, by decide, by decide +kernel⟩
theorem s_md_192 : LkV "AfterFireModel" 192 M_md_wallsOf 1 1 := ⟨cal_md_wallsOf, tb 966 (by decide +kernel) rfl, ⟨_, _, rfl⟩, tp 71 (by decide +kernel) rfl, Or.inl (tb 964 (by decide +kernel) rfl)⟩
theorem cal_md_countOf : Cal M_md_countOf 1 := ⟨tb 10 (by decide +kernel) rfl, tb 983 (by decide +kernel) rfl, by decide +kernel, by decide, by decide +kernel⟩
theorem s_md_195 : LkV "AfterFireModel" 195 M_md_countOf 1 1 := ⟨cal_md_countOf, tb 982 (by decide +kernel) rfl, ⟨_, _, rfl⟩, tp 72 (by decide +kernel) rfl, Or.inl (tb 980 (by decide +kernel) rfl)⟩
theorem o_ac_1 : Cond.methodLink "java/util/AbstractCollection" 1 objectInit ∈ gt ∧ Cond.instanceMethod objectInit ∈ gt ∧ Cond.code objectInit ⟨#[0xb1]⟩ 1 none ∈ gt := ⟨tb 39 (by decide +kernel) rfl, tb 26 (by decide +kernel) rfl, tb 27 (by decide +kernel) rfl⟩
theorem cal_ac_init : Cal M_ac_init 0 := ⟨tb 2 (by decide +kernel) rfl, tb 38 (by decide +kernel) rfl, by decide +kernel, by decide, by decide +kernel⟩
theorem s_ab_1 : LkI "java/util/AbstractList" 1 M_ac_init 0 := ⟨cal_ac_init, tb 37 (by decide +kernel) rfl, rfl, rfl, Or.inl (tb 36 (by decide +kernel) rfl)⟩
theorem cal_ab_init : Cal M_ab_init 0 := ⟨tb 3 (by decide +kernel) rfl, tb 35 (by decide +kernel) rfl, by decide +kernel, by decide, by decide +kernel⟩
theorem s_al_1 : LkI "java/util/ArrayList" 1 M_ab_init 0 := ⟨cal_ab_init, tb 34 (by decide +kernel) rfl, rfl, rfl, Or.inl (tb 33 (by decide +kernel) rfl)⟩
theorem cal_ar_copyOf : Cal M_ar_copyOf 2 := ⟨tb 18 (by decide +kernel) rfl, tb 367 (by decide +kernel) rfl, by decide +kernel, by decide, by decide +kernel⟩
theorem s_al_66 : LkS "java/util/ArrayList" 66 M_ar_copyOf 2 := ⟨cal_ar_copyOf, tb 366 (by decide +kernel) rfl, Or.inl (tb 365 (by decide +kernel) rfl)⟩
theorem cal_al_grow : Cal M_al_grow 1 := ⟨tb 4 (by decide +kernel) rfl, tb 354 (by decide +kernel) rfl, by decide +kernel, by decide, by decide +kernel⟩
theorem s_al_69 : LkV "java/util/ArrayList" 69 M_al_grow 10 1 := ⟨cal_al_grow, tb 353 (by decide +kernel) rfl, ⟨_, _, rfl⟩, tp 5 (by decide +kernel) rfl, Or.inl (tb 351 (by decide +kernel) rfl)⟩
theorem cal_as_newLength : Cal M_as_newLength 3 := ⟨tb 16 (by decide +kernel) rfl, tb 357 (by decide +kernel) rfl, by decide +kernel, by decide, by decide +kernel⟩
theorem s_al_73 : LkS "java/util/ArrayList" 73 M_as_newLength 3 := ⟨cal_as_newLength, tb 356 (by decide +kernel) rfl, Or.inl (tb 355 (by decide +kernel) rfl)⟩
theorem s_al_79 : LkM "java/util/ArrayList" 79 Lib.Math.max.name Lib.Math.max.code 2 := ⟨tb 395 (by decide +kernel) rfl, tb 359 (by decide +kernel) rfl, tb 17 (by decide +kernel) rfl, tb 360 (by decide +kernel) rfl⟩
theorem cal_ob_checkIndex : Cal M_ob_checkIndex 2 := ⟨tb 13 (by decide +kernel) rfl, tb 309 (by decide +kernel) rfl, by decide +kernel, by decide, by decide +kernel⟩
theorem s_al_118 : LkS "java/util/ArrayList" 118 M_ob_checkIndex 2 := ⟨cal_ob_checkIndex, tb 308 (by decide +kernel) rfl, Or.inl (tb 307 (by decide +kernel) rfl)⟩
theorem cal_al_elementData : Cal M_al_elementData 1 := ⟨tb 4 (by decide +kernel) rfl, tb 316 (by decide +kernel) rfl, by decide +kernel, by decide, by decide +kernel⟩
theorem s_al_123 : LkV "java/util/ArrayList" 123 M_al_elementData 10 1 := ⟨cal_al_elementData, tb 314 (by decide +kernel) rfl, ⟨_, _, rfl⟩, tb 315 (by decide +kernel) rfl, Or.inl (tb 313 (by decide +kernel) rfl)⟩
theorem cal_al_grow2 : Cal M_al_grow2 0 := ⟨tb 4 (by decide +kernel) rfl, tb 350 (by decide +kernel) rfl, by decide +kernel, by decide, by decide +kernel⟩
theorem s_al_129 : LkV "java/util/ArrayList" 129 M_al_grow2 10 0 := ⟨cal_al_grow2, tb 349 (by decide +kernel) rfl, ⟨_, _, rfl⟩, tp 4 (by decide +kernel) rfl, Or.inl (tb 347 (by decide +kernel) rfl)⟩
theorem cal_al_add : Cal M_al_add 3 := ⟨tb 4 (by decide +kernel) rfl, tb 346 (by decide +kernel) rfl, by decide +kernel, by decide, by decide +kernel⟩
theorem s_al_131 : LkV "java/util/ArrayList" 131 M_al_add 10 3 := ⟨cal_al_add, tb 345 (by decide +kernel) rfl, ⟨_, _, rfl⟩, tp 3 (by decide +kernel) rfl, Or.inl (tb 343 (by decide +kernel) rfl)⟩
theorem s_ar_86 : LkG "java/util/Arrays" 86 := ⟨tb 368 (by decide +kernel) rfl, tb 996 (by decide +kernel) rfl, tb 369 (by decide +kernel) rfl, tb 382 (by decide +kernel) rfl⟩
theorem s_ar_150 : LkC "java/util/Arrays" 150 := ⟨tb 392 (by decide +kernel) rfl, tb 394 (by decide +kernel) rfl, tb 393 (by decide +kernel) rfl, tb 19 (by decide +kernel) rfl⟩
theorem cal_ar_copyOf2 : Cal M_ar_copyOf2 3 := ⟨tb 18 (by decide +kernel) rfl, tb 385 (by decide +kernel) rfl, by decide +kernel, by decide, by decide +kernel⟩
theorem s_ar_300 : LkS "java/util/Arrays" 300 M_ar_copyOf2 3 := ⟨cal_ar_copyOf2, tb 384 (by decide +kernel) rfl, Or.inl (tb 383 (by decide +kernel) rfl)⟩
theorem s_ar_304 : LkM "java/util/Arrays" 304 Lib.Math.min.name Lib.Math.min.code 2 := ⟨tb 389 (by decide +kernel) rfl, tb 390 (by decide +kernel) rfl, tb 17 (by decide +kernel) rfl, tb 391 (by decide +kernel) rfl⟩
theorem cal_pr_checkIndex : Cal M_pr_checkIndex 3 := ⟨tb 14 (by decide +kernel) rfl, tb 312 (by decide +kernel) rfl, by decide +kernel, by decide, by decide +kernel⟩
theorem s_ob_105 : LkS "java/util/Objects" 105 M_pr_checkIndex 3 := ⟨cal_pr_checkIndex, tb 311 (by decide +kernel) rfl, Or.inl (tb 310 (by decide +kernel) rfl)⟩
theorem s_as_194 : LkM "jdk/internal/util/ArraysSupport" 194 Lib.Math.max.name Lib.Math.max.code 2 := ⟨tb 358 (by decide +kernel) rfl, tb 359 (by decide +kernel) rfl, tb 17 (by decide +kernel) rfl, tb 360 (by decide +kernel) rfl⟩
theorem cal_as_hugeLength : Cal M_as_hugeLength 2 := ⟨tb 16 (by decide +kernel) rfl, tb 364 (by decide +kernel) rfl, by decide +kernel, by decide, by decide +kernel⟩
theorem s_as_201 : LkS "jdk/internal/util/ArraysSupport" 201 M_as_hugeLength 2 := ⟨cal_as_hugeLength, tb 363 (by decide +kernel) rfl, Or.inl (tb 362 (by decide +kernel) rfl)⟩
theorem cl_af_13 : Cond.classLink "AfterFire" 13 "java/util/ArrayList" ∈ gt := tb 28 (by decide +kernel) rfl
theorem n_af_13 : NW "AfterFire" 13 10 3 [.int 0, .null, .int 0] := ⟨_, _, _, ck_al, cl_af_13, tb 29 (by decide +kernel) rfl, tb 4 (by decide +kernel) rfl, by decide, by simp⟩
theorem cl_af_20 : Cond.classLink "AfterFire" 20 "AfterFire$Street" ∈ gt := tb 55 (by decide +kernel) rfl
theorem n_af_20 : NW "AfterFire" 20 7 2 [.null, .null] := ⟨_, _, _, ck_sr, cl_af_20, tb 141 (by decide +kernel) rfl, tb 9 (by decide +kernel) rfl, by decide, by simp⟩
theorem cl_af_26 : Cond.classLink "AfterFire" 26 "AfterFire$Shares" ∈ gt := tb 57 (by decide +kernel) rfl
theorem n_af_26 : NW "AfterFire" 26 6 2 [.null, .null] := ⟨_, _, _, ck_sh, cl_af_26, tb 58 (by decide +kernel) rfl, tb 5 (by decide +kernel) rfl, by decide, by simp⟩
theorem cl_af_33 : Cond.classLink "AfterFire" 33 "AfterFire$BrickPlan" ∈ gt := tb 71 (by decide +kernel) rfl
theorem n_af_33 : NW "AfterFire" 33 2 8 [.null, .null, .null, .null, .null, .int 0, .int 0, .int 0] := ⟨_, _, _, ck_bp, cl_af_33, tb 72 (by decide +kernel) rfl, tb 6 (by decide +kernel) rfl, by decide, by simp⟩
theorem cl_af_40 : Cond.classLink "AfterFire" 40 "AfterFire$Chest" ∈ gt := tb 104 (by decide +kernel) rfl
theorem n_af_40 : NW "AfterFire" 40 4 5 [.null, .int 0, .int 0, .int 0, .int 0] := ⟨_, _, _, ck_ct, cl_af_40, tb 105 (by decide +kernel) rfl, tb 7 (by decide +kernel) rfl, by decide, by simp⟩
theorem cl_af_47 : Cond.classLink "AfterFire" 47 "AfterFire$Survey" ∈ gt := tb 129 (by decide +kernel) rfl
theorem n_af_47 : NW "AfterFire" 47 8 1 [.null] := ⟨_, _, _, ck_sv, cl_af_47, tb 130 (by decide +kernel) rfl, tb 8 (by decide +kernel) rfl, by decide, by simp⟩
theorem cl_af_93 : Cond.classLink "AfterFire" 93 "AfterFire$Plot" ∈ gt := tb 223 (by decide +kernel) rfl
theorem n_af_93 : NW "AfterFire" 93 5 9 [.int 0, .int 0, .int 0, .null, .int 0, .int 0, .int 0, .null, .null] := ⟨_, _, _, ck_pl, cl_af_93, tb 224 (by decide +kernel) rfl, tb 11 (by decide +kernel) rfl, by decide, by simp⟩
theorem cl_pl_37 : Cond.classLink "AfterFire$Plot" 37 "AfterFire$Chain" ∈ gt := tb 229 (by decide +kernel) rfl
theorem n_pl_37 : NW "AfterFire$Plot" 37 3 4 [.null, .null, .null, .int 0] := ⟨_, _, _, ck_ch, cl_pl_37, tb 230 (by decide +kernel) rfl, tb 12 (by decide +kernel) rfl, by decide, by simp⟩
theorem cl_sr_9 : Cond.classLink "AfterFire$Street" 9 "java/util/ArrayList" ∈ gt := tb 146 (by decide +kernel) rfl
theorem n_sr_9 : NW "AfterFire$Street" 9 10 3 [.int 0, .null, .int 0] := ⟨_, _, _, ck_al, cl_sr_9, tb 29 (by decide +kernel) rfl, tb 4 (by decide +kernel) rfl, by decide, by simp⟩
theorem cl_sr_34 : Cond.classLink "AfterFire$Street" 34 "AfterFire$Plot" ∈ gt := tb 317 (by decide +kernel) rfl
theorem n_sr_34 : NW "AfterFire$Street" 34 5 9 [.int 0, .int 0, .int 0, .null, .int 0, .int 0, .int 0, .null, .null] := ⟨_, _, _, ck_pl, cl_sr_34, tb 224 (by decide +kernel) rfl, tb 11 (by decide +kernel) rfl, by decide, by simp⟩
theorem cl_sr_36 : Cond.classLink "AfterFire$Street" 36 "AfterFire$Wall" ∈ gt := tb 318 (by decide +kernel) rfl
theorem n_sr_36 : NW "AfterFire$Street" 36 9 4 [.null, .null, .int 0, .int 0] := ⟨_, _, _, ck_wl, cl_sr_36, tb 319 (by decide +kernel) rfl, tb 15 (by decide +kernel) rfl, by decide, by simp⟩
theorem cl_sv_9 : Cond.classLink "AfterFire$Survey" 9 "[[I" ∈ gt := tb 135 (by decide +kernel) rfl
theorem cl_lw_7 : Cond.classLink "AfterFireLaw" 7 "AfterFire" ∈ gt := tb 20 (by decide +kernel) rfl
theorem n_lw_7 : NW "AfterFireLaw" 7 0 12 [.null, .null, .null, .null, .null, .null, .null, .int 0, .int 0, .int 0, .int 0, .int 0] := ⟨_, _, _, ck_af, cl_lw_7, tb 21 (by decide +kernel) rfl, tb 1 (by decide +kernel) rfl, by decide, by simp⟩
theorem cl_lw_10 : Cond.classLink "AfterFireLaw" 10 "AfterFireModel" ∈ gt := tb 695 (by decide +kernel) rfl
theorem n_lw_10 : NW "AfterFireLaw" 10 1 32 [.int 0, .null, .int 0, .null, .null, .null, .null, .null, .null, .null, .null, .null, .null, .null, .null, .null, .int 0, .int 0, .int 0, .int 0, .null, .int 0, .int 0, .int 0, .null, .null, .null, .null, .int 0, .int 0, .null, .null] := ⟨_, _, _, ck_md, cl_lw_10, tb 696 (by decide +kernel) rfl, tb 10 (by decide +kernel) rfl, by decide, by simp⟩
theorem cl_al_7 : Cond.classLink "java/util/ArrayList" 7 "java/lang/Object" ∈ gt := tb 396 (by decide +kernel) rfl
theorem cl_ar_2 : Cond.classLink "java/util/Arrays" 2 "java/lang/Object" ∈ gt := tb 388 (by decide +kernel) rfl
theorem cl_ar_110 : Cond.classLink "java/util/Arrays" 110 "[Ljava/lang/Object;" ∈ gt := tb 386 (by decide +kernel) rfl
theorem k_af_75 : Cond.constant "AfterFire" 75 (100000) ∈ gt := tb 205 (by decide +kernel) rfl
theorem k_af_80 : Cond.constant "AfterFire" 80 (-2147483648) ∈ gt := tb 206 (by decide +kernel) rfl
theorem k_md_91 : Cond.constant "AfterFireModel" 91 (100000) ∈ gt := tb 805 (by decide +kernel) rfl
theorem k_md_92 : Cond.constant "AfterFireModel" 92 (-2147483648) ∈ gt := tb 806 (by decide +kernel) rfl
theorem k_md_177 : Cond.constant "AfterFireModel" 177 (1000000) ∈ gt := tb 944 (by decide +kernel) rfl
theorem k_as_200 : Cond.constant "jdk/internal/util/ArraysSupport" 200 (2147483639) ∈ gt := tb 361 (by decide +kernel) rfl
theorem k_sh_50 : Cond.constantLong "AfterFire$Shares" 50 (-1) ∈ gt := tb 479 (by decide +kernel) rfl
theorem k_md_124 : Cond.constantLong "AfterFireModel" 124 (-1) ∈ gt := tb 867 (by decide +kernel) rfl
theorem cast_af : Cond.castable "AfterFire" "java/lang/Object" ∈ nt := tn 985 (by decide +kernel) rfl
theorem cast_bp : Cond.castable "AfterFire$BrickPlan" "java/lang/Object" ∈ nt := tn 988 (by decide +kernel) rfl
theorem cast_ch : Cond.castable "AfterFire$Chain" "java/lang/Object" ∈ nt := tn 993 (by decide +kernel) rfl
theorem cast_ct : Cond.castable "AfterFire$Chest" "java/lang/Object" ∈ nt := tn 989 (by decide +kernel) rfl
theorem cast_pl : Cond.castable "AfterFire$Plot" "java/lang/Object" ∈ nt := tn 992 (by decide +kernel) rfl
theorem cast_sh : Cond.castable "AfterFire$Shares" "java/lang/Object" ∈ nt := tn 987 (by decide +kernel) rfl
theorem cast_sr : Cond.castable "AfterFire$Street" "java/lang/Object" ∈ nt := tn 984 (by decide +kernel) rfl
theorem cast_sv : Cond.castable "AfterFire$Survey" "java/lang/Object" ∈ nt := tn 990 (by decide +kernel) rfl
theorem cast_wl : Cond.castable "AfterFire$Wall" "java/lang/Object" ∈ nt := tn 994 (by decide +kernel) rfl
theorem cast_md : Cond.castable "AfterFireModel" "java/lang/Object" ∈ nt := tn 991 (by decide +kernel) rfl
theorem cast_al : Cond.castable "java/util/ArrayList" "java/lang/Object" ∈ nt := tn 986 (by decide +kernel) rfl
theorem ac_int : Cond.arrayClass .int ∈ gt := tb 54 (by decide +kernel) rfl
theorem ac_long : Cond.arrayClass .long ∈ gt := tb 70 (by decide +kernel) rfl
theorem gs_al_39 : Cond.fieldLink "java/util/ArrayList" 39 "java/util/ArrayList" "DEFAULTCAPACITY_EMPTY_ELEMENTDATA" "[Ljava/lang/Object;" ∈ gt := tb 40 (by decide +kernel) rfl
end
section
theorem d_bp_init_0 : decode (mcode M_bp_init) 0 = .ok (.aload_n 0, 1) := by decide +kernel
theorem d_bp_init_1 : decode (mcode M_bp_init) 1 = .ok (.invokespecial 3, 3) := by decide +kernel
theorem d_bp_init_4 : decode (mcode M_bp_init) 4 = .ok (.aload_n 0, 1) := by decide +kernel
theorem d_bp_init_5 : decode (mcode M_bp_init) 5 = .ok (.bipush 12, 2) := by decide +kernel
theorem d_bp_init_7 : decode (mcode M_bp_init) 7 = .ok (.newarray .int, 2) := by decide +kernel
theorem d_bp_init_9 : decode (mcode M_bp_init) 9 = .ok (.putfield 9, 3) := by decide +kernel
theorem d_bp_init_12 : decode (mcode M_bp_init) 12 = .ok (.aload_n 0, 1) := by decide +kernel
theorem d_bp_init_13 : decode (mcode M_bp_init) 13 = .ok (.bipush 12, 2) := by decide +kernel
theorem d_bp_init_15 : decode (mcode M_bp_init) 15 = .ok (.newarray .int, 2) := by decide +kernel
theorem d_bp_init_17 : decode (mcode M_bp_init) 17 = .ok (.putfield 15, 3) := by decide +kernel
theorem d_bp_init_20 : decode (mcode M_bp_init) 20 = .ok (.aload_n 0, 1) := by decide +kernel
theorem d_bp_init_21 : decode (mcode M_bp_init) 21 = .ok (.bipush 12, 2) := by decide +kernel
theorem d_bp_init_23 : decode (mcode M_bp_init) 23 = .ok (.newarray .int, 2) := by decide +kernel
theorem d_bp_init_25 : decode (mcode M_bp_init) 25 = .ok (.putfield 18, 3) := by decide +kernel
theorem d_bp_init_28 : decode (mcode M_bp_init) 28 = .ok (.aload_n 0, 1) := by decide +kernel
theorem d_bp_init_29 : decode (mcode M_bp_init) 29 = .ok (.bipush 12, 2) := by decide +kernel
theorem d_bp_init_31 : decode (mcode M_bp_init) 31 = .ok (.newarray .int, 2) := by decide +kernel
theorem d_bp_init_33 : decode (mcode M_bp_init) 33 = .ok (.putfield 21, 3) := by decide +kernel
theorem d_bp_init_36 : decode (mcode M_bp_init) 36 = .ok (.aload_n 0, 1) := by decide +kernel
theorem d_bp_init_37 : decode (mcode M_bp_init) 37 = .ok (.bipush 13, 2) := by decide +kernel
theorem d_bp_init_39 : decode (mcode M_bp_init) 39 = .ok (.newarray .int, 2) := by decide +kernel
theorem d_bp_init_41 : decode (mcode M_bp_init) 41 = .ok (.putfield 24, 3) := by decide +kernel
theorem d_bp_init_44 : decode (mcode M_bp_init) 44 = .ok (.aload_n 0, 1) := by decide +kernel
theorem d_bp_init_45 : decode (mcode M_bp_init) 45 = .ok (.iconst 0, 1) := by decide +kernel
theorem d_bp_init_46 : decode (mcode M_bp_init) 46 = .ok (.putfield 27, 3) := by decide +kernel
theorem d_bp_init_49 : decode (mcode M_bp_init) 49 = .ok (.aload_n 0, 1) := by decide +kernel
theorem d_bp_init_50 : decode (mcode M_bp_init) 50 = .ok (.iconst 0, 1) := by decide +kernel
theorem d_bp_init_51 : decode (mcode M_bp_init) 51 = .ok (.putfield 31, 3) := by decide +kernel
theorem d_bp_init_54 : decode (mcode M_bp_init) 54 = .ok (.aload_n 0, 1) := by decide +kernel
theorem d_bp_init_55 : decode (mcode M_bp_init) 55 = .ok (.iconst 0, 1) := by decide +kernel
theorem d_bp_init_56 : decode (mcode M_bp_init) 56 = .ok (.putfield 34, 3) := by decide +kernel
theorem d_bp_init_59 : decode (mcode M_bp_init) 59 = .ok (.return_, 1) := by decide +kernel
theorem d_bp_clear_0 : decode (mcode M_bp_clear) 0 = .ok (.aload_n 0, 1) := by decide +kernel
theorem d_bp_clear_1 : decode (mcode M_bp_clear) 1 = .ok (.iconst 0, 1) := by decide +kernel
theorem d_bp_clear_2 : decode (mcode M_bp_clear) 2 = .ok (.putfield 27, 3) := by decide +kernel
theorem d_bp_clear_5 : decode (mcode M_bp_clear) 5 = .ok (.return_, 1) := by decide +kernel
theorem d_bp_add_0 : decode (mcode M_bp_add) 0 = .ok (.aload_n 0, 1) := by decide +kernel
theorem d_bp_add_1 : decode (mcode M_bp_add) 1 = .ok (.getfield 27, 3) := by decide +kernel
theorem d_bp_add_4 : decode (mcode M_bp_add) 4 = .ok (.bipush 12, 2) := by decide +kernel
theorem d_bp_add_6 : decode (mcode M_bp_add) 6 = .ok (.if_icmp .lt 5, 3) := by decide +kernel
theorem d_bp_add_9 : decode (mcode M_bp_add) 9 = .ok (.iconst 0, 1) := by decide +kernel
theorem d_bp_add_10 : decode (mcode M_bp_add) 10 = .ok (.ireturn, 1) := by decide +kernel
theorem d_bp_add_11 : decode (mcode M_bp_add) 11 = .ok (.aload_n 0, 1) := by decide +kernel
theorem d_bp_add_12 : decode (mcode M_bp_add) 12 = .ok (.getfield 27, 3) := by decide +kernel
theorem d_bp_add_15 : decode (mcode M_bp_add) 15 = .ok (.istore 4, 2) := by decide +kernel
theorem d_bp_add_17 : decode (mcode M_bp_add) 17 = .ok (.iload 4, 2) := by decide +kernel
theorem d_bp_add_19 : decode (mcode M_bp_add) 19 = .ok (.ifCond .le 86, 3) := by decide +kernel
theorem d_bp_add_22 : decode (mcode M_bp_add) 22 = .ok (.aload_n 0, 1) := by decide +kernel
theorem d_bp_add_23 : decode (mcode M_bp_add) 23 = .ok (.getfield 21, 3) := by decide +kernel
theorem d_bp_add_26 : decode (mcode M_bp_add) 26 = .ok (.iload 4, 2) := by decide +kernel
theorem d_bp_add_28 : decode (mcode M_bp_add) 28 = .ok (.iconst 1, 1) := by decide +kernel
theorem d_bp_add_29 : decode (mcode M_bp_add) 29 = .ok (.isub, 1) := by decide +kernel
theorem d_bp_add_30 : decode (mcode M_bp_add) 30 = .ok (.iaload, 1) := by decide +kernel
theorem d_bp_add_31 : decode (mcode M_bp_add) 31 = .ok (.iload_n 3, 1) := by decide +kernel
theorem d_bp_add_32 : decode (mcode M_bp_add) 32 = .ok (.if_icmp .le 73, 3) := by decide +kernel
theorem d_bp_add_35 : decode (mcode M_bp_add) 35 = .ok (.aload_n 0, 1) := by decide +kernel
theorem d_bp_add_36 : decode (mcode M_bp_add) 36 = .ok (.getfield 9, 3) := by decide +kernel
theorem d_bp_add_39 : decode (mcode M_bp_add) 39 = .ok (.iload 4, 2) := by decide +kernel
theorem d_bp_add_41 : decode (mcode M_bp_add) 41 = .ok (.aload_n 0, 1) := by decide +kernel
theorem d_bp_add_42 : decode (mcode M_bp_add) 42 = .ok (.getfield 9, 3) := by decide +kernel
theorem d_bp_add_45 : decode (mcode M_bp_add) 45 = .ok (.iload 4, 2) := by decide +kernel
theorem d_bp_add_47 : decode (mcode M_bp_add) 47 = .ok (.iconst 1, 1) := by decide +kernel
theorem d_bp_add_48 : decode (mcode M_bp_add) 48 = .ok (.isub, 1) := by decide +kernel
theorem d_bp_add_49 : decode (mcode M_bp_add) 49 = .ok (.iaload, 1) := by decide +kernel
theorem d_bp_add_50 : decode (mcode M_bp_add) 50 = .ok (.iastore, 1) := by decide +kernel
theorem d_bp_add_51 : decode (mcode M_bp_add) 51 = .ok (.aload_n 0, 1) := by decide +kernel
theorem d_bp_add_52 : decode (mcode M_bp_add) 52 = .ok (.getfield 15, 3) := by decide +kernel
theorem d_bp_add_55 : decode (mcode M_bp_add) 55 = .ok (.iload 4, 2) := by decide +kernel
theorem d_bp_add_57 : decode (mcode M_bp_add) 57 = .ok (.aload_n 0, 1) := by decide +kernel
theorem d_bp_add_58 : decode (mcode M_bp_add) 58 = .ok (.getfield 15, 3) := by decide +kernel
theorem d_bp_add_61 : decode (mcode M_bp_add) 61 = .ok (.iload 4, 2) := by decide +kernel
theorem d_bp_add_63 : decode (mcode M_bp_add) 63 = .ok (.iconst 1, 1) := by decide +kernel
theorem d_bp_add_64 : decode (mcode M_bp_add) 64 = .ok (.isub, 1) := by decide +kernel
theorem d_bp_add_65 : decode (mcode M_bp_add) 65 = .ok (.iaload, 1) := by decide +kernel
theorem d_bp_add_66 : decode (mcode M_bp_add) 66 = .ok (.iastore, 1) := by decide +kernel
theorem d_bp_add_67 : decode (mcode M_bp_add) 67 = .ok (.aload_n 0, 1) := by decide +kernel
theorem d_bp_add_68 : decode (mcode M_bp_add) 68 = .ok (.getfield 18, 3) := by decide +kernel
theorem d_bp_add_71 : decode (mcode M_bp_add) 71 = .ok (.iload 4, 2) := by decide +kernel
theorem d_bp_add_73 : decode (mcode M_bp_add) 73 = .ok (.aload_n 0, 1) := by decide +kernel
theorem d_bp_add_74 : decode (mcode M_bp_add) 74 = .ok (.getfield 18, 3) := by decide +kernel
theorem d_bp_add_77 : decode (mcode M_bp_add) 77 = .ok (.iload 4, 2) := by decide +kernel
theorem d_bp_add_79 : decode (mcode M_bp_add) 79 = .ok (.iconst 1, 1) := by decide +kernel
theorem d_bp_add_80 : decode (mcode M_bp_add) 80 = .ok (.isub, 1) := by decide +kernel
theorem d_bp_add_81 : decode (mcode M_bp_add) 81 = .ok (.iaload, 1) := by decide +kernel
theorem d_bp_add_82 : decode (mcode M_bp_add) 82 = .ok (.iastore, 1) := by decide +kernel
theorem d_bp_add_83 : decode (mcode M_bp_add) 83 = .ok (.aload_n 0, 1) := by decide +kernel
theorem d_bp_add_84 : decode (mcode M_bp_add) 84 = .ok (.getfield 21, 3) := by decide +kernel
theorem d_bp_add_87 : decode (mcode M_bp_add) 87 = .ok (.iload 4, 2) := by decide +kernel
theorem d_bp_add_89 : decode (mcode M_bp_add) 89 = .ok (.aload_n 0, 1) := by decide +kernel
theorem d_bp_add_90 : decode (mcode M_bp_add) 90 = .ok (.getfield 21, 3) := by decide +kernel
theorem d_bp_add_93 : decode (mcode M_bp_add) 93 = .ok (.iload 4, 2) := by decide +kernel
theorem d_bp_add_95 : decode (mcode M_bp_add) 95 = .ok (.iconst 1, 1) := by decide +kernel
theorem d_bp_add_96 : decode (mcode M_bp_add) 96 = .ok (.isub, 1) := by decide +kernel
theorem d_bp_add_97 : decode (mcode M_bp_add) 97 = .ok (.iaload, 1) := by decide +kernel
theorem d_bp_add_98 : decode (mcode M_bp_add) 98 = .ok (.iastore, 1) := by decide +kernel
theorem d_bp_add_99 : decode (mcode M_bp_add) 99 = .ok (.iinc 4 (-1), 3) := by decide +kernel
theorem d_bp_add_102 : decode (mcode M_bp_add) 102 = .ok (.goto (-85), 3) := by decide +kernel
theorem d_bp_add_105 : decode (mcode M_bp_add) 105 = .ok (.aload_n 0, 1) := by decide +kernel
theorem d_bp_add_106 : decode (mcode M_bp_add) 106 = .ok (.getfield 9, 3) := by decide +kernel
theorem d_bp_add_109 : decode (mcode M_bp_add) 109 = .ok (.iload 4, 2) := by decide +kernel
theorem d_bp_add_111 : decode (mcode M_bp_add) 111 = .ok (.iload_n 1, 1) := by decide +kernel
theorem d_bp_add_112 : decode (mcode M_bp_add) 112 = .ok (.iastore, 1) := by decide +kernel
theorem d_bp_add_113 : decode (mcode M_bp_add) 113 = .ok (.aload_n 0, 1) := by decide +kernel
theorem d_bp_add_114 : decode (mcode M_bp_add) 114 = .ok (.getfield 15, 3) := by decide +kernel
theorem d_bp_add_117 : decode (mcode M_bp_add) 117 = .ok (.iload 4, 2) := by decide +kernel
theorem d_bp_add_119 : decode (mcode M_bp_add) 119 = .ok (.aload_n 2, 1) := by decide +kernel
theorem d_bp_add_120 : decode (mcode M_bp_add) 120 = .ok (.getfield 37, 3) := by decide +kernel
theorem d_bp_add_123 : decode (mcode M_bp_add) 123 = .ok (.aload_n 2, 1) := by decide +kernel
theorem d_bp_add_124 : decode (mcode M_bp_add) 124 = .ok (.getfield 42, 3) := by decide +kernel
theorem d_bp_add_127 : decode (mcode M_bp_add) 127 = .ok (.iadd, 1) := by decide +kernel
theorem d_bp_add_128 : decode (mcode M_bp_add) 128 = .ok (.iastore, 1) := by decide +kernel
theorem d_bp_add_129 : decode (mcode M_bp_add) 129 = .ok (.aload_n 0, 1) := by decide +kernel
theorem d_bp_add_130 : decode (mcode M_bp_add) 130 = .ok (.getfield 18, 3) := by decide +kernel
theorem d_bp_add_133 : decode (mcode M_bp_add) 133 = .ok (.iload 4, 2) := by decide +kernel
theorem d_bp_add_135 : decode (mcode M_bp_add) 135 = .ok (.aload_n 2, 1) := by decide +kernel
theorem d_bp_add_136 : decode (mcode M_bp_add) 136 = .ok (.invokevirtual 45, 3) := by decide +kernel
theorem d_bp_add_139 : decode (mcode M_bp_add) 139 = .ok (.iastore, 1) := by decide +kernel
theorem d_bp_add_140 : decode (mcode M_bp_add) 140 = .ok (.aload_n 0, 1) := by decide +kernel
theorem d_bp_add_141 : decode (mcode M_bp_add) 141 = .ok (.getfield 21, 3) := by decide +kernel
theorem d_bp_add_144 : decode (mcode M_bp_add) 144 = .ok (.iload 4, 2) := by decide +kernel
theorem d_bp_add_146 : decode (mcode M_bp_add) 146 = .ok (.iload_n 3, 1) := by decide +kernel
theorem d_bp_add_147 : decode (mcode M_bp_add) 147 = .ok (.iastore, 1) := by decide +kernel
theorem d_bp_add_148 : decode (mcode M_bp_add) 148 = .ok (.aload_n 0, 1) := by decide +kernel
theorem d_bp_add_149 : decode (mcode M_bp_add) 149 = .ok (.dup, 1) := by decide +kernel
theorem d_bp_add_150 : decode (mcode M_bp_add) 150 = .ok (.getfield 27, 3) := by decide +kernel
theorem d_bp_add_153 : decode (mcode M_bp_add) 153 = .ok (.iconst 1, 1) := by decide +kernel
theorem d_bp_add_154 : decode (mcode M_bp_add) 154 = .ok (.iadd, 1) := by decide +kernel
theorem d_bp_add_155 : decode (mcode M_bp_add) 155 = .ok (.putfield 27, 3) := by decide +kernel
theorem d_bp_add_158 : decode (mcode M_bp_add) 158 = .ok (.iconst 1, 1) := by decide +kernel
theorem d_bp_add_159 : decode (mcode M_bp_add) 159 = .ok (.ireturn, 1) := by decide +kernel
theorem d_bp_choose_0 : decode (mcode M_bp_choose) 0 = .ok (.aload_n 0, 1) := by decide +kernel
theorem d_bp_choose_1 : decode (mcode M_bp_choose) 1 = .ok (.iconst 0, 1) := by decide +kernel
theorem d_bp_choose_2 : decode (mcode M_bp_choose) 2 = .ok (.putfield 31, 3) := by decide +kernel
theorem d_bp_choose_5 : decode (mcode M_bp_choose) 5 = .ok (.aload_n 0, 1) := by decide +kernel
theorem d_bp_choose_6 : decode (mcode M_bp_choose) 6 = .ok (.iconst 0, 1) := by decide +kernel
theorem d_bp_choose_7 : decode (mcode M_bp_choose) 7 = .ok (.putfield 34, 3) := by decide +kernel
theorem d_bp_choose_10 : decode (mcode M_bp_choose) 10 = .ok (.aload_n 0, 1) := by decide +kernel
theorem d_bp_choose_11 : decode (mcode M_bp_choose) 11 = .ok (.getfield 24, 3) := by decide +kernel
theorem d_bp_choose_14 : decode (mcode M_bp_choose) 14 = .ok (.aload_n 0, 1) := by decide +kernel
theorem d_bp_choose_15 : decode (mcode M_bp_choose) 15 = .ok (.getfield 27, 3) := by decide +kernel
theorem d_bp_choose_18 : decode (mcode M_bp_choose) 18 = .ok (.iconst 0, 1) := by decide +kernel
theorem d_bp_choose_19 : decode (mcode M_bp_choose) 19 = .ok (.iastore, 1) := by decide +kernel
theorem d_bp_choose_20 : decode (mcode M_bp_choose) 20 = .ok (.aload_n 0, 1) := by decide +kernel
theorem d_bp_choose_21 : decode (mcode M_bp_choose) 21 = .ok (.getfield 27, 3) := by decide +kernel
theorem d_bp_choose_24 : decode (mcode M_bp_choose) 24 = .ok (.iconst 1, 1) := by decide +kernel
theorem d_bp_choose_25 : decode (mcode M_bp_choose) 25 = .ok (.isub, 1) := by decide +kernel
theorem d_bp_choose_26 : decode (mcode M_bp_choose) 26 = .ok (.istore_n 1, 1) := by decide +kernel
theorem d_bp_choose_27 : decode (mcode M_bp_choose) 27 = .ok (.iload_n 1, 1) := by decide +kernel
theorem d_bp_choose_28 : decode (mcode M_bp_choose) 28 = .ok (.ifCond .lt 30, 3) := by decide +kernel
theorem d_bp_choose_31 : decode (mcode M_bp_choose) 31 = .ok (.aload_n 0, 1) := by decide +kernel
theorem d_bp_choose_32 : decode (mcode M_bp_choose) 32 = .ok (.getfield 24, 3) := by decide +kernel
theorem d_bp_choose_35 : decode (mcode M_bp_choose) 35 = .ok (.iload_n 1, 1) := by decide +kernel
theorem d_bp_choose_36 : decode (mcode M_bp_choose) 36 = .ok (.aload_n 0, 1) := by decide +kernel
theorem d_bp_choose_37 : decode (mcode M_bp_choose) 37 = .ok (.getfield 24, 3) := by decide +kernel
theorem d_bp_choose_40 : decode (mcode M_bp_choose) 40 = .ok (.iload_n 1, 1) := by decide +kernel
theorem d_bp_choose_41 : decode (mcode M_bp_choose) 41 = .ok (.iconst 1, 1) := by decide +kernel
theorem d_bp_choose_42 : decode (mcode M_bp_choose) 42 = .ok (.iadd, 1) := by decide +kernel
theorem d_bp_choose_43 : decode (mcode M_bp_choose) 43 = .ok (.iaload, 1) := by decide +kernel
theorem d_bp_choose_44 : decode (mcode M_bp_choose) 44 = .ok (.aload_n 0, 1) := by decide +kernel
theorem d_bp_choose_45 : decode (mcode M_bp_choose) 45 = .ok (.getfield 18, 3) := by decide +kernel
theorem d_bp_choose_48 : decode (mcode M_bp_choose) 48 = .ok (.iload_n 1, 1) := by decide +kernel
theorem d_bp_choose_49 : decode (mcode M_bp_choose) 49 = .ok (.iaload, 1) := by decide +kernel
theorem d_bp_choose_50 : decode (mcode M_bp_choose) 50 = .ok (.iadd, 1) := by decide +kernel
theorem d_bp_choose_51 : decode (mcode M_bp_choose) 51 = .ok (.iastore, 1) := by decide +kernel
theorem d_bp_choose_52 : decode (mcode M_bp_choose) 52 = .ok (.iinc 1 (-1), 3) := by decide +kernel
theorem d_bp_choose_55 : decode (mcode M_bp_choose) 55 = .ok (.goto (-28), 3) := by decide +kernel
theorem d_bp_choose_58 : decode (mcode M_bp_choose) 58 = .ok (.aload_n 0, 1) := by decide +kernel
theorem d_bp_choose_59 : decode (mcode M_bp_choose) 59 = .ok (.iconst 0, 1) := by decide +kernel
theorem d_bp_choose_60 : decode (mcode M_bp_choose) 60 = .ok (.iconst 0, 1) := by decide +kernel
theorem d_bp_choose_61 : decode (mcode M_bp_choose) 61 = .ok (.iconst 0, 1) := by decide +kernel
theorem d_bp_choose_62 : decode (mcode M_bp_choose) 62 = .ok (.iconst 0, 1) := by decide +kernel
theorem d_bp_choose_63 : decode (mcode M_bp_choose) 63 = .ok (.invokestatic 49, 3) := by decide +kernel
theorem d_bp_choose_66 : decode (mcode M_bp_choose) 66 = .ok (.return_, 1) := by decide +kernel
theorem d_bp_keepIfBetter_0 : decode (mcode M_bp_keepIfBetter) 0 = .ok (.iload_n 1, 1) := by decide +kernel
theorem d_bp_keepIfBetter_1 : decode (mcode M_bp_keepIfBetter) 1 = .ok (.aload_n 0, 1) := by decide +kernel
theorem d_bp_keepIfBetter_2 : decode (mcode M_bp_keepIfBetter) 2 = .ok (.getfield 31, 3) := by decide +kernel
theorem d_bp_keepIfBetter_5 : decode (mcode M_bp_keepIfBetter) 5 = .ok (.if_icmp .gt 19, 3) := by decide +kernel
theorem d_bp_keepIfBetter_8 : decode (mcode M_bp_keepIfBetter) 8 = .ok (.iload_n 1, 1) := by decide +kernel
theorem d_bp_keepIfBetter_9 : decode (mcode M_bp_keepIfBetter) 9 = .ok (.aload_n 0, 1) := by decide +kernel
theorem d_bp_keepIfBetter_10 : decode (mcode M_bp_keepIfBetter) 10 = .ok (.getfield 31, 3) := by decide +kernel
theorem d_bp_keepIfBetter_13 : decode (mcode M_bp_keepIfBetter) 13 = .ok (.if_icmp .ne 21, 3) := by decide +kernel
theorem d_bp_keepIfBetter_16 : decode (mcode M_bp_keepIfBetter) 16 = .ok (.iload_n 2, 1) := by decide +kernel
theorem d_bp_keepIfBetter_17 : decode (mcode M_bp_keepIfBetter) 17 = .ok (.aload_n 0, 1) := by decide +kernel
theorem d_bp_keepIfBetter_18 : decode (mcode M_bp_keepIfBetter) 18 = .ok (.getfield 34, 3) := by decide +kernel
theorem d_bp_keepIfBetter_21 : decode (mcode M_bp_keepIfBetter) 21 = .ok (.if_icmp .ge 13, 3) := by decide +kernel
theorem d_bp_keepIfBetter_24 : decode (mcode M_bp_keepIfBetter) 24 = .ok (.aload_n 0, 1) := by decide +kernel
theorem d_bp_keepIfBetter_25 : decode (mcode M_bp_keepIfBetter) 25 = .ok (.iload_n 1, 1) := by decide +kernel
theorem d_bp_keepIfBetter_26 : decode (mcode M_bp_keepIfBetter) 26 = .ok (.putfield 31, 3) := by decide +kernel
theorem d_bp_keepIfBetter_29 : decode (mcode M_bp_keepIfBetter) 29 = .ok (.aload_n 0, 1) := by decide +kernel
theorem d_bp_keepIfBetter_30 : decode (mcode M_bp_keepIfBetter) 30 = .ok (.iload_n 2, 1) := by decide +kernel
theorem d_bp_keepIfBetter_31 : decode (mcode M_bp_keepIfBetter) 31 = .ok (.putfield 34, 3) := by decide +kernel
theorem d_bp_keepIfBetter_34 : decode (mcode M_bp_keepIfBetter) 34 = .ok (.return_, 1) := by decide +kernel
theorem d_bp_search_0 : decode (mcode M_bp_search) 0 = .ok (.iload_n 1, 1) := by decide +kernel
theorem d_bp_search_1 : decode (mcode M_bp_search) 1 = .ok (.aload_n 0, 1) := by decide +kernel
theorem d_bp_search_2 : decode (mcode M_bp_search) 2 = .ok (.getfield 27, 3) := by decide +kernel
theorem d_bp_search_5 : decode (mcode M_bp_search) 5 = .ok (.if_icmp .lt 11, 3) := by decide +kernel
theorem d_bp_search_8 : decode (mcode M_bp_search) 8 = .ok (.aload_n 0, 1) := by decide +kernel
theorem d_bp_search_9 : decode (mcode M_bp_search) 9 = .ok (.iload_n 3, 1) := by decide +kernel
theorem d_bp_search_10 : decode (mcode M_bp_search) 10 = .ok (.iload 4, 2) := by decide +kernel
theorem d_bp_search_12 : decode (mcode M_bp_search) 12 = .ok (.invokevirtual 53, 3) := by decide +kernel
theorem d_bp_search_15 : decode (mcode M_bp_search) 15 = .ok (.return_, 1) := by decide +kernel
theorem d_bp_search_16 : decode (mcode M_bp_search) 16 = .ok (.iload_n 3, 1) := by decide +kernel
theorem d_bp_search_17 : decode (mcode M_bp_search) 17 = .ok (.aload_n 0, 1) := by decide +kernel
theorem d_bp_search_18 : decode (mcode M_bp_search) 18 = .ok (.getfield 24, 3) := by decide +kernel
theorem d_bp_search_21 : decode (mcode M_bp_search) 21 = .ok (.iload_n 1, 1) := by decide +kernel
theorem d_bp_search_22 : decode (mcode M_bp_search) 22 = .ok (.iaload, 1) := by decide +kernel
theorem d_bp_search_23 : decode (mcode M_bp_search) 23 = .ok (.iadd, 1) := by decide +kernel
theorem d_bp_search_24 : decode (mcode M_bp_search) 24 = .ok (.aload_n 0, 1) := by decide +kernel
theorem d_bp_search_25 : decode (mcode M_bp_search) 25 = .ok (.getfield 31, 3) := by decide +kernel
theorem d_bp_search_28 : decode (mcode M_bp_search) 28 = .ok (.if_icmp .ge 4, 3) := by decide +kernel
theorem d_bp_search_31 : decode (mcode M_bp_search) 31 = .ok (.return_, 1) := by decide +kernel
theorem d_bp_search_32 : decode (mcode M_bp_search) 32 = .ok (.iload_n 2, 1) := by decide +kernel
theorem d_bp_search_33 : decode (mcode M_bp_search) 33 = .ok (.aload_n 0, 1) := by decide +kernel
theorem d_bp_search_34 : decode (mcode M_bp_search) 34 = .ok (.getfield 15, 3) := by decide +kernel
theorem d_bp_search_37 : decode (mcode M_bp_search) 37 = .ok (.iload_n 1, 1) := by decide +kernel
theorem d_bp_search_38 : decode (mcode M_bp_search) 38 = .ok (.iaload, 1) := by decide +kernel
theorem d_bp_search_39 : decode (mcode M_bp_search) 39 = .ok (.iadd, 1) := by decide +kernel
theorem d_bp_search_40 : decode (mcode M_bp_search) 40 = .ok (.istore 5, 2) := by decide +kernel
theorem d_bp_search_42 : decode (mcode M_bp_search) 42 = .ok (.iload 5, 2) := by decide +kernel
theorem d_bp_search_44 : decode (mcode M_bp_search) 44 = .ok (.aload_n 0, 1) := by decide +kernel
theorem d_bp_search_45 : decode (mcode M_bp_search) 45 = .ok (.getfield 21, 3) := by decide +kernel
theorem d_bp_search_48 : decode (mcode M_bp_search) 48 = .ok (.iload_n 1, 1) := by decide +kernel
theorem d_bp_search_49 : decode (mcode M_bp_search) 49 = .ok (.iaload, 1) := by decide +kernel
theorem d_bp_search_50 : decode (mcode M_bp_search) 50 = .ok (.if_icmp .gt 31, 3) := by decide +kernel
theorem d_bp_search_53 : decode (mcode M_bp_search) 53 = .ok (.aload_n 0, 1) := by decide +kernel
theorem d_bp_search_54 : decode (mcode M_bp_search) 54 = .ok (.iload_n 1, 1) := by decide +kernel
theorem d_bp_search_55 : decode (mcode M_bp_search) 55 = .ok (.iconst 1, 1) := by decide +kernel
theorem d_bp_search_56 : decode (mcode M_bp_search) 56 = .ok (.iadd, 1) := by decide +kernel
theorem d_bp_search_57 : decode (mcode M_bp_search) 57 = .ok (.iload 5, 2) := by decide +kernel
theorem d_bp_search_59 : decode (mcode M_bp_search) 59 = .ok (.iload_n 3, 1) := by decide +kernel
theorem d_bp_search_60 : decode (mcode M_bp_search) 60 = .ok (.aload_n 0, 1) := by decide +kernel
theorem d_bp_search_61 : decode (mcode M_bp_search) 61 = .ok (.getfield 18, 3) := by decide +kernel
theorem d_bp_search_64 : decode (mcode M_bp_search) 64 = .ok (.iload_n 1, 1) := by decide +kernel
theorem d_bp_search_65 : decode (mcode M_bp_search) 65 = .ok (.iaload, 1) := by decide +kernel
theorem d_bp_search_66 : decode (mcode M_bp_search) 66 = .ok (.iadd, 1) := by decide +kernel
theorem d_bp_search_67 : decode (mcode M_bp_search) 67 = .ok (.iload 4, 2) := by decide +kernel
theorem d_bp_search_69 : decode (mcode M_bp_search) 69 = .ok (.iconst 1, 1) := by decide +kernel
theorem d_bp_search_70 : decode (mcode M_bp_search) 70 = .ok (.aload_n 0, 1) := by decide +kernel
theorem d_bp_search_71 : decode (mcode M_bp_search) 71 = .ok (.getfield 9, 3) := by decide +kernel
theorem d_bp_search_74 : decode (mcode M_bp_search) 74 = .ok (.iload_n 1, 1) := by decide +kernel
theorem d_bp_search_75 : decode (mcode M_bp_search) 75 = .ok (.iaload, 1) := by decide +kernel
theorem d_bp_search_76 : decode (mcode M_bp_search) 76 = .ok (.ishl, 1) := by decide +kernel
theorem d_bp_search_77 : decode (mcode M_bp_search) 77 = .ok (.ior, 1) := by decide +kernel
theorem d_bp_search_78 : decode (mcode M_bp_search) 78 = .ok (.invokestatic 49, 3) := by decide +kernel
theorem d_bp_search_81 : decode (mcode M_bp_search) 81 = .ok (.aload_n 0, 1) := by decide +kernel
theorem d_bp_search_82 : decode (mcode M_bp_search) 82 = .ok (.iload_n 1, 1) := by decide +kernel
theorem d_bp_search_83 : decode (mcode M_bp_search) 83 = .ok (.iconst 1, 1) := by decide +kernel
theorem d_bp_search_84 : decode (mcode M_bp_search) 84 = .ok (.iadd, 1) := by decide +kernel
theorem d_bp_search_85 : decode (mcode M_bp_search) 85 = .ok (.iload_n 2, 1) := by decide +kernel
theorem d_bp_search_86 : decode (mcode M_bp_search) 86 = .ok (.iload_n 3, 1) := by decide +kernel
theorem d_bp_search_87 : decode (mcode M_bp_search) 87 = .ok (.iload 4, 2) := by decide +kernel
theorem d_bp_search_89 : decode (mcode M_bp_search) 89 = .ok (.invokestatic 49, 3) := by decide +kernel
theorem d_bp_search_92 : decode (mcode M_bp_search) 92 = .ok (.return_, 1) := by decide +kernel
theorem d_ch_init_0 : decode (mcode M_ch_init) 0 = .ok (.aload_n 0, 1) := by decide +kernel
theorem d_ch_init_1 : decode (mcode M_ch_init) 1 = .ok (.invokespecial 3, 3) := by decide +kernel
theorem d_ch_init_4 : decode (mcode M_ch_init) 4 = .ok (.aload_n 0, 1) := by decide +kernel
theorem d_ch_init_5 : decode (mcode M_ch_init) 5 = .ok (.iconst 4, 1) := by decide +kernel
theorem d_ch_init_6 : decode (mcode M_ch_init) 6 = .ok (.newarray .int, 2) := by decide +kernel
theorem d_ch_init_8 : decode (mcode M_ch_init) 8 = .ok (.putfield 9, 3) := by decide +kernel
theorem d_ch_init_11 : decode (mcode M_ch_init) 11 = .ok (.aload_n 0, 1) := by decide +kernel
theorem d_ch_init_12 : decode (mcode M_ch_init) 12 = .ok (.iconst 4, 1) := by decide +kernel
theorem d_ch_init_13 : decode (mcode M_ch_init) 13 = .ok (.newarray .int, 2) := by decide +kernel
theorem d_ch_init_15 : decode (mcode M_ch_init) 15 = .ok (.putfield 15, 3) := by decide +kernel
theorem d_ch_init_18 : decode (mcode M_ch_init) 18 = .ok (.aload_n 0, 1) := by decide +kernel
theorem d_ch_init_19 : decode (mcode M_ch_init) 19 = .ok (.iconst 4, 1) := by decide +kernel
theorem d_ch_init_20 : decode (mcode M_ch_init) 20 = .ok (.newarray .int, 2) := by decide +kernel
theorem d_ch_init_22 : decode (mcode M_ch_init) 22 = .ok (.putfield 18, 3) := by decide +kernel
theorem d_ch_init_25 : decode (mcode M_ch_init) 25 = .ok (.aload_n 0, 1) := by decide +kernel
theorem d_ch_init_26 : decode (mcode M_ch_init) 26 = .ok (.iconst 1, 1) := by decide +kernel
theorem d_ch_init_27 : decode (mcode M_ch_init) 27 = .ok (.putfield 21, 3) := by decide +kernel
theorem d_ch_init_30 : decode (mcode M_ch_init) 30 = .ok (.aload_n 0, 1) := by decide +kernel
theorem d_ch_init_31 : decode (mcode M_ch_init) 31 = .ok (.getfield 9, 3) := by decide +kernel
theorem d_ch_init_34 : decode (mcode M_ch_init) 34 = .ok (.iconst 0, 1) := by decide +kernel
theorem d_ch_init_35 : decode (mcode M_ch_init) 35 = .ok (.iload_n 1, 1) := by decide +kernel
theorem d_ch_init_36 : decode (mcode M_ch_init) 36 = .ok (.iastore, 1) := by decide +kernel
theorem d_ch_init_37 : decode (mcode M_ch_init) 37 = .ok (.aload_n 0, 1) := by decide +kernel
theorem d_ch_init_38 : decode (mcode M_ch_init) 38 = .ok (.getfield 15, 3) := by decide +kernel
theorem d_ch_init_41 : decode (mcode M_ch_init) 41 = .ok (.iconst 0, 1) := by decide +kernel
theorem d_ch_init_42 : decode (mcode M_ch_init) 42 = .ok (.bipush 99, 2) := by decide +kernel
theorem d_ch_init_44 : decode (mcode M_ch_init) 44 = .ok (.iastore, 1) := by decide +kernel
theorem d_ch_init_45 : decode (mcode M_ch_init) 45 = .ok (.return_, 1) := by decide +kernel
theorem d_ch_reaches_0 : decode (mcode M_ch_reaches) 0 = .ok (.iload_n 1, 1) := by decide +kernel
theorem d_ch_reaches_1 : decode (mcode M_ch_reaches) 1 = .ok (.iconst 0, 1) := by decide +kernel
theorem d_ch_reaches_2 : decode (mcode M_ch_reaches) 2 = .ok (.aload_n 0, 1) := by decide +kernel
theorem d_ch_reaches_3 : decode (mcode M_ch_reaches) 3 = .ok (.getfield 21, 3) := by decide +kernel
theorem d_ch_reaches_6 : decode (mcode M_ch_reaches) 6 = .ok (.iconst 1, 1) := by decide +kernel
theorem d_ch_reaches_7 : decode (mcode M_ch_reaches) 7 = .ok (.isub, 1) := by decide +kernel
theorem d_ch_reaches_8 : decode (mcode M_ch_reaches) 8 = .ok (.invokestatic 25, 3) := by decide +kernel
theorem d_ch_reaches_11 : decode (mcode M_ch_reaches) 11 = .ok (.ireturn, 1) := by decide +kernel
theorem d_ch_personAt_0 : decode (mcode M_ch_personAt) 0 = .ok (.aload_n 0, 1) := by decide +kernel
theorem d_ch_personAt_1 : decode (mcode M_ch_personAt) 1 = .ok (.iload_n 1, 1) := by decide +kernel
theorem d_ch_personAt_2 : decode (mcode M_ch_personAt) 2 = .ok (.invokevirtual 29, 3) := by decide +kernel
theorem d_ch_personAt_5 : decode (mcode M_ch_personAt) 5 = .ok (.ifCond .eq 12, 3) := by decide +kernel
theorem d_ch_personAt_8 : decode (mcode M_ch_personAt) 8 = .ok (.aload_n 0, 1) := by decide +kernel
theorem d_ch_personAt_9 : decode (mcode M_ch_personAt) 9 = .ok (.getfield 9, 3) := by decide +kernel
theorem d_ch_personAt_12 : decode (mcode M_ch_personAt) 12 = .ok (.iload_n 1, 1) := by decide +kernel
theorem d_ch_personAt_13 : decode (mcode M_ch_personAt) 13 = .ok (.iaload, 1) := by decide +kernel
theorem d_ch_personAt_14 : decode (mcode M_ch_personAt) 14 = .ok (.goto 4, 3) := by decide +kernel
theorem d_ch_personAt_17 : decode (mcode M_ch_personAt) 17 = .ok (.iconst (-1), 1) := by decide +kernel
theorem d_ch_personAt_18 : decode (mcode M_ch_personAt) 18 = .ok (.ireturn, 1) := by decide +kernel
theorem d_ch_yearsAt_0 : decode (mcode M_ch_yearsAt) 0 = .ok (.aload_n 0, 1) := by decide +kernel
theorem d_ch_yearsAt_1 : decode (mcode M_ch_yearsAt) 1 = .ok (.iload_n 1, 1) := by decide +kernel
theorem d_ch_yearsAt_2 : decode (mcode M_ch_yearsAt) 2 = .ok (.invokevirtual 29, 3) := by decide +kernel
theorem d_ch_yearsAt_5 : decode (mcode M_ch_yearsAt) 5 = .ok (.ifCond .eq 12, 3) := by decide +kernel
theorem d_ch_yearsAt_8 : decode (mcode M_ch_yearsAt) 8 = .ok (.aload_n 0, 1) := by decide +kernel
theorem d_ch_yearsAt_9 : decode (mcode M_ch_yearsAt) 9 = .ok (.getfield 15, 3) := by decide +kernel
theorem d_ch_yearsAt_12 : decode (mcode M_ch_yearsAt) 12 = .ok (.iload_n 1, 1) := by decide +kernel
theorem d_ch_yearsAt_13 : decode (mcode M_ch_yearsAt) 13 = .ok (.iaload, 1) := by decide +kernel
theorem d_ch_yearsAt_14 : decode (mcode M_ch_yearsAt) 14 = .ok (.goto 4, 3) := by decide +kernel
theorem d_ch_yearsAt_17 : decode (mcode M_ch_yearsAt) 17 = .ok (.iconst (-1), 1) := by decide +kernel
theorem d_ch_yearsAt_18 : decode (mcode M_ch_yearsAt) 18 = .ok (.ireturn, 1) := by decide +kernel
theorem d_ch_rentAt_0 : decode (mcode M_ch_rentAt) 0 = .ok (.aload_n 0, 1) := by decide +kernel
theorem d_ch_rentAt_1 : decode (mcode M_ch_rentAt) 1 = .ok (.iload_n 1, 1) := by decide +kernel
theorem d_ch_rentAt_2 : decode (mcode M_ch_rentAt) 2 = .ok (.invokevirtual 29, 3) := by decide +kernel
theorem d_ch_rentAt_5 : decode (mcode M_ch_rentAt) 5 = .ok (.ifCond .eq 12, 3) := by decide +kernel
theorem d_ch_rentAt_8 : decode (mcode M_ch_rentAt) 8 = .ok (.aload_n 0, 1) := by decide +kernel
theorem d_ch_rentAt_9 : decode (mcode M_ch_rentAt) 9 = .ok (.getfield 18, 3) := by decide +kernel
theorem d_ch_rentAt_12 : decode (mcode M_ch_rentAt) 12 = .ok (.iload_n 1, 1) := by decide +kernel
theorem d_ch_rentAt_13 : decode (mcode M_ch_rentAt) 13 = .ok (.iaload, 1) := by decide +kernel
theorem d_ch_rentAt_14 : decode (mcode M_ch_rentAt) 14 = .ok (.goto 4, 3) := by decide +kernel
theorem d_ch_rentAt_17 : decode (mcode M_ch_rentAt) 17 = .ok (.iconst (-1), 1) := by decide +kernel
theorem d_ch_rentAt_18 : decode (mcode M_ch_rentAt) 18 = .ok (.ireturn, 1) := by decide +kernel
theorem d_ch_leases_0 : decode (mcode M_ch_leases) 0 = .ok (.iconst 0, 1) := by decide +kernel
theorem d_ch_leases_1 : decode (mcode M_ch_leases) 1 = .ok (.aload_n 0, 1) := by decide +kernel
theorem d_ch_leases_2 : decode (mcode M_ch_leases) 2 = .ok (.getfield 21, 3) := by decide +kernel
theorem d_ch_leases_5 : decode (mcode M_ch_leases) 5 = .ok (.iconst 1, 1) := by decide +kernel
theorem d_ch_leases_6 : decode (mcode M_ch_leases) 6 = .ok (.isub, 1) := by decide +kernel
theorem d_ch_leases_7 : decode (mcode M_ch_leases) 7 = .ok (.invokestatic 33, 3) := by decide +kernel
theorem d_ch_leases_10 : decode (mcode M_ch_leases) 10 = .ok (.ireturn, 1) := by decide +kernel
theorem d_ch_append_0 : decode (mcode M_ch_append) 0 = .ok (.aload_n 0, 1) := by decide +kernel
theorem d_ch_append_1 : decode (mcode M_ch_append) 1 = .ok (.getfield 21, 3) := by decide +kernel
theorem d_ch_append_4 : decode (mcode M_ch_append) 4 = .ok (.iconst 4, 1) := by decide +kernel
theorem d_ch_append_5 : decode (mcode M_ch_append) 5 = .ok (.if_icmp .ge 21, 3) := by decide +kernel
theorem d_ch_append_8 : decode (mcode M_ch_append) 8 = .ok (.iload_n 2, 1) := by decide +kernel
theorem d_ch_append_9 : decode (mcode M_ch_append) 9 = .ok (.iconst 1, 1) := by decide +kernel
theorem d_ch_append_10 : decode (mcode M_ch_append) 10 = .ok (.aload_n 0, 1) := by decide +kernel
theorem d_ch_append_11 : decode (mcode M_ch_append) 11 = .ok (.aload_n 0, 1) := by decide +kernel
theorem d_ch_append_12 : decode (mcode M_ch_append) 12 = .ok (.getfield 21, 3) := by decide +kernel
theorem d_ch_append_15 : decode (mcode M_ch_append) 15 = .ok (.iconst 1, 1) := by decide +kernel
theorem d_ch_append_16 : decode (mcode M_ch_append) 16 = .ok (.isub, 1) := by decide +kernel
theorem d_ch_append_17 : decode (mcode M_ch_append) 17 = .ok (.invokevirtual 39, 3) := by decide +kernel
theorem d_ch_append_20 : decode (mcode M_ch_append) 20 = .ok (.invokestatic 25, 3) := by decide +kernel
theorem d_ch_append_23 : decode (mcode M_ch_append) 23 = .ok (.ifCond .ne 5, 3) := by decide +kernel
theorem d_ch_append_26 : decode (mcode M_ch_append) 26 = .ok (.iconst 0, 1) := by decide +kernel
theorem d_ch_append_27 : decode (mcode M_ch_append) 27 = .ok (.ireturn, 1) := by decide +kernel
theorem d_ch_append_28 : decode (mcode M_ch_append) 28 = .ok (.aload_n 0, 1) := by decide +kernel
theorem d_ch_append_29 : decode (mcode M_ch_append) 29 = .ok (.getfield 9, 3) := by decide +kernel
theorem d_ch_append_32 : decode (mcode M_ch_append) 32 = .ok (.aload_n 0, 1) := by decide +kernel
theorem d_ch_append_33 : decode (mcode M_ch_append) 33 = .ok (.getfield 21, 3) := by decide +kernel
theorem d_ch_append_36 : decode (mcode M_ch_append) 36 = .ok (.iload_n 1, 1) := by decide +kernel
theorem d_ch_append_37 : decode (mcode M_ch_append) 37 = .ok (.iastore, 1) := by decide +kernel
theorem d_ch_append_38 : decode (mcode M_ch_append) 38 = .ok (.aload_n 0, 1) := by decide +kernel
theorem d_ch_append_39 : decode (mcode M_ch_append) 39 = .ok (.getfield 15, 3) := by decide +kernel
theorem d_ch_append_42 : decode (mcode M_ch_append) 42 = .ok (.aload_n 0, 1) := by decide +kernel
theorem d_ch_append_43 : decode (mcode M_ch_append) 43 = .ok (.getfield 21, 3) := by decide +kernel
theorem d_ch_append_46 : decode (mcode M_ch_append) 46 = .ok (.iload_n 2, 1) := by decide +kernel
theorem d_ch_append_47 : decode (mcode M_ch_append) 47 = .ok (.iastore, 1) := by decide +kernel
theorem d_ch_append_48 : decode (mcode M_ch_append) 48 = .ok (.aload_n 0, 1) := by decide +kernel
theorem d_ch_append_49 : decode (mcode M_ch_append) 49 = .ok (.getfield 18, 3) := by decide +kernel
theorem d_ch_append_52 : decode (mcode M_ch_append) 52 = .ok (.aload_n 0, 1) := by decide +kernel
theorem d_ch_append_53 : decode (mcode M_ch_append) 53 = .ok (.getfield 21, 3) := by decide +kernel
theorem d_ch_append_56 : decode (mcode M_ch_append) 56 = .ok (.iload_n 3, 1) := by decide +kernel
theorem d_ch_append_57 : decode (mcode M_ch_append) 57 = .ok (.iastore, 1) := by decide +kernel
theorem d_ch_append_58 : decode (mcode M_ch_append) 58 = .ok (.aload_n 0, 1) := by decide +kernel
theorem d_ch_append_59 : decode (mcode M_ch_append) 59 = .ok (.dup, 1) := by decide +kernel
theorem d_ch_append_60 : decode (mcode M_ch_append) 60 = .ok (.getfield 21, 3) := by decide +kernel
theorem d_ch_append_63 : decode (mcode M_ch_append) 63 = .ok (.iconst 1, 1) := by decide +kernel
theorem d_ch_append_64 : decode (mcode M_ch_append) 64 = .ok (.iadd, 1) := by decide +kernel
theorem d_ch_append_65 : decode (mcode M_ch_append) 65 = .ok (.putfield 21, 3) := by decide +kernel
theorem d_ch_append_68 : decode (mcode M_ch_append) 68 = .ok (.iconst 1, 1) := by decide +kernel
theorem d_ch_append_69 : decode (mcode M_ch_append) 69 = .ok (.ireturn, 1) := by decide +kernel
theorem d_ch_interestOf_0 : decode (mcode M_ch_interestOf) 0 = .ok (.aload_n 0, 1) := by decide +kernel
theorem d_ch_interestOf_1 : decode (mcode M_ch_interestOf) 1 = .ok (.iload_n 1, 1) := by decide +kernel
theorem d_ch_interestOf_2 : decode (mcode M_ch_interestOf) 2 = .ok (.invokevirtual 29, 3) := by decide +kernel
theorem d_ch_interestOf_5 : decode (mcode M_ch_interestOf) 5 = .ok (.ifCond .ne 5, 3) := by decide +kernel
theorem d_ch_interestOf_8 : decode (mcode M_ch_interestOf) 8 = .ok (.iconst 0, 1) := by decide +kernel
theorem d_ch_interestOf_9 : decode (mcode M_ch_interestOf) 9 = .ok (.ireturn, 1) := by decide +kernel
theorem d_ch_interestOf_10 : decode (mcode M_ch_interestOf) 10 = .ok (.aload_n 0, 1) := by decide +kernel
theorem d_ch_interestOf_11 : decode (mcode M_ch_interestOf) 11 = .ok (.iload_n 1, 1) := by decide +kernel
theorem d_ch_interestOf_12 : decode (mcode M_ch_interestOf) 12 = .ok (.iconst 1, 1) := by decide +kernel
theorem d_ch_interestOf_13 : decode (mcode M_ch_interestOf) 13 = .ok (.iadd, 1) := by decide +kernel
theorem d_ch_interestOf_14 : decode (mcode M_ch_interestOf) 14 = .ok (.invokevirtual 29, 3) := by decide +kernel
theorem d_ch_interestOf_17 : decode (mcode M_ch_interestOf) 17 = .ok (.ifCond .eq 14, 3) := by decide +kernel
theorem d_ch_interestOf_20 : decode (mcode M_ch_interestOf) 20 = .ok (.aload_n 0, 1) := by decide +kernel
theorem d_ch_interestOf_21 : decode (mcode M_ch_interestOf) 21 = .ok (.getfield 18, 3) := by decide +kernel
theorem d_ch_interestOf_24 : decode (mcode M_ch_interestOf) 24 = .ok (.iload_n 1, 1) := by decide +kernel
theorem d_ch_interestOf_25 : decode (mcode M_ch_interestOf) 25 = .ok (.iconst 1, 1) := by decide +kernel
theorem d_ch_interestOf_26 : decode (mcode M_ch_interestOf) 26 = .ok (.iadd, 1) := by decide +kernel
theorem d_ch_interestOf_27 : decode (mcode M_ch_interestOf) 27 = .ok (.iaload, 1) := by decide +kernel
theorem d_ch_interestOf_28 : decode (mcode M_ch_interestOf) 28 = .ok (.goto 4, 3) := by decide +kernel
theorem d_ch_interestOf_31 : decode (mcode M_ch_interestOf) 31 = .ok (.iload_n 2, 1) := by decide +kernel
theorem d_ch_interestOf_32 : decode (mcode M_ch_interestOf) 32 = .ok (.istore_n 3, 1) := by decide +kernel
theorem d_ch_interestOf_33 : decode (mcode M_ch_interestOf) 33 = .ok (.iload_n 1, 1) := by decide +kernel
theorem d_ch_interestOf_34 : decode (mcode M_ch_interestOf) 34 = .ok (.ifCond .ne 8, 3) := by decide +kernel
theorem d_ch_interestOf_37 : decode (mcode M_ch_interestOf) 37 = .ok (.bipush 40, 2) := by decide +kernel
theorem d_ch_interestOf_39 : decode (mcode M_ch_interestOf) 39 = .ok (.goto 9, 3) := by decide +kernel
theorem d_ch_interestOf_42 : decode (mcode M_ch_interestOf) 42 = .ok (.aload_n 0, 1) := by decide +kernel
theorem d_ch_interestOf_43 : decode (mcode M_ch_interestOf) 43 = .ok (.getfield 15, 3) := by decide +kernel
theorem d_ch_interestOf_46 : decode (mcode M_ch_interestOf) 46 = .ok (.iload_n 1, 1) := by decide +kernel
theorem d_ch_interestOf_47 : decode (mcode M_ch_interestOf) 47 = .ok (.iaload, 1) := by decide +kernel
theorem d_ch_interestOf_48 : decode (mcode M_ch_interestOf) 48 = .ok (.istore 4, 2) := by decide +kernel
theorem d_ch_interestOf_50 : decode (mcode M_ch_interestOf) 50 = .ok (.iconst 0, 1) := by decide +kernel
theorem d_ch_interestOf_51 : decode (mcode M_ch_interestOf) 51 = .ok (.iload_n 3, 1) := by decide +kernel
theorem d_ch_interestOf_52 : decode (mcode M_ch_interestOf) 52 = .ok (.aload_n 0, 1) := by decide +kernel
theorem d_ch_interestOf_53 : decode (mcode M_ch_interestOf) 53 = .ok (.getfield 18, 3) := by decide +kernel
theorem d_ch_interestOf_56 : decode (mcode M_ch_interestOf) 56 = .ok (.iload_n 1, 1) := by decide +kernel
theorem d_ch_interestOf_57 : decode (mcode M_ch_interestOf) 57 = .ok (.iaload, 1) := by decide +kernel
theorem d_ch_interestOf_58 : decode (mcode M_ch_interestOf) 58 = .ok (.isub, 1) := by decide +kernel
theorem d_ch_interestOf_59 : decode (mcode M_ch_interestOf) 59 = .ok (.invokestatic 33, 3) := by decide +kernel
theorem d_ch_interestOf_62 : decode (mcode M_ch_interestOf) 62 = .ok (.iload 4, 2) := by decide +kernel
theorem d_ch_interestOf_64 : decode (mcode M_ch_interestOf) 64 = .ok (.imul, 1) := by decide +kernel
theorem d_ch_interestOf_65 : decode (mcode M_ch_interestOf) 65 = .ok (.ireturn, 1) := by decide +kernel
theorem d_ch_prolong_0 : decode (mcode M_ch_prolong) 0 = .ok (.iconst 1, 1) := by decide +kernel
theorem d_ch_prolong_1 : decode (mcode M_ch_prolong) 1 = .ok (.istore_n 3, 1) := by decide +kernel
theorem d_ch_prolong_2 : decode (mcode M_ch_prolong) 2 = .ok (.iload_n 3, 1) := by decide +kernel
theorem d_ch_prolong_3 : decode (mcode M_ch_prolong) 3 = .ok (.iload_n 1, 1) := by decide +kernel
theorem d_ch_prolong_4 : decode (mcode M_ch_prolong) 4 = .ok (.if_icmp .gt 33, 3) := by decide +kernel
theorem d_ch_prolong_7 : decode (mcode M_ch_prolong) 7 = .ok (.iload_n 3, 1) := by decide +kernel
theorem d_ch_prolong_8 : decode (mcode M_ch_prolong) 8 = .ok (.aload_n 0, 1) := by decide +kernel
theorem d_ch_prolong_9 : decode (mcode M_ch_prolong) 9 = .ok (.getfield 21, 3) := by decide +kernel
theorem d_ch_prolong_12 : decode (mcode M_ch_prolong) 12 = .ok (.if_icmp .ge 25, 3) := by decide +kernel
theorem d_ch_prolong_15 : decode (mcode M_ch_prolong) 15 = .ok (.aload_n 0, 1) := by decide +kernel
theorem d_ch_prolong_16 : decode (mcode M_ch_prolong) 16 = .ok (.getfield 15, 3) := by decide +kernel
theorem d_ch_prolong_19 : decode (mcode M_ch_prolong) 19 = .ok (.iload_n 3, 1) := by decide +kernel
theorem d_ch_prolong_20 : decode (mcode M_ch_prolong) 20 = .ok (.aload_n 0, 1) := by decide +kernel
theorem d_ch_prolong_21 : decode (mcode M_ch_prolong) 21 = .ok (.getfield 15, 3) := by decide +kernel
theorem d_ch_prolong_24 : decode (mcode M_ch_prolong) 24 = .ok (.iload_n 3, 1) := by decide +kernel
theorem d_ch_prolong_25 : decode (mcode M_ch_prolong) 25 = .ok (.iaload, 1) := by decide +kernel
theorem d_ch_prolong_26 : decode (mcode M_ch_prolong) 26 = .ok (.iload_n 2, 1) := by decide +kernel
theorem d_ch_prolong_27 : decode (mcode M_ch_prolong) 27 = .ok (.invokestatic 33, 3) := by decide +kernel
theorem d_ch_prolong_30 : decode (mcode M_ch_prolong) 30 = .ok (.iastore, 1) := by decide +kernel
theorem d_ch_prolong_31 : decode (mcode M_ch_prolong) 31 = .ok (.iinc 3 1, 3) := by decide +kernel
theorem d_ch_prolong_34 : decode (mcode M_ch_prolong) 34 = .ok (.goto (-32), 3) := by decide +kernel
theorem d_ch_prolong_37 : decode (mcode M_ch_prolong) 37 = .ok (.return_, 1) := by decide +kernel
theorem d_ch_passYear_0 : decode (mcode M_ch_passYear) 0 = .ok (.iconst 1, 1) := by decide +kernel
theorem d_ch_passYear_1 : decode (mcode M_ch_passYear) 1 = .ok (.istore_n 1, 1) := by decide +kernel
theorem d_ch_passYear_2 : decode (mcode M_ch_passYear) 2 = .ok (.iload_n 1, 1) := by decide +kernel
theorem d_ch_passYear_3 : decode (mcode M_ch_passYear) 3 = .ok (.aload_n 0, 1) := by decide +kernel
theorem d_ch_passYear_4 : decode (mcode M_ch_passYear) 4 = .ok (.getfield 21, 3) := by decide +kernel
theorem d_ch_passYear_7 : decode (mcode M_ch_passYear) 7 = .ok (.if_icmp .ge 33, 3) := by decide +kernel
theorem d_ch_passYear_10 : decode (mcode M_ch_passYear) 10 = .ok (.aload_n 0, 1) := by decide +kernel
theorem d_ch_passYear_11 : decode (mcode M_ch_passYear) 11 = .ok (.getfield 15, 3) := by decide +kernel
theorem d_ch_passYear_14 : decode (mcode M_ch_passYear) 14 = .ok (.iload_n 1, 1) := by decide +kernel
theorem d_ch_passYear_15 : decode (mcode M_ch_passYear) 15 = .ok (.dup2, 1) := by decide +kernel
theorem d_ch_passYear_16 : decode (mcode M_ch_passYear) 16 = .ok (.iaload, 1) := by decide +kernel
theorem d_ch_passYear_17 : decode (mcode M_ch_passYear) 17 = .ok (.iconst 1, 1) := by decide +kernel
theorem d_ch_passYear_18 : decode (mcode M_ch_passYear) 18 = .ok (.isub, 1) := by decide +kernel
theorem d_ch_passYear_19 : decode (mcode M_ch_passYear) 19 = .ok (.iastore, 1) := by decide +kernel
theorem d_ch_passYear_20 : decode (mcode M_ch_passYear) 20 = .ok (.aload_n 0, 1) := by decide +kernel
theorem d_ch_passYear_21 : decode (mcode M_ch_passYear) 21 = .ok (.getfield 15, 3) := by decide +kernel
theorem d_ch_passYear_24 : decode (mcode M_ch_passYear) 24 = .ok (.iload_n 1, 1) := by decide +kernel
theorem d_ch_passYear_25 : decode (mcode M_ch_passYear) 25 = .ok (.iaload, 1) := by decide +kernel
theorem d_ch_passYear_26 : decode (mcode M_ch_passYear) 26 = .ok (.ifCond .gt 8, 3) := by decide +kernel
theorem d_ch_passYear_29 : decode (mcode M_ch_passYear) 29 = .ok (.aload_n 0, 1) := by decide +kernel
theorem d_ch_passYear_30 : decode (mcode M_ch_passYear) 30 = .ok (.iload_n 1, 1) := by decide +kernel
theorem d_ch_passYear_31 : decode (mcode M_ch_passYear) 31 = .ok (.putfield 21, 3) := by decide +kernel
theorem d_ch_passYear_34 : decode (mcode M_ch_passYear) 34 = .ok (.iinc 1 1, 3) := by decide +kernel
theorem d_ch_passYear_37 : decode (mcode M_ch_passYear) 37 = .ok (.goto (-35), 3) := by decide +kernel
theorem d_ch_passYear_40 : decode (mcode M_ch_passYear) 40 = .ok (.return_, 1) := by decide +kernel
theorem d_ch_end_0 : decode (mcode M_ch_end) 0 = .ok (.aload_n 0, 1) := by decide +kernel
theorem d_ch_end_1 : decode (mcode M_ch_end) 1 = .ok (.iconst 0, 1) := by decide +kernel
theorem d_ch_end_2 : decode (mcode M_ch_end) 2 = .ok (.putfield 21, 3) := by decide +kernel
theorem d_ch_end_5 : decode (mcode M_ch_end) 5 = .ok (.return_, 1) := by decide +kernel
theorem d_ct_init_0 : decode (mcode M_ct_init) 0 = .ok (.aload_n 0, 1) := by decide +kernel
theorem d_ct_init_1 : decode (mcode M_ct_init) 1 = .ok (.invokespecial 3, 3) := by decide +kernel
theorem d_ct_init_4 : decode (mcode M_ct_init) 4 = .ok (.aload_n 0, 1) := by decide +kernel
theorem d_ct_init_5 : decode (mcode M_ct_init) 5 = .ok (.bipush 20, 2) := by decide +kernel
theorem d_ct_init_7 : decode (mcode M_ct_init) 7 = .ok (.newarray .int, 2) := by decide +kernel
theorem d_ct_init_9 : decode (mcode M_ct_init) 9 = .ok (.putfield 9, 3) := by decide +kernel
theorem d_ct_init_12 : decode (mcode M_ct_init) 12 = .ok (.aload_n 0, 1) := by decide +kernel
theorem d_ct_init_13 : decode (mcode M_ct_init) 13 = .ok (.iconst 0, 1) := by decide +kernel
theorem d_ct_init_14 : decode (mcode M_ct_init) 14 = .ok (.putfield 15, 3) := by decide +kernel
theorem d_ct_init_17 : decode (mcode M_ct_init) 17 = .ok (.aload_n 0, 1) := by decide +kernel
theorem d_ct_init_18 : decode (mcode M_ct_init) 18 = .ok (.iconst 0, 1) := by decide +kernel
theorem d_ct_init_19 : decode (mcode M_ct_init) 19 = .ok (.putfield 19, 3) := by decide +kernel
theorem d_ct_init_22 : decode (mcode M_ct_init) 22 = .ok (.aload_n 0, 1) := by decide +kernel
theorem d_ct_init_23 : decode (mcode M_ct_init) 23 = .ok (.iconst 0, 1) := by decide +kernel
theorem d_ct_init_24 : decode (mcode M_ct_init) 24 = .ok (.putfield 22, 3) := by decide +kernel
theorem d_ct_init_27 : decode (mcode M_ct_init) 27 = .ok (.aload_n 0, 1) := by decide +kernel
theorem d_ct_init_28 : decode (mcode M_ct_init) 28 = .ok (.iconst 0, 1) := by decide +kernel
theorem d_ct_init_29 : decode (mcode M_ct_init) 29 = .ok (.putfield 25, 3) := by decide +kernel
theorem d_ct_init_32 : decode (mcode M_ct_init) 32 = .ok (.return_, 1) := by decide +kernel
theorem d_ct_addWork_0 : decode (mcode M_ct_addWork) 0 = .ok (.aload_n 0, 1) := by decide +kernel
theorem d_ct_addWork_1 : decode (mcode M_ct_addWork) 1 = .ok (.getfield 15, 3) := by decide +kernel
theorem d_ct_addWork_4 : decode (mcode M_ct_addWork) 4 = .ok (.bipush 20, 2) := by decide +kernel
theorem d_ct_addWork_6 : decode (mcode M_ct_addWork) 6 = .ok (.if_icmp .lt 5, 3) := by decide +kernel
theorem d_ct_addWork_9 : decode (mcode M_ct_addWork) 9 = .ok (.iconst (-1), 1) := by decide +kernel
theorem d_ct_addWork_10 : decode (mcode M_ct_addWork) 10 = .ok (.ireturn, 1) := by decide +kernel
theorem d_ct_addWork_11 : decode (mcode M_ct_addWork) 11 = .ok (.aload_n 0, 1) := by decide +kernel
theorem d_ct_addWork_12 : decode (mcode M_ct_addWork) 12 = .ok (.getfield 9, 3) := by decide +kernel
theorem d_ct_addWork_15 : decode (mcode M_ct_addWork) 15 = .ok (.aload_n 0, 1) := by decide +kernel
theorem d_ct_addWork_16 : decode (mcode M_ct_addWork) 16 = .ok (.getfield 15, 3) := by decide +kernel
theorem d_ct_addWork_19 : decode (mcode M_ct_addWork) 19 = .ok (.iload_n 1, 1) := by decide +kernel
theorem d_ct_addWork_20 : decode (mcode M_ct_addWork) 20 = .ok (.iastore, 1) := by decide +kernel
theorem d_ct_addWork_21 : decode (mcode M_ct_addWork) 21 = .ok (.aload_n 0, 1) := by decide +kernel
theorem d_ct_addWork_22 : decode (mcode M_ct_addWork) 22 = .ok (.dup, 1) := by decide +kernel
theorem d_ct_addWork_23 : decode (mcode M_ct_addWork) 23 = .ok (.getfield 15, 3) := by decide +kernel
theorem d_ct_addWork_26 : decode (mcode M_ct_addWork) 26 = .ok (.iconst 1, 1) := by decide +kernel
theorem d_ct_addWork_27 : decode (mcode M_ct_addWork) 27 = .ok (.iadd, 1) := by decide +kernel
theorem d_ct_addWork_28 : decode (mcode M_ct_addWork) 28 = .ok (.putfield 15, 3) := by decide +kernel
theorem d_ct_addWork_31 : decode (mcode M_ct_addWork) 31 = .ok (.aload_n 0, 1) := by decide +kernel
theorem d_ct_addWork_32 : decode (mcode M_ct_addWork) 32 = .ok (.getfield 15, 3) := by decide +kernel
theorem d_ct_addWork_35 : decode (mcode M_ct_addWork) 35 = .ok (.iconst 1, 1) := by decide +kernel
theorem d_ct_addWork_36 : decode (mcode M_ct_addWork) 36 = .ok (.isub, 1) := by decide +kernel
theorem d_ct_addWork_37 : decode (mcode M_ct_addWork) 37 = .ok (.ireturn, 1) := by decide +kernel
theorem d_ct_endYear_0 : decode (mcode M_ct_endYear) 0 = .ok (.aload_n 0, 1) := by decide +kernel
theorem d_ct_endYear_1 : decode (mcode M_ct_endYear) 1 = .ok (.dup, 1) := by decide +kernel
theorem d_ct_endYear_2 : decode (mcode M_ct_endYear) 2 = .ok (.getfield 22, 3) := by decide +kernel
theorem d_ct_endYear_5 : decode (mcode M_ct_endYear) 5 = .ok (.aload_n 0, 1) := by decide +kernel
theorem d_ct_endYear_6 : decode (mcode M_ct_endYear) 6 = .ok (.getfield 25, 3) := by decide +kernel
theorem d_ct_endYear_9 : decode (mcode M_ct_endYear) 9 = .ok (.iadd, 1) := by decide +kernel
theorem d_ct_endYear_10 : decode (mcode M_ct_endYear) 10 = .ok (.putfield 22, 3) := by decide +kernel
theorem d_ct_endYear_13 : decode (mcode M_ct_endYear) 13 = .ok (.aload_n 0, 1) := by decide +kernel
theorem d_ct_endYear_14 : decode (mcode M_ct_endYear) 14 = .ok (.getfield 19, 3) := by decide +kernel
theorem d_ct_endYear_17 : decode (mcode M_ct_endYear) 17 = .ok (.aload_n 0, 1) := by decide +kernel
theorem d_ct_endYear_18 : decode (mcode M_ct_endYear) 18 = .ok (.getfield 15, 3) := by decide +kernel
theorem d_ct_endYear_21 : decode (mcode M_ct_endYear) 21 = .ok (.if_icmp .ge 60, 3) := by decide +kernel
theorem d_ct_endYear_24 : decode (mcode M_ct_endYear) 24 = .ok (.aload_n 0, 1) := by decide +kernel
theorem d_ct_endYear_25 : decode (mcode M_ct_endYear) 25 = .ok (.getfield 22, 3) := by decide +kernel
theorem d_ct_endYear_28 : decode (mcode M_ct_endYear) 28 = .ok (.aload_n 0, 1) := by decide +kernel
theorem d_ct_endYear_29 : decode (mcode M_ct_endYear) 29 = .ok (.getfield 9, 3) := by decide +kernel
theorem d_ct_endYear_32 : decode (mcode M_ct_endYear) 32 = .ok (.aload_n 0, 1) := by decide +kernel
theorem d_ct_endYear_33 : decode (mcode M_ct_endYear) 33 = .ok (.getfield 19, 3) := by decide +kernel
theorem d_ct_endYear_36 : decode (mcode M_ct_endYear) 36 = .ok (.iaload, 1) := by decide +kernel
theorem d_ct_endYear_37 : decode (mcode M_ct_endYear) 37 = .ok (.if_icmp .lt 44, 3) := by decide +kernel
theorem d_ct_endYear_40 : decode (mcode M_ct_endYear) 40 = .ok (.aload_n 0, 1) := by decide +kernel
theorem d_ct_endYear_41 : decode (mcode M_ct_endYear) 41 = .ok (.dup, 1) := by decide +kernel
theorem d_ct_endYear_42 : decode (mcode M_ct_endYear) 42 = .ok (.getfield 22, 3) := by decide +kernel
theorem d_ct_endYear_45 : decode (mcode M_ct_endYear) 45 = .ok (.aload_n 0, 1) := by decide +kernel
theorem d_ct_endYear_46 : decode (mcode M_ct_endYear) 46 = .ok (.getfield 9, 3) := by decide +kernel
theorem d_ct_endYear_49 : decode (mcode M_ct_endYear) 49 = .ok (.aload_n 0, 1) := by decide +kernel
theorem d_ct_endYear_50 : decode (mcode M_ct_endYear) 50 = .ok (.getfield 19, 3) := by decide +kernel
theorem d_ct_endYear_53 : decode (mcode M_ct_endYear) 53 = .ok (.iaload, 1) := by decide +kernel
theorem d_ct_endYear_54 : decode (mcode M_ct_endYear) 54 = .ok (.isub, 1) := by decide +kernel
theorem d_ct_endYear_55 : decode (mcode M_ct_endYear) 55 = .ok (.putfield 22, 3) := by decide +kernel
theorem d_ct_endYear_58 : decode (mcode M_ct_endYear) 58 = .ok (.aload_n 0, 1) := by decide +kernel
theorem d_ct_endYear_59 : decode (mcode M_ct_endYear) 59 = .ok (.getfield 9, 3) := by decide +kernel
theorem d_ct_endYear_62 : decode (mcode M_ct_endYear) 62 = .ok (.aload_n 0, 1) := by decide +kernel
theorem d_ct_endYear_63 : decode (mcode M_ct_endYear) 63 = .ok (.getfield 19, 3) := by decide +kernel
theorem d_ct_endYear_66 : decode (mcode M_ct_endYear) 66 = .ok (.iconst 0, 1) := by decide +kernel
theorem d_ct_endYear_67 : decode (mcode M_ct_endYear) 67 = .ok (.iastore, 1) := by decide +kernel
theorem d_ct_endYear_68 : decode (mcode M_ct_endYear) 68 = .ok (.aload_n 0, 1) := by decide +kernel
theorem d_ct_endYear_69 : decode (mcode M_ct_endYear) 69 = .ok (.dup, 1) := by decide +kernel
theorem d_ct_endYear_70 : decode (mcode M_ct_endYear) 70 = .ok (.getfield 19, 3) := by decide +kernel
theorem d_ct_endYear_73 : decode (mcode M_ct_endYear) 73 = .ok (.iconst 1, 1) := by decide +kernel
theorem d_ct_endYear_74 : decode (mcode M_ct_endYear) 74 = .ok (.iadd, 1) := by decide +kernel
theorem d_ct_endYear_75 : decode (mcode M_ct_endYear) 75 = .ok (.putfield 19, 3) := by decide +kernel
theorem d_ct_endYear_78 : decode (mcode M_ct_endYear) 78 = .ok (.goto (-65), 3) := by decide +kernel
theorem d_ct_endYear_81 : decode (mcode M_ct_endYear) 81 = .ok (.aload_n 0, 1) := by decide +kernel
theorem d_ct_endYear_82 : decode (mcode M_ct_endYear) 82 = .ok (.getfield 19, 3) := by decide +kernel
theorem d_ct_endYear_85 : decode (mcode M_ct_endYear) 85 = .ok (.aload_n 0, 1) := by decide +kernel
theorem d_ct_endYear_86 : decode (mcode M_ct_endYear) 86 = .ok (.getfield 15, 3) := by decide +kernel
theorem d_ct_endYear_89 : decode (mcode M_ct_endYear) 89 = .ok (.if_icmp .ge 24, 3) := by decide +kernel
theorem d_ct_endYear_92 : decode (mcode M_ct_endYear) 92 = .ok (.aload_n 0, 1) := by decide +kernel
theorem d_ct_endYear_93 : decode (mcode M_ct_endYear) 93 = .ok (.getfield 9, 3) := by decide +kernel
theorem d_ct_endYear_96 : decode (mcode M_ct_endYear) 96 = .ok (.aload_n 0, 1) := by decide +kernel
theorem d_ct_endYear_97 : decode (mcode M_ct_endYear) 97 = .ok (.getfield 19, 3) := by decide +kernel
theorem d_ct_endYear_100 : decode (mcode M_ct_endYear) 100 = .ok (.dup2, 1) := by decide +kernel
theorem d_ct_endYear_101 : decode (mcode M_ct_endYear) 101 = .ok (.iaload, 1) := by decide +kernel
theorem d_ct_endYear_102 : decode (mcode M_ct_endYear) 102 = .ok (.aload_n 0, 1) := by decide +kernel
theorem d_ct_endYear_103 : decode (mcode M_ct_endYear) 103 = .ok (.getfield 22, 3) := by decide +kernel
theorem d_ct_endYear_106 : decode (mcode M_ct_endYear) 106 = .ok (.isub, 1) := by decide +kernel
theorem d_ct_endYear_107 : decode (mcode M_ct_endYear) 107 = .ok (.iastore, 1) := by decide +kernel
theorem d_ct_endYear_108 : decode (mcode M_ct_endYear) 108 = .ok (.aload_n 0, 1) := by decide +kernel
theorem d_ct_endYear_109 : decode (mcode M_ct_endYear) 109 = .ok (.iconst 0, 1) := by decide +kernel
theorem d_ct_endYear_110 : decode (mcode M_ct_endYear) 110 = .ok (.putfield 22, 3) := by decide +kernel
theorem d_ct_endYear_113 : decode (mcode M_ct_endYear) 113 = .ok (.return_, 1) := by decide +kernel
theorem d_pl_init_0 : decode (mcode M_pl_init) 0 = .ok (.aload_n 0, 1) := by decide +kernel
theorem d_pl_init_1 : decode (mcode M_pl_init) 1 = .ok (.invokespecial 3, 3) := by decide +kernel
theorem d_pl_init_4 : decode (mcode M_pl_init) 4 = .ok (.aload_n 0, 1) := by decide +kernel
theorem d_pl_init_5 : decode (mcode M_pl_init) 5 = .ok (.iconst 0, 1) := by decide +kernel
theorem d_pl_init_6 : decode (mcode M_pl_init) 6 = .ok (.putfield 9, 3) := by decide +kernel
theorem d_pl_init_9 : decode (mcode M_pl_init) 9 = .ok (.aload_n 0, 1) := by decide +kernel
theorem d_pl_init_10 : decode (mcode M_pl_init) 10 = .ok (.iconst (-1), 1) := by decide +kernel
theorem d_pl_init_11 : decode (mcode M_pl_init) 11 = .ok (.putfield 15, 3) := by decide +kernel
theorem d_pl_init_14 : decode (mcode M_pl_init) 14 = .ok (.aload_n 0, 1) := by decide +kernel
theorem d_pl_init_15 : decode (mcode M_pl_init) 15 = .ok (.iconst (-1), 1) := by decide +kernel
theorem d_pl_init_16 : decode (mcode M_pl_init) 16 = .ok (.putfield 18, 3) := by decide +kernel
theorem d_pl_init_19 : decode (mcode M_pl_init) 19 = .ok (.aload_n 0, 1) := by decide +kernel
theorem d_pl_init_20 : decode (mcode M_pl_init) 20 = .ok (.iconst (-1), 1) := by decide +kernel
theorem d_pl_init_21 : decode (mcode M_pl_init) 21 = .ok (.putfield 21, 3) := by decide +kernel
theorem d_pl_init_24 : decode (mcode M_pl_init) 24 = .ok (.aload_n 0, 1) := by decide +kernel
theorem d_pl_init_25 : decode (mcode M_pl_init) 25 = .ok (.aconst_null, 1) := by decide +kernel
theorem d_pl_init_26 : decode (mcode M_pl_init) 26 = .ok (.putfield 24, 3) := by decide +kernel
theorem d_pl_init_29 : decode (mcode M_pl_init) 29 = .ok (.aload_n 0, 1) := by decide +kernel
theorem d_pl_init_30 : decode (mcode M_pl_init) 30 = .ok (.aconst_null, 1) := by decide +kernel
theorem d_pl_init_31 : decode (mcode M_pl_init) 31 = .ok (.putfield 28, 3) := by decide +kernel
theorem d_pl_init_34 : decode (mcode M_pl_init) 34 = .ok (.aload_n 0, 1) := by decide +kernel
theorem d_pl_init_35 : decode (mcode M_pl_init) 35 = .ok (.iload_n 1, 1) := by decide +kernel
theorem d_pl_init_36 : decode (mcode M_pl_init) 36 = .ok (.putfield 31, 3) := by decide +kernel
theorem d_pl_init_39 : decode (mcode M_pl_init) 39 = .ok (.aload_n 0, 1) := by decide +kernel
theorem d_pl_init_40 : decode (mcode M_pl_init) 40 = .ok (.iload_n 2, 1) := by decide +kernel
theorem d_pl_init_41 : decode (mcode M_pl_init) 41 = .ok (.putfield 34, 3) := by decide +kernel
theorem d_pl_init_44 : decode (mcode M_pl_init) 44 = .ok (.aload_n 0, 1) := by decide +kernel
theorem d_pl_init_45 : decode (mcode M_pl_init) 45 = .ok (.new 37, 3) := by decide +kernel
theorem d_pl_init_48 : decode (mcode M_pl_init) 48 = .ok (.dup, 1) := by decide +kernel
theorem d_pl_init_49 : decode (mcode M_pl_init) 49 = .ok (.iload_n 3, 1) := by decide +kernel
theorem d_pl_init_50 : decode (mcode M_pl_init) 50 = .ok (.invokespecial 39, 3) := by decide +kernel
theorem d_pl_init_53 : decode (mcode M_pl_init) 53 = .ok (.putfield 42, 3) := by decide +kernel
theorem d_pl_init_56 : decode (mcode M_pl_init) 56 = .ok (.return_, 1) := by decide +kernel
theorem d_pl_yearlyWorth_0 : decode (mcode M_pl_yearlyWorth) 0 = .ok (.aload_n 0, 1) := by decide +kernel
theorem d_pl_yearlyWorth_1 : decode (mcode M_pl_yearlyWorth) 1 = .ok (.getfield 31, 3) := by decide +kernel
theorem d_pl_yearlyWorth_4 : decode (mcode M_pl_yearlyWorth) 4 = .ok (.aload_n 0, 1) := by decide +kernel
theorem d_pl_yearlyWorth_5 : decode (mcode M_pl_yearlyWorth) 5 = .ok (.getfield 34, 3) := by decide +kernel
theorem d_pl_yearlyWorth_8 : decode (mcode M_pl_yearlyWorth) 8 = .ok (.imul, 1) := by decide +kernel
theorem d_pl_yearlyWorth_9 : decode (mcode M_pl_yearlyWorth) 9 = .ok (.bipush 20, 2) := by decide +kernel
theorem d_pl_yearlyWorth_11 : decode (mcode M_pl_yearlyWorth) 11 = .ok (.idiv, 1) := by decide +kernel
theorem d_pl_yearlyWorth_12 : decode (mcode M_pl_yearlyWorth) 12 = .ok (.ireturn, 1) := by decide +kernel
theorem d_pl_isThere_0 : decode (mcode M_pl_isThere) 0 = .ok (.aload_n 0, 1) := by decide +kernel
theorem d_pl_isThere_1 : decode (mcode M_pl_isThere) 1 = .ok (.getfield 9, 3) := by decide +kernel
theorem d_pl_isThere_4 : decode (mcode M_pl_isThere) 4 = .ok (.ifCond .eq 11, 3) := by decide +kernel
theorem d_pl_isThere_7 : decode (mcode M_pl_isThere) 7 = .ok (.aload_n 0, 1) := by decide +kernel
theorem d_pl_isThere_8 : decode (mcode M_pl_isThere) 8 = .ok (.getfield 9, 3) := by decide +kernel
theorem d_pl_isThere_11 : decode (mcode M_pl_isThere) 11 = .ok (.iconst 1, 1) := by decide +kernel
theorem d_pl_isThere_12 : decode (mcode M_pl_isThere) 12 = .ok (.if_icmp .ne 7, 3) := by decide +kernel
theorem d_pl_isThere_15 : decode (mcode M_pl_isThere) 15 = .ok (.iconst 1, 1) := by decide +kernel
theorem d_pl_isThere_16 : decode (mcode M_pl_isThere) 16 = .ok (.goto 4, 3) := by decide +kernel
theorem d_pl_isThere_19 : decode (mcode M_pl_isThere) 19 = .ok (.iconst 0, 1) := by decide +kernel
theorem d_pl_isThere_20 : decode (mcode M_pl_isThere) 20 = .ok (.ireturn, 1) := by decide +kernel
theorem d_pl_raise_0 : decode (mcode M_pl_raise) 0 = .ok (.aload_n 0, 1) := by decide +kernel
theorem d_pl_raise_1 : decode (mcode M_pl_raise) 1 = .ok (.iconst 1, 1) := by decide +kernel
theorem d_pl_raise_2 : decode (mcode M_pl_raise) 2 = .ok (.putfield 9, 3) := by decide +kernel
theorem d_pl_raise_5 : decode (mcode M_pl_raise) 5 = .ok (.aload_n 0, 1) := by decide +kernel
theorem d_pl_raise_6 : decode (mcode M_pl_raise) 6 = .ok (.iload_n 1, 1) := by decide +kernel
theorem d_pl_raise_7 : decode (mcode M_pl_raise) 7 = .ok (.putfield 15, 3) := by decide +kernel
theorem d_pl_raise_10 : decode (mcode M_pl_raise) 10 = .ok (.aload_n 0, 1) := by decide +kernel
theorem d_pl_raise_11 : decode (mcode M_pl_raise) 11 = .ok (.iload_n 2, 1) := by decide +kernel
theorem d_pl_raise_12 : decode (mcode M_pl_raise) 12 = .ok (.putfield 18, 3) := by decide +kernel
theorem d_pl_raise_15 : decode (mcode M_pl_raise) 15 = .ok (.return_, 1) := by decide +kernel
theorem d_pl_lose_0 : decode (mcode M_pl_lose) 0 = .ok (.aload_n 0, 1) := by decide +kernel
theorem d_pl_lose_1 : decode (mcode M_pl_lose) 1 = .ok (.iload_n 1, 1) := by decide +kernel
theorem d_pl_lose_2 : decode (mcode M_pl_lose) 2 = .ok (.putfield 9, 3) := by decide +kernel
theorem d_pl_lose_5 : decode (mcode M_pl_lose) 5 = .ok (.aload_n 0, 1) := by decide +kernel
theorem d_pl_lose_6 : decode (mcode M_pl_lose) 6 = .ok (.getfield 42, 3) := by decide +kernel
theorem d_pl_lose_9 : decode (mcode M_pl_lose) 9 = .ok (.invokevirtual 46, 3) := by decide +kernel
theorem d_pl_lose_12 : decode (mcode M_pl_lose) 12 = .ok (.return_, 1) := by decide +kernel
theorem d_pl_paidWalls_0 : decode (mcode M_pl_paidWalls) 0 = .ok (.iconst 0, 1) := by decide +kernel
theorem d_pl_paidWalls_1 : decode (mcode M_pl_paidWalls) 1 = .ok (.istore_n 1, 1) := by decide +kernel
theorem d_pl_paidWalls_2 : decode (mcode M_pl_paidWalls) 2 = .ok (.aload_n 0, 1) := by decide +kernel
theorem d_pl_paidWalls_3 : decode (mcode M_pl_paidWalls) 3 = .ok (.getfield 24, 3) := by decide +kernel
theorem d_pl_paidWalls_6 : decode (mcode M_pl_paidWalls) 6 = .ok (.ifnull 16, 3) := by decide +kernel
theorem d_pl_paidWalls_9 : decode (mcode M_pl_paidWalls) 9 = .ok (.aload_n 0, 1) := by decide +kernel
theorem d_pl_paidWalls_10 : decode (mcode M_pl_paidWalls) 10 = .ok (.getfield 24, 3) := by decide +kernel
theorem d_pl_paidWalls_13 : decode (mcode M_pl_paidWalls) 13 = .ok (.invokevirtual 49, 3) := by decide +kernel
theorem d_pl_paidWalls_16 : decode (mcode M_pl_paidWalls) 16 = .ok (.ifCond .eq 6, 3) := by decide +kernel
theorem d_pl_paidWalls_19 : decode (mcode M_pl_paidWalls) 19 = .ok (.iinc 1 1, 3) := by decide +kernel
theorem d_pl_paidWalls_22 : decode (mcode M_pl_paidWalls) 22 = .ok (.aload_n 0, 1) := by decide +kernel
theorem d_pl_paidWalls_23 : decode (mcode M_pl_paidWalls) 23 = .ok (.getfield 28, 3) := by decide +kernel
theorem d_pl_paidWalls_26 : decode (mcode M_pl_paidWalls) 26 = .ok (.ifnull 16, 3) := by decide +kernel
theorem d_pl_paidWalls_29 : decode (mcode M_pl_paidWalls) 29 = .ok (.aload_n 0, 1) := by decide +kernel
theorem d_pl_paidWalls_30 : decode (mcode M_pl_paidWalls) 30 = .ok (.getfield 28, 3) := by decide +kernel
theorem d_pl_paidWalls_33 : decode (mcode M_pl_paidWalls) 33 = .ok (.invokevirtual 49, 3) := by decide +kernel
theorem d_pl_paidWalls_36 : decode (mcode M_pl_paidWalls) 36 = .ok (.ifCond .eq 6, 3) := by decide +kernel
theorem d_pl_paidWalls_39 : decode (mcode M_pl_paidWalls) 39 = .ok (.iinc 1 1, 3) := by decide +kernel
theorem d_pl_paidWalls_42 : decode (mcode M_pl_paidWalls) 42 = .ok (.iload_n 1, 1) := by decide +kernel
theorem d_pl_paidWalls_43 : decode (mcode M_pl_paidWalls) 43 = .ok (.ireturn, 1) := by decide +kernel
theorem d_sh_init_0 : decode (mcode M_sh_init) 0 = .ok (.aload_n 0, 1) := by decide +kernel
theorem d_sh_init_1 : decode (mcode M_sh_init) 1 = .ok (.invokespecial 3, 3) := by decide +kernel
theorem d_sh_init_4 : decode (mcode M_sh_init) 4 = .ok (.aload_n 0, 1) := by decide +kernel
theorem d_sh_init_5 : decode (mcode M_sh_init) 5 = .ok (.iconst 4, 1) := by decide +kernel
theorem d_sh_init_6 : decode (mcode M_sh_init) 6 = .ok (.newarray .int, 2) := by decide +kernel
theorem d_sh_init_8 : decode (mcode M_sh_init) 8 = .ok (.putfield 9, 3) := by decide +kernel
theorem d_sh_init_11 : decode (mcode M_sh_init) 11 = .ok (.aload_n 0, 1) := by decide +kernel
theorem d_sh_init_12 : decode (mcode M_sh_init) 12 = .ok (.iconst 4, 1) := by decide +kernel
theorem d_sh_init_13 : decode (mcode M_sh_init) 13 = .ok (.newarray .long, 2) := by decide +kernel
theorem d_sh_init_15 : decode (mcode M_sh_init) 15 = .ok (.putfield 15, 3) := by decide +kernel
theorem d_sh_init_18 : decode (mcode M_sh_init) 18 = .ok (.return_, 1) := by decide +kernel
theorem d_sh_partOf_0 : decode (mcode M_sh_partOf) 0 = .ok (.iload_n 1, 1) := by decide +kernel
theorem d_sh_partOf_1 : decode (mcode M_sh_partOf) 1 = .ok (.iconst 0, 1) := by decide +kernel
theorem d_sh_partOf_2 : decode (mcode M_sh_partOf) 2 = .ok (.iconst 3, 1) := by decide +kernel
theorem d_sh_partOf_3 : decode (mcode M_sh_partOf) 3 = .ok (.invokestatic 19, 3) := by decide +kernel
theorem d_sh_partOf_6 : decode (mcode M_sh_partOf) 6 = .ok (.ifCond .eq 12, 3) := by decide +kernel
theorem d_sh_partOf_9 : decode (mcode M_sh_partOf) 9 = .ok (.aload_n 0, 1) := by decide +kernel
theorem d_sh_partOf_10 : decode (mcode M_sh_partOf) 10 = .ok (.getfield 9, 3) := by decide +kernel
theorem d_sh_partOf_13 : decode (mcode M_sh_partOf) 13 = .ok (.iload_n 1, 1) := by decide +kernel
theorem d_sh_partOf_14 : decode (mcode M_sh_partOf) 14 = .ok (.iaload, 1) := by decide +kernel
theorem d_sh_partOf_15 : decode (mcode M_sh_partOf) 15 = .ok (.goto 4, 3) := by decide +kernel
theorem d_sh_partOf_18 : decode (mcode M_sh_partOf) 18 = .ok (.iconst 0, 1) := by decide +kernel
theorem d_sh_partOf_19 : decode (mcode M_sh_partOf) 19 = .ok (.ireturn, 1) := by decide +kernel
theorem d_sh_divide_0 : decode (mcode M_sh_divide) 0 = .ok (.lconst 0, 1) := by decide +kernel
theorem d_sh_divide_1 : decode (mcode M_sh_divide) 1 = .ok (.lstore 4, 2) := by decide +kernel
theorem d_sh_divide_3 : decode (mcode M_sh_divide) 3 = .ok (.iconst 0, 1) := by decide +kernel
theorem d_sh_divide_4 : decode (mcode M_sh_divide) 4 = .ok (.istore 6, 2) := by decide +kernel
theorem d_sh_divide_6 : decode (mcode M_sh_divide) 6 = .ok (.iload 6, 2) := by decide +kernel
theorem d_sh_divide_8 : decode (mcode M_sh_divide) 8 = .ok (.aload_n 1, 1) := by decide +kernel
theorem d_sh_divide_9 : decode (mcode M_sh_divide) 9 = .ok (.getfield 23, 3) := by decide +kernel
theorem d_sh_divide_12 : decode (mcode M_sh_divide) 12 = .ok (.getfield 29, 3) := by decide +kernel
theorem d_sh_divide_15 : decode (mcode M_sh_divide) 15 = .ok (.if_icmp .ge 28, 3) := by decide +kernel
theorem d_sh_divide_18 : decode (mcode M_sh_divide) 18 = .ok (.lload 4, 2) := by decide +kernel
theorem d_sh_divide_20 : decode (mcode M_sh_divide) 20 = .ok (.aload_n 1, 1) := by decide +kernel
theorem d_sh_divide_21 : decode (mcode M_sh_divide) 21 = .ok (.getfield 23, 3) := by decide +kernel
theorem d_sh_divide_24 : decode (mcode M_sh_divide) 24 = .ok (.iload 6, 2) := by decide +kernel
theorem d_sh_divide_26 : decode (mcode M_sh_divide) 26 = .ok (.aload_n 1, 1) := by decide +kernel
theorem d_sh_divide_27 : decode (mcode M_sh_divide) 27 = .ok (.invokevirtual 35, 3) := by decide +kernel
theorem d_sh_divide_30 : decode (mcode M_sh_divide) 30 = .ok (.invokevirtual 39, 3) := by decide +kernel
theorem d_sh_divide_33 : decode (mcode M_sh_divide) 33 = .ok (.i2l, 1) := by decide +kernel
theorem d_sh_divide_34 : decode (mcode M_sh_divide) 34 = .ok (.ladd, 1) := by decide +kernel
theorem d_sh_divide_35 : decode (mcode M_sh_divide) 35 = .ok (.lstore 4, 2) := by decide +kernel
theorem d_sh_divide_37 : decode (mcode M_sh_divide) 37 = .ok (.iinc 6 1, 3) := by decide +kernel
theorem d_sh_divide_40 : decode (mcode M_sh_divide) 40 = .ok (.goto (-34), 3) := by decide +kernel
theorem d_sh_divide_43 : decode (mcode M_sh_divide) 43 = .ok (.lload 4, 2) := by decide +kernel
theorem d_sh_divide_45 : decode (mcode M_sh_divide) 45 = .ok (.lconst 0, 1) := by decide +kernel
theorem d_sh_divide_46 : decode (mcode M_sh_divide) 46 = .ok (.lcmp, 1) := by decide +kernel
theorem d_sh_divide_47 : decode (mcode M_sh_divide) 47 = .ok (.ifCond .le 12, 3) := by decide +kernel
theorem d_sh_divide_50 : decode (mcode M_sh_divide) 50 = .ok (.aload_n 0, 1) := by decide +kernel
theorem d_sh_divide_51 : decode (mcode M_sh_divide) 51 = .ok (.aload_n 1, 1) := by decide +kernel
theorem d_sh_divide_52 : decode (mcode M_sh_divide) 52 = .ok (.iload_n 2, 1) := by decide +kernel
theorem d_sh_divide_53 : decode (mcode M_sh_divide) 53 = .ok (.lload 4, 2) := by decide +kernel
theorem d_sh_divide_55 : decode (mcode M_sh_divide) 55 = .ok (.invokevirtual 43, 3) := by decide +kernel
theorem d_sh_divide_58 : decode (mcode M_sh_divide) 58 = .ok (.return_, 1) := by decide +kernel
theorem d_sh_divide_59 : decode (mcode M_sh_divide) 59 = .ok (.iconst 0, 1) := by decide +kernel
theorem d_sh_divide_60 : decode (mcode M_sh_divide) 60 = .ok (.istore 6, 2) := by decide +kernel
theorem d_sh_divide_62 : decode (mcode M_sh_divide) 62 = .ok (.iload 6, 2) := by decide +kernel
theorem d_sh_divide_64 : decode (mcode M_sh_divide) 64 = .ok (.iconst 4, 1) := by decide +kernel
theorem d_sh_divide_65 : decode (mcode M_sh_divide) 65 = .ok (.if_icmp .ge 27, 3) := by decide +kernel
theorem d_sh_divide_68 : decode (mcode M_sh_divide) 68 = .ok (.aload_n 0, 1) := by decide +kernel
theorem d_sh_divide_69 : decode (mcode M_sh_divide) 69 = .ok (.getfield 9, 3) := by decide +kernel
theorem d_sh_divide_72 : decode (mcode M_sh_divide) 72 = .ok (.iload 6, 2) := by decide +kernel
theorem d_sh_divide_74 : decode (mcode M_sh_divide) 74 = .ok (.iload 6, 2) := by decide +kernel
theorem d_sh_divide_76 : decode (mcode M_sh_divide) 76 = .ok (.iload_n 3, 1) := by decide +kernel
theorem d_sh_divide_77 : decode (mcode M_sh_divide) 77 = .ok (.if_icmp .ne 7, 3) := by decide +kernel
theorem d_sh_divide_80 : decode (mcode M_sh_divide) 80 = .ok (.iload_n 2, 1) := by decide +kernel
theorem d_sh_divide_81 : decode (mcode M_sh_divide) 81 = .ok (.goto 4, 3) := by decide +kernel
theorem d_sh_divide_84 : decode (mcode M_sh_divide) 84 = .ok (.iconst 0, 1) := by decide +kernel
theorem d_sh_divide_85 : decode (mcode M_sh_divide) 85 = .ok (.iastore, 1) := by decide +kernel
theorem d_sh_divide_86 : decode (mcode M_sh_divide) 86 = .ok (.iinc 6 1, 3) := by decide +kernel
theorem d_sh_divide_89 : decode (mcode M_sh_divide) 89 = .ok (.goto (-27), 3) := by decide +kernel
theorem d_sh_divide_92 : decode (mcode M_sh_divide) 92 = .ok (.return_, 1) := by decide +kernel
theorem d_sh_divideByInterest_0 : decode (mcode M_sh_divideByInterest) 0 = .ok (.lload_n 3, 1) := by decide +kernel
theorem d_sh_divideByInterest_1 : decode (mcode M_sh_divideByInterest) 1 = .ok (.lconst 0, 1) := by decide +kernel
theorem d_sh_divideByInterest_2 : decode (mcode M_sh_divideByInterest) 2 = .ok (.lcmp, 1) := by decide +kernel
theorem d_sh_divideByInterest_3 : decode (mcode M_sh_divideByInterest) 3 = .ok (.ifCond .gt 4, 3) := by decide +kernel
theorem d_sh_divideByInterest_6 : decode (mcode M_sh_divideByInterest) 6 = .ok (.return_, 1) := by decide +kernel
theorem d_sh_divideByInterest_7 : decode (mcode M_sh_divideByInterest) 7 = .ok (.iload_n 2, 1) := by decide +kernel
theorem d_sh_divideByInterest_8 : decode (mcode M_sh_divideByInterest) 8 = .ok (.istore 5, 2) := by decide +kernel
theorem d_sh_divideByInterest_10 : decode (mcode M_sh_divideByInterest) 10 = .ok (.iconst 0, 1) := by decide +kernel
theorem d_sh_divideByInterest_11 : decode (mcode M_sh_divideByInterest) 11 = .ok (.istore 6, 2) := by decide +kernel
theorem d_sh_divideByInterest_13 : decode (mcode M_sh_divideByInterest) 13 = .ok (.iload 6, 2) := by decide +kernel
theorem d_sh_divideByInterest_15 : decode (mcode M_sh_divideByInterest) 15 = .ok (.iconst 4, 1) := by decide +kernel
theorem d_sh_divideByInterest_16 : decode (mcode M_sh_divideByInterest) 16 = .ok (.if_icmp .ge 63, 3) := by decide +kernel
theorem d_sh_divideByInterest_19 : decode (mcode M_sh_divideByInterest) 19 = .ok (.iload_n 2, 1) := by decide +kernel
theorem d_sh_divideByInterest_20 : decode (mcode M_sh_divideByInterest) 20 = .ok (.i2l, 1) := by decide +kernel
theorem d_sh_divideByInterest_21 : decode (mcode M_sh_divideByInterest) 21 = .ok (.aload_n 1, 1) := by decide +kernel
theorem d_sh_divideByInterest_22 : decode (mcode M_sh_divideByInterest) 22 = .ok (.getfield 23, 3) := by decide +kernel
theorem d_sh_divideByInterest_25 : decode (mcode M_sh_divideByInterest) 25 = .ok (.iload 6, 2) := by decide +kernel
theorem d_sh_divideByInterest_27 : decode (mcode M_sh_divideByInterest) 27 = .ok (.aload_n 1, 1) := by decide +kernel
theorem d_sh_divideByInterest_28 : decode (mcode M_sh_divideByInterest) 28 = .ok (.invokevirtual 35, 3) := by decide +kernel
theorem d_sh_divideByInterest_31 : decode (mcode M_sh_divideByInterest) 31 = .ok (.invokevirtual 39, 3) := by decide +kernel
theorem d_sh_divideByInterest_34 : decode (mcode M_sh_divideByInterest) 34 = .ok (.i2l, 1) := by decide +kernel
theorem d_sh_divideByInterest_35 : decode (mcode M_sh_divideByInterest) 35 = .ok (.lmul, 1) := by decide +kernel
theorem d_sh_divideByInterest_36 : decode (mcode M_sh_divideByInterest) 36 = .ok (.lstore 7, 2) := by decide +kernel
theorem d_sh_divideByInterest_38 : decode (mcode M_sh_divideByInterest) 38 = .ok (.aload_n 0, 1) := by decide +kernel
theorem d_sh_divideByInterest_39 : decode (mcode M_sh_divideByInterest) 39 = .ok (.getfield 9, 3) := by decide +kernel
theorem d_sh_divideByInterest_42 : decode (mcode M_sh_divideByInterest) 42 = .ok (.iload 6, 2) := by decide +kernel
theorem d_sh_divideByInterest_44 : decode (mcode M_sh_divideByInterest) 44 = .ok (.lload 7, 2) := by decide +kernel
theorem d_sh_divideByInterest_46 : decode (mcode M_sh_divideByInterest) 46 = .ok (.lload_n 3, 1) := by decide +kernel
theorem d_sh_divideByInterest_47 : decode (mcode M_sh_divideByInterest) 47 = .ok (.ldiv, 1) := by decide +kernel
theorem d_sh_divideByInterest_48 : decode (mcode M_sh_divideByInterest) 48 = .ok (.l2i, 1) := by decide +kernel
theorem d_sh_divideByInterest_49 : decode (mcode M_sh_divideByInterest) 49 = .ok (.iastore, 1) := by decide +kernel
theorem d_sh_divideByInterest_50 : decode (mcode M_sh_divideByInterest) 50 = .ok (.aload_n 0, 1) := by decide +kernel
theorem d_sh_divideByInterest_51 : decode (mcode M_sh_divideByInterest) 51 = .ok (.getfield 15, 3) := by decide +kernel
theorem d_sh_divideByInterest_54 : decode (mcode M_sh_divideByInterest) 54 = .ok (.iload 6, 2) := by decide +kernel
theorem d_sh_divideByInterest_56 : decode (mcode M_sh_divideByInterest) 56 = .ok (.lload 7, 2) := by decide +kernel
theorem d_sh_divideByInterest_58 : decode (mcode M_sh_divideByInterest) 58 = .ok (.lload_n 3, 1) := by decide +kernel
theorem d_sh_divideByInterest_59 : decode (mcode M_sh_divideByInterest) 59 = .ok (.lrem, 1) := by decide +kernel
theorem d_sh_divideByInterest_60 : decode (mcode M_sh_divideByInterest) 60 = .ok (.lastore, 1) := by decide +kernel
theorem d_sh_divideByInterest_61 : decode (mcode M_sh_divideByInterest) 61 = .ok (.iload 5, 2) := by decide +kernel
theorem d_sh_divideByInterest_63 : decode (mcode M_sh_divideByInterest) 63 = .ok (.aload_n 0, 1) := by decide +kernel
theorem d_sh_divideByInterest_64 : decode (mcode M_sh_divideByInterest) 64 = .ok (.getfield 9, 3) := by decide +kernel
theorem d_sh_divideByInterest_67 : decode (mcode M_sh_divideByInterest) 67 = .ok (.iload 6, 2) := by decide +kernel
theorem d_sh_divideByInterest_69 : decode (mcode M_sh_divideByInterest) 69 = .ok (.iaload, 1) := by decide +kernel
theorem d_sh_divideByInterest_70 : decode (mcode M_sh_divideByInterest) 70 = .ok (.isub, 1) := by decide +kernel
theorem d_sh_divideByInterest_71 : decode (mcode M_sh_divideByInterest) 71 = .ok (.istore 5, 2) := by decide +kernel
theorem d_sh_divideByInterest_73 : decode (mcode M_sh_divideByInterest) 73 = .ok (.iinc 6 1, 3) := by decide +kernel
theorem d_sh_divideByInterest_76 : decode (mcode M_sh_divideByInterest) 76 = .ok (.goto (-63), 3) := by decide +kernel
theorem d_sh_divideByInterest_79 : decode (mcode M_sh_divideByInterest) 79 = .ok (.iconst 0, 1) := by decide +kernel
theorem d_sh_divideByInterest_80 : decode (mcode M_sh_divideByInterest) 80 = .ok (.istore 6, 2) := by decide +kernel
theorem d_sh_divideByInterest_82 : decode (mcode M_sh_divideByInterest) 82 = .ok (.iload 6, 2) := by decide +kernel
theorem d_sh_divideByInterest_84 : decode (mcode M_sh_divideByInterest) 84 = .ok (.iload 5, 2) := by decide +kernel
theorem d_sh_divideByInterest_86 : decode (mcode M_sh_divideByInterest) 86 = .ok (.if_icmp .ge 42, 3) := by decide +kernel
theorem d_sh_divideByInterest_89 : decode (mcode M_sh_divideByInterest) 89 = .ok (.iload 6, 2) := by decide +kernel
theorem d_sh_divideByInterest_91 : decode (mcode M_sh_divideByInterest) 91 = .ok (.iconst 4, 1) := by decide +kernel
theorem d_sh_divideByInterest_92 : decode (mcode M_sh_divideByInterest) 92 = .ok (.if_icmp .ge 36, 3) := by decide +kernel
theorem d_sh_divideByInterest_95 : decode (mcode M_sh_divideByInterest) 95 = .ok (.aload_n 0, 1) := by decide +kernel
theorem d_sh_divideByInterest_96 : decode (mcode M_sh_divideByInterest) 96 = .ok (.invokevirtual 47, 3) := by decide +kernel
theorem d_sh_divideByInterest_99 : decode (mcode M_sh_divideByInterest) 99 = .ok (.istore 7, 2) := by decide +kernel
theorem d_sh_divideByInterest_101 : decode (mcode M_sh_divideByInterest) 101 = .ok (.aload_n 0, 1) := by decide +kernel
theorem d_sh_divideByInterest_102 : decode (mcode M_sh_divideByInterest) 102 = .ok (.getfield 9, 3) := by decide +kernel
theorem d_sh_divideByInterest_105 : decode (mcode M_sh_divideByInterest) 105 = .ok (.iload 7, 2) := by decide +kernel
theorem d_sh_divideByInterest_107 : decode (mcode M_sh_divideByInterest) 107 = .ok (.dup2, 1) := by decide +kernel
theorem d_sh_divideByInterest_108 : decode (mcode M_sh_divideByInterest) 108 = .ok (.iaload, 1) := by decide +kernel
theorem d_sh_divideByInterest_109 : decode (mcode M_sh_divideByInterest) 109 = .ok (.iconst 1, 1) := by decide +kernel
theorem d_sh_divideByInterest_110 : decode (mcode M_sh_divideByInterest) 110 = .ok (.iadd, 1) := by decide +kernel
theorem d_sh_divideByInterest_111 : decode (mcode M_sh_divideByInterest) 111 = .ok (.iastore, 1) := by decide +kernel
theorem d_sh_divideByInterest_112 : decode (mcode M_sh_divideByInterest) 112 = .ok (.aload_n 0, 1) := by decide +kernel
theorem d_sh_divideByInterest_113 : decode (mcode M_sh_divideByInterest) 113 = .ok (.getfield 15, 3) := by decide +kernel
theorem d_sh_divideByInterest_116 : decode (mcode M_sh_divideByInterest) 116 = .ok (.iload 7, 2) := by decide +kernel
theorem d_sh_divideByInterest_118 : decode (mcode M_sh_divideByInterest) 118 = .ok (.ldc2_w 50, 3) := by decide +kernel
theorem d_sh_divideByInterest_121 : decode (mcode M_sh_divideByInterest) 121 = .ok (.lastore, 1) := by decide +kernel
theorem d_sh_divideByInterest_122 : decode (mcode M_sh_divideByInterest) 122 = .ok (.iinc 6 1, 3) := by decide +kernel
theorem d_sh_divideByInterest_125 : decode (mcode M_sh_divideByInterest) 125 = .ok (.goto (-43), 3) := by decide +kernel
theorem d_sh_divideByInterest_128 : decode (mcode M_sh_divideByInterest) 128 = .ok (.return_, 1) := by decide +kernel
theorem d_sh_placeOfMostCutOff_0 : decode (mcode M_sh_placeOfMostCutOff) 0 = .ok (.iconst 0, 1) := by decide +kernel
theorem d_sh_placeOfMostCutOff_1 : decode (mcode M_sh_placeOfMostCutOff) 1 = .ok (.istore_n 1, 1) := by decide +kernel
theorem d_sh_placeOfMostCutOff_2 : decode (mcode M_sh_placeOfMostCutOff) 2 = .ok (.iconst 1, 1) := by decide +kernel
theorem d_sh_placeOfMostCutOff_3 : decode (mcode M_sh_placeOfMostCutOff) 3 = .ok (.istore_n 2, 1) := by decide +kernel
theorem d_sh_placeOfMostCutOff_4 : decode (mcode M_sh_placeOfMostCutOff) 4 = .ok (.iload_n 2, 1) := by decide +kernel
theorem d_sh_placeOfMostCutOff_5 : decode (mcode M_sh_placeOfMostCutOff) 5 = .ok (.iconst 4, 1) := by decide +kernel
theorem d_sh_placeOfMostCutOff_6 : decode (mcode M_sh_placeOfMostCutOff) 6 = .ok (.if_icmp .ge 27, 3) := by decide +kernel
theorem d_sh_placeOfMostCutOff_9 : decode (mcode M_sh_placeOfMostCutOff) 9 = .ok (.aload_n 0, 1) := by decide +kernel
theorem d_sh_placeOfMostCutOff_10 : decode (mcode M_sh_placeOfMostCutOff) 10 = .ok (.getfield 15, 3) := by decide +kernel
theorem d_sh_placeOfMostCutOff_13 : decode (mcode M_sh_placeOfMostCutOff) 13 = .ok (.iload_n 2, 1) := by decide +kernel
theorem d_sh_placeOfMostCutOff_14 : decode (mcode M_sh_placeOfMostCutOff) 14 = .ok (.laload, 1) := by decide +kernel
theorem d_sh_placeOfMostCutOff_15 : decode (mcode M_sh_placeOfMostCutOff) 15 = .ok (.aload_n 0, 1) := by decide +kernel
theorem d_sh_placeOfMostCutOff_16 : decode (mcode M_sh_placeOfMostCutOff) 16 = .ok (.getfield 15, 3) := by decide +kernel
theorem d_sh_placeOfMostCutOff_19 : decode (mcode M_sh_placeOfMostCutOff) 19 = .ok (.iload_n 1, 1) := by decide +kernel
theorem d_sh_placeOfMostCutOff_20 : decode (mcode M_sh_placeOfMostCutOff) 20 = .ok (.laload, 1) := by decide +kernel
theorem d_sh_placeOfMostCutOff_21 : decode (mcode M_sh_placeOfMostCutOff) 21 = .ok (.lcmp, 1) := by decide +kernel
theorem d_sh_placeOfMostCutOff_22 : decode (mcode M_sh_placeOfMostCutOff) 22 = .ok (.ifCond .le 5, 3) := by decide +kernel
theorem d_sh_placeOfMostCutOff_25 : decode (mcode M_sh_placeOfMostCutOff) 25 = .ok (.iload_n 2, 1) := by decide +kernel
theorem d_sh_placeOfMostCutOff_26 : decode (mcode M_sh_placeOfMostCutOff) 26 = .ok (.istore_n 1, 1) := by decide +kernel
theorem d_sh_placeOfMostCutOff_27 : decode (mcode M_sh_placeOfMostCutOff) 27 = .ok (.iinc 2 1, 3) := by decide +kernel
theorem d_sh_placeOfMostCutOff_30 : decode (mcode M_sh_placeOfMostCutOff) 30 = .ok (.goto (-26), 3) := by decide +kernel
theorem d_sh_placeOfMostCutOff_33 : decode (mcode M_sh_placeOfMostCutOff) 33 = .ok (.iload_n 1, 1) := by decide +kernel
theorem d_sh_placeOfMostCutOff_34 : decode (mcode M_sh_placeOfMostCutOff) 34 = .ok (.ireturn, 1) := by decide +kernel
theorem d_sr_init_0 : decode (mcode M_sr_init) 0 = .ok (.aload_n 0, 1) := by decide +kernel
theorem d_sr_init_1 : decode (mcode M_sr_init) 1 = .ok (.invokespecial 3, 3) := by decide +kernel
theorem d_sr_init_4 : decode (mcode M_sr_init) 4 = .ok (.aload_n 0, 1) := by decide +kernel
theorem d_sr_init_5 : decode (mcode M_sr_init) 5 = .ok (.new 9, 3) := by decide +kernel
theorem d_sr_init_8 : decode (mcode M_sr_init) 8 = .ok (.dup, 1) := by decide +kernel
theorem d_sr_init_9 : decode (mcode M_sr_init) 9 = .ok (.invokespecial 11, 3) := by decide +kernel
theorem d_sr_init_12 : decode (mcode M_sr_init) 12 = .ok (.putfield 12, 3) := by decide +kernel
theorem d_sr_init_15 : decode (mcode M_sr_init) 15 = .ok (.aload_n 0, 1) := by decide +kernel
theorem d_sr_init_16 : decode (mcode M_sr_init) 16 = .ok (.bipush 7, 2) := by decide +kernel
theorem d_sr_init_18 : decode (mcode M_sr_init) 18 = .ok (.newarray .int, 2) := by decide +kernel
theorem d_sr_init_20 : decode (mcode M_sr_init) 20 = .ok (.putfield 18, 3) := by decide +kernel
theorem d_sr_init_23 : decode (mcode M_sr_init) 23 = .ok (.iconst 0, 1) := by decide +kernel
theorem d_sr_init_24 : decode (mcode M_sr_init) 24 = .ok (.istore_n 1, 1) := by decide +kernel
theorem d_sr_init_25 : decode (mcode M_sr_init) 25 = .ok (.iload_n 1, 1) := by decide +kernel
theorem d_sr_init_26 : decode (mcode M_sr_init) 26 = .ok (.aload_n 0, 1) := by decide +kernel
theorem d_sr_init_27 : decode (mcode M_sr_init) 27 = .ok (.getfield 18, 3) := by decide +kernel
theorem d_sr_init_30 : decode (mcode M_sr_init) 30 = .ok (.arraylength, 1) := by decide +kernel
theorem d_sr_init_31 : decode (mcode M_sr_init) 31 = .ok (.if_icmp .ge 16, 3) := by decide +kernel
theorem d_sr_init_34 : decode (mcode M_sr_init) 34 = .ok (.aload_n 0, 1) := by decide +kernel
theorem d_sr_init_35 : decode (mcode M_sr_init) 35 = .ok (.getfield 18, 3) := by decide +kernel
theorem d_sr_init_38 : decode (mcode M_sr_init) 38 = .ok (.iload_n 1, 1) := by decide +kernel
theorem d_sr_init_39 : decode (mcode M_sr_init) 39 = .ok (.iconst (-1), 1) := by decide +kernel
theorem d_sr_init_40 : decode (mcode M_sr_init) 40 = .ok (.iastore, 1) := by decide +kernel
theorem d_sr_init_41 : decode (mcode M_sr_init) 41 = .ok (.iinc 1 1, 3) := by decide +kernel
theorem d_sr_init_44 : decode (mcode M_sr_init) 44 = .ok (.goto (-19), 3) := by decide +kernel
theorem d_sr_init_47 : decode (mcode M_sr_init) 47 = .ok (.return_, 1) := by decide +kernel
theorem d_sr_append_0 : decode (mcode M_sr_append) 0 = .ok (.aload_n 0, 1) := by decide +kernel
theorem d_sr_append_1 : decode (mcode M_sr_append) 1 = .ok (.getfield 12, 3) := by decide +kernel
theorem d_sr_append_4 : decode (mcode M_sr_append) 4 = .ok (.invokevirtual 22, 3) := by decide +kernel
theorem d_sr_append_7 : decode (mcode M_sr_append) 7 = .ok (.bipush 8, 2) := by decide +kernel
theorem d_sr_append_9 : decode (mcode M_sr_append) 9 = .ok (.if_icmp .lt 5, 3) := by decide +kernel
theorem d_sr_append_12 : decode (mcode M_sr_append) 12 = .ok (.iconst 0, 1) := by decide +kernel
theorem d_sr_append_13 : decode (mcode M_sr_append) 13 = .ok (.ireturn, 1) := by decide +kernel
theorem d_sr_append_14 : decode (mcode M_sr_append) 14 = .ok (.aload_n 0, 1) := by decide +kernel
theorem d_sr_append_15 : decode (mcode M_sr_append) 15 = .ok (.getfield 12, 3) := by decide +kernel
theorem d_sr_append_18 : decode (mcode M_sr_append) 18 = .ok (.invokevirtual 26, 3) := by decide +kernel
theorem d_sr_append_21 : decode (mcode M_sr_append) 21 = .ok (.ifCond .ne 43, 3) := by decide +kernel
theorem d_sr_append_24 : decode (mcode M_sr_append) 24 = .ok (.aload_n 0, 1) := by decide +kernel
theorem d_sr_append_25 : decode (mcode M_sr_append) 25 = .ok (.getfield 12, 3) := by decide +kernel
theorem d_sr_append_28 : decode (mcode M_sr_append) 28 = .ok (.aload_n 0, 1) := by decide +kernel
theorem d_sr_append_29 : decode (mcode M_sr_append) 29 = .ok (.getfield 12, 3) := by decide +kernel
theorem d_sr_append_32 : decode (mcode M_sr_append) 32 = .ok (.invokevirtual 22, 3) := by decide +kernel
theorem d_sr_append_35 : decode (mcode M_sr_append) 35 = .ok (.iconst 1, 1) := by decide +kernel
theorem d_sr_append_36 : decode (mcode M_sr_append) 36 = .ok (.isub, 1) := by decide +kernel
theorem d_sr_append_37 : decode (mcode M_sr_append) 37 = .ok (.invokevirtual 30, 3) := by decide +kernel
theorem d_sr_append_40 : decode (mcode M_sr_append) 40 = .ok (.checkcast 34, 3) := by decide +kernel
theorem d_sr_append_43 : decode (mcode M_sr_append) 43 = .ok (.astore_n 2, 1) := by decide +kernel
theorem d_sr_append_44 : decode (mcode M_sr_append) 44 = .ok (.new 36, 3) := by decide +kernel
theorem d_sr_append_47 : decode (mcode M_sr_append) 47 = .ok (.dup, 1) := by decide +kernel
theorem d_sr_append_48 : decode (mcode M_sr_append) 48 = .ok (.aload_n 2, 1) := by decide +kernel
theorem d_sr_append_49 : decode (mcode M_sr_append) 49 = .ok (.aload_n 1, 1) := by decide +kernel
theorem d_sr_append_50 : decode (mcode M_sr_append) 50 = .ok (.invokespecial 38, 3) := by decide +kernel
theorem d_sr_append_53 : decode (mcode M_sr_append) 53 = .ok (.astore_n 3, 1) := by decide +kernel
theorem d_sr_append_54 : decode (mcode M_sr_append) 54 = .ok (.aload_n 2, 1) := by decide +kernel
theorem d_sr_append_55 : decode (mcode M_sr_append) 55 = .ok (.aload_n 3, 1) := by decide +kernel
theorem d_sr_append_56 : decode (mcode M_sr_append) 56 = .ok (.putfield 41, 3) := by decide +kernel
theorem d_sr_append_59 : decode (mcode M_sr_append) 59 = .ok (.aload_n 1, 1) := by decide +kernel
theorem d_sr_append_60 : decode (mcode M_sr_append) 60 = .ok (.aload_n 3, 1) := by decide +kernel
theorem d_sr_append_61 : decode (mcode M_sr_append) 61 = .ok (.putfield 45, 3) := by decide +kernel
theorem d_sr_append_64 : decode (mcode M_sr_append) 64 = .ok (.aload_n 0, 1) := by decide +kernel
theorem d_sr_append_65 : decode (mcode M_sr_append) 65 = .ok (.getfield 12, 3) := by decide +kernel
theorem d_sr_append_68 : decode (mcode M_sr_append) 68 = .ok (.aload_n 1, 1) := by decide +kernel
theorem d_sr_append_69 : decode (mcode M_sr_append) 69 = .ok (.invokevirtual 48, 3) := by decide +kernel
theorem d_sr_append_72 : decode (mcode M_sr_append) 72 = .ok (.pop, 1) := by decide +kernel
theorem d_sr_append_73 : decode (mcode M_sr_append) 73 = .ok (.iconst 1, 1) := by decide +kernel
theorem d_sr_append_74 : decode (mcode M_sr_append) 74 = .ok (.ireturn, 1) := by decide +kernel
theorem d_sr_canMeasure_0 : decode (mcode M_sr_canMeasure) 0 = .ok (.aload_n 0, 1) := by decide +kernel
theorem d_sr_canMeasure_1 : decode (mcode M_sr_canMeasure) 1 = .ok (.getfield 12, 3) := by decide +kernel
theorem d_sr_canMeasure_4 : decode (mcode M_sr_canMeasure) 4 = .ok (.invokevirtual 26, 3) := by decide +kernel
theorem d_sr_canMeasure_7 : decode (mcode M_sr_canMeasure) 7 = .ok (.ifCond .ne 28, 3) := by decide +kernel
theorem d_sr_canMeasure_10 : decode (mcode M_sr_canMeasure) 10 = .ok (.iload_n 1, 1) := by decide +kernel
theorem d_sr_canMeasure_11 : decode (mcode M_sr_canMeasure) 11 = .ok (.iconst 2, 1) := by decide +kernel
theorem d_sr_canMeasure_12 : decode (mcode M_sr_canMeasure) 12 = .ok (.aload_n 0, 1) := by decide +kernel
theorem d_sr_canMeasure_13 : decode (mcode M_sr_canMeasure) 13 = .ok (.getfield 12, 3) := by decide +kernel
theorem d_sr_canMeasure_16 : decode (mcode M_sr_canMeasure) 16 = .ok (.invokevirtual 22, 3) := by decide +kernel
theorem d_sr_canMeasure_19 : decode (mcode M_sr_canMeasure) 19 = .ok (.invokestatic 52, 3) := by decide +kernel
theorem d_sr_canMeasure_22 : decode (mcode M_sr_canMeasure) 22 = .ok (.sipush 300, 3) := by decide +kernel
theorem d_sr_canMeasure_25 : decode (mcode M_sr_canMeasure) 25 = .ok (.invokestatic 58, 3) := by decide +kernel
theorem d_sr_canMeasure_28 : decode (mcode M_sr_canMeasure) 28 = .ok (.ifCond .eq 7, 3) := by decide +kernel
theorem d_sr_canMeasure_31 : decode (mcode M_sr_canMeasure) 31 = .ok (.iconst 1, 1) := by decide +kernel
theorem d_sr_canMeasure_32 : decode (mcode M_sr_canMeasure) 32 = .ok (.goto 4, 3) := by decide +kernel
theorem d_sr_canMeasure_35 : decode (mcode M_sr_canMeasure) 35 = .ok (.iconst 0, 1) := by decide +kernel
theorem d_sr_canMeasure_36 : decode (mcode M_sr_canMeasure) 36 = .ok (.ireturn, 1) := by decide +kernel
theorem d_sr_frontOf_0 : decode (mcode M_sr_frontOf) 0 = .ok (.iload_n 1, 1) := by decide +kernel
theorem d_sr_frontOf_1 : decode (mcode M_sr_frontOf) 1 = .ok (.iconst 0, 1) := by decide +kernel
theorem d_sr_frontOf_2 : decode (mcode M_sr_frontOf) 2 = .ok (.aload_n 0, 1) := by decide +kernel
theorem d_sr_frontOf_3 : decode (mcode M_sr_frontOf) 3 = .ok (.getfield 12, 3) := by decide +kernel
theorem d_sr_frontOf_6 : decode (mcode M_sr_frontOf) 6 = .ok (.invokevirtual 22, 3) := by decide +kernel
theorem d_sr_frontOf_9 : decode (mcode M_sr_frontOf) 9 = .ok (.iconst 1, 1) := by decide +kernel
theorem d_sr_frontOf_10 : decode (mcode M_sr_frontOf) 10 = .ok (.isub, 1) := by decide +kernel
theorem d_sr_frontOf_11 : decode (mcode M_sr_frontOf) 11 = .ok (.invokestatic 58, 3) := by decide +kernel
theorem d_sr_frontOf_14 : decode (mcode M_sr_frontOf) 14 = .ok (.ifCond .eq 20, 3) := by decide +kernel
theorem d_sr_frontOf_17 : decode (mcode M_sr_frontOf) 17 = .ok (.aload_n 0, 1) := by decide +kernel
theorem d_sr_frontOf_18 : decode (mcode M_sr_frontOf) 18 = .ok (.getfield 12, 3) := by decide +kernel
theorem d_sr_frontOf_21 : decode (mcode M_sr_frontOf) 21 = .ok (.iload_n 1, 1) := by decide +kernel
theorem d_sr_frontOf_22 : decode (mcode M_sr_frontOf) 22 = .ok (.invokevirtual 30, 3) := by decide +kernel
theorem d_sr_frontOf_25 : decode (mcode M_sr_frontOf) 25 = .ok (.checkcast 34, 3) := by decide +kernel
theorem d_sr_frontOf_28 : decode (mcode M_sr_frontOf) 28 = .ok (.getfield 62, 3) := by decide +kernel
theorem d_sr_frontOf_31 : decode (mcode M_sr_frontOf) 31 = .ok (.goto 4, 3) := by decide +kernel
theorem d_sr_frontOf_34 : decode (mcode M_sr_frontOf) 34 = .ok (.iconst 0, 1) := by decide +kernel
theorem d_sr_frontOf_35 : decode (mcode M_sr_frontOf) 35 = .ok (.ireturn, 1) := by decide +kernel
theorem d_sr_stakeGap_0 : decode (mcode M_sr_stakeGap) 0 = .ok (.iload_n 1, 1) := by decide +kernel
theorem d_sr_stakeGap_1 : decode (mcode M_sr_stakeGap) 1 = .ok (.iconst 0, 1) := by decide +kernel
theorem d_sr_stakeGap_2 : decode (mcode M_sr_stakeGap) 2 = .ok (.aload_n 0, 1) := by decide +kernel
theorem d_sr_stakeGap_3 : decode (mcode M_sr_stakeGap) 3 = .ok (.getfield 18, 3) := by decide +kernel
theorem d_sr_stakeGap_6 : decode (mcode M_sr_stakeGap) 6 = .ok (.arraylength, 1) := by decide +kernel
theorem d_sr_stakeGap_7 : decode (mcode M_sr_stakeGap) 7 = .ok (.iconst 1, 1) := by decide +kernel
theorem d_sr_stakeGap_8 : decode (mcode M_sr_stakeGap) 8 = .ok (.isub, 1) := by decide +kernel
theorem d_sr_stakeGap_9 : decode (mcode M_sr_stakeGap) 9 = .ok (.invokestatic 58, 3) := by decide +kernel
theorem d_sr_stakeGap_12 : decode (mcode M_sr_stakeGap) 12 = .ok (.ifCond .eq 13, 3) := by decide +kernel
theorem d_sr_stakeGap_15 : decode (mcode M_sr_stakeGap) 15 = .ok (.aload_n 0, 1) := by decide +kernel
theorem d_sr_stakeGap_16 : decode (mcode M_sr_stakeGap) 16 = .ok (.getfield 18, 3) := by decide +kernel
theorem d_sr_stakeGap_19 : decode (mcode M_sr_stakeGap) 19 = .ok (.iload_n 1, 1) := by decide +kernel
theorem d_sr_stakeGap_20 : decode (mcode M_sr_stakeGap) 20 = .ok (.iaload, 1) := by decide +kernel
theorem d_sr_stakeGap_21 : decode (mcode M_sr_stakeGap) 21 = .ok (.iconst (-1), 1) := by decide +kernel
theorem d_sr_stakeGap_22 : decode (mcode M_sr_stakeGap) 22 = .ok (.if_icmp .ne 5, 3) := by decide +kernel
theorem d_sr_stakeGap_25 : decode (mcode M_sr_stakeGap) 25 = .ok (.iconst 0, 1) := by decide +kernel
theorem d_sr_stakeGap_26 : decode (mcode M_sr_stakeGap) 26 = .ok (.ireturn, 1) := by decide +kernel
theorem d_sr_stakeGap_27 : decode (mcode M_sr_stakeGap) 27 = .ok (.iload_n 2, 1) := by decide +kernel
theorem d_sr_stakeGap_28 : decode (mcode M_sr_stakeGap) 28 = .ok (.aload_n 0, 1) := by decide +kernel
theorem d_sr_stakeGap_29 : decode (mcode M_sr_stakeGap) 29 = .ok (.getfield 18, 3) := by decide +kernel
theorem d_sr_stakeGap_32 : decode (mcode M_sr_stakeGap) 32 = .ok (.iload_n 1, 1) := by decide +kernel
theorem d_sr_stakeGap_33 : decode (mcode M_sr_stakeGap) 33 = .ok (.iaload, 1) := by decide +kernel
theorem d_sr_stakeGap_34 : decode (mcode M_sr_stakeGap) 34 = .ok (.isub, 1) := by decide +kernel
theorem d_sr_stakeGap_35 : decode (mcode M_sr_stakeGap) 35 = .ok (.invokestatic 66, 3) := by decide +kernel
theorem d_sr_stakeGap_38 : decode (mcode M_sr_stakeGap) 38 = .ok (.ireturn, 1) := by decide +kernel
theorem d_sv_init_0 : decode (mcode M_sv_init) 0 = .ok (.aload_n 0, 1) := by decide +kernel
theorem d_sv_init_1 : decode (mcode M_sv_init) 1 = .ok (.invokespecial 3, 3) := by decide +kernel
theorem d_sv_init_4 : decode (mcode M_sv_init) 4 = .ok (.aload_n 0, 1) := by decide +kernel
theorem d_sv_init_5 : decode (mcode M_sv_init) 5 = .ok (.bipush 8, 2) := by decide +kernel
theorem d_sv_init_7 : decode (mcode M_sv_init) 7 = .ok (.sipush 301, 3) := by decide +kernel
theorem d_sv_init_10 : decode (mcode M_sv_init) 10 = .ok (.multianewarray 9 2, 4) := by decide +kernel
theorem d_sv_init_14 : decode (mcode M_sv_init) 14 = .ok (.putfield 11, 3) := by decide +kernel
theorem d_sv_init_17 : decode (mcode M_sv_init) 17 = .ok (.return_, 1) := by decide +kernel
theorem d_sv_measure_0 : decode (mcode M_sv_measure) 0 = .ok (.aload_n 1, 1) := by decide +kernel
theorem d_sv_measure_1 : decode (mcode M_sv_measure) 1 = .ok (.getfield 16, 3) := by decide +kernel
theorem d_sv_measure_4 : decode (mcode M_sv_measure) 4 = .ok (.invokevirtual 22, 3) := by decide +kernel
theorem d_sv_measure_7 : decode (mcode M_sv_measure) 7 = .ok (.iconst 1, 1) := by decide +kernel
theorem d_sv_measure_8 : decode (mcode M_sv_measure) 8 = .ok (.isub, 1) := by decide +kernel
theorem d_sv_measure_9 : decode (mcode M_sv_measure) 9 = .ok (.istore_n 3, 1) := by decide +kernel
theorem d_sv_measure_10 : decode (mcode M_sv_measure) 10 = .ok (.iload_n 3, 1) := by decide +kernel
theorem d_sv_measure_11 : decode (mcode M_sv_measure) 11 = .ok (.iconst 0, 1) := by decide +kernel
theorem d_sv_measure_12 : decode (mcode M_sv_measure) 12 = .ok (.bipush 7, 2) := by decide +kernel
theorem d_sv_measure_14 : decode (mcode M_sv_measure) 14 = .ok (.invokestatic 28, 3) := by decide +kernel
theorem d_sv_measure_17 : decode (mcode M_sv_measure) 17 = .ok (.ifCond .eq 14, 3) := by decide +kernel
theorem d_sv_measure_20 : decode (mcode M_sv_measure) 20 = .ok (.iload_n 2, 1) := by decide +kernel
theorem d_sv_measure_21 : decode (mcode M_sv_measure) 21 = .ok (.iconst 1, 1) := by decide +kernel
theorem d_sv_measure_22 : decode (mcode M_sv_measure) 22 = .ok (.sipush 300, 3) := by decide +kernel
theorem d_sv_measure_25 : decode (mcode M_sv_measure) 25 = .ok (.invokestatic 28, 3) := by decide +kernel
theorem d_sv_measure_28 : decode (mcode M_sv_measure) 28 = .ok (.ifCond .ne 4, 3) := by decide +kernel
theorem d_sv_measure_31 : decode (mcode M_sv_measure) 31 = .ok (.return_, 1) := by decide +kernel
theorem d_sv_measure_32 : decode (mcode M_sv_measure) 32 = .ok (.aload_n 0, 1) := by decide +kernel
theorem d_sv_measure_33 : decode (mcode M_sv_measure) 33 = .ok (.getfield 11, 3) := by decide +kernel
theorem d_sv_measure_36 : decode (mcode M_sv_measure) 36 = .ok (.iload_n 3, 1) := by decide +kernel
theorem d_sv_measure_37 : decode (mcode M_sv_measure) 37 = .ok (.aaload, 1) := by decide +kernel
theorem d_sv_measure_38 : decode (mcode M_sv_measure) 38 = .ok (.iload_n 2, 1) := by decide +kernel
theorem d_sv_measure_39 : decode (mcode M_sv_measure) 39 = .ok (.iconst 0, 1) := by decide +kernel
theorem d_sv_measure_40 : decode (mcode M_sv_measure) 40 = .ok (.iastore, 1) := by decide +kernel
theorem d_sv_measure_41 : decode (mcode M_sv_measure) 41 = .ok (.iload_n 3, 1) := by decide +kernel
theorem d_sv_measure_42 : decode (mcode M_sv_measure) 42 = .ok (.iconst 1, 1) := by decide +kernel
theorem d_sv_measure_43 : decode (mcode M_sv_measure) 43 = .ok (.isub, 1) := by decide +kernel
theorem d_sv_measure_44 : decode (mcode M_sv_measure) 44 = .ok (.istore 4, 2) := by decide +kernel
theorem d_sv_measure_46 : decode (mcode M_sv_measure) 46 = .ok (.iload 4, 2) := by decide +kernel
theorem d_sv_measure_48 : decode (mcode M_sv_measure) 48 = .ok (.ifCond .lt 22, 3) := by decide +kernel
theorem d_sv_measure_51 : decode (mcode M_sv_measure) 51 = .ok (.aload_n 0, 1) := by decide +kernel
theorem d_sv_measure_52 : decode (mcode M_sv_measure) 52 = .ok (.aload_n 1, 1) := by decide +kernel
theorem d_sv_measure_53 : decode (mcode M_sv_measure) 53 = .ok (.iload 4, 2) := by decide +kernel
theorem d_sv_measure_55 : decode (mcode M_sv_measure) 55 = .ok (.iload_n 2, 1) := by decide +kernel
theorem d_sv_measure_56 : decode (mcode M_sv_measure) 56 = .ok (.iload_n 3, 1) := by decide +kernel
theorem d_sv_measure_57 : decode (mcode M_sv_measure) 57 = .ok (.iload 4, 2) := by decide +kernel
theorem d_sv_measure_59 : decode (mcode M_sv_measure) 59 = .ok (.isub, 1) := by decide +kernel
theorem d_sv_measure_60 : decode (mcode M_sv_measure) 60 = .ok (.isub, 1) := by decide +kernel
theorem d_sv_measure_61 : decode (mcode M_sv_measure) 61 = .ok (.invokevirtual 32, 3) := by decide +kernel
theorem d_sv_measure_64 : decode (mcode M_sv_measure) 64 = .ok (.iinc 4 (-1), 3) := by decide +kernel
theorem d_sv_measure_67 : decode (mcode M_sv_measure) 67 = .ok (.goto (-21), 3) := by decide +kernel
theorem d_sv_measure_70 : decode (mcode M_sv_measure) 70 = .ok (.return_, 1) := by decide +kernel
theorem d_sv_fillRow_0 : decode (mcode M_sv_fillRow) 0 = .ok (.iload_n 2, 1) := by decide +kernel
theorem d_sv_fillRow_1 : decode (mcode M_sv_fillRow) 1 = .ok (.iconst 1, 1) := by decide +kernel
theorem d_sv_fillRow_2 : decode (mcode M_sv_fillRow) 2 = .ok (.iadd, 1) := by decide +kernel
theorem d_sv_fillRow_3 : decode (mcode M_sv_fillRow) 3 = .ok (.aload_n 1, 1) := by decide +kernel
theorem d_sv_fillRow_4 : decode (mcode M_sv_fillRow) 4 = .ok (.getfield 16, 3) := by decide +kernel
theorem d_sv_fillRow_7 : decode (mcode M_sv_fillRow) 7 = .ok (.invokevirtual 22, 3) := by decide +kernel
theorem d_sv_fillRow_10 : decode (mcode M_sv_fillRow) 10 = .ok (.iconst 1, 1) := by decide +kernel
theorem d_sv_fillRow_11 : decode (mcode M_sv_fillRow) 11 = .ok (.isub, 1) := by decide +kernel
theorem d_sv_fillRow_12 : decode (mcode M_sv_fillRow) 12 = .ok (.if_icmp .ne 7, 3) := by decide +kernel
theorem d_sv_fillRow_15 : decode (mcode M_sv_fillRow) 15 = .ok (.iconst 1, 1) := by decide +kernel
theorem d_sv_fillRow_16 : decode (mcode M_sv_fillRow) 16 = .ok (.goto 4, 3) := by decide +kernel
theorem d_sv_fillRow_19 : decode (mcode M_sv_fillRow) 19 = .ok (.iconst 0, 1) := by decide +kernel
theorem d_sv_fillRow_20 : decode (mcode M_sv_fillRow) 20 = .ok (.istore 4, 2) := by decide +kernel
theorem d_sv_fillRow_22 : decode (mcode M_sv_fillRow) 22 = .ok (.aload_n 1, 1) := by decide +kernel
theorem d_sv_fillRow_23 : decode (mcode M_sv_fillRow) 23 = .ok (.iload_n 2, 1) := by decide +kernel
theorem d_sv_fillRow_24 : decode (mcode M_sv_fillRow) 24 = .ok (.iconst 1, 1) := by decide +kernel
theorem d_sv_fillRow_25 : decode (mcode M_sv_fillRow) 25 = .ok (.iadd, 1) := by decide +kernel
theorem d_sv_fillRow_26 : decode (mcode M_sv_fillRow) 26 = .ok (.invokevirtual 36, 3) := by decide +kernel
theorem d_sv_fillRow_29 : decode (mcode M_sv_fillRow) 29 = .ok (.istore 5, 2) := by decide +kernel
theorem d_sv_fillRow_31 : decode (mcode M_sv_fillRow) 31 = .ok (.iload 4, 2) := by decide +kernel
theorem d_sv_fillRow_33 : decode (mcode M_sv_fillRow) 33 = .ok (.ifCond .eq 9, 3) := by decide +kernel
theorem d_sv_fillRow_36 : decode (mcode M_sv_fillRow) 36 = .ok (.iload_n 3, 1) := by decide +kernel
theorem d_sv_fillRow_37 : decode (mcode M_sv_fillRow) 37 = .ok (.iconst 1, 1) := by decide +kernel
theorem d_sv_fillRow_38 : decode (mcode M_sv_fillRow) 38 = .ok (.iadd, 1) := by decide +kernel
theorem d_sv_fillRow_39 : decode (mcode M_sv_fillRow) 39 = .ok (.goto 6, 3) := by decide +kernel
theorem d_sv_fillRow_42 : decode (mcode M_sv_fillRow) 42 = .ok (.iload_n 2, 1) := by decide +kernel
theorem d_sv_fillRow_43 : decode (mcode M_sv_fillRow) 43 = .ok (.iconst 2, 1) := by decide +kernel
theorem d_sv_fillRow_44 : decode (mcode M_sv_fillRow) 44 = .ok (.iadd, 1) := by decide +kernel
theorem d_sv_fillRow_45 : decode (mcode M_sv_fillRow) 45 = .ok (.istore 6, 2) := by decide +kernel
theorem d_sv_fillRow_47 : decode (mcode M_sv_fillRow) 47 = .ok (.iload_n 2, 1) := by decide +kernel
theorem d_sv_fillRow_48 : decode (mcode M_sv_fillRow) 48 = .ok (.iconst 1, 1) := by decide +kernel
theorem d_sv_fillRow_49 : decode (mcode M_sv_fillRow) 49 = .ok (.iadd, 1) := by decide +kernel
theorem d_sv_fillRow_50 : decode (mcode M_sv_fillRow) 50 = .ok (.istore 7, 2) := by decide +kernel
theorem d_sv_fillRow_52 : decode (mcode M_sv_fillRow) 52 = .ok (.iload 7, 2) := by decide +kernel
theorem d_sv_fillRow_54 : decode (mcode M_sv_fillRow) 54 = .ok (.iload_n 3, 1) := by decide +kernel
theorem d_sv_fillRow_55 : decode (mcode M_sv_fillRow) 55 = .ok (.if_icmp .gt 74, 3) := by decide +kernel
theorem d_sv_fillRow_58 : decode (mcode M_sv_fillRow) 58 = .ok (.aload_n 0, 1) := by decide +kernel
theorem d_sv_fillRow_59 : decode (mcode M_sv_fillRow) 59 = .ok (.getfield 11, 3) := by decide +kernel
theorem d_sv_fillRow_62 : decode (mcode M_sv_fillRow) 62 = .ok (.iload_n 2, 1) := by decide +kernel
theorem d_sv_fillRow_63 : decode (mcode M_sv_fillRow) 63 = .ok (.iconst 1, 1) := by decide +kernel
theorem d_sv_fillRow_64 : decode (mcode M_sv_fillRow) 64 = .ok (.iadd, 1) := by decide +kernel
theorem d_sv_fillRow_65 : decode (mcode M_sv_fillRow) 65 = .ok (.aaload, 1) := by decide +kernel
theorem d_sv_fillRow_66 : decode (mcode M_sv_fillRow) 66 = .ok (.iload 7, 2) := by decide +kernel
theorem d_sv_fillRow_68 : decode (mcode M_sv_fillRow) 68 = .ok (.iload 5, 2) := by decide +kernel
theorem d_sv_fillRow_70 : decode (mcode M_sv_fillRow) 70 = .ok (.iadd, 1) := by decide +kernel
theorem d_sv_fillRow_71 : decode (mcode M_sv_fillRow) 71 = .ok (.iload 6, 2) := by decide +kernel
theorem d_sv_fillRow_73 : decode (mcode M_sv_fillRow) 73 = .ok (.iload 7, 2) := by decide +kernel
theorem d_sv_fillRow_75 : decode (mcode M_sv_fillRow) 75 = .ok (.iconst 1, 1) := by decide +kernel
theorem d_sv_fillRow_76 : decode (mcode M_sv_fillRow) 76 = .ok (.iadd, 1) := by decide +kernel
theorem d_sv_fillRow_77 : decode (mcode M_sv_fillRow) 77 = .ok (.invokestatic 40, 3) := by decide +kernel
theorem d_sv_fillRow_80 : decode (mcode M_sv_fillRow) 80 = .ok (.iload_n 3, 1) := by decide +kernel
theorem d_sv_fillRow_81 : decode (mcode M_sv_fillRow) 81 = .ok (.iconst 1, 1) := by decide +kernel
theorem d_sv_fillRow_82 : decode (mcode M_sv_fillRow) 82 = .ok (.iadd, 1) := by decide +kernel
theorem d_sv_fillRow_83 : decode (mcode M_sv_fillRow) 83 = .ok (.invokestatic 46, 3) := by decide +kernel
theorem d_sv_fillRow_86 : decode (mcode M_sv_fillRow) 86 = .ok (.istore 6, 2) := by decide +kernel
theorem d_sv_fillRow_88 : decode (mcode M_sv_fillRow) 88 = .ok (.aload_n 0, 1) := by decide +kernel
theorem d_sv_fillRow_89 : decode (mcode M_sv_fillRow) 89 = .ok (.getfield 11, 3) := by decide +kernel
theorem d_sv_fillRow_92 : decode (mcode M_sv_fillRow) 92 = .ok (.iload_n 2, 1) := by decide +kernel
theorem d_sv_fillRow_93 : decode (mcode M_sv_fillRow) 93 = .ok (.aaload, 1) := by decide +kernel
theorem d_sv_fillRow_94 : decode (mcode M_sv_fillRow) 94 = .ok (.iload 7, 2) := by decide +kernel
theorem d_sv_fillRow_96 : decode (mcode M_sv_fillRow) 96 = .ok (.aload_n 1, 1) := by decide +kernel
theorem d_sv_fillRow_97 : decode (mcode M_sv_fillRow) 97 = .ok (.iload_n 2, 1) := by decide +kernel
theorem d_sv_fillRow_98 : decode (mcode M_sv_fillRow) 98 = .ok (.iload 7, 2) := by decide +kernel
theorem d_sv_fillRow_100 : decode (mcode M_sv_fillRow) 100 = .ok (.invokevirtual 50, 3) := by decide +kernel
theorem d_sv_fillRow_103 : decode (mcode M_sv_fillRow) 103 = .ok (.aload_n 0, 1) := by decide +kernel
theorem d_sv_fillRow_104 : decode (mcode M_sv_fillRow) 104 = .ok (.getfield 11, 3) := by decide +kernel
theorem d_sv_fillRow_107 : decode (mcode M_sv_fillRow) 107 = .ok (.iload_n 2, 1) := by decide +kernel
theorem d_sv_fillRow_108 : decode (mcode M_sv_fillRow) 108 = .ok (.iconst 1, 1) := by decide +kernel
theorem d_sv_fillRow_109 : decode (mcode M_sv_fillRow) 109 = .ok (.iadd, 1) := by decide +kernel
theorem d_sv_fillRow_110 : decode (mcode M_sv_fillRow) 110 = .ok (.aaload, 1) := by decide +kernel
theorem d_sv_fillRow_111 : decode (mcode M_sv_fillRow) 111 = .ok (.iload 7, 2) := by decide +kernel
theorem d_sv_fillRow_113 : decode (mcode M_sv_fillRow) 113 = .ok (.iload 5, 2) := by decide +kernel
theorem d_sv_fillRow_115 : decode (mcode M_sv_fillRow) 115 = .ok (.iadd, 1) := by decide +kernel
theorem d_sv_fillRow_116 : decode (mcode M_sv_fillRow) 116 = .ok (.iload 6, 2) := by decide +kernel
theorem d_sv_fillRow_118 : decode (mcode M_sv_fillRow) 118 = .ok (.invokestatic 53, 3) := by decide +kernel
theorem d_sv_fillRow_121 : decode (mcode M_sv_fillRow) 121 = .ok (.iadd, 1) := by decide +kernel
theorem d_sv_fillRow_122 : decode (mcode M_sv_fillRow) 122 = .ok (.iastore, 1) := by decide +kernel
theorem d_sv_fillRow_123 : decode (mcode M_sv_fillRow) 123 = .ok (.iinc 7 1, 3) := by decide +kernel
theorem d_sv_fillRow_126 : decode (mcode M_sv_fillRow) 126 = .ok (.goto (-74), 3) := by decide +kernel
theorem d_sv_fillRow_129 : decode (mcode M_sv_fillRow) 129 = .ok (.return_, 1) := by decide +kernel
theorem d_sv_quarrelAt_0 : decode (mcode M_sv_quarrelAt) 0 = .ok (.iload_n 2, 1) := by decide +kernel
theorem d_sv_quarrelAt_1 : decode (mcode M_sv_quarrelAt) 1 = .ok (.iconst 0, 1) := by decide +kernel
theorem d_sv_quarrelAt_2 : decode (mcode M_sv_quarrelAt) 2 = .ok (.aload_n 0, 1) := by decide +kernel
theorem d_sv_quarrelAt_3 : decode (mcode M_sv_quarrelAt) 3 = .ok (.arraylength, 1) := by decide +kernel
theorem d_sv_quarrelAt_4 : decode (mcode M_sv_quarrelAt) 4 = .ok (.iconst 1, 1) := by decide +kernel
theorem d_sv_quarrelAt_5 : decode (mcode M_sv_quarrelAt) 5 = .ok (.isub, 1) := by decide +kernel
theorem d_sv_quarrelAt_6 : decode (mcode M_sv_quarrelAt) 6 = .ok (.invokestatic 28, 3) := by decide +kernel
theorem d_sv_quarrelAt_9 : decode (mcode M_sv_quarrelAt) 9 = .ok (.ifCond .eq 16, 3) := by decide +kernel
theorem d_sv_quarrelAt_12 : decode (mcode M_sv_quarrelAt) 12 = .ok (.iload_n 2, 1) := by decide +kernel
theorem d_sv_quarrelAt_13 : decode (mcode M_sv_quarrelAt) 13 = .ok (.iload_n 1, 1) := by decide +kernel
theorem d_sv_quarrelAt_14 : decode (mcode M_sv_quarrelAt) 14 = .ok (.isub, 1) := by decide +kernel
theorem d_sv_quarrelAt_15 : decode (mcode M_sv_quarrelAt) 15 = .ok (.invokestatic 57, 3) := by decide +kernel
theorem d_sv_quarrelAt_18 : decode (mcode M_sv_quarrelAt) 18 = .ok (.aload_n 0, 1) := by decide +kernel
theorem d_sv_quarrelAt_19 : decode (mcode M_sv_quarrelAt) 19 = .ok (.iload_n 2, 1) := by decide +kernel
theorem d_sv_quarrelAt_20 : decode (mcode M_sv_quarrelAt) 20 = .ok (.iaload, 1) := by decide +kernel
theorem d_sv_quarrelAt_21 : decode (mcode M_sv_quarrelAt) 21 = .ok (.iadd, 1) := by decide +kernel
theorem d_sv_quarrelAt_22 : decode (mcode M_sv_quarrelAt) 22 = .ok (.goto 4, 3) := by decide +kernel
theorem d_sv_quarrelAt_25 : decode (mcode M_sv_quarrelAt) 25 = .ok (.iconst 0, 1) := by decide +kernel
theorem d_sv_quarrelAt_26 : decode (mcode M_sv_quarrelAt) 26 = .ok (.ireturn, 1) := by decide +kernel
theorem d_sv_firstBest_0 : decode (mcode M_sv_firstBest) 0 = .ok (.iload_n 2, 1) := by decide +kernel
theorem d_sv_firstBest_1 : decode (mcode M_sv_firstBest) 1 = .ok (.istore 4, 2) := by decide +kernel
theorem d_sv_firstBest_3 : decode (mcode M_sv_firstBest) 3 = .ok (.aload_n 0, 1) := by decide +kernel
theorem d_sv_firstBest_4 : decode (mcode M_sv_firstBest) 4 = .ok (.iload_n 1, 1) := by decide +kernel
theorem d_sv_firstBest_5 : decode (mcode M_sv_firstBest) 5 = .ok (.iload 4, 2) := by decide +kernel
theorem d_sv_firstBest_7 : decode (mcode M_sv_firstBest) 7 = .ok (.invokestatic 53, 3) := by decide +kernel
theorem d_sv_firstBest_10 : decode (mcode M_sv_firstBest) 10 = .ok (.istore 5, 2) := by decide +kernel
theorem d_sv_firstBest_12 : decode (mcode M_sv_firstBest) 12 = .ok (.iload 4, 2) := by decide +kernel
theorem d_sv_firstBest_14 : decode (mcode M_sv_firstBest) 14 = .ok (.iload_n 3, 1) := by decide +kernel
theorem d_sv_firstBest_15 : decode (mcode M_sv_firstBest) 15 = .ok (.if_icmp .ge 34, 3) := by decide +kernel
theorem d_sv_firstBest_18 : decode (mcode M_sv_firstBest) 18 = .ok (.aload_n 0, 1) := by decide +kernel
theorem d_sv_firstBest_19 : decode (mcode M_sv_firstBest) 19 = .ok (.iload_n 1, 1) := by decide +kernel
theorem d_sv_firstBest_20 : decode (mcode M_sv_firstBest) 20 = .ok (.iload 4, 2) := by decide +kernel
theorem d_sv_firstBest_22 : decode (mcode M_sv_firstBest) 22 = .ok (.iconst 1, 1) := by decide +kernel
theorem d_sv_firstBest_23 : decode (mcode M_sv_firstBest) 23 = .ok (.iadd, 1) := by decide +kernel
theorem d_sv_firstBest_24 : decode (mcode M_sv_firstBest) 24 = .ok (.invokestatic 53, 3) := by decide +kernel
theorem d_sv_firstBest_27 : decode (mcode M_sv_firstBest) 27 = .ok (.istore 6, 2) := by decide +kernel
theorem d_sv_firstBest_29 : decode (mcode M_sv_firstBest) 29 = .ok (.iload 6, 2) := by decide +kernel
theorem d_sv_firstBest_31 : decode (mcode M_sv_firstBest) 31 = .ok (.iload 5, 2) := by decide +kernel
theorem d_sv_firstBest_33 : decode (mcode M_sv_firstBest) 33 = .ok (.if_icmp .lt 6, 3) := by decide +kernel
theorem d_sv_firstBest_36 : decode (mcode M_sv_firstBest) 36 = .ok (.iload 4, 2) := by decide +kernel
theorem d_sv_firstBest_38 : decode (mcode M_sv_firstBest) 38 = .ok (.ireturn, 1) := by decide +kernel
theorem d_sv_firstBest_39 : decode (mcode M_sv_firstBest) 39 = .ok (.iload 6, 2) := by decide +kernel
theorem d_sv_firstBest_41 : decode (mcode M_sv_firstBest) 41 = .ok (.istore 5, 2) := by decide +kernel
theorem d_sv_firstBest_43 : decode (mcode M_sv_firstBest) 43 = .ok (.iinc 4 1, 3) := by decide +kernel
theorem d_sv_firstBest_46 : decode (mcode M_sv_firstBest) 46 = .ok (.goto (-34), 3) := by decide +kernel
theorem d_sv_firstBest_49 : decode (mcode M_sv_firstBest) 49 = .ok (.iload 4, 2) := by decide +kernel
theorem d_sv_firstBest_51 : decode (mcode M_sv_firstBest) 51 = .ok (.ireturn, 1) := by decide +kernel
theorem d_sv_leastQuarrel_0 : decode (mcode M_sv_leastQuarrel) 0 = .ok (.aload_n 0, 1) := by decide +kernel
theorem d_sv_leastQuarrel_1 : decode (mcode M_sv_leastQuarrel) 1 = .ok (.getfield 11, 3) := by decide +kernel
theorem d_sv_leastQuarrel_4 : decode (mcode M_sv_leastQuarrel) 4 = .ok (.iconst 0, 1) := by decide +kernel
theorem d_sv_leastQuarrel_5 : decode (mcode M_sv_leastQuarrel) 5 = .ok (.aaload, 1) := by decide +kernel
theorem d_sv_leastQuarrel_6 : decode (mcode M_sv_leastQuarrel) 6 = .ok (.aload_n 1, 1) := by decide +kernel
theorem d_sv_leastQuarrel_7 : decode (mcode M_sv_leastQuarrel) 7 = .ok (.iconst 0, 1) := by decide +kernel
theorem d_sv_leastQuarrel_8 : decode (mcode M_sv_leastQuarrel) 8 = .ok (.invokevirtual 36, 3) := by decide +kernel
theorem d_sv_leastQuarrel_11 : decode (mcode M_sv_leastQuarrel) 11 = .ok (.aload_n 0, 1) := by decide +kernel
theorem d_sv_leastQuarrel_12 : decode (mcode M_sv_leastQuarrel) 12 = .ok (.aload_n 1, 1) := by decide +kernel
theorem d_sv_leastQuarrel_13 : decode (mcode M_sv_leastQuarrel) 13 = .ok (.iload_n 2, 1) := by decide +kernel
theorem d_sv_leastQuarrel_14 : decode (mcode M_sv_leastQuarrel) 14 = .ok (.iconst 0, 1) := by decide +kernel
theorem d_sv_leastQuarrel_15 : decode (mcode M_sv_leastQuarrel) 15 = .ok (.iconst 0, 1) := by decide +kernel
theorem d_sv_leastQuarrel_16 : decode (mcode M_sv_leastQuarrel) 16 = .ok (.invokevirtual 60, 3) := by decide +kernel
theorem d_sv_leastQuarrel_19 : decode (mcode M_sv_leastQuarrel) 19 = .ok (.invokestatic 53, 3) := by decide +kernel
theorem d_sv_leastQuarrel_22 : decode (mcode M_sv_leastQuarrel) 22 = .ok (.ireturn, 1) := by decide +kernel
theorem d_sv_borderBehind_0 : decode (mcode M_sv_borderBehind) 0 = .ok (.iconst 0, 1) := by decide +kernel
theorem d_sv_borderBehind_1 : decode (mcode M_sv_borderBehind) 1 = .ok (.istore 4, 2) := by decide +kernel
theorem d_sv_borderBehind_3 : decode (mcode M_sv_borderBehind) 3 = .ok (.iconst 0, 1) := by decide +kernel
theorem d_sv_borderBehind_4 : decode (mcode M_sv_borderBehind) 4 = .ok (.istore 5, 2) := by decide +kernel
theorem d_sv_borderBehind_6 : decode (mcode M_sv_borderBehind) 6 = .ok (.iload 5, 2) := by decide +kernel
theorem d_sv_borderBehind_8 : decode (mcode M_sv_borderBehind) 8 = .ok (.iload_n 3, 1) := by decide +kernel
theorem d_sv_borderBehind_9 : decode (mcode M_sv_borderBehind) 9 = .ok (.if_icmp .gt 28, 3) := by decide +kernel
theorem d_sv_borderBehind_12 : decode (mcode M_sv_borderBehind) 12 = .ok (.iload 5, 2) := by decide +kernel
theorem d_sv_borderBehind_14 : decode (mcode M_sv_borderBehind) 14 = .ok (.bipush 8, 2) := by decide +kernel
theorem d_sv_borderBehind_16 : decode (mcode M_sv_borderBehind) 16 = .ok (.if_icmp .ge 21, 3) := by decide +kernel
theorem d_sv_borderBehind_19 : decode (mcode M_sv_borderBehind) 19 = .ok (.aload_n 0, 1) := by decide +kernel
theorem d_sv_borderBehind_20 : decode (mcode M_sv_borderBehind) 20 = .ok (.aload_n 1, 1) := by decide +kernel
theorem d_sv_borderBehind_21 : decode (mcode M_sv_borderBehind) 21 = .ok (.iload_n 2, 1) := by decide +kernel
theorem d_sv_borderBehind_22 : decode (mcode M_sv_borderBehind) 22 = .ok (.iload 5, 2) := by decide +kernel
theorem d_sv_borderBehind_24 : decode (mcode M_sv_borderBehind) 24 = .ok (.iload 4, 2) := by decide +kernel
theorem d_sv_borderBehind_26 : decode (mcode M_sv_borderBehind) 26 = .ok (.invokevirtual 60, 3) := by decide +kernel
theorem d_sv_borderBehind_29 : decode (mcode M_sv_borderBehind) 29 = .ok (.istore 4, 2) := by decide +kernel
theorem d_sv_borderBehind_31 : decode (mcode M_sv_borderBehind) 31 = .ok (.iinc 5 1, 3) := by decide +kernel
theorem d_sv_borderBehind_34 : decode (mcode M_sv_borderBehind) 34 = .ok (.goto (-28), 3) := by decide +kernel
theorem d_sv_borderBehind_37 : decode (mcode M_sv_borderBehind) 37 = .ok (.iload 4, 2) := by decide +kernel
theorem d_sv_borderBehind_39 : decode (mcode M_sv_borderBehind) 39 = .ok (.ireturn, 1) := by decide +kernel
theorem d_sv_endOf_0 : decode (mcode M_sv_endOf) 0 = .ok (.aload_n 1, 1) := by decide +kernel
theorem d_sv_endOf_1 : decode (mcode M_sv_endOf) 1 = .ok (.getfield 16, 3) := by decide +kernel
theorem d_sv_endOf_4 : decode (mcode M_sv_endOf) 4 = .ok (.invokevirtual 22, 3) := by decide +kernel
theorem d_sv_endOf_7 : decode (mcode M_sv_endOf) 7 = .ok (.iconst 1, 1) := by decide +kernel
theorem d_sv_endOf_8 : decode (mcode M_sv_endOf) 8 = .ok (.isub, 1) := by decide +kernel
theorem d_sv_endOf_9 : decode (mcode M_sv_endOf) 9 = .ok (.istore 5, 2) := by decide +kernel
theorem d_sv_endOf_11 : decode (mcode M_sv_endOf) 11 = .ok (.iload_n 3, 1) := by decide +kernel
theorem d_sv_endOf_12 : decode (mcode M_sv_endOf) 12 = .ok (.iconst 0, 1) := by decide +kernel
theorem d_sv_endOf_13 : decode (mcode M_sv_endOf) 13 = .ok (.iload 5, 2) := by decide +kernel
theorem d_sv_endOf_15 : decode (mcode M_sv_endOf) 15 = .ok (.iconst 1, 1) := by decide +kernel
theorem d_sv_endOf_16 : decode (mcode M_sv_endOf) 16 = .ok (.isub, 1) := by decide +kernel
theorem d_sv_endOf_17 : decode (mcode M_sv_endOf) 17 = .ok (.invokestatic 28, 3) := by decide +kernel
theorem d_sv_endOf_20 : decode (mcode M_sv_endOf) 20 = .ok (.ifCond .ne 5, 3) := by decide +kernel
theorem d_sv_endOf_23 : decode (mcode M_sv_endOf) 23 = .ok (.iload_n 2, 1) := by decide +kernel
theorem d_sv_endOf_24 : decode (mcode M_sv_endOf) 24 = .ok (.ireturn, 1) := by decide +kernel
theorem d_sv_endOf_25 : decode (mcode M_sv_endOf) 25 = .ok (.aload_n 0, 1) := by decide +kernel
theorem d_sv_endOf_26 : decode (mcode M_sv_endOf) 26 = .ok (.getfield 11, 3) := by decide +kernel
theorem d_sv_endOf_29 : decode (mcode M_sv_endOf) 29 = .ok (.iload_n 3, 1) := by decide +kernel
theorem d_sv_endOf_30 : decode (mcode M_sv_endOf) 30 = .ok (.aaload, 1) := by decide +kernel
theorem d_sv_endOf_31 : decode (mcode M_sv_endOf) 31 = .ok (.iload 4, 2) := by decide +kernel
theorem d_sv_endOf_33 : decode (mcode M_sv_endOf) 33 = .ok (.aload_n 1, 1) := by decide +kernel
theorem d_sv_endOf_34 : decode (mcode M_sv_endOf) 34 = .ok (.iload_n 3, 1) := by decide +kernel
theorem d_sv_endOf_35 : decode (mcode M_sv_endOf) 35 = .ok (.invokevirtual 36, 3) := by decide +kernel
theorem d_sv_endOf_38 : decode (mcode M_sv_endOf) 38 = .ok (.iadd, 1) := by decide +kernel
theorem d_sv_endOf_39 : decode (mcode M_sv_endOf) 39 = .ok (.iload 4, 2) := by decide +kernel
theorem d_sv_endOf_41 : decode (mcode M_sv_endOf) 41 = .ok (.iconst 1, 1) := by decide +kernel
theorem d_sv_endOf_42 : decode (mcode M_sv_endOf) 42 = .ok (.iadd, 1) := by decide +kernel
theorem d_sv_endOf_43 : decode (mcode M_sv_endOf) 43 = .ok (.iload_n 2, 1) := by decide +kernel
theorem d_sv_endOf_44 : decode (mcode M_sv_endOf) 44 = .ok (.iload 5, 2) := by decide +kernel
theorem d_sv_endOf_46 : decode (mcode M_sv_endOf) 46 = .ok (.iload_n 3, 1) := by decide +kernel
theorem d_sv_endOf_47 : decode (mcode M_sv_endOf) 47 = .ok (.isub, 1) := by decide +kernel
theorem d_sv_endOf_48 : decode (mcode M_sv_endOf) 48 = .ok (.isub, 1) := by decide +kernel
theorem d_sv_endOf_49 : decode (mcode M_sv_endOf) 49 = .ok (.invokestatic 46, 3) := by decide +kernel
theorem d_sv_endOf_52 : decode (mcode M_sv_endOf) 52 = .ok (.ireturn, 1) := by decide +kernel
theorem d_wl_init_0 : decode (mcode M_wl_init) 0 = .ok (.aload_n 0, 1) := by decide +kernel
theorem d_wl_init_1 : decode (mcode M_wl_init) 1 = .ok (.invokespecial 3, 3) := by decide +kernel
theorem d_wl_init_4 : decode (mcode M_wl_init) 4 = .ok (.aload_n 0, 1) := by decide +kernel
theorem d_wl_init_5 : decode (mcode M_wl_init) 5 = .ok (.iconst 0, 1) := by decide +kernel
theorem d_wl_init_6 : decode (mcode M_wl_init) 6 = .ok (.putfield 9, 3) := by decide +kernel
theorem d_wl_init_9 : decode (mcode M_wl_init) 9 = .ok (.aload_n 0, 1) := by decide +kernel
theorem d_wl_init_10 : decode (mcode M_wl_init) 10 = .ok (.iconst (-1), 1) := by decide +kernel
theorem d_wl_init_11 : decode (mcode M_wl_init) 11 = .ok (.putfield 15, 3) := by decide +kernel
theorem d_wl_init_14 : decode (mcode M_wl_init) 14 = .ok (.aload_n 0, 1) := by decide +kernel
theorem d_wl_init_15 : decode (mcode M_wl_init) 15 = .ok (.aload_n 1, 1) := by decide +kernel
theorem d_wl_init_16 : decode (mcode M_wl_init) 16 = .ok (.putfield 18, 3) := by decide +kernel
theorem d_wl_init_19 : decode (mcode M_wl_init) 19 = .ok (.aload_n 0, 1) := by decide +kernel
theorem d_wl_init_20 : decode (mcode M_wl_init) 20 = .ok (.aload_n 2, 1) := by decide +kernel
theorem d_wl_init_21 : decode (mcode M_wl_init) 21 = .ok (.putfield 22, 3) := by decide +kernel
theorem d_wl_init_24 : decode (mcode M_wl_init) 24 = .ok (.return_, 1) := by decide +kernel
theorem d_wl_isPaid_0 : decode (mcode M_wl_isPaid) 0 = .ok (.aload_n 0, 1) := by decide +kernel
theorem d_wl_isPaid_1 : decode (mcode M_wl_isPaid) 1 = .ok (.getfield 15, 3) := by decide +kernel
theorem d_wl_isPaid_4 : decode (mcode M_wl_isPaid) 4 = .ok (.iconst (-1), 1) := by decide +kernel
theorem d_wl_isPaid_5 : decode (mcode M_wl_isPaid) 5 = .ok (.if_icmp .eq 7, 3) := by decide +kernel
theorem d_wl_isPaid_8 : decode (mcode M_wl_isPaid) 8 = .ok (.iconst 1, 1) := by decide +kernel
theorem d_wl_isPaid_9 : decode (mcode M_wl_isPaid) 9 = .ok (.goto 4, 3) := by decide +kernel
theorem d_wl_isPaid_12 : decode (mcode M_wl_isPaid) 12 = .ok (.iconst 0, 1) := by decide +kernel
theorem d_wl_isPaid_13 : decode (mcode M_wl_isPaid) 13 = .ok (.ireturn, 1) := by decide +kernel
theorem d_wl_hasBothSides_0 : decode (mcode M_wl_hasBothSides) 0 = .ok (.aload_n 0, 1) := by decide +kernel
theorem d_wl_hasBothSides_1 : decode (mcode M_wl_hasBothSides) 1 = .ok (.getfield 18, 3) := by decide +kernel
theorem d_wl_hasBothSides_4 : decode (mcode M_wl_hasBothSides) 4 = .ok (.invokevirtual 25, 3) := by decide +kernel
theorem d_wl_hasBothSides_7 : decode (mcode M_wl_hasBothSides) 7 = .ok (.ifCond .eq 17, 3) := by decide +kernel
theorem d_wl_hasBothSides_10 : decode (mcode M_wl_hasBothSides) 10 = .ok (.aload_n 0, 1) := by decide +kernel
theorem d_wl_hasBothSides_11 : decode (mcode M_wl_hasBothSides) 11 = .ok (.getfield 22, 3) := by decide +kernel
theorem d_wl_hasBothSides_14 : decode (mcode M_wl_hasBothSides) 14 = .ok (.invokevirtual 25, 3) := by decide +kernel
theorem d_wl_hasBothSides_17 : decode (mcode M_wl_hasBothSides) 17 = .ok (.ifCond .eq 7, 3) := by decide +kernel
theorem d_wl_hasBothSides_20 : decode (mcode M_wl_hasBothSides) 20 = .ok (.iconst 1, 1) := by decide +kernel
theorem d_wl_hasBothSides_21 : decode (mcode M_wl_hasBothSides) 21 = .ok (.goto 4, 3) := by decide +kernel
theorem d_wl_hasBothSides_24 : decode (mcode M_wl_hasBothSides) 24 = .ok (.iconst 0, 1) := by decide +kernel
theorem d_wl_hasBothSides_25 : decode (mcode M_wl_hasBothSides) 25 = .ok (.ireturn, 1) := by decide +kernel
theorem d_wl_lesserDepth_0 : decode (mcode M_wl_lesserDepth) 0 = .ok (.aload_n 0, 1) := by decide +kernel
theorem d_wl_lesserDepth_1 : decode (mcode M_wl_lesserDepth) 1 = .ok (.getfield 18, 3) := by decide +kernel
theorem d_wl_lesserDepth_4 : decode (mcode M_wl_lesserDepth) 4 = .ok (.getfield 31, 3) := by decide +kernel
theorem d_wl_lesserDepth_7 : decode (mcode M_wl_lesserDepth) 7 = .ok (.aload_n 0, 1) := by decide +kernel
theorem d_wl_lesserDepth_8 : decode (mcode M_wl_lesserDepth) 8 = .ok (.getfield 22, 3) := by decide +kernel
theorem d_wl_lesserDepth_11 : decode (mcode M_wl_lesserDepth) 11 = .ok (.getfield 31, 3) := by decide +kernel
theorem d_wl_lesserDepth_14 : decode (mcode M_wl_lesserDepth) 14 = .ok (.invokestatic 34, 3) := by decide +kernel
theorem d_wl_lesserDepth_17 : decode (mcode M_wl_lesserDepth) 17 = .ok (.ireturn, 1) := by decide +kernel
theorem d_af_init_0 : decode (mcode M_af_init) 0 = .ok (.aload_n 0, 1) := by decide +kernel
theorem d_af_init_1 : decode (mcode M_af_init) 1 = .ok (.invokespecial 1, 3) := by decide +kernel
theorem d_af_init_4 : decode (mcode M_af_init) 4 = .ok (.aload_n 0, 1) := by decide +kernel
theorem d_af_init_5 : decode (mcode M_af_init) 5 = .ok (.bipush 20, 2) := by decide +kernel
theorem d_af_init_7 : decode (mcode M_af_init) 7 = .ok (.newarray .int, 2) := by decide +kernel
theorem d_af_init_9 : decode (mcode M_af_init) 9 = .ok (.putfield 9, 3) := by decide +kernel
theorem d_af_init_12 : decode (mcode M_af_init) 12 = .ok (.aload_n 0, 1) := by decide +kernel
theorem d_af_init_13 : decode (mcode M_af_init) 13 = .ok (.new 13, 3) := by decide +kernel
theorem d_af_init_16 : decode (mcode M_af_init) 16 = .ok (.dup, 1) := by decide +kernel
theorem d_af_init_17 : decode (mcode M_af_init) 17 = .ok (.invokespecial 15, 3) := by decide +kernel
theorem d_af_init_20 : decode (mcode M_af_init) 20 = .ok (.putfield 16, 3) := by decide +kernel
theorem d_af_init_23 : decode (mcode M_af_init) 23 = .ok (.aload_n 0, 1) := by decide +kernel
theorem d_af_init_24 : decode (mcode M_af_init) 24 = .ok (.bipush 6, 2) := by decide +kernel
theorem d_af_init_26 : decode (mcode M_af_init) 26 = .ok (.anewarray 20, 3) := by decide +kernel
theorem d_af_init_29 : decode (mcode M_af_init) 29 = .ok (.putfield 22, 3) := by decide +kernel
theorem d_af_init_32 : decode (mcode M_af_init) 32 = .ok (.aload_n 0, 1) := by decide +kernel
theorem d_af_init_33 : decode (mcode M_af_init) 33 = .ok (.new 26, 3) := by decide +kernel
theorem d_af_init_36 : decode (mcode M_af_init) 36 = .ok (.dup, 1) := by decide +kernel
theorem d_af_init_37 : decode (mcode M_af_init) 37 = .ok (.invokespecial 28, 3) := by decide +kernel
end
section
theorem d_af_init_40 : decode (mcode M_af_init) 40 = .ok (.putfield 29, 3) := by decide +kernel
theorem d_af_init_43 : decode (mcode M_af_init) 43 = .ok (.aload_n 0, 1) := by decide +kernel
theorem d_af_init_44 : decode (mcode M_af_init) 44 = .ok (.new 33, 3) := by decide +kernel
theorem d_af_init_47 : decode (mcode M_af_init) 47 = .ok (.dup, 1) := by decide +kernel
theorem d_af_init_48 : decode (mcode M_af_init) 48 = .ok (.invokespecial 35, 3) := by decide +kernel
theorem d_af_init_51 : decode (mcode M_af_init) 51 = .ok (.putfield 36, 3) := by decide +kernel
theorem d_af_init_54 : decode (mcode M_af_init) 54 = .ok (.aload_n 0, 1) := by decide +kernel
theorem d_af_init_55 : decode (mcode M_af_init) 55 = .ok (.new 40, 3) := by decide +kernel
theorem d_af_init_58 : decode (mcode M_af_init) 58 = .ok (.dup, 1) := by decide +kernel
theorem d_af_init_59 : decode (mcode M_af_init) 59 = .ok (.invokespecial 42, 3) := by decide +kernel
theorem d_af_init_62 : decode (mcode M_af_init) 62 = .ok (.putfield 43, 3) := by decide +kernel
theorem d_af_init_65 : decode (mcode M_af_init) 65 = .ok (.aload_n 0, 1) := by decide +kernel
theorem d_af_init_66 : decode (mcode M_af_init) 66 = .ok (.new 47, 3) := by decide +kernel
theorem d_af_init_69 : decode (mcode M_af_init) 69 = .ok (.dup, 1) := by decide +kernel
theorem d_af_init_70 : decode (mcode M_af_init) 70 = .ok (.invokespecial 49, 3) := by decide +kernel
theorem d_af_init_73 : decode (mcode M_af_init) 73 = .ok (.putfield 50, 3) := by decide +kernel
theorem d_af_init_76 : decode (mcode M_af_init) 76 = .ok (.aload_n 0, 1) := by decide +kernel
theorem d_af_init_77 : decode (mcode M_af_init) 77 = .ok (.iconst 0, 1) := by decide +kernel
theorem d_af_init_78 : decode (mcode M_af_init) 78 = .ok (.putfield 54, 3) := by decide +kernel
theorem d_af_init_81 : decode (mcode M_af_init) 81 = .ok (.aload_n 0, 1) := by decide +kernel
theorem d_af_init_82 : decode (mcode M_af_init) 82 = .ok (.iconst 2, 1) := by decide +kernel
theorem d_af_init_83 : decode (mcode M_af_init) 83 = .ok (.putfield 58, 3) := by decide +kernel
theorem d_af_init_86 : decode (mcode M_af_init) 86 = .ok (.aload_n 0, 1) := by decide +kernel
theorem d_af_init_87 : decode (mcode M_af_init) 87 = .ok (.iconst 3, 1) := by decide +kernel
theorem d_af_init_88 : decode (mcode M_af_init) 88 = .ok (.putfield 61, 3) := by decide +kernel
theorem d_af_init_91 : decode (mcode M_af_init) 91 = .ok (.aload_n 0, 1) := by decide +kernel
theorem d_af_init_92 : decode (mcode M_af_init) 92 = .ok (.bipush 10, 2) := by decide +kernel
theorem d_af_init_94 : decode (mcode M_af_init) 94 = .ok (.putfield 64, 3) := by decide +kernel
theorem d_af_init_97 : decode (mcode M_af_init) 97 = .ok (.aload_n 0, 1) := by decide +kernel
theorem d_af_init_98 : decode (mcode M_af_init) 98 = .ok (.iconst 0, 1) := by decide +kernel
theorem d_af_init_99 : decode (mcode M_af_init) 99 = .ok (.putfield 67, 3) := by decide +kernel
theorem d_af_init_102 : decode (mcode M_af_init) 102 = .ok (.iconst 0, 1) := by decide +kernel
theorem d_af_init_103 : decode (mcode M_af_init) 103 = .ok (.istore_n 1, 1) := by decide +kernel
theorem d_af_init_104 : decode (mcode M_af_init) 104 = .ok (.iload_n 1, 1) := by decide +kernel
theorem d_af_init_105 : decode (mcode M_af_init) 105 = .ok (.bipush 6, 2) := by decide +kernel
theorem d_af_init_107 : decode (mcode M_af_init) 107 = .ok (.if_icmp .ge 22, 3) := by decide +kernel
theorem d_af_init_110 : decode (mcode M_af_init) 110 = .ok (.aload_n 0, 1) := by decide +kernel
theorem d_af_init_111 : decode (mcode M_af_init) 111 = .ok (.getfield 22, 3) := by decide +kernel
theorem d_af_init_114 : decode (mcode M_af_init) 114 = .ok (.iload_n 1, 1) := by decide +kernel
theorem d_af_init_115 : decode (mcode M_af_init) 115 = .ok (.new 20, 3) := by decide +kernel
theorem d_af_init_118 : decode (mcode M_af_init) 118 = .ok (.dup, 1) := by decide +kernel
theorem d_af_init_119 : decode (mcode M_af_init) 119 = .ok (.invokespecial 70, 3) := by decide +kernel
theorem d_af_init_122 : decode (mcode M_af_init) 122 = .ok (.aastore, 1) := by decide +kernel
theorem d_af_init_123 : decode (mcode M_af_init) 123 = .ok (.iinc 1 1, 3) := by decide +kernel
theorem d_af_init_126 : decode (mcode M_af_init) 126 = .ok (.goto (-22), 3) := by decide +kernel
theorem d_af_init_129 : decode (mcode M_af_init) 129 = .ok (.return_, 1) := by decide +kernel
theorem d_af_coins_0 : decode (mcode M_af_coins) 0 = .ok (.iload_n 1, 1) := by decide +kernel
theorem d_af_coins_1 : decode (mcode M_af_coins) 1 = .ok (.invokestatic 71, 3) := by decide +kernel
theorem d_af_coins_4 : decode (mcode M_af_coins) 4 = .ok (.ifCond .eq 13, 3) := by decide +kernel
theorem d_af_coins_7 : decode (mcode M_af_coins) 7 = .ok (.iload_n 2, 1) := by decide +kernel
theorem d_af_coins_8 : decode (mcode M_af_coins) 8 = .ok (.iconst 1, 1) := by decide +kernel
theorem d_af_coins_9 : decode (mcode M_af_coins) 9 = .ok (.ldc 75, 2) := by decide +kernel
theorem d_af_coins_11 : decode (mcode M_af_coins) 11 = .ok (.invokestatic 76, 3) := by decide +kernel
theorem d_af_coins_14 : decode (mcode M_af_coins) 14 = .ok (.ifCond .ne 6, 3) := by decide +kernel
theorem d_af_coins_17 : decode (mcode M_af_coins) 17 = .ok (.ldc 80, 2) := by decide +kernel
theorem d_af_coins_19 : decode (mcode M_af_coins) 19 = .ok (.ireturn, 1) := by decide +kernel
theorem d_af_coins_20 : decode (mcode M_af_coins) 20 = .ok (.aload_n 0, 1) := by decide +kernel
theorem d_af_coins_21 : decode (mcode M_af_coins) 21 = .ok (.iload_n 1, 1) := by decide +kernel
theorem d_af_coins_22 : decode (mcode M_af_coins) 22 = .ok (.iload_n 2, 1) := by decide +kernel
theorem d_af_coins_23 : decode (mcode M_af_coins) 23 = .ok (.invokevirtual 81, 3) := by decide +kernel
theorem d_af_coins_26 : decode (mcode M_af_coins) 26 = .ok (.aload_n 0, 1) := by decide +kernel
theorem d_af_coins_27 : decode (mcode M_af_coins) 27 = .ok (.getfield 9, 3) := by decide +kernel
theorem d_af_coins_30 : decode (mcode M_af_coins) 30 = .ok (.iload_n 1, 1) := by decide +kernel
theorem d_af_coins_31 : decode (mcode M_af_coins) 31 = .ok (.iaload, 1) := by decide +kernel
theorem d_af_coins_32 : decode (mcode M_af_coins) 32 = .ok (.ireturn, 1) := by decide +kernel
theorem d_af_plot_0 : decode (mcode M_af_plot) 0 = .ok (.aload_n 0, 1) := by decide +kernel
theorem d_af_plot_1 : decode (mcode M_af_plot) 1 = .ok (.iload_n 1, 1) := by decide +kernel
theorem d_af_plot_2 : decode (mcode M_af_plot) 2 = .ok (.invokevirtual 85, 3) := by decide +kernel
theorem d_af_plot_5 : decode (mcode M_af_plot) 5 = .ok (.astore 4, 2) := by decide +kernel
theorem d_af_plot_7 : decode (mcode M_af_plot) 7 = .ok (.iload_n 2, 1) := by decide +kernel
theorem d_af_plot_8 : decode (mcode M_af_plot) 8 = .ok (.sipush 1000, 3) := by decide +kernel
theorem d_af_plot_11 : decode (mcode M_af_plot) 11 = .ok (.idiv, 1) := by decide +kernel
theorem d_af_plot_12 : decode (mcode M_af_plot) 12 = .ok (.istore 5, 2) := by decide +kernel
theorem d_af_plot_14 : decode (mcode M_af_plot) 14 = .ok (.iload_n 2, 1) := by decide +kernel
theorem d_af_plot_15 : decode (mcode M_af_plot) 15 = .ok (.sipush 1000, 3) := by decide +kernel
theorem d_af_plot_18 : decode (mcode M_af_plot) 18 = .ok (.irem, 1) := by decide +kernel
theorem d_af_plot_19 : decode (mcode M_af_plot) 19 = .ok (.istore 6, 2) := by decide +kernel
theorem d_af_plot_21 : decode (mcode M_af_plot) 21 = .ok (.aload 4, 2) := by decide +kernel
theorem d_af_plot_23 : decode (mcode M_af_plot) 23 = .ok (.ifnull 46, 3) := by decide +kernel
theorem d_af_plot_26 : decode (mcode M_af_plot) 26 = .ok (.iload_n 3, 1) := by decide +kernel
theorem d_af_plot_27 : decode (mcode M_af_plot) 27 = .ok (.invokestatic 71, 3) := by decide +kernel
theorem d_af_plot_30 : decode (mcode M_af_plot) 30 = .ok (.ifCond .eq 39, 3) := by decide +kernel
theorem d_af_plot_33 : decode (mcode M_af_plot) 33 = .ok (.aload_n 0, 1) := by decide +kernel
theorem d_af_plot_34 : decode (mcode M_af_plot) 34 = .ok (.getfield 16, 3) := by decide +kernel
theorem d_af_plot_37 : decode (mcode M_af_plot) 37 = .ok (.invokevirtual 89, 3) := by decide +kernel
theorem d_af_plot_40 : decode (mcode M_af_plot) 40 = .ok (.bipush 24, 2) := by decide +kernel
theorem d_af_plot_42 : decode (mcode M_af_plot) 42 = .ok (.if_icmp .ge 27, 3) := by decide +kernel
theorem d_af_plot_45 : decode (mcode M_af_plot) 45 = .ok (.iload 5, 2) := by decide +kernel
theorem d_af_plot_47 : decode (mcode M_af_plot) 47 = .ok (.bipush 10, 2) := by decide +kernel
theorem d_af_plot_49 : decode (mcode M_af_plot) 49 = .ok (.bipush 60, 2) := by decide +kernel
theorem d_af_plot_51 : decode (mcode M_af_plot) 51 = .ok (.invokestatic 76, 3) := by decide +kernel
theorem d_af_plot_54 : decode (mcode M_af_plot) 54 = .ok (.ifCond .eq 15, 3) := by decide +kernel
theorem d_af_plot_57 : decode (mcode M_af_plot) 57 = .ok (.iload 6, 2) := by decide +kernel
theorem d_af_plot_59 : decode (mcode M_af_plot) 59 = .ok (.bipush 20, 2) := by decide +kernel
theorem d_af_plot_61 : decode (mcode M_af_plot) 61 = .ok (.bipush 100, 2) := by decide +kernel
theorem d_af_plot_63 : decode (mcode M_af_plot) 63 = .ok (.invokestatic 76, 3) := by decide +kernel
theorem d_af_plot_66 : decode (mcode M_af_plot) 66 = .ok (.ifCond .ne 5, 3) := by decide +kernel
theorem d_af_plot_69 : decode (mcode M_af_plot) 69 = .ok (.iconst (-1), 1) := by decide +kernel
theorem d_af_plot_70 : decode (mcode M_af_plot) 70 = .ok (.ireturn, 1) := by decide +kernel
theorem d_af_plot_71 : decode (mcode M_af_plot) 71 = .ok (.new 93, 3) := by decide +kernel
theorem d_af_plot_74 : decode (mcode M_af_plot) 74 = .ok (.dup, 1) := by decide +kernel
theorem d_af_plot_75 : decode (mcode M_af_plot) 75 = .ok (.iload 5, 2) := by decide +kernel
theorem d_af_plot_77 : decode (mcode M_af_plot) 77 = .ok (.iload 6, 2) := by decide +kernel
theorem d_af_plot_79 : decode (mcode M_af_plot) 79 = .ok (.iload_n 3, 1) := by decide +kernel
theorem d_af_plot_80 : decode (mcode M_af_plot) 80 = .ok (.invokespecial 95, 3) := by decide +kernel
theorem d_af_plot_83 : decode (mcode M_af_plot) 83 = .ok (.astore 7, 2) := by decide +kernel
theorem d_af_plot_85 : decode (mcode M_af_plot) 85 = .ok (.aload 4, 2) := by decide +kernel
theorem d_af_plot_87 : decode (mcode M_af_plot) 87 = .ok (.aload 7, 2) := by decide +kernel
theorem d_af_plot_89 : decode (mcode M_af_plot) 89 = .ok (.invokevirtual 98, 3) := by decide +kernel
theorem d_af_plot_92 : decode (mcode M_af_plot) 92 = .ok (.ifCond .ne 5, 3) := by decide +kernel
theorem d_af_plot_95 : decode (mcode M_af_plot) 95 = .ok (.iconst (-1), 1) := by decide +kernel
theorem d_af_plot_96 : decode (mcode M_af_plot) 96 = .ok (.ireturn, 1) := by decide +kernel
theorem d_af_plot_97 : decode (mcode M_af_plot) 97 = .ok (.aload_n 0, 1) := by decide +kernel
theorem d_af_plot_98 : decode (mcode M_af_plot) 98 = .ok (.getfield 16, 3) := by decide +kernel
theorem d_af_plot_101 : decode (mcode M_af_plot) 101 = .ok (.aload 7, 2) := by decide +kernel
theorem d_af_plot_103 : decode (mcode M_af_plot) 103 = .ok (.invokevirtual 102, 3) := by decide +kernel
theorem d_af_plot_106 : decode (mcode M_af_plot) 106 = .ok (.pop, 1) := by decide +kernel
theorem d_af_plot_107 : decode (mcode M_af_plot) 107 = .ok (.aload_n 0, 1) := by decide +kernel
theorem d_af_plot_108 : decode (mcode M_af_plot) 108 = .ok (.getfield 16, 3) := by decide +kernel
theorem d_af_plot_111 : decode (mcode M_af_plot) 111 = .ok (.invokevirtual 89, 3) := by decide +kernel
theorem d_af_plot_114 : decode (mcode M_af_plot) 114 = .ok (.iconst 1, 1) := by decide +kernel
theorem d_af_plot_115 : decode (mcode M_af_plot) 115 = .ok (.isub, 1) := by decide +kernel
theorem d_af_plot_116 : decode (mcode M_af_plot) 116 = .ok (.ireturn, 1) := by decide +kernel
theorem d_af_lease_0 : decode (mcode M_af_lease) 0 = .ok (.aload_n 0, 1) := by decide +kernel
theorem d_af_lease_1 : decode (mcode M_af_lease) 1 = .ok (.iload_n 1, 1) := by decide +kernel
theorem d_af_lease_2 : decode (mcode M_af_lease) 2 = .ok (.invokevirtual 106, 3) := by decide +kernel
theorem d_af_lease_5 : decode (mcode M_af_lease) 5 = .ok (.astore 5, 2) := by decide +kernel
theorem d_af_lease_7 : decode (mcode M_af_lease) 7 = .ok (.aload 5, 2) := by decide +kernel
theorem d_af_lease_9 : decode (mcode M_af_lease) 9 = .ok (.ifnull 30, 3) := by decide +kernel
theorem d_af_lease_12 : decode (mcode M_af_lease) 12 = .ok (.aload 5, 2) := by decide +kernel
theorem d_af_lease_14 : decode (mcode M_af_lease) 14 = .ok (.getfield 110, 3) := by decide +kernel
theorem d_af_lease_17 : decode (mcode M_af_lease) 17 = .ok (.ifCond .ne 22, 3) := by decide +kernel
theorem d_af_lease_20 : decode (mcode M_af_lease) 20 = .ok (.iload_n 2, 1) := by decide +kernel
theorem d_af_lease_21 : decode (mcode M_af_lease) 21 = .ok (.invokestatic 71, 3) := by decide +kernel
theorem d_af_lease_24 : decode (mcode M_af_lease) 24 = .ok (.ifCond .eq 15, 3) := by decide +kernel
theorem d_af_lease_27 : decode (mcode M_af_lease) 27 = .ok (.iload 4, 2) := by decide +kernel
theorem d_af_lease_29 : decode (mcode M_af_lease) 29 = .ok (.iconst 0, 1) := by decide +kernel
theorem d_af_lease_30 : decode (mcode M_af_lease) 30 = .ok (.sipush 999, 3) := by decide +kernel
theorem d_af_lease_33 : decode (mcode M_af_lease) 33 = .ok (.invokestatic 76, 3) := by decide +kernel
theorem d_af_lease_36 : decode (mcode M_af_lease) 36 = .ok (.ifCond .ne 5, 3) := by decide +kernel
theorem d_af_lease_39 : decode (mcode M_af_lease) 39 = .ok (.iconst (-1), 1) := by decide +kernel
theorem d_af_lease_40 : decode (mcode M_af_lease) 40 = .ok (.ireturn, 1) := by decide +kernel
theorem d_af_lease_41 : decode (mcode M_af_lease) 41 = .ok (.aload 5, 2) := by decide +kernel
theorem d_af_lease_43 : decode (mcode M_af_lease) 43 = .ok (.getfield 113, 3) := by decide +kernel
theorem d_af_lease_46 : decode (mcode M_af_lease) 46 = .ok (.iload_n 2, 1) := by decide +kernel
theorem d_af_lease_47 : decode (mcode M_af_lease) 47 = .ok (.iload_n 3, 1) := by decide +kernel
theorem d_af_lease_48 : decode (mcode M_af_lease) 48 = .ok (.iload 4, 2) := by decide +kernel
theorem d_af_lease_50 : decode (mcode M_af_lease) 50 = .ok (.invokevirtual 117, 3) := by decide +kernel
theorem d_af_lease_53 : decode (mcode M_af_lease) 53 = .ok (.ifCond .eq 14, 3) := by decide +kernel
theorem d_af_lease_56 : decode (mcode M_af_lease) 56 = .ok (.aload 5, 2) := by decide +kernel
theorem d_af_lease_58 : decode (mcode M_af_lease) 58 = .ok (.getfield 113, 3) := by decide +kernel
theorem d_af_lease_61 : decode (mcode M_af_lease) 61 = .ok (.invokevirtual 121, 3) := by decide +kernel
theorem d_af_lease_64 : decode (mcode M_af_lease) 64 = .ok (.goto 4, 3) := by decide +kernel
theorem d_af_lease_67 : decode (mcode M_af_lease) 67 = .ok (.iconst (-1), 1) := by decide +kernel
theorem d_af_lease_68 : decode (mcode M_af_lease) 68 = .ok (.ireturn, 1) := by decide +kernel
theorem d_af_rates_0 : decode (mcode M_af_rates) 0 = .ok (.iload_n 1, 1) := by decide +kernel
theorem d_af_rates_1 : decode (mcode M_af_rates) 1 = .ok (.iconst 1, 1) := by decide +kernel
theorem d_af_rates_2 : decode (mcode M_af_rates) 2 = .ok (.bipush 9, 2) := by decide +kernel
theorem d_af_rates_4 : decode (mcode M_af_rates) 4 = .ok (.invokestatic 76, 3) := by decide +kernel
theorem d_af_rates_7 : decode (mcode M_af_rates) 7 = .ok (.ifCond .eq 20, 3) := by decide +kernel
theorem d_af_rates_10 : decode (mcode M_af_rates) 10 = .ok (.iload_n 2, 1) := by decide +kernel
theorem d_af_rates_11 : decode (mcode M_af_rates) 11 = .ok (.iconst 1, 1) := by decide +kernel
theorem d_af_rates_12 : decode (mcode M_af_rates) 12 = .ok (.bipush 9, 2) := by decide +kernel
theorem d_af_rates_14 : decode (mcode M_af_rates) 14 = .ok (.invokestatic 76, 3) := by decide +kernel
theorem d_af_rates_17 : decode (mcode M_af_rates) 17 = .ok (.ifCond .eq 10, 3) := by decide +kernel
theorem d_af_rates_20 : decode (mcode M_af_rates) 20 = .ok (.iload_n 3, 1) := by decide +kernel
theorem d_af_rates_21 : decode (mcode M_af_rates) 21 = .ok (.invokestatic 124, 3) := by decide +kernel
theorem d_af_rates_24 : decode (mcode M_af_rates) 24 = .ok (.ifCond .ne 5, 3) := by decide +kernel
theorem d_af_rates_27 : decode (mcode M_af_rates) 27 = .ok (.iconst 0, 1) := by decide +kernel
theorem d_af_rates_28 : decode (mcode M_af_rates) 28 = .ok (.ireturn, 1) := by decide +kernel
theorem d_af_rates_29 : decode (mcode M_af_rates) 29 = .ok (.aload_n 0, 1) := by decide +kernel
theorem d_af_rates_30 : decode (mcode M_af_rates) 30 = .ok (.iload_n 1, 1) := by decide +kernel
theorem d_af_rates_31 : decode (mcode M_af_rates) 31 = .ok (.putfield 58, 3) := by decide +kernel
theorem d_af_rates_34 : decode (mcode M_af_rates) 34 = .ok (.aload_n 0, 1) := by decide +kernel
theorem d_af_rates_35 : decode (mcode M_af_rates) 35 = .ok (.iload_n 2, 1) := by decide +kernel
theorem d_af_rates_36 : decode (mcode M_af_rates) 36 = .ok (.putfield 61, 3) := by decide +kernel
theorem d_af_rates_39 : decode (mcode M_af_rates) 39 = .ok (.aload_n 0, 1) := by decide +kernel
theorem d_af_rates_40 : decode (mcode M_af_rates) 40 = .ok (.iload_n 3, 1) := by decide +kernel
theorem d_af_rates_41 : decode (mcode M_af_rates) 41 = .ok (.putfield 64, 3) := by decide +kernel
theorem d_af_rates_44 : decode (mcode M_af_rates) 44 = .ok (.iconst 1, 1) := by decide +kernel
theorem d_af_rates_45 : decode (mcode M_af_rates) 45 = .ok (.ireturn, 1) := by decide +kernel
theorem d_af_worth_0 : decode (mcode M_af_worth) 0 = .ok (.aload_n 0, 1) := by decide +kernel
theorem d_af_worth_1 : decode (mcode M_af_worth) 1 = .ok (.iload_n 1, 1) := by decide +kernel
theorem d_af_worth_2 : decode (mcode M_af_worth) 2 = .ok (.invokevirtual 106, 3) := by decide +kernel
theorem d_af_worth_5 : decode (mcode M_af_worth) 5 = .ok (.astore_n 2, 1) := by decide +kernel
theorem d_af_worth_6 : decode (mcode M_af_worth) 6 = .ok (.aload_n 2, 1) := by decide +kernel
theorem d_af_worth_7 : decode (mcode M_af_worth) 7 = .ok (.ifnonnull 7, 3) := by decide +kernel
theorem d_af_worth_10 : decode (mcode M_af_worth) 10 = .ok (.iconst (-1), 1) := by decide +kernel
theorem d_af_worth_11 : decode (mcode M_af_worth) 11 = .ok (.goto 7, 3) := by decide +kernel
theorem d_af_worth_14 : decode (mcode M_af_worth) 14 = .ok (.aload_n 2, 1) := by decide +kernel
theorem d_af_worth_15 : decode (mcode M_af_worth) 15 = .ok (.invokevirtual 127, 3) := by decide +kernel
theorem d_af_worth_18 : decode (mcode M_af_worth) 18 = .ok (.ireturn, 1) := by decide +kernel
theorem d_af_interest_0 : decode (mcode M_af_interest) 0 = .ok (.aload_n 0, 1) := by decide +kernel
theorem d_af_interest_1 : decode (mcode M_af_interest) 1 = .ok (.iload_n 1, 1) := by decide +kernel
theorem d_af_interest_2 : decode (mcode M_af_interest) 2 = .ok (.invokevirtual 106, 3) := by decide +kernel
theorem d_af_interest_5 : decode (mcode M_af_interest) 5 = .ok (.astore_n 3, 1) := by decide +kernel
theorem d_af_interest_6 : decode (mcode M_af_interest) 6 = .ok (.aload_n 3, 1) := by decide +kernel
theorem d_af_interest_7 : decode (mcode M_af_interest) 7 = .ok (.ifnull 14, 3) := by decide +kernel
theorem d_af_interest_10 : decode (mcode M_af_interest) 10 = .ok (.aload_n 3, 1) := by decide +kernel
theorem d_af_interest_11 : decode (mcode M_af_interest) 11 = .ok (.getfield 113, 3) := by decide +kernel
theorem d_af_interest_14 : decode (mcode M_af_interest) 14 = .ok (.iload_n 2, 1) := by decide +kernel
theorem d_af_interest_15 : decode (mcode M_af_interest) 15 = .ok (.invokevirtual 130, 3) := by decide +kernel
theorem d_af_interest_18 : decode (mcode M_af_interest) 18 = .ok (.ifCond .ne 5, 3) := by decide +kernel
theorem d_af_interest_21 : decode (mcode M_af_interest) 21 = .ok (.iconst (-1), 1) := by decide +kernel
theorem d_af_interest_22 : decode (mcode M_af_interest) 22 = .ok (.ireturn, 1) := by decide +kernel
theorem d_af_interest_23 : decode (mcode M_af_interest) 23 = .ok (.aload_n 3, 1) := by decide +kernel
theorem d_af_interest_24 : decode (mcode M_af_interest) 24 = .ok (.getfield 113, 3) := by decide +kernel
theorem d_af_interest_27 : decode (mcode M_af_interest) 27 = .ok (.iload_n 2, 1) := by decide +kernel
theorem d_af_interest_28 : decode (mcode M_af_interest) 28 = .ok (.aload_n 3, 1) := by decide +kernel
theorem d_af_interest_29 : decode (mcode M_af_interest) 29 = .ok (.invokevirtual 127, 3) := by decide +kernel
theorem d_af_interest_32 : decode (mcode M_af_interest) 32 = .ok (.invokevirtual 133, 3) := by decide +kernel
theorem d_af_interest_35 : decode (mcode M_af_interest) 35 = .ok (.ireturn, 1) := by decide +kernel
theorem d_af_bears_0 : decode (mcode M_af_bears) 0 = .ok (.aload_n 0, 1) := by decide +kernel
theorem d_af_bears_1 : decode (mcode M_af_bears) 1 = .ok (.iload_n 1, 1) := by decide +kernel
theorem d_af_bears_2 : decode (mcode M_af_bears) 2 = .ok (.invokevirtual 106, 3) := by decide +kernel
theorem d_af_bears_5 : decode (mcode M_af_bears) 5 = .ok (.astore_n 3, 1) := by decide +kernel
theorem d_af_bears_6 : decode (mcode M_af_bears) 6 = .ok (.aload_n 3, 1) := by decide +kernel
theorem d_af_bears_7 : decode (mcode M_af_bears) 7 = .ok (.ifnull 14, 3) := by decide +kernel
theorem d_af_bears_10 : decode (mcode M_af_bears) 10 = .ok (.aload_n 3, 1) := by decide +kernel
theorem d_af_bears_11 : decode (mcode M_af_bears) 11 = .ok (.getfield 113, 3) := by decide +kernel
theorem d_af_bears_14 : decode (mcode M_af_bears) 14 = .ok (.iload_n 2, 1) := by decide +kernel
theorem d_af_bears_15 : decode (mcode M_af_bears) 15 = .ok (.invokevirtual 130, 3) := by decide +kernel
theorem d_af_bears_18 : decode (mcode M_af_bears) 18 = .ok (.ifCond .ne 5, 3) := by decide +kernel
theorem d_af_bears_21 : decode (mcode M_af_bears) 21 = .ok (.iconst (-1), 1) := by decide +kernel
theorem d_af_bears_22 : decode (mcode M_af_bears) 22 = .ok (.ireturn, 1) := by decide +kernel
theorem d_af_bears_23 : decode (mcode M_af_bears) 23 = .ok (.aload_n 0, 1) := by decide +kernel
theorem d_af_bears_24 : decode (mcode M_af_bears) 24 = .ok (.aload_n 3, 1) := by decide +kernel
theorem d_af_bears_25 : decode (mcode M_af_bears) 25 = .ok (.invokevirtual 137, 3) := by decide +kernel
theorem d_af_bears_28 : decode (mcode M_af_bears) 28 = .ok (.istore 4, 2) := by decide +kernel
theorem d_af_bears_30 : decode (mcode M_af_bears) 30 = .ok (.iload 4, 2) := by decide +kernel
theorem d_af_bears_32 : decode (mcode M_af_bears) 32 = .ok (.iconst (-1), 1) := by decide +kernel
theorem d_af_bears_33 : decode (mcode M_af_bears) 33 = .ok (.if_icmp .ne 5, 3) := by decide +kernel
theorem d_af_bears_36 : decode (mcode M_af_bears) 36 = .ok (.iconst (-1), 1) := by decide +kernel
theorem d_af_bears_37 : decode (mcode M_af_bears) 37 = .ok (.ireturn, 1) := by decide +kernel
theorem d_af_bears_38 : decode (mcode M_af_bears) 38 = .ok (.aload_n 0, 1) := by decide +kernel
theorem d_af_bears_39 : decode (mcode M_af_bears) 39 = .ok (.getfield 29, 3) := by decide +kernel
theorem d_af_bears_42 : decode (mcode M_af_bears) 42 = .ok (.aload_n 3, 1) := by decide +kernel
theorem d_af_bears_43 : decode (mcode M_af_bears) 43 = .ok (.aload_n 0, 1) := by decide +kernel
theorem d_af_bears_44 : decode (mcode M_af_bears) 44 = .ok (.aload_n 3, 1) := by decide +kernel
theorem d_af_bears_45 : decode (mcode M_af_bears) 45 = .ok (.invokevirtual 141, 3) := by decide +kernel
theorem d_af_bears_48 : decode (mcode M_af_bears) 48 = .ok (.iload 4, 2) := by decide +kernel
theorem d_af_bears_50 : decode (mcode M_af_bears) 50 = .ok (.invokevirtual 144, 3) := by decide +kernel
theorem d_af_bears_53 : decode (mcode M_af_bears) 53 = .ok (.aload_n 0, 1) := by decide +kernel
theorem d_af_bears_54 : decode (mcode M_af_bears) 54 = .ok (.getfield 29, 3) := by decide +kernel
theorem d_af_bears_57 : decode (mcode M_af_bears) 57 = .ok (.iload_n 2, 1) := by decide +kernel
theorem d_af_bears_58 : decode (mcode M_af_bears) 58 = .ok (.invokevirtual 148, 3) := by decide +kernel
theorem d_af_bears_61 : decode (mcode M_af_bears) 61 = .ok (.ireturn, 1) := by decide +kernel
theorem d_af_decree_0 : decode (mcode M_af_decree) 0 = .ok (.aload_n 0, 1) := by decide +kernel
theorem d_af_decree_1 : decode (mcode M_af_decree) 1 = .ok (.iload_n 1, 1) := by decide +kernel
theorem d_af_decree_2 : decode (mcode M_af_decree) 2 = .ok (.invokevirtual 106, 3) := by decide +kernel
theorem d_af_decree_5 : decode (mcode M_af_decree) 5 = .ok (.astore_n 2, 1) := by decide +kernel
theorem d_af_decree_6 : decode (mcode M_af_decree) 6 = .ok (.aload_n 2, 1) := by decide +kernel
theorem d_af_decree_7 : decode (mcode M_af_decree) 7 = .ok (.ifnull 10, 3) := by decide +kernel
theorem d_af_decree_10 : decode (mcode M_af_decree) 10 = .ok (.aload_n 2, 1) := by decide +kernel
theorem d_af_decree_11 : decode (mcode M_af_decree) 11 = .ok (.getfield 110, 3) := by decide +kernel
theorem d_af_decree_14 : decode (mcode M_af_decree) 14 = .ok (.ifCond .eq 5, 3) := by decide +kernel
theorem d_af_decree_17 : decode (mcode M_af_decree) 17 = .ok (.iconst (-1), 1) := by decide +kernel
theorem d_af_decree_18 : decode (mcode M_af_decree) 18 = .ok (.ireturn, 1) := by decide +kernel
theorem d_af_decree_19 : decode (mcode M_af_decree) 19 = .ok (.aload_n 0, 1) := by decide +kernel
theorem d_af_decree_20 : decode (mcode M_af_decree) 20 = .ok (.aload_n 2, 1) := by decide +kernel
theorem d_af_decree_21 : decode (mcode M_af_decree) 21 = .ok (.invokevirtual 137, 3) := by decide +kernel
theorem d_af_decree_24 : decode (mcode M_af_decree) 24 = .ok (.istore_n 3, 1) := by decide +kernel
theorem d_af_decree_25 : decode (mcode M_af_decree) 25 = .ok (.iload_n 3, 1) := by decide +kernel
theorem d_af_decree_26 : decode (mcode M_af_decree) 26 = .ok (.iconst (-1), 1) := by decide +kernel
theorem d_af_decree_27 : decode (mcode M_af_decree) 27 = .ok (.if_icmp .ne 5, 3) := by decide +kernel
theorem d_af_decree_30 : decode (mcode M_af_decree) 30 = .ok (.iconst (-1), 1) := by decide +kernel
theorem d_af_decree_31 : decode (mcode M_af_decree) 31 = .ok (.ireturn, 1) := by decide +kernel
theorem d_af_decree_32 : decode (mcode M_af_decree) 32 = .ok (.aload_n 2, 1) := by decide +kernel
theorem d_af_decree_33 : decode (mcode M_af_decree) 33 = .ok (.getfield 113, 3) := by decide +kernel
theorem d_af_decree_36 : decode (mcode M_af_decree) 36 = .ok (.iload_n 3, 1) := by decide +kernel
theorem d_af_decree_37 : decode (mcode M_af_decree) 37 = .ok (.invokevirtual 152, 3) := by decide +kernel
theorem d_af_decree_40 : decode (mcode M_af_decree) 40 = .ok (.istore 4, 2) := by decide +kernel
theorem d_af_decree_42 : decode (mcode M_af_decree) 42 = .ok (.aload_n 0, 1) := by decide +kernel
theorem d_af_decree_43 : decode (mcode M_af_decree) 43 = .ok (.aload_n 2, 1) := by decide +kernel
theorem d_af_decree_44 : decode (mcode M_af_decree) 44 = .ok (.iload_n 3, 1) := by decide +kernel
theorem d_af_decree_45 : decode (mcode M_af_decree) 45 = .ok (.invokevirtual 155, 3) := by decide +kernel
theorem d_af_decree_48 : decode (mcode M_af_decree) 48 = .ok (.aload_n 2, 1) := by decide +kernel
theorem d_af_decree_49 : decode (mcode M_af_decree) 49 = .ok (.getfield 113, 3) := by decide +kernel
theorem d_af_decree_52 : decode (mcode M_af_decree) 52 = .ok (.iload_n 3, 1) := by decide +kernel
theorem d_af_decree_53 : decode (mcode M_af_decree) 53 = .ok (.bipush 40, 2) := by decide +kernel
theorem d_af_decree_55 : decode (mcode M_af_decree) 55 = .ok (.invokevirtual 159, 3) := by decide +kernel
theorem d_af_decree_58 : decode (mcode M_af_decree) 58 = .ok (.aload_n 2, 1) := by decide +kernel
theorem d_af_decree_59 : decode (mcode M_af_decree) 59 = .ok (.iload 4, 2) := by decide +kernel
theorem d_af_decree_61 : decode (mcode M_af_decree) 61 = .ok (.aload_n 0, 1) := by decide +kernel
theorem d_af_decree_62 : decode (mcode M_af_decree) 62 = .ok (.getfield 54, 3) := by decide +kernel
theorem d_af_decree_65 : decode (mcode M_af_decree) 65 = .ok (.invokevirtual 162, 3) := by decide +kernel
theorem d_af_decree_68 : decode (mcode M_af_decree) 68 = .ok (.aload_n 0, 1) := by decide +kernel
theorem d_af_decree_69 : decode (mcode M_af_decree) 69 = .ok (.aload_n 2, 1) := by decide +kernel
theorem d_af_decree_70 : decode (mcode M_af_decree) 70 = .ok (.getfield 165, 3) := by decide +kernel
theorem d_af_decree_73 : decode (mcode M_af_decree) 73 = .ok (.iload 4, 2) := by decide +kernel
theorem d_af_decree_75 : decode (mcode M_af_decree) 75 = .ok (.invokevirtual 169, 3) := by decide +kernel
theorem d_af_decree_78 : decode (mcode M_af_decree) 78 = .ok (.aload_n 0, 1) := by decide +kernel
theorem d_af_decree_79 : decode (mcode M_af_decree) 79 = .ok (.aload_n 2, 1) := by decide +kernel
theorem d_af_decree_80 : decode (mcode M_af_decree) 80 = .ok (.getfield 173, 3) := by decide +kernel
theorem d_af_decree_83 : decode (mcode M_af_decree) 83 = .ok (.iload 4, 2) := by decide +kernel
theorem d_af_decree_85 : decode (mcode M_af_decree) 85 = .ok (.invokevirtual 169, 3) := by decide +kernel
theorem d_af_decree_88 : decode (mcode M_af_decree) 88 = .ok (.iload_n 3, 1) := by decide +kernel
theorem d_af_decree_89 : decode (mcode M_af_decree) 89 = .ok (.ireturn, 1) := by decide +kernel
theorem d_af_act_0 : decode (mcode M_af_act) 0 = .ok (.aload_n 0, 1) := by decide +kernel
theorem d_af_act_1 : decode (mcode M_af_act) 1 = .ok (.iload_n 1, 1) := by decide +kernel
theorem d_af_act_2 : decode (mcode M_af_act) 2 = .ok (.invokevirtual 85, 3) := by decide +kernel
theorem d_af_act_5 : decode (mcode M_af_act) 5 = .ok (.astore_n 3, 1) := by decide +kernel
theorem d_af_act_6 : decode (mcode M_af_act) 6 = .ok (.aload_n 3, 1) := by decide +kernel
theorem d_af_act_7 : decode (mcode M_af_act) 7 = .ok (.ifnull 13, 3) := by decide +kernel
theorem d_af_act_10 : decode (mcode M_af_act) 10 = .ok (.iload_n 2, 1) := by decide +kernel
theorem d_af_act_11 : decode (mcode M_af_act) 11 = .ok (.iconst 1, 1) := by decide +kernel
theorem d_af_act_12 : decode (mcode M_af_act) 12 = .ok (.bipush 40, 2) := by decide +kernel
theorem d_af_act_14 : decode (mcode M_af_act) 14 = .ok (.invokestatic 76, 3) := by decide +kernel
theorem d_af_act_17 : decode (mcode M_af_act) 17 = .ok (.ifCond .ne 5, 3) := by decide +kernel
theorem d_af_act_20 : decode (mcode M_af_act) 20 = .ok (.iconst (-1), 1) := by decide +kernel
theorem d_af_act_21 : decode (mcode M_af_act) 21 = .ok (.ireturn, 1) := by decide +kernel
theorem d_af_act_22 : decode (mcode M_af_act) 22 = .ok (.iconst 0, 1) := by decide +kernel
theorem d_af_act_23 : decode (mcode M_af_act) 23 = .ok (.istore 4, 2) := by decide +kernel
theorem d_af_act_25 : decode (mcode M_af_act) 25 = .ok (.iconst 0, 1) := by decide +kernel
theorem d_af_act_26 : decode (mcode M_af_act) 26 = .ok (.istore 5, 2) := by decide +kernel
theorem d_af_act_28 : decode (mcode M_af_act) 28 = .ok (.iload 5, 2) := by decide +kernel
theorem d_af_act_30 : decode (mcode M_af_act) 30 = .ok (.aload_n 3, 1) := by decide +kernel
theorem d_af_act_31 : decode (mcode M_af_act) 31 = .ok (.getfield 176, 3) := by decide +kernel
theorem d_af_act_34 : decode (mcode M_af_act) 34 = .ok (.invokevirtual 89, 3) := by decide +kernel
theorem d_af_act_37 : decode (mcode M_af_act) 37 = .ok (.if_icmp .ge 31, 3) := by decide +kernel
theorem d_af_act_40 : decode (mcode M_af_act) 40 = .ok (.iload 4, 2) := by decide +kernel
theorem d_af_act_42 : decode (mcode M_af_act) 42 = .ok (.aload_n 0, 1) := by decide +kernel
theorem d_af_act_43 : decode (mcode M_af_act) 43 = .ok (.aload_n 3, 1) := by decide +kernel
theorem d_af_act_44 : decode (mcode M_af_act) 44 = .ok (.getfield 176, 3) := by decide +kernel
theorem d_af_act_47 : decode (mcode M_af_act) 47 = .ok (.iload 5, 2) := by decide +kernel
theorem d_af_act_49 : decode (mcode M_af_act) 49 = .ok (.invokevirtual 179, 3) := by decide +kernel
theorem d_af_act_52 : decode (mcode M_af_act) 52 = .ok (.checkcast 93, 3) := by decide +kernel
theorem d_af_act_55 : decode (mcode M_af_act) 55 = .ok (.iload_n 2, 1) := by decide +kernel
theorem d_af_act_56 : decode (mcode M_af_act) 56 = .ok (.invokevirtual 183, 3) := by decide +kernel
theorem d_af_act_59 : decode (mcode M_af_act) 59 = .ok (.iadd, 1) := by decide +kernel
theorem d_af_act_60 : decode (mcode M_af_act) 60 = .ok (.istore 4, 2) := by decide +kernel
theorem d_af_act_62 : decode (mcode M_af_act) 62 = .ok (.iinc 5 1, 3) := by decide +kernel
theorem d_af_act_65 : decode (mcode M_af_act) 65 = .ok (.goto (-37), 3) := by decide +kernel
theorem d_af_act_68 : decode (mcode M_af_act) 68 = .ok (.iload 4, 2) := by decide +kernel
theorem d_af_act_70 : decode (mcode M_af_act) 70 = .ok (.ireturn, 1) := by decide +kernel
theorem d_af_year_0 : decode (mcode M_af_year) 0 = .ok (.aload_n 0, 1) := by decide +kernel
theorem d_af_year_1 : decode (mcode M_af_year) 1 = .ok (.getfield 54, 3) := by decide +kernel
theorem d_af_year_4 : decode (mcode M_af_year) 4 = .ok (.bipush 60, 2) := by decide +kernel
theorem d_af_year_6 : decode (mcode M_af_year) 6 = .ok (.if_icmp .lt 5, 3) := by decide +kernel
theorem d_af_year_9 : decode (mcode M_af_year) 9 = .ok (.iconst (-1), 1) := by decide +kernel
theorem d_af_year_10 : decode (mcode M_af_year) 10 = .ok (.ireturn, 1) := by decide +kernel
theorem d_af_year_11 : decode (mcode M_af_year) 11 = .ok (.aload_n 0, 1) := by decide +kernel
theorem d_af_year_12 : decode (mcode M_af_year) 12 = .ok (.getfield 54, 3) := by decide +kernel
theorem d_af_year_15 : decode (mcode M_af_year) 15 = .ok (.aload_n 0, 1) := by decide +kernel
theorem d_af_year_16 : decode (mcode M_af_year) 16 = .ok (.getfield 64, 3) := by decide +kernel
theorem d_af_year_19 : decode (mcode M_af_year) 19 = .ok (.if_icmp .lt 10, 3) := by decide +kernel
theorem d_af_year_22 : decode (mcode M_af_year) 22 = .ok (.aload_n 0, 1) := by decide +kernel
theorem d_af_year_23 : decode (mcode M_af_year) 23 = .ok (.invokevirtual 187, 3) := by decide +kernel
theorem d_af_year_26 : decode (mcode M_af_year) 26 = .ok (.goto 4, 3) := by decide +kernel
theorem d_af_year_29 : decode (mcode M_af_year) 29 = .ok (.iconst 0, 1) := by decide +kernel
theorem d_af_year_30 : decode (mcode M_af_year) 30 = .ok (.istore_n 1, 1) := by decide +kernel
theorem d_af_year_31 : decode (mcode M_af_year) 31 = .ok (.iconst 0, 1) := by decide +kernel
theorem d_af_year_32 : decode (mcode M_af_year) 32 = .ok (.istore_n 2, 1) := by decide +kernel
theorem d_af_year_33 : decode (mcode M_af_year) 33 = .ok (.iload_n 2, 1) := by decide +kernel
theorem d_af_year_34 : decode (mcode M_af_year) 34 = .ok (.aload_n 0, 1) := by decide +kernel
theorem d_af_year_35 : decode (mcode M_af_year) 35 = .ok (.getfield 16, 3) := by decide +kernel
theorem d_af_year_38 : decode (mcode M_af_year) 38 = .ok (.invokevirtual 89, 3) := by decide +kernel
theorem d_af_year_41 : decode (mcode M_af_year) 41 = .ok (.if_icmp .ge 26, 3) := by decide +kernel
theorem d_af_year_44 : decode (mcode M_af_year) 44 = .ok (.aload_n 0, 1) := by decide +kernel
theorem d_af_year_45 : decode (mcode M_af_year) 45 = .ok (.getfield 16, 3) := by decide +kernel
theorem d_af_year_48 : decode (mcode M_af_year) 48 = .ok (.iload_n 2, 1) := by decide +kernel
theorem d_af_year_49 : decode (mcode M_af_year) 49 = .ok (.invokevirtual 179, 3) := by decide +kernel
theorem d_af_year_52 : decode (mcode M_af_year) 52 = .ok (.checkcast 93, 3) := by decide +kernel
theorem d_af_year_55 : decode (mcode M_af_year) 55 = .ok (.getfield 113, 3) := by decide +kernel
theorem d_af_year_58 : decode (mcode M_af_year) 58 = .ok (.invokevirtual 190, 3) := by decide +kernel
theorem d_af_year_61 : decode (mcode M_af_year) 61 = .ok (.iinc 2 1, 3) := by decide +kernel
theorem d_af_year_64 : decode (mcode M_af_year) 64 = .ok (.goto (-31), 3) := by decide +kernel
theorem d_af_year_67 : decode (mcode M_af_year) 67 = .ok (.aload_n 0, 1) := by decide +kernel
theorem d_af_year_68 : decode (mcode M_af_year) 68 = .ok (.getfield 43, 3) := by decide +kernel
theorem d_af_year_71 : decode (mcode M_af_year) 71 = .ok (.invokevirtual 193, 3) := by decide +kernel
theorem d_af_year_74 : decode (mcode M_af_year) 74 = .ok (.aload_n 0, 1) := by decide +kernel
theorem d_af_year_75 : decode (mcode M_af_year) 75 = .ok (.dup, 1) := by decide +kernel
theorem d_af_year_76 : decode (mcode M_af_year) 76 = .ok (.getfield 54, 3) := by decide +kernel
theorem d_af_year_79 : decode (mcode M_af_year) 79 = .ok (.iconst 1, 1) := by decide +kernel
theorem d_af_year_80 : decode (mcode M_af_year) 80 = .ok (.iadd, 1) := by decide +kernel
theorem d_af_year_81 : decode (mcode M_af_year) 81 = .ok (.putfield 54, 3) := by decide +kernel
theorem d_af_year_84 : decode (mcode M_af_year) 84 = .ok (.iload_n 1, 1) := by decide +kernel
theorem d_af_year_85 : decode (mcode M_af_year) 85 = .ok (.ireturn, 1) := by decide +kernel
theorem d_af_due_0 : decode (mcode M_af_due) 0 = .ok (.aload_n 0, 1) := by decide +kernel
theorem d_af_due_1 : decode (mcode M_af_due) 1 = .ok (.iload_n 1, 1) := by decide +kernel
theorem d_af_due_2 : decode (mcode M_af_due) 2 = .ok (.invokevirtual 106, 3) := by decide +kernel
theorem d_af_due_5 : decode (mcode M_af_due) 5 = .ok (.astore_n 3, 1) := by decide +kernel
theorem d_af_due_6 : decode (mcode M_af_due) 6 = .ok (.aload_n 3, 1) := by decide +kernel
theorem d_af_due_7 : decode (mcode M_af_due) 7 = .ok (.ifnull 10, 3) := by decide +kernel
theorem d_af_due_10 : decode (mcode M_af_due) 10 = .ok (.iload_n 2, 1) := by decide +kernel
theorem d_af_due_11 : decode (mcode M_af_due) 11 = .ok (.invokestatic 124, 3) := by decide +kernel
theorem d_af_due_14 : decode (mcode M_af_due) 14 = .ok (.ifCond .ne 5, 3) := by decide +kernel
theorem d_af_due_17 : decode (mcode M_af_due) 17 = .ok (.iconst 0, 1) := by decide +kernel
theorem d_af_due_18 : decode (mcode M_af_due) 18 = .ok (.ireturn, 1) := by decide +kernel
theorem d_af_due_19 : decode (mcode M_af_due) 19 = .ok (.aload_n 3, 1) := by decide +kernel
theorem d_af_due_20 : decode (mcode M_af_due) 20 = .ok (.iload_n 2, 1) := by decide +kernel
theorem d_af_due_21 : decode (mcode M_af_due) 21 = .ok (.putfield 196, 3) := by decide +kernel
theorem d_af_due_24 : decode (mcode M_af_due) 24 = .ok (.iconst 1, 1) := by decide +kernel
theorem d_af_due_25 : decode (mcode M_af_due) 25 = .ok (.ireturn, 1) := by decide +kernel
theorem d_af_saved_0 : decode (mcode M_af_saved) 0 = .ok (.aload_n 0, 1) := by decide +kernel
theorem d_af_saved_1 : decode (mcode M_af_saved) 1 = .ok (.iload_n 1, 1) := by decide +kernel
theorem d_af_saved_2 : decode (mcode M_af_saved) 2 = .ok (.invokevirtual 199, 3) := by decide +kernel
theorem d_af_saved_5 : decode (mcode M_af_saved) 5 = .ok (.ifCond .eq 13, 3) := by decide +kernel
theorem d_af_saved_8 : decode (mcode M_af_saved) 8 = .ok (.aload_n 0, 1) := by decide +kernel
theorem d_af_saved_9 : decode (mcode M_af_saved) 9 = .ok (.getfield 36, 3) := by decide +kernel
theorem d_af_saved_12 : decode (mcode M_af_saved) 12 = .ok (.getfield 202, 3) := by decide +kernel
theorem d_af_saved_15 : decode (mcode M_af_saved) 15 = .ok (.goto 4, 3) := by decide +kernel
theorem d_af_saved_18 : decode (mcode M_af_saved) 18 = .ok (.iconst (-1), 1) := by decide +kernel
theorem d_af_saved_19 : decode (mcode M_af_saved) 19 = .ok (.ireturn, 1) := by decide +kernel
theorem d_af_heap_0 : decode (mcode M_af_heap) 0 = .ok (.aload_n 0, 1) := by decide +kernel
theorem d_af_heap_1 : decode (mcode M_af_heap) 1 = .ok (.iload_n 1, 1) := by decide +kernel
theorem d_af_heap_2 : decode (mcode M_af_heap) 2 = .ok (.invokevirtual 199, 3) := by decide +kernel
theorem d_af_heap_5 : decode (mcode M_af_heap) 5 = .ok (.ifCond .eq 13, 3) := by decide +kernel
theorem d_af_heap_8 : decode (mcode M_af_heap) 8 = .ok (.aload_n 0, 1) := by decide +kernel
theorem d_af_heap_9 : decode (mcode M_af_heap) 9 = .ok (.getfield 36, 3) := by decide +kernel
theorem d_af_heap_12 : decode (mcode M_af_heap) 12 = .ok (.getfield 205, 3) := by decide +kernel
theorem d_af_heap_15 : decode (mcode M_af_heap) 15 = .ok (.goto 4, 3) := by decide +kernel
theorem d_af_heap_18 : decode (mcode M_af_heap) 18 = .ok (.iconst (-1), 1) := by decide +kernel
theorem d_af_heap_19 : decode (mcode M_af_heap) 19 = .ok (.ireturn, 1) := by decide +kernel
theorem d_af_works_0 : decode (mcode M_af_works) 0 = .ok (.iload_n 1, 1) := by decide +kernel
theorem d_af_works_1 : decode (mcode M_af_works) 1 = .ok (.iconst 1, 1) := by decide +kernel
theorem d_af_works_2 : decode (mcode M_af_works) 2 = .ok (.sipush 10000, 3) := by decide +kernel
theorem d_af_works_5 : decode (mcode M_af_works) 5 = .ok (.invokestatic 76, 3) := by decide +kernel
theorem d_af_works_8 : decode (mcode M_af_works) 8 = .ok (.ifCond .eq 14, 3) := by decide +kernel
theorem d_af_works_11 : decode (mcode M_af_works) 11 = .ok (.aload_n 0, 1) := by decide +kernel
theorem d_af_works_12 : decode (mcode M_af_works) 12 = .ok (.getfield 43, 3) := by decide +kernel
theorem d_af_works_15 : decode (mcode M_af_works) 15 = .ok (.iload_n 1, 1) := by decide +kernel
theorem d_af_works_16 : decode (mcode M_af_works) 16 = .ok (.invokevirtual 208, 3) := by decide +kernel
theorem d_af_works_19 : decode (mcode M_af_works) 19 = .ok (.goto 4, 3) := by decide +kernel
theorem d_af_works_22 : decode (mcode M_af_works) 22 = .ok (.iconst (-1), 1) := by decide +kernel
theorem d_af_works_23 : decode (mcode M_af_works) 23 = .ok (.ireturn, 1) := by decide +kernel
theorem d_af_tax_0 : decode (mcode M_af_tax) 0 = .ok (.iload_n 1, 1) := by decide +kernel
theorem d_af_tax_1 : decode (mcode M_af_tax) 1 = .ok (.iconst 0, 1) := by decide +kernel
theorem d_af_tax_2 : decode (mcode M_af_tax) 2 = .ok (.sipush 5000, 3) := by decide +kernel
theorem d_af_tax_5 : decode (mcode M_af_tax) 5 = .ok (.invokestatic 76, 3) := by decide +kernel
theorem d_af_tax_8 : decode (mcode M_af_tax) 8 = .ok (.ifCond .ne 5, 3) := by decide +kernel
theorem d_af_tax_11 : decode (mcode M_af_tax) 11 = .ok (.iconst 0, 1) := by decide +kernel
theorem d_af_tax_12 : decode (mcode M_af_tax) 12 = .ok (.ireturn, 1) := by decide +kernel
theorem d_af_tax_13 : decode (mcode M_af_tax) 13 = .ok (.aload_n 0, 1) := by decide +kernel
theorem d_af_tax_14 : decode (mcode M_af_tax) 14 = .ok (.getfield 43, 3) := by decide +kernel
theorem d_af_tax_17 : decode (mcode M_af_tax) 17 = .ok (.iload_n 1, 1) := by decide +kernel
theorem d_af_tax_18 : decode (mcode M_af_tax) 18 = .ok (.putfield 211, 3) := by decide +kernel
theorem d_af_tax_21 : decode (mcode M_af_tax) 21 = .ok (.iconst 1, 1) := by decide +kernel
theorem d_af_tax_22 : decode (mcode M_af_tax) 22 = .ok (.ireturn, 1) := by decide +kernel
theorem d_af_stake_0 : decode (mcode M_af_stake) 0 = .ok (.aload_n 0, 1) := by decide +kernel
theorem d_af_stake_1 : decode (mcode M_af_stake) 1 = .ok (.iload_n 1, 1) := by decide +kernel
theorem d_af_stake_2 : decode (mcode M_af_stake) 2 = .ok (.invokevirtual 85, 3) := by decide +kernel
theorem d_af_stake_5 : decode (mcode M_af_stake) 5 = .ok (.astore 4, 2) := by decide +kernel
theorem d_af_stake_7 : decode (mcode M_af_stake) 7 = .ok (.aload 4, 2) := by decide +kernel
theorem d_af_stake_9 : decode (mcode M_af_stake) 9 = .ok (.ifnull 13, 3) := by decide +kernel
theorem d_af_stake_12 : decode (mcode M_af_stake) 12 = .ok (.iload_n 2, 1) := by decide +kernel
theorem d_af_stake_13 : decode (mcode M_af_stake) 13 = .ok (.iconst 0, 1) := by decide +kernel
theorem d_af_stake_14 : decode (mcode M_af_stake) 14 = .ok (.bipush 6, 2) := by decide +kernel
theorem d_af_stake_16 : decode (mcode M_af_stake) 16 = .ok (.invokestatic 76, 3) := by decide +kernel
theorem d_af_stake_19 : decode (mcode M_af_stake) 19 = .ok (.ifCond .ne 5, 3) := by decide +kernel
theorem d_af_stake_22 : decode (mcode M_af_stake) 22 = .ok (.iconst 0, 1) := by decide +kernel
theorem d_af_stake_23 : decode (mcode M_af_stake) 23 = .ok (.ireturn, 1) := by decide +kernel
theorem d_af_stake_24 : decode (mcode M_af_stake) 24 = .ok (.iload_n 3, 1) := by decide +kernel
theorem d_af_stake_25 : decode (mcode M_af_stake) 25 = .ok (.iconst (-1), 1) := by decide +kernel
theorem d_af_stake_26 : decode (mcode M_af_stake) 26 = .ok (.if_icmp .eq 16, 3) := by decide +kernel
theorem d_af_stake_29 : decode (mcode M_af_stake) 29 = .ok (.iload_n 3, 1) := by decide +kernel
theorem d_af_stake_30 : decode (mcode M_af_stake) 30 = .ok (.iconst 0, 1) := by decide +kernel
theorem d_af_stake_31 : decode (mcode M_af_stake) 31 = .ok (.sipush 300, 3) := by decide +kernel
theorem d_af_stake_34 : decode (mcode M_af_stake) 34 = .ok (.invokestatic 76, 3) := by decide +kernel
theorem d_af_stake_37 : decode (mcode M_af_stake) 37 = .ok (.ifCond .ne 5, 3) := by decide +kernel
theorem d_af_stake_40 : decode (mcode M_af_stake) 40 = .ok (.iconst 0, 1) := by decide +kernel
theorem d_af_stake_41 : decode (mcode M_af_stake) 41 = .ok (.ireturn, 1) := by decide +kernel
theorem d_af_stake_42 : decode (mcode M_af_stake) 42 = .ok (.aload 4, 2) := by decide +kernel
theorem d_af_stake_44 : decode (mcode M_af_stake) 44 = .ok (.getfield 214, 3) := by decide +kernel
theorem d_af_stake_47 : decode (mcode M_af_stake) 47 = .ok (.iload_n 2, 1) := by decide +kernel
theorem d_af_stake_48 : decode (mcode M_af_stake) 48 = .ok (.iload_n 3, 1) := by decide +kernel
theorem d_af_stake_49 : decode (mcode M_af_stake) 49 = .ok (.iastore, 1) := by decide +kernel
theorem d_af_stake_50 : decode (mcode M_af_stake) 50 = .ok (.iconst 1, 1) := by decide +kernel
theorem d_af_stake_51 : decode (mcode M_af_stake) 51 = .ok (.ireturn, 1) := by decide +kernel
theorem d_af_quarrel_0 : decode (mcode M_af_quarrel) 0 = .ok (.aload_n 0, 1) := by decide +kernel
theorem d_af_quarrel_1 : decode (mcode M_af_quarrel) 1 = .ok (.iload_n 1, 1) := by decide +kernel
theorem d_af_quarrel_2 : decode (mcode M_af_quarrel) 2 = .ok (.invokevirtual 85, 3) := by decide +kernel
theorem d_af_quarrel_5 : decode (mcode M_af_quarrel) 5 = .ok (.astore_n 3, 1) := by decide +kernel
theorem d_af_quarrel_6 : decode (mcode M_af_quarrel) 6 = .ok (.aload_n 3, 1) := by decide +kernel
theorem d_af_quarrel_7 : decode (mcode M_af_quarrel) 7 = .ok (.ifnull 11, 3) := by decide +kernel
theorem d_af_quarrel_10 : decode (mcode M_af_quarrel) 10 = .ok (.aload_n 3, 1) := by decide +kernel
theorem d_af_quarrel_11 : decode (mcode M_af_quarrel) 11 = .ok (.iload_n 2, 1) := by decide +kernel
theorem d_af_quarrel_12 : decode (mcode M_af_quarrel) 12 = .ok (.invokevirtual 217, 3) := by decide +kernel
theorem d_af_quarrel_15 : decode (mcode M_af_quarrel) 15 = .ok (.ifCond .ne 5, 3) := by decide +kernel
theorem d_af_quarrel_18 : decode (mcode M_af_quarrel) 18 = .ok (.iconst (-1), 1) := by decide +kernel
theorem d_af_quarrel_19 : decode (mcode M_af_quarrel) 19 = .ok (.ireturn, 1) := by decide +kernel
theorem d_af_quarrel_20 : decode (mcode M_af_quarrel) 20 = .ok (.aload_n 0, 1) := by decide +kernel
theorem d_af_quarrel_21 : decode (mcode M_af_quarrel) 21 = .ok (.getfield 50, 3) := by decide +kernel
theorem d_af_quarrel_24 : decode (mcode M_af_quarrel) 24 = .ok (.aload_n 3, 1) := by decide +kernel
theorem d_af_quarrel_25 : decode (mcode M_af_quarrel) 25 = .ok (.iload_n 2, 1) := by decide +kernel
theorem d_af_quarrel_26 : decode (mcode M_af_quarrel) 26 = .ok (.invokevirtual 220, 3) := by decide +kernel
theorem d_af_quarrel_29 : decode (mcode M_af_quarrel) 29 = .ok (.aload_n 0, 1) := by decide +kernel
theorem d_af_quarrel_30 : decode (mcode M_af_quarrel) 30 = .ok (.getfield 50, 3) := by decide +kernel
theorem d_af_quarrel_33 : decode (mcode M_af_quarrel) 33 = .ok (.aload_n 3, 1) := by decide +kernel
theorem d_af_quarrel_34 : decode (mcode M_af_quarrel) 34 = .ok (.iload_n 2, 1) := by decide +kernel
theorem d_af_quarrel_35 : decode (mcode M_af_quarrel) 35 = .ok (.invokevirtual 224, 3) := by decide +kernel
theorem d_af_quarrel_38 : decode (mcode M_af_quarrel) 38 = .ok (.ireturn, 1) := by decide +kernel
theorem d_af_border_0 : decode (mcode M_af_border) 0 = .ok (.aload_n 0, 1) := by decide +kernel
theorem d_af_border_1 : decode (mcode M_af_border) 1 = .ok (.iload_n 1, 1) := by decide +kernel
theorem d_af_border_2 : decode (mcode M_af_border) 2 = .ok (.invokevirtual 85, 3) := by decide +kernel
theorem d_af_border_5 : decode (mcode M_af_border) 5 = .ok (.astore 4, 2) := by decide +kernel
theorem d_af_border_7 : decode (mcode M_af_border) 7 = .ok (.aload 4, 2) := by decide +kernel
theorem d_af_border_9 : decode (mcode M_af_border) 9 = .ok (.ifnull 30, 3) := by decide +kernel
theorem d_af_border_12 : decode (mcode M_af_border) 12 = .ok (.aload 4, 2) := by decide +kernel
theorem d_af_border_14 : decode (mcode M_af_border) 14 = .ok (.iload_n 2, 1) := by decide +kernel
theorem d_af_border_15 : decode (mcode M_af_border) 15 = .ok (.invokevirtual 217, 3) := by decide +kernel
theorem d_af_border_18 : decode (mcode M_af_border) 18 = .ok (.ifCond .eq 21, 3) := by decide +kernel
theorem d_af_border_21 : decode (mcode M_af_border) 21 = .ok (.iload_n 3, 1) := by decide +kernel
theorem d_af_border_22 : decode (mcode M_af_border) 22 = .ok (.iconst 0, 1) := by decide +kernel
theorem d_af_border_23 : decode (mcode M_af_border) 23 = .ok (.aload 4, 2) := by decide +kernel
theorem d_af_border_25 : decode (mcode M_af_border) 25 = .ok (.getfield 176, 3) := by decide +kernel
theorem d_af_border_28 : decode (mcode M_af_border) 28 = .ok (.invokevirtual 89, 3) := by decide +kernel
theorem d_af_border_31 : decode (mcode M_af_border) 31 = .ok (.iconst 2, 1) := by decide +kernel
theorem d_af_border_32 : decode (mcode M_af_border) 32 = .ok (.isub, 1) := by decide +kernel
theorem d_af_border_33 : decode (mcode M_af_border) 33 = .ok (.invokestatic 76, 3) := by decide +kernel
theorem d_af_border_36 : decode (mcode M_af_border) 36 = .ok (.ifCond .ne 5, 3) := by decide +kernel
theorem d_af_border_39 : decode (mcode M_af_border) 39 = .ok (.iconst (-1), 1) := by decide +kernel
theorem d_af_border_40 : decode (mcode M_af_border) 40 = .ok (.ireturn, 1) := by decide +kernel
theorem d_af_border_41 : decode (mcode M_af_border) 41 = .ok (.aload_n 0, 1) := by decide +kernel
theorem d_af_border_42 : decode (mcode M_af_border) 42 = .ok (.getfield 50, 3) := by decide +kernel
theorem d_af_border_45 : decode (mcode M_af_border) 45 = .ok (.aload 4, 2) := by decide +kernel
theorem d_af_border_47 : decode (mcode M_af_border) 47 = .ok (.iload_n 2, 1) := by decide +kernel
theorem d_af_border_48 : decode (mcode M_af_border) 48 = .ok (.invokevirtual 220, 3) := by decide +kernel
theorem d_af_border_51 : decode (mcode M_af_border) 51 = .ok (.aload_n 0, 1) := by decide +kernel
theorem d_af_border_52 : decode (mcode M_af_border) 52 = .ok (.getfield 50, 3) := by decide +kernel
theorem d_af_border_55 : decode (mcode M_af_border) 55 = .ok (.aload 4, 2) := by decide +kernel
theorem d_af_border_57 : decode (mcode M_af_border) 57 = .ok (.iload_n 2, 1) := by decide +kernel
theorem d_af_border_58 : decode (mcode M_af_border) 58 = .ok (.iload_n 3, 1) := by decide +kernel
theorem d_af_border_59 : decode (mcode M_af_border) 59 = .ok (.invokevirtual 228, 3) := by decide +kernel
theorem d_af_border_62 : decode (mcode M_af_border) 62 = .ok (.ireturn, 1) := by decide +kernel
theorem d_af_told_0 : decode (mcode M_af_told) 0 = .ok (.aload_n 0, 1) := by decide +kernel
theorem d_af_told_1 : decode (mcode M_af_told) 1 = .ok (.iload_n 1, 1) := by decide +kernel
theorem d_af_told_2 : decode (mcode M_af_told) 2 = .ok (.invokevirtual 106, 3) := by decide +kernel
theorem d_af_told_5 : decode (mcode M_af_told) 5 = .ok (.astore_n 3, 1) := by decide +kernel
theorem d_af_told_6 : decode (mcode M_af_told) 6 = .ok (.aload_n 3, 1) := by decide +kernel
theorem d_af_told_7 : decode (mcode M_af_told) 7 = .ok (.ifnonnull 5, 3) := by decide +kernel
theorem d_af_told_10 : decode (mcode M_af_told) 10 = .ok (.iconst (-1), 1) := by decide +kernel
theorem d_af_told_11 : decode (mcode M_af_told) 11 = .ok (.ireturn, 1) := by decide +kernel
theorem d_af_told_12 : decode (mcode M_af_told) 12 = .ok (.iload_n 2, 1) := by decide +kernel
theorem d_af_told_13 : decode (mcode M_af_told) 13 = .ok (.tableswitch 81 0 6 #[43, 48, 53, 58, 66, 71, 76], 43) := by decide +kernel
theorem d_af_told_56 : decode (mcode M_af_told) 56 = .ok (.aload_n 3, 1) := by decide +kernel
theorem d_af_told_57 : decode (mcode M_af_told) 57 = .ok (.getfield 110, 3) := by decide +kernel
theorem d_af_told_60 : decode (mcode M_af_told) 60 = .ok (.ireturn, 1) := by decide +kernel
theorem d_af_told_61 : decode (mcode M_af_told) 61 = .ok (.aload_n 3, 1) := by decide +kernel
theorem d_af_told_62 : decode (mcode M_af_told) 62 = .ok (.getfield 232, 3) := by decide +kernel
theorem d_af_told_65 : decode (mcode M_af_told) 65 = .ok (.ireturn, 1) := by decide +kernel
theorem d_af_told_66 : decode (mcode M_af_told) 66 = .ok (.aload_n 3, 1) := by decide +kernel
theorem d_af_told_67 : decode (mcode M_af_told) 67 = .ok (.getfield 235, 3) := by decide +kernel
theorem d_af_told_70 : decode (mcode M_af_told) 70 = .ok (.ireturn, 1) := by decide +kernel
theorem d_af_told_71 : decode (mcode M_af_told) 71 = .ok (.aload_n 3, 1) := by decide +kernel
theorem d_af_told_72 : decode (mcode M_af_told) 72 = .ok (.getfield 113, 3) := by decide +kernel
theorem d_af_told_75 : decode (mcode M_af_told) 75 = .ok (.invokevirtual 121, 3) := by decide +kernel
theorem d_af_told_78 : decode (mcode M_af_told) 78 = .ok (.ireturn, 1) := by decide +kernel
theorem d_af_told_79 : decode (mcode M_af_told) 79 = .ok (.aload_n 3, 1) := by decide +kernel
theorem d_af_told_80 : decode (mcode M_af_told) 80 = .ok (.getfield 238, 3) := by decide +kernel
theorem d_af_told_83 : decode (mcode M_af_told) 83 = .ok (.ireturn, 1) := by decide +kernel
theorem d_af_told_84 : decode (mcode M_af_told) 84 = .ok (.aload_n 3, 1) := by decide +kernel
theorem d_af_told_85 : decode (mcode M_af_told) 85 = .ok (.getfield 241, 3) := by decide +kernel
theorem d_af_told_88 : decode (mcode M_af_told) 88 = .ok (.ireturn, 1) := by decide +kernel
theorem d_af_told_89 : decode (mcode M_af_told) 89 = .ok (.aload_n 3, 1) := by decide +kernel
theorem d_af_told_90 : decode (mcode M_af_told) 90 = .ok (.invokevirtual 244, 3) := by decide +kernel
theorem d_af_told_93 : decode (mcode M_af_told) 93 = .ok (.ireturn, 1) := by decide +kernel
theorem d_af_told_94 : decode (mcode M_af_told) 94 = .ok (.iconst (-1), 1) := by decide +kernel
theorem d_af_told_95 : decode (mcode M_af_told) 95 = .ok (.ireturn, 1) := by decide +kernel
theorem d_af_chain_0 : decode (mcode M_af_chain) 0 = .ok (.aload_n 0, 1) := by decide +kernel
theorem d_af_chain_1 : decode (mcode M_af_chain) 1 = .ok (.iload_n 1, 1) := by decide +kernel
theorem d_af_chain_2 : decode (mcode M_af_chain) 2 = .ok (.invokevirtual 106, 3) := by decide +kernel
theorem d_af_chain_5 : decode (mcode M_af_chain) 5 = .ok (.astore 4, 2) := by decide +kernel
theorem d_af_chain_7 : decode (mcode M_af_chain) 7 = .ok (.aload 4, 2) := by decide +kernel
theorem d_af_chain_9 : decode (mcode M_af_chain) 9 = .ok (.ifnonnull 5, 3) := by decide +kernel
theorem d_af_chain_12 : decode (mcode M_af_chain) 12 = .ok (.iconst (-1), 1) := by decide +kernel
theorem d_af_chain_13 : decode (mcode M_af_chain) 13 = .ok (.ireturn, 1) := by decide +kernel
theorem d_af_chain_14 : decode (mcode M_af_chain) 14 = .ok (.iload_n 3, 1) := by decide +kernel
theorem d_af_chain_15 : decode (mcode M_af_chain) 15 = .ok (.tableswitch 55 0 2 #[25, 35, 45], 25) := by decide +kernel
theorem d_af_chain_40 : decode (mcode M_af_chain) 40 = .ok (.aload 4, 2) := by decide +kernel
theorem d_af_chain_42 : decode (mcode M_af_chain) 42 = .ok (.getfield 113, 3) := by decide +kernel
theorem d_af_chain_45 : decode (mcode M_af_chain) 45 = .ok (.iload_n 2, 1) := by decide +kernel
theorem d_af_chain_46 : decode (mcode M_af_chain) 46 = .ok (.invokevirtual 152, 3) := by decide +kernel
theorem d_af_chain_49 : decode (mcode M_af_chain) 49 = .ok (.ireturn, 1) := by decide +kernel
theorem d_af_chain_50 : decode (mcode M_af_chain) 50 = .ok (.aload 4, 2) := by decide +kernel
theorem d_af_chain_52 : decode (mcode M_af_chain) 52 = .ok (.getfield 113, 3) := by decide +kernel
theorem d_af_chain_55 : decode (mcode M_af_chain) 55 = .ok (.iload_n 2, 1) := by decide +kernel
theorem d_af_chain_56 : decode (mcode M_af_chain) 56 = .ok (.invokevirtual 247, 3) := by decide +kernel
theorem d_af_chain_59 : decode (mcode M_af_chain) 59 = .ok (.ireturn, 1) := by decide +kernel
theorem d_af_chain_60 : decode (mcode M_af_chain) 60 = .ok (.aload 4, 2) := by decide +kernel
theorem d_af_chain_62 : decode (mcode M_af_chain) 62 = .ok (.getfield 113, 3) := by decide +kernel
theorem d_af_chain_65 : decode (mcode M_af_chain) 65 = .ok (.iload_n 2, 1) := by decide +kernel
theorem d_af_chain_66 : decode (mcode M_af_chain) 66 = .ok (.invokevirtual 250, 3) := by decide +kernel
theorem d_af_chain_69 : decode (mcode M_af_chain) 69 = .ok (.ireturn, 1) := by decide +kernel
theorem d_af_chain_70 : decode (mcode M_af_chain) 70 = .ok (.iconst (-1), 1) := by decide +kernel
theorem d_af_chain_71 : decode (mcode M_af_chain) 71 = .ok (.ireturn, 1) := by decide +kernel
theorem d_af_has_0 : decode (mcode M_af_has) 0 = .ok (.iload_n 1, 1) := by decide +kernel
theorem d_af_has_1 : decode (mcode M_af_has) 1 = .ok (.invokestatic 71, 3) := by decide +kernel
theorem d_af_has_4 : decode (mcode M_af_has) 4 = .ok (.ifCond .eq 12, 3) := by decide +kernel
theorem d_af_has_7 : decode (mcode M_af_has) 7 = .ok (.aload_n 0, 1) := by decide +kernel
theorem d_af_has_8 : decode (mcode M_af_has) 8 = .ok (.getfield 9, 3) := by decide +kernel
theorem d_af_has_11 : decode (mcode M_af_has) 11 = .ok (.iload_n 1, 1) := by decide +kernel
theorem d_af_has_12 : decode (mcode M_af_has) 12 = .ok (.iaload, 1) := by decide +kernel
theorem d_af_has_13 : decode (mcode M_af_has) 13 = .ok (.goto 5, 3) := by decide +kernel
theorem d_af_has_16 : decode (mcode M_af_has) 16 = .ok (.ldc 80, 2) := by decide +kernel
theorem d_af_has_18 : decode (mcode M_af_has) 18 = .ok (.ireturn, 1) := by decide +kernel
theorem d_af_count_0 : decode (mcode M_af_count) 0 = .ok (.iload_n 1, 1) := by decide +kernel
theorem d_af_count_1 : decode (mcode M_af_count) 1 = .ok (.tableswitch 99 0 7 #[47, 52, 60, 66, 72, 78, 86, 94], 47) := by decide +kernel
theorem d_af_count_48 : decode (mcode M_af_count) 48 = .ok (.aload_n 0, 1) := by decide +kernel
theorem d_af_count_49 : decode (mcode M_af_count) 49 = .ok (.getfield 54, 3) := by decide +kernel
theorem d_af_count_52 : decode (mcode M_af_count) 52 = .ok (.ireturn, 1) := by decide +kernel
theorem d_af_count_53 : decode (mcode M_af_count) 53 = .ok (.aload_n 0, 1) := by decide +kernel
theorem d_af_count_54 : decode (mcode M_af_count) 54 = .ok (.getfield 16, 3) := by decide +kernel
theorem d_af_count_57 : decode (mcode M_af_count) 57 = .ok (.invokevirtual 89, 3) := by decide +kernel
theorem d_af_count_60 : decode (mcode M_af_count) 60 = .ok (.ireturn, 1) := by decide +kernel
theorem d_af_count_61 : decode (mcode M_af_count) 61 = .ok (.aload_n 0, 1) := by decide +kernel
theorem d_af_count_62 : decode (mcode M_af_count) 62 = .ok (.iconst 1, 1) := by decide +kernel
theorem d_af_count_63 : decode (mcode M_af_count) 63 = .ok (.invokevirtual 253, 3) := by decide +kernel
theorem d_af_count_66 : decode (mcode M_af_count) 66 = .ok (.ireturn, 1) := by decide +kernel
theorem d_af_count_67 : decode (mcode M_af_count) 67 = .ok (.aload_n 0, 1) := by decide +kernel
theorem d_af_count_68 : decode (mcode M_af_count) 68 = .ok (.iconst 2, 1) := by decide +kernel
theorem d_af_count_69 : decode (mcode M_af_count) 69 = .ok (.invokevirtual 253, 3) := by decide +kernel
theorem d_af_count_72 : decode (mcode M_af_count) 72 = .ok (.ireturn, 1) := by decide +kernel
theorem d_af_count_73 : decode (mcode M_af_count) 73 = .ok (.aload_n 0, 1) := by decide +kernel
theorem d_af_count_74 : decode (mcode M_af_count) 74 = .ok (.iconst 3, 1) := by decide +kernel
theorem d_af_count_75 : decode (mcode M_af_count) 75 = .ok (.invokevirtual 253, 3) := by decide +kernel
theorem d_af_count_78 : decode (mcode M_af_count) 78 = .ok (.ireturn, 1) := by decide +kernel
theorem d_af_count_79 : decode (mcode M_af_count) 79 = .ok (.aload_n 0, 1) := by decide +kernel
theorem d_af_count_80 : decode (mcode M_af_count) 80 = .ok (.getfield 43, 3) := by decide +kernel
theorem d_af_count_83 : decode (mcode M_af_count) 83 = .ok (.getfield 256, 3) := by decide +kernel
theorem d_af_count_86 : decode (mcode M_af_count) 86 = .ok (.ireturn, 1) := by decide +kernel
theorem d_af_count_87 : decode (mcode M_af_count) 87 = .ok (.aload_n 0, 1) := by decide +kernel
theorem d_af_count_88 : decode (mcode M_af_count) 88 = .ok (.getfield 43, 3) := by decide +kernel
theorem d_af_count_91 : decode (mcode M_af_count) 91 = .ok (.getfield 259, 3) := by decide +kernel
theorem d_af_count_94 : decode (mcode M_af_count) 94 = .ok (.ireturn, 1) := by decide +kernel
theorem d_af_count_95 : decode (mcode M_af_count) 95 = .ok (.aload_n 0, 1) := by decide +kernel
theorem d_af_count_96 : decode (mcode M_af_count) 96 = .ok (.getfield 67, 3) := by decide +kernel
theorem d_af_count_99 : decode (mcode M_af_count) 99 = .ok (.ireturn, 1) := by decide +kernel
theorem d_af_count_100 : decode (mcode M_af_count) 100 = .ok (.iconst (-1), 1) := by decide +kernel
theorem d_af_count_101 : decode (mcode M_af_count) 101 = .ok (.ireturn, 1) := by decide +kernel
theorem d_af_within_0 : decode (mcode M_af_within) 0 = .ok (.iload_n 0, 1) := by decide +kernel
theorem d_af_within_1 : decode (mcode M_af_within) 1 = .ok (.iload_n 1, 1) := by decide +kernel
theorem d_af_within_2 : decode (mcode M_af_within) 2 = .ok (.if_icmp .lt 12, 3) := by decide +kernel
theorem d_af_within_5 : decode (mcode M_af_within) 5 = .ok (.iload_n 0, 1) := by decide +kernel
theorem d_af_within_6 : decode (mcode M_af_within) 6 = .ok (.iload_n 2, 1) := by decide +kernel
theorem d_af_within_7 : decode (mcode M_af_within) 7 = .ok (.if_icmp .gt 7, 3) := by decide +kernel
theorem d_af_within_10 : decode (mcode M_af_within) 10 = .ok (.iconst 1, 1) := by decide +kernel
theorem d_af_within_11 : decode (mcode M_af_within) 11 = .ok (.goto 4, 3) := by decide +kernel
theorem d_af_within_14 : decode (mcode M_af_within) 14 = .ok (.iconst 0, 1) := by decide +kernel
theorem d_af_within_15 : decode (mcode M_af_within) 15 = .ok (.ireturn, 1) := by decide +kernel
theorem d_af_isPerson_0 : decode (mcode M_af_isPerson) 0 = .ok (.iload_n 0, 1) := by decide +kernel
theorem d_af_isPerson_1 : decode (mcode M_af_isPerson) 1 = .ok (.iconst 0, 1) := by decide +kernel
theorem d_af_isPerson_2 : decode (mcode M_af_isPerson) 2 = .ok (.bipush 19, 2) := by decide +kernel
theorem d_af_isPerson_4 : decode (mcode M_af_isPerson) 4 = .ok (.invokestatic 76, 3) := by decide +kernel
theorem d_af_isPerson_7 : decode (mcode M_af_isPerson) 7 = .ok (.ireturn, 1) := by decide +kernel
theorem d_af_isYear_0 : decode (mcode M_af_isYear) 0 = .ok (.iload_n 0, 1) := by decide +kernel
theorem d_af_isYear_1 : decode (mcode M_af_isYear) 1 = .ok (.iconst 0, 1) := by decide +kernel
theorem d_af_isYear_2 : decode (mcode M_af_isYear) 2 = .ok (.bipush 60, 2) := by decide +kernel
theorem d_af_isYear_4 : decode (mcode M_af_isYear) 4 = .ok (.invokestatic 76, 3) := by decide +kernel
theorem d_af_isYear_7 : decode (mcode M_af_isYear) 7 = .ok (.ireturn, 1) := by decide +kernel
theorem d_af_plotAt_0 : decode (mcode M_af_plotAt) 0 = .ok (.iload_n 1, 1) := by decide +kernel
theorem d_af_plotAt_1 : decode (mcode M_af_plotAt) 1 = .ok (.iconst 0, 1) := by decide +kernel
theorem d_af_plotAt_2 : decode (mcode M_af_plotAt) 2 = .ok (.aload_n 0, 1) := by decide +kernel
theorem d_af_plotAt_3 : decode (mcode M_af_plotAt) 3 = .ok (.getfield 16, 3) := by decide +kernel
theorem d_af_plotAt_6 : decode (mcode M_af_plotAt) 6 = .ok (.invokevirtual 89, 3) := by decide +kernel
theorem d_af_plotAt_9 : decode (mcode M_af_plotAt) 9 = .ok (.iconst 1, 1) := by decide +kernel
theorem d_af_plotAt_10 : decode (mcode M_af_plotAt) 10 = .ok (.isub, 1) := by decide +kernel
theorem d_af_plotAt_11 : decode (mcode M_af_plotAt) 11 = .ok (.invokestatic 76, 3) := by decide +kernel
theorem d_af_plotAt_14 : decode (mcode M_af_plotAt) 14 = .ok (.ifCond .eq 17, 3) := by decide +kernel
theorem d_af_plotAt_17 : decode (mcode M_af_plotAt) 17 = .ok (.aload_n 0, 1) := by decide +kernel
theorem d_af_plotAt_18 : decode (mcode M_af_plotAt) 18 = .ok (.getfield 16, 3) := by decide +kernel
theorem d_af_plotAt_21 : decode (mcode M_af_plotAt) 21 = .ok (.iload_n 1, 1) := by decide +kernel
theorem d_af_plotAt_22 : decode (mcode M_af_plotAt) 22 = .ok (.invokevirtual 179, 3) := by decide +kernel
theorem d_af_plotAt_25 : decode (mcode M_af_plotAt) 25 = .ok (.checkcast 93, 3) := by decide +kernel
theorem d_af_plotAt_28 : decode (mcode M_af_plotAt) 28 = .ok (.goto 4, 3) := by decide +kernel
theorem d_af_plotAt_31 : decode (mcode M_af_plotAt) 31 = .ok (.aconst_null, 1) := by decide +kernel
theorem d_af_plotAt_32 : decode (mcode M_af_plotAt) 32 = .ok (.areturn, 1) := by decide +kernel
theorem d_af_streetAt_0 : decode (mcode M_af_streetAt) 0 = .ok (.iload_n 1, 1) := by decide +kernel
theorem d_af_streetAt_1 : decode (mcode M_af_streetAt) 1 = .ok (.iconst 0, 1) := by decide +kernel
theorem d_af_streetAt_2 : decode (mcode M_af_streetAt) 2 = .ok (.iconst 5, 1) := by decide +kernel
theorem d_af_streetAt_3 : decode (mcode M_af_streetAt) 3 = .ok (.invokestatic 76, 3) := by decide +kernel
theorem d_af_streetAt_6 : decode (mcode M_af_streetAt) 6 = .ok (.ifCond .eq 12, 3) := by decide +kernel
theorem d_af_streetAt_9 : decode (mcode M_af_streetAt) 9 = .ok (.aload_n 0, 1) := by decide +kernel
theorem d_af_streetAt_10 : decode (mcode M_af_streetAt) 10 = .ok (.getfield 22, 3) := by decide +kernel
theorem d_af_streetAt_13 : decode (mcode M_af_streetAt) 13 = .ok (.iload_n 1, 1) := by decide +kernel
theorem d_af_streetAt_14 : decode (mcode M_af_streetAt) 14 = .ok (.aaload, 1) := by decide +kernel
theorem d_af_streetAt_15 : decode (mcode M_af_streetAt) 15 = .ok (.goto 4, 3) := by decide +kernel
theorem d_af_streetAt_18 : decode (mcode M_af_streetAt) 18 = .ok (.aconst_null, 1) := by decide +kernel
theorem d_af_streetAt_19 : decode (mcode M_af_streetAt) 19 = .ok (.areturn, 1) := by decide +kernel
theorem d_af_give_0 : decode (mcode M_af_give) 0 = .ok (.iload_n 1, 1) := by decide +kernel
theorem d_af_give_1 : decode (mcode M_af_give) 1 = .ok (.invokestatic 71, 3) := by decide +kernel
theorem d_af_give_4 : decode (mcode M_af_give) 4 = .ok (.ifCond .eq 13, 3) := by decide +kernel
theorem d_af_give_7 : decode (mcode M_af_give) 7 = .ok (.aload_n 0, 1) := by decide +kernel
theorem d_af_give_8 : decode (mcode M_af_give) 8 = .ok (.getfield 9, 3) := by decide +kernel
theorem d_af_give_11 : decode (mcode M_af_give) 11 = .ok (.iload_n 1, 1) := by decide +kernel
theorem d_af_give_12 : decode (mcode M_af_give) 12 = .ok (.dup2, 1) := by decide +kernel
theorem d_af_give_13 : decode (mcode M_af_give) 13 = .ok (.iaload, 1) := by decide +kernel
theorem d_af_give_14 : decode (mcode M_af_give) 14 = .ok (.iload_n 2, 1) := by decide +kernel
theorem d_af_give_15 : decode (mcode M_af_give) 15 = .ok (.iadd, 1) := by decide +kernel
theorem d_af_give_16 : decode (mcode M_af_give) 16 = .ok (.iastore, 1) := by decide +kernel
theorem d_af_give_17 : decode (mcode M_af_give) 17 = .ok (.return_, 1) := by decide +kernel
theorem d_af_move_0 : decode (mcode M_af_move) 0 = .ok (.aload_n 0, 1) := by decide +kernel
theorem d_af_move_1 : decode (mcode M_af_move) 1 = .ok (.iload_n 1, 1) := by decide +kernel
theorem d_af_move_2 : decode (mcode M_af_move) 2 = .ok (.iload_n 3, 1) := by decide +kernel
theorem d_af_move_3 : decode (mcode M_af_move) 3 = .ok (.ineg, 1) := by decide +kernel
theorem d_af_move_4 : decode (mcode M_af_move) 4 = .ok (.invokevirtual 81, 3) := by decide +kernel
theorem d_af_move_7 : decode (mcode M_af_move) 7 = .ok (.aload_n 0, 1) := by decide +kernel
theorem d_af_move_8 : decode (mcode M_af_move) 8 = .ok (.iload_n 2, 1) := by decide +kernel
theorem d_af_move_9 : decode (mcode M_af_move) 9 = .ok (.iload_n 3, 1) := by decide +kernel
theorem d_af_move_10 : decode (mcode M_af_move) 10 = .ok (.invokevirtual 81, 3) := by decide +kernel
theorem d_af_move_13 : decode (mcode M_af_move) 13 = .ok (.return_, 1) := by decide +kernel
theorem d_af_costOf_0 : decode (mcode M_af_costOf) 0 = .ok (.aload_n 1, 1) := by decide +kernel
theorem d_af_costOf_1 : decode (mcode M_af_costOf) 1 = .ok (.getfield 232, 3) := by decide +kernel
theorem d_af_costOf_4 : decode (mcode M_af_costOf) 4 = .ok (.aload_n 1, 1) := by decide +kernel
theorem d_af_costOf_5 : decode (mcode M_af_costOf) 5 = .ok (.getfield 235, 3) := by decide +kernel
theorem d_af_costOf_8 : decode (mcode M_af_costOf) 8 = .ok (.imul, 1) := by decide +kernel
theorem d_af_costOf_9 : decode (mcode M_af_costOf) 9 = .ok (.aload_n 0, 1) := by decide +kernel
theorem d_af_costOf_10 : decode (mcode M_af_costOf) 10 = .ok (.getfield 58, 3) := by decide +kernel
theorem d_af_costOf_13 : decode (mcode M_af_costOf) 13 = .ok (.imul, 1) := by decide +kernel
theorem d_af_costOf_14 : decode (mcode M_af_costOf) 14 = .ok (.ireturn, 1) := by decide +kernel
theorem d_af_countIn_0 : decode (mcode M_af_countIn) 0 = .ok (.iconst 0, 1) := by decide +kernel
theorem d_af_countIn_1 : decode (mcode M_af_countIn) 1 = .ok (.istore_n 2, 1) := by decide +kernel
theorem d_af_countIn_2 : decode (mcode M_af_countIn) 2 = .ok (.iconst 0, 1) := by decide +kernel
theorem d_af_countIn_3 : decode (mcode M_af_countIn) 3 = .ok (.istore_n 3, 1) := by decide +kernel
theorem d_af_countIn_4 : decode (mcode M_af_countIn) 4 = .ok (.iload_n 3, 1) := by decide +kernel
theorem d_af_countIn_5 : decode (mcode M_af_countIn) 5 = .ok (.aload_n 0, 1) := by decide +kernel
theorem d_af_countIn_6 : decode (mcode M_af_countIn) 6 = .ok (.getfield 16, 3) := by decide +kernel
theorem d_af_countIn_9 : decode (mcode M_af_countIn) 9 = .ok (.invokevirtual 89, 3) := by decide +kernel
theorem d_af_countIn_12 : decode (mcode M_af_countIn) 12 = .ok (.if_icmp .ge 30, 3) := by decide +kernel
theorem d_af_countIn_15 : decode (mcode M_af_countIn) 15 = .ok (.aload_n 0, 1) := by decide +kernel
theorem d_af_countIn_16 : decode (mcode M_af_countIn) 16 = .ok (.getfield 16, 3) := by decide +kernel
theorem d_af_countIn_19 : decode (mcode M_af_countIn) 19 = .ok (.iload_n 3, 1) := by decide +kernel
theorem d_af_countIn_20 : decode (mcode M_af_countIn) 20 = .ok (.invokevirtual 179, 3) := by decide +kernel
theorem d_af_countIn_23 : decode (mcode M_af_countIn) 23 = .ok (.checkcast 93, 3) := by decide +kernel
theorem d_af_countIn_26 : decode (mcode M_af_countIn) 26 = .ok (.getfield 110, 3) := by decide +kernel
theorem d_af_countIn_29 : decode (mcode M_af_countIn) 29 = .ok (.iload_n 1, 1) := by decide +kernel
theorem d_af_countIn_30 : decode (mcode M_af_countIn) 30 = .ok (.if_icmp .ne 6, 3) := by decide +kernel
theorem d_af_countIn_33 : decode (mcode M_af_countIn) 33 = .ok (.iinc 2 1, 3) := by decide +kernel
theorem d_af_countIn_36 : decode (mcode M_af_countIn) 36 = .ok (.iinc 3 1, 3) := by decide +kernel
theorem d_af_countIn_39 : decode (mcode M_af_countIn) 39 = .ok (.goto (-35), 3) := by decide +kernel
theorem d_af_countIn_42 : decode (mcode M_af_countIn) 42 = .ok (.iload_n 2, 1) := by decide +kernel
theorem d_af_countIn_43 : decode (mcode M_af_countIn) 43 = .ok (.ireturn, 1) := by decide +kernel
theorem d_af_findBuilder_0 : decode (mcode M_af_findBuilder) 0 = .ok (.aload_n 0, 1) := by decide +kernel
theorem d_af_findBuilder_1 : decode (mcode M_af_findBuilder) 1 = .ok (.aload_n 1, 1) := by decide +kernel
theorem d_af_findBuilder_2 : decode (mcode M_af_findBuilder) 2 = .ok (.invokevirtual 141, 3) := by decide +kernel
theorem d_af_findBuilder_5 : decode (mcode M_af_findBuilder) 5 = .ok (.istore_n 2, 1) := by decide +kernel
theorem d_af_findBuilder_6 : decode (mcode M_af_findBuilder) 6 = .ok (.aload_n 1, 1) := by decide +kernel
theorem d_af_findBuilder_7 : decode (mcode M_af_findBuilder) 7 = .ok (.getfield 113, 3) := by decide +kernel
theorem d_af_findBuilder_10 : decode (mcode M_af_findBuilder) 10 = .ok (.getfield 262, 3) := by decide +kernel
theorem d_af_findBuilder_13 : decode (mcode M_af_findBuilder) 13 = .ok (.iconst 1, 1) := by decide +kernel
theorem d_af_findBuilder_14 : decode (mcode M_af_findBuilder) 14 = .ok (.isub, 1) := by decide +kernel
theorem d_af_findBuilder_15 : decode (mcode M_af_findBuilder) 15 = .ok (.istore_n 3, 1) := by decide +kernel
theorem d_af_findBuilder_16 : decode (mcode M_af_findBuilder) 16 = .ok (.iload_n 3, 1) := by decide +kernel
theorem d_af_findBuilder_17 : decode (mcode M_af_findBuilder) 17 = .ok (.ifCond .lt 40, 3) := by decide +kernel
theorem d_af_findBuilder_20 : decode (mcode M_af_findBuilder) 20 = .ok (.aload_n 1, 1) := by decide +kernel
theorem d_af_findBuilder_21 : decode (mcode M_af_findBuilder) 21 = .ok (.getfield 113, 3) := by decide +kernel
theorem d_af_findBuilder_24 : decode (mcode M_af_findBuilder) 24 = .ok (.iload_n 3, 1) := by decide +kernel
theorem d_af_findBuilder_25 : decode (mcode M_af_findBuilder) 25 = .ok (.invokevirtual 152, 3) := by decide +kernel
theorem d_af_findBuilder_28 : decode (mcode M_af_findBuilder) 28 = .ok (.istore 4, 2) := by decide +kernel
theorem d_af_findBuilder_30 : decode (mcode M_af_findBuilder) 30 = .ok (.iload 4, 2) := by decide +kernel
theorem d_af_findBuilder_32 : decode (mcode M_af_findBuilder) 32 = .ok (.invokestatic 71, 3) := by decide +kernel
theorem d_af_findBuilder_35 : decode (mcode M_af_findBuilder) 35 = .ok (.ifCond .eq 16, 3) := by decide +kernel
theorem d_af_findBuilder_38 : decode (mcode M_af_findBuilder) 38 = .ok (.aload_n 0, 1) := by decide +kernel
theorem d_af_findBuilder_39 : decode (mcode M_af_findBuilder) 39 = .ok (.getfield 9, 3) := by decide +kernel
theorem d_af_findBuilder_42 : decode (mcode M_af_findBuilder) 42 = .ok (.iload 4, 2) := by decide +kernel
theorem d_af_findBuilder_44 : decode (mcode M_af_findBuilder) 44 = .ok (.iaload, 1) := by decide +kernel
theorem d_af_findBuilder_45 : decode (mcode M_af_findBuilder) 45 = .ok (.iload_n 2, 1) := by decide +kernel
theorem d_af_findBuilder_46 : decode (mcode M_af_findBuilder) 46 = .ok (.if_icmp .lt 5, 3) := by decide +kernel
theorem d_af_findBuilder_49 : decode (mcode M_af_findBuilder) 49 = .ok (.iload_n 3, 1) := by decide +kernel
theorem d_af_findBuilder_50 : decode (mcode M_af_findBuilder) 50 = .ok (.ireturn, 1) := by decide +kernel
theorem d_af_findBuilder_51 : decode (mcode M_af_findBuilder) 51 = .ok (.iinc 3 (-1), 3) := by decide +kernel
theorem d_af_findBuilder_54 : decode (mcode M_af_findBuilder) 54 = .ok (.goto (-38), 3) := by decide +kernel
theorem d_af_findBuilder_57 : decode (mcode M_af_findBuilder) 57 = .ok (.iconst (-1), 1) := by decide +kernel
theorem d_af_findBuilder_58 : decode (mcode M_af_findBuilder) 58 = .ok (.ireturn, 1) := by decide +kernel
theorem d_af_payForBuilding_0 : decode (mcode M_af_payForBuilding) 0 = .ok (.aload_n 0, 1) := by decide +kernel
theorem d_af_payForBuilding_1 : decode (mcode M_af_payForBuilding) 1 = .ok (.aload_n 1, 1) := by decide +kernel
theorem d_af_payForBuilding_2 : decode (mcode M_af_payForBuilding) 2 = .ok (.invokevirtual 141, 3) := by decide +kernel
theorem d_af_payForBuilding_5 : decode (mcode M_af_payForBuilding) 5 = .ok (.istore_n 3, 1) := by decide +kernel
theorem d_af_payForBuilding_6 : decode (mcode M_af_payForBuilding) 6 = .ok (.aload_n 1, 1) := by decide +kernel
theorem d_af_payForBuilding_7 : decode (mcode M_af_payForBuilding) 7 = .ok (.getfield 113, 3) := by decide +kernel
theorem d_af_payForBuilding_10 : decode (mcode M_af_payForBuilding) 10 = .ok (.iload_n 2, 1) := by decide +kernel
theorem d_af_payForBuilding_11 : decode (mcode M_af_payForBuilding) 11 = .ok (.invokevirtual 152, 3) := by decide +kernel
theorem d_af_payForBuilding_14 : decode (mcode M_af_payForBuilding) 14 = .ok (.istore 4, 2) := by decide +kernel
theorem d_af_payForBuilding_16 : decode (mcode M_af_payForBuilding) 16 = .ok (.aload_n 0, 1) := by decide +kernel
theorem d_af_payForBuilding_17 : decode (mcode M_af_payForBuilding) 17 = .ok (.getfield 29, 3) := by decide +kernel
theorem d_af_payForBuilding_20 : decode (mcode M_af_payForBuilding) 20 = .ok (.aload_n 1, 1) := by decide +kernel
theorem d_af_payForBuilding_21 : decode (mcode M_af_payForBuilding) 21 = .ok (.iload_n 3, 1) := by decide +kernel
theorem d_af_payForBuilding_22 : decode (mcode M_af_payForBuilding) 22 = .ok (.iload_n 2, 1) := by decide +kernel
theorem d_af_payForBuilding_23 : decode (mcode M_af_payForBuilding) 23 = .ok (.invokevirtual 144, 3) := by decide +kernel
theorem d_af_payForBuilding_26 : decode (mcode M_af_payForBuilding) 26 = .ok (.aload_n 0, 1) := by decide +kernel
theorem d_af_payForBuilding_27 : decode (mcode M_af_payForBuilding) 27 = .ok (.iload 4, 2) := by decide +kernel
theorem d_af_payForBuilding_29 : decode (mcode M_af_payForBuilding) 29 = .ok (.iload_n 3, 1) := by decide +kernel
theorem d_af_payForBuilding_30 : decode (mcode M_af_payForBuilding) 30 = .ok (.ineg, 1) := by decide +kernel
theorem d_af_payForBuilding_31 : decode (mcode M_af_payForBuilding) 31 = .ok (.invokevirtual 81, 3) := by decide +kernel
theorem d_af_payForBuilding_34 : decode (mcode M_af_payForBuilding) 34 = .ok (.iconst 0, 1) := by decide +kernel
theorem d_af_payForBuilding_35 : decode (mcode M_af_payForBuilding) 35 = .ok (.istore 5, 2) := by decide +kernel
theorem d_af_payForBuilding_37 : decode (mcode M_af_payForBuilding) 37 = .ok (.iload 5, 2) := by decide +kernel
theorem d_af_payForBuilding_39 : decode (mcode M_af_payForBuilding) 39 = .ok (.aload_n 1, 1) := by decide +kernel
theorem d_af_payForBuilding_40 : decode (mcode M_af_payForBuilding) 40 = .ok (.getfield 113, 3) := by decide +kernel
theorem d_af_payForBuilding_43 : decode (mcode M_af_payForBuilding) 43 = .ok (.getfield 262, 3) := by decide +kernel
theorem d_af_payForBuilding_46 : decode (mcode M_af_payForBuilding) 46 = .ok (.if_icmp .ge 39, 3) := by decide +kernel
theorem d_af_payForBuilding_49 : decode (mcode M_af_payForBuilding) 49 = .ok (.iload 5, 2) := by decide +kernel
theorem d_af_payForBuilding_51 : decode (mcode M_af_payForBuilding) 51 = .ok (.iload_n 2, 1) := by decide +kernel
theorem d_af_payForBuilding_52 : decode (mcode M_af_payForBuilding) 52 = .ok (.if_icmp .eq 27, 3) := by decide +kernel
theorem d_af_payForBuilding_55 : decode (mcode M_af_payForBuilding) 55 = .ok (.aload_n 0, 1) := by decide +kernel
theorem d_af_payForBuilding_56 : decode (mcode M_af_payForBuilding) 56 = .ok (.aload_n 1, 1) := by decide +kernel
theorem d_af_payForBuilding_57 : decode (mcode M_af_payForBuilding) 57 = .ok (.getfield 113, 3) := by decide +kernel
theorem d_af_payForBuilding_60 : decode (mcode M_af_payForBuilding) 60 = .ok (.iload 5, 2) := by decide +kernel
theorem d_af_payForBuilding_62 : decode (mcode M_af_payForBuilding) 62 = .ok (.invokevirtual 152, 3) := by decide +kernel
theorem d_af_payForBuilding_65 : decode (mcode M_af_payForBuilding) 65 = .ok (.iload 4, 2) := by decide +kernel
theorem d_af_payForBuilding_67 : decode (mcode M_af_payForBuilding) 67 = .ok (.aload_n 0, 1) := by decide +kernel
theorem d_af_payForBuilding_68 : decode (mcode M_af_payForBuilding) 68 = .ok (.getfield 29, 3) := by decide +kernel
theorem d_af_payForBuilding_71 : decode (mcode M_af_payForBuilding) 71 = .ok (.iload 5, 2) := by decide +kernel
theorem d_af_payForBuilding_73 : decode (mcode M_af_payForBuilding) 73 = .ok (.invokevirtual 148, 3) := by decide +kernel
theorem d_af_payForBuilding_76 : decode (mcode M_af_payForBuilding) 76 = .ok (.invokevirtual 264, 3) := by decide +kernel
theorem d_af_payForBuilding_79 : decode (mcode M_af_payForBuilding) 79 = .ok (.iinc 5 1, 3) := by decide +kernel
theorem d_af_payForBuilding_82 : decode (mcode M_af_payForBuilding) 82 = .ok (.goto (-45), 3) := by decide +kernel
theorem d_af_payForBuilding_85 : decode (mcode M_af_payForBuilding) 85 = .ok (.return_, 1) := by decide +kernel
theorem d_af_settleWall_0 : decode (mcode M_af_settleWall) 0 = .ok (.aload_n 1, 1) := by decide +kernel
theorem d_af_settleWall_1 : decode (mcode M_af_settleWall) 1 = .ok (.ifnull 10, 3) := by decide +kernel
theorem d_af_settleWall_4 : decode (mcode M_af_settleWall) 4 = .ok (.aload_n 1, 1) := by decide +kernel
theorem d_af_settleWall_5 : decode (mcode M_af_settleWall) 5 = .ok (.invokevirtual 267, 3) := by decide +kernel
theorem d_af_settleWall_8 : decode (mcode M_af_settleWall) 8 = .ok (.ifCond .ne 4, 3) := by decide +kernel
theorem d_af_settleWall_11 : decode (mcode M_af_settleWall) 11 = .ok (.return_, 1) := by decide +kernel
theorem d_af_settleWall_12 : decode (mcode M_af_settleWall) 12 = .ok (.aload_n 1, 1) := by decide +kernel
theorem d_af_settleWall_13 : decode (mcode M_af_settleWall) 13 = .ok (.invokevirtual 273, 3) := by decide +kernel
theorem d_af_settleWall_16 : decode (mcode M_af_settleWall) 16 = .ok (.ifCond .eq 21, 3) := by decide +kernel
theorem d_af_settleWall_19 : decode (mcode M_af_settleWall) 19 = .ok (.aload_n 0, 1) := by decide +kernel
theorem d_af_settleWall_20 : decode (mcode M_af_settleWall) 20 = .ok (.iload_n 2, 1) := by decide +kernel
theorem d_af_settleWall_21 : decode (mcode M_af_settleWall) 21 = .ok (.aload_n 1, 1) := by decide +kernel
theorem d_af_settleWall_22 : decode (mcode M_af_settleWall) 22 = .ok (.getfield 276, 3) := by decide +kernel
theorem d_af_settleWall_25 : decode (mcode M_af_settleWall) 25 = .ok (.aload_n 1, 1) := by decide +kernel
theorem d_af_settleWall_26 : decode (mcode M_af_settleWall) 26 = .ok (.getfield 279, 3) := by decide +kernel
theorem d_af_settleWall_29 : decode (mcode M_af_settleWall) 29 = .ok (.iconst 2, 1) := by decide +kernel
theorem d_af_settleWall_30 : decode (mcode M_af_settleWall) 30 = .ok (.idiv, 1) := by decide +kernel
theorem d_af_settleWall_31 : decode (mcode M_af_settleWall) 31 = .ok (.invokevirtual 264, 3) := by decide +kernel
theorem d_af_settleWall_34 : decode (mcode M_af_settleWall) 34 = .ok (.goto 28, 3) := by decide +kernel
theorem d_af_settleWall_37 : decode (mcode M_af_settleWall) 37 = .ok (.aload_n 1, 1) := by decide +kernel
theorem d_af_settleWall_38 : decode (mcode M_af_settleWall) 38 = .ok (.aload_n 1, 1) := by decide +kernel
theorem d_af_settleWall_39 : decode (mcode M_af_settleWall) 39 = .ok (.invokevirtual 282, 3) := by decide +kernel
theorem d_af_settleWall_42 : decode (mcode M_af_settleWall) 42 = .ok (.iconst 3, 1) := by decide +kernel
theorem d_af_settleWall_43 : decode (mcode M_af_settleWall) 43 = .ok (.imul, 1) := by decide +kernel
theorem d_af_settleWall_44 : decode (mcode M_af_settleWall) 44 = .ok (.putfield 279, 3) := by decide +kernel
theorem d_af_settleWall_47 : decode (mcode M_af_settleWall) 47 = .ok (.aload_n 1, 1) := by decide +kernel
theorem d_af_settleWall_48 : decode (mcode M_af_settleWall) 48 = .ok (.iload_n 2, 1) := by decide +kernel
theorem d_af_settleWall_49 : decode (mcode M_af_settleWall) 49 = .ok (.putfield 276, 3) := by decide +kernel
theorem d_af_settleWall_52 : decode (mcode M_af_settleWall) 52 = .ok (.aload_n 0, 1) := by decide +kernel
theorem d_af_settleWall_53 : decode (mcode M_af_settleWall) 53 = .ok (.iload_n 2, 1) := by decide +kernel
theorem d_af_settleWall_54 : decode (mcode M_af_settleWall) 54 = .ok (.aload_n 1, 1) := by decide +kernel
theorem d_af_settleWall_55 : decode (mcode M_af_settleWall) 55 = .ok (.getfield 279, 3) := by decide +kernel
theorem d_af_settleWall_58 : decode (mcode M_af_settleWall) 58 = .ok (.ineg, 1) := by decide +kernel
theorem d_af_settleWall_59 : decode (mcode M_af_settleWall) 59 = .ok (.invokevirtual 81, 3) := by decide +kernel
theorem d_af_settleWall_62 : decode (mcode M_af_settleWall) 62 = .ok (.return_, 1) := by decide +kernel
theorem d_af_widenInto_0 : decode (mcode M_af_widenInto) 0 = .ok (.aload_n 1, 1) := by decide +kernel
theorem d_af_widenInto_1 : decode (mcode M_af_widenInto) 1 = .ok (.getfield 110, 3) := by decide +kernel
theorem d_af_widenInto_4 : decode (mcode M_af_widenInto) 4 = .ok (.ifCond .eq 5, 3) := by decide +kernel
theorem d_af_widenInto_7 : decode (mcode M_af_widenInto) 7 = .ok (.iconst 0, 1) := by decide +kernel
theorem d_af_widenInto_8 : decode (mcode M_af_widenInto) 8 = .ok (.ireturn, 1) := by decide +kernel
theorem d_af_widenInto_9 : decode (mcode M_af_widenInto) 9 = .ok (.aload_n 1, 1) := by decide +kernel
theorem d_af_widenInto_10 : decode (mcode M_af_widenInto) 10 = .ok (.getfield 235, 3) := by decide +kernel
theorem d_af_widenInto_13 : decode (mcode M_af_widenInto) 13 = .ok (.iload_n 2, 1) := by decide +kernel
theorem d_af_widenInto_14 : decode (mcode M_af_widenInto) 14 = .ok (.isub, 1) := by decide +kernel
theorem d_af_widenInto_15 : decode (mcode M_af_widenInto) 15 = .ok (.bipush 20, 2) := by decide +kernel
theorem d_af_widenInto_17 : decode (mcode M_af_widenInto) 17 = .ok (.if_icmp .ge 7, 3) := by decide +kernel
theorem d_af_widenInto_20 : decode (mcode M_af_widenInto) 20 = .ok (.iconst 1, 1) := by decide +kernel
theorem d_af_widenInto_21 : decode (mcode M_af_widenInto) 21 = .ok (.goto 4, 3) := by decide +kernel
theorem d_af_widenInto_24 : decode (mcode M_af_widenInto) 24 = .ok (.iconst 0, 1) := by decide +kernel
theorem d_af_widenInto_25 : decode (mcode M_af_widenInto) 25 = .ok (.istore_n 3, 1) := by decide +kernel
theorem d_af_widenInto_26 : decode (mcode M_af_widenInto) 26 = .ok (.aload_n 1, 1) := by decide +kernel
theorem d_af_widenInto_27 : decode (mcode M_af_widenInto) 27 = .ok (.getfield 232, 3) := by decide +kernel
theorem d_af_widenInto_30 : decode (mcode M_af_widenInto) 30 = .ok (.iload_n 3, 1) := by decide +kernel
theorem d_af_widenInto_31 : decode (mcode M_af_widenInto) 31 = .ok (.ifCond .eq 10, 3) := by decide +kernel
theorem d_af_widenInto_34 : decode (mcode M_af_widenInto) 34 = .ok (.aload_n 1, 1) := by decide +kernel
theorem d_af_widenInto_35 : decode (mcode M_af_widenInto) 35 = .ok (.getfield 235, 3) := by decide +kernel
theorem d_af_widenInto_38 : decode (mcode M_af_widenInto) 38 = .ok (.goto 4, 3) := by decide +kernel
theorem d_af_widenInto_41 : decode (mcode M_af_widenInto) 41 = .ok (.iload_n 2, 1) := by decide +kernel
theorem d_af_widenInto_42 : decode (mcode M_af_widenInto) 42 = .ok (.imul, 1) := by decide +kernel
theorem d_af_widenInto_43 : decode (mcode M_af_widenInto) 43 = .ok (.istore 4, 2) := by decide +kernel
theorem d_af_widenInto_45 : decode (mcode M_af_widenInto) 45 = .ok (.aload_n 0, 1) := by decide +kernel
theorem d_af_widenInto_46 : decode (mcode M_af_widenInto) 46 = .ok (.aload_n 1, 1) := by decide +kernel
theorem d_af_widenInto_47 : decode (mcode M_af_widenInto) 47 = .ok (.getfield 113, 3) := by decide +kernel
theorem d_af_widenInto_50 : decode (mcode M_af_widenInto) 50 = .ok (.iconst 0, 1) := by decide +kernel
theorem d_af_widenInto_51 : decode (mcode M_af_widenInto) 51 = .ok (.invokevirtual 152, 3) := by decide +kernel
theorem d_af_widenInto_54 : decode (mcode M_af_widenInto) 54 = .ok (.iload 4, 2) := by decide +kernel
theorem d_af_widenInto_56 : decode (mcode M_af_widenInto) 56 = .ok (.aload_n 0, 1) := by decide +kernel
theorem d_af_widenInto_57 : decode (mcode M_af_widenInto) 57 = .ok (.getfield 61, 3) := by decide +kernel
theorem d_af_widenInto_60 : decode (mcode M_af_widenInto) 60 = .ok (.imul, 1) := by decide +kernel
theorem d_af_widenInto_61 : decode (mcode M_af_widenInto) 61 = .ok (.invokevirtual 81, 3) := by decide +kernel
theorem d_af_widenInto_64 : decode (mcode M_af_widenInto) 64 = .ok (.aload_n 0, 1) := by decide +kernel
theorem d_af_widenInto_65 : decode (mcode M_af_widenInto) 65 = .ok (.dup, 1) := by decide +kernel
theorem d_af_widenInto_66 : decode (mcode M_af_widenInto) 66 = .ok (.getfield 67, 3) := by decide +kernel
theorem d_af_widenInto_69 : decode (mcode M_af_widenInto) 69 = .ok (.iload 4, 2) := by decide +kernel
theorem d_af_widenInto_71 : decode (mcode M_af_widenInto) 71 = .ok (.aload_n 0, 1) := by decide +kernel
theorem d_af_widenInto_72 : decode (mcode M_af_widenInto) 72 = .ok (.getfield 61, 3) := by decide +kernel
theorem d_af_widenInto_75 : decode (mcode M_af_widenInto) 75 = .ok (.imul, 1) := by decide +kernel
theorem d_af_widenInto_76 : decode (mcode M_af_widenInto) 76 = .ok (.iadd, 1) := by decide +kernel
theorem d_af_widenInto_77 : decode (mcode M_af_widenInto) 77 = .ok (.putfield 67, 3) := by decide +kernel
theorem d_af_widenInto_80 : decode (mcode M_af_widenInto) 80 = .ok (.iload_n 3, 1) := by decide +kernel
theorem d_af_widenInto_81 : decode (mcode M_af_widenInto) 81 = .ok (.ifCond .eq 11, 3) := by decide +kernel
theorem d_af_widenInto_84 : decode (mcode M_af_widenInto) 84 = .ok (.aload_n 1, 1) := by decide +kernel
theorem d_af_widenInto_85 : decode (mcode M_af_widenInto) 85 = .ok (.iconst 3, 1) := by decide +kernel
theorem d_af_widenInto_86 : decode (mcode M_af_widenInto) 86 = .ok (.invokevirtual 285, 3) := by decide +kernel
theorem d_af_widenInto_89 : decode (mcode M_af_widenInto) 89 = .ok (.goto 13, 3) := by decide +kernel
theorem d_af_widenInto_92 : decode (mcode M_af_widenInto) 92 = .ok (.aload_n 1, 1) := by decide +kernel
theorem d_af_widenInto_93 : decode (mcode M_af_widenInto) 93 = .ok (.dup, 1) := by decide +kernel
theorem d_af_widenInto_94 : decode (mcode M_af_widenInto) 94 = .ok (.getfield 235, 3) := by decide +kernel
theorem d_af_widenInto_97 : decode (mcode M_af_widenInto) 97 = .ok (.iload_n 2, 1) := by decide +kernel
theorem d_af_widenInto_98 : decode (mcode M_af_widenInto) 98 = .ok (.isub, 1) := by decide +kernel
theorem d_af_widenInto_99 : decode (mcode M_af_widenInto) 99 = .ok (.putfield 235, 3) := by decide +kernel
theorem d_af_widenInto_102 : decode (mcode M_af_widenInto) 102 = .ok (.iload 4, 2) := by decide +kernel
theorem d_af_widenInto_104 : decode (mcode M_af_widenInto) 104 = .ok (.ireturn, 1) := by decide +kernel
theorem d_af_forfeitBurned_0 : decode (mcode M_af_forfeitBurned) 0 = .ok (.iconst 0, 1) := by decide +kernel
theorem d_af_forfeitBurned_1 : decode (mcode M_af_forfeitBurned) 1 = .ok (.istore_n 1, 1) := by decide +kernel
theorem d_af_forfeitBurned_2 : decode (mcode M_af_forfeitBurned) 2 = .ok (.iconst 0, 1) := by decide +kernel
theorem d_af_forfeitBurned_3 : decode (mcode M_af_forfeitBurned) 3 = .ok (.istore_n 2, 1) := by decide +kernel
theorem d_af_forfeitBurned_4 : decode (mcode M_af_forfeitBurned) 4 = .ok (.iload_n 2, 1) := by decide +kernel
theorem d_af_forfeitBurned_5 : decode (mcode M_af_forfeitBurned) 5 = .ok (.aload_n 0, 1) := by decide +kernel
theorem d_af_forfeitBurned_6 : decode (mcode M_af_forfeitBurned) 6 = .ok (.getfield 16, 3) := by decide +kernel
theorem d_af_forfeitBurned_9 : decode (mcode M_af_forfeitBurned) 9 = .ok (.invokevirtual 89, 3) := by decide +kernel
theorem d_af_forfeitBurned_12 : decode (mcode M_af_forfeitBurned) 12 = .ok (.if_icmp .ge 36, 3) := by decide +kernel
theorem d_af_forfeitBurned_15 : decode (mcode M_af_forfeitBurned) 15 = .ok (.aload_n 0, 1) := by decide +kernel
theorem d_af_forfeitBurned_16 : decode (mcode M_af_forfeitBurned) 16 = .ok (.getfield 16, 3) := by decide +kernel
theorem d_af_forfeitBurned_19 : decode (mcode M_af_forfeitBurned) 19 = .ok (.iload_n 2, 1) := by decide +kernel
theorem d_af_forfeitBurned_20 : decode (mcode M_af_forfeitBurned) 20 = .ok (.invokevirtual 179, 3) := by decide +kernel
theorem d_af_forfeitBurned_23 : decode (mcode M_af_forfeitBurned) 23 = .ok (.checkcast 93, 3) := by decide +kernel
theorem d_af_forfeitBurned_26 : decode (mcode M_af_forfeitBurned) 26 = .ok (.astore_n 3, 1) := by decide +kernel
theorem d_af_forfeitBurned_27 : decode (mcode M_af_forfeitBurned) 27 = .ok (.aload_n 3, 1) := by decide +kernel
theorem d_af_forfeitBurned_28 : decode (mcode M_af_forfeitBurned) 28 = .ok (.getfield 110, 3) := by decide +kernel
theorem d_af_forfeitBurned_31 : decode (mcode M_af_forfeitBurned) 31 = .ok (.ifCond .ne 11, 3) := by decide +kernel
theorem d_af_forfeitBurned_34 : decode (mcode M_af_forfeitBurned) 34 = .ok (.aload_n 3, 1) := by decide +kernel
theorem d_af_forfeitBurned_35 : decode (mcode M_af_forfeitBurned) 35 = .ok (.iconst 2, 1) := by decide +kernel
theorem d_af_forfeitBurned_36 : decode (mcode M_af_forfeitBurned) 36 = .ok (.invokevirtual 285, 3) := by decide +kernel
theorem d_af_forfeitBurned_39 : decode (mcode M_af_forfeitBurned) 39 = .ok (.iinc 1 1, 3) := by decide +kernel
theorem d_af_forfeitBurned_42 : decode (mcode M_af_forfeitBurned) 42 = .ok (.iinc 2 1, 3) := by decide +kernel
theorem d_af_forfeitBurned_45 : decode (mcode M_af_forfeitBurned) 45 = .ok (.goto (-41), 3) := by decide +kernel
theorem d_af_forfeitBurned_48 : decode (mcode M_af_forfeitBurned) 48 = .ok (.iload_n 1, 1) := by decide +kernel
theorem d_af_forfeitBurned_49 : decode (mcode M_af_forfeitBurned) 49 = .ok (.ireturn, 1) := by decide +kernel
theorem d_af_planBricks_0 : decode (mcode M_af_planBricks) 0 = .ok (.iload_n 1, 1) := by decide +kernel
theorem d_af_planBricks_1 : decode (mcode M_af_planBricks) 1 = .ok (.iconst 1, 1) := by decide +kernel
theorem d_af_planBricks_2 : decode (mcode M_af_planBricks) 2 = .ok (.sipush 2000, 3) := by decide +kernel
theorem d_af_planBricks_5 : decode (mcode M_af_planBricks) 5 = .ok (.invokestatic 76, 3) := by decide +kernel
theorem d_af_planBricks_8 : decode (mcode M_af_planBricks) 8 = .ok (.ifCond .ne 5, 3) := by decide +kernel
theorem d_af_planBricks_11 : decode (mcode M_af_planBricks) 11 = .ok (.iconst 0, 1) := by decide +kernel
theorem d_af_planBricks_12 : decode (mcode M_af_planBricks) 12 = .ok (.ireturn, 1) := by decide +kernel
theorem d_af_planBricks_13 : decode (mcode M_af_planBricks) 13 = .ok (.aload_n 0, 1) := by decide +kernel
theorem d_af_planBricks_14 : decode (mcode M_af_planBricks) 14 = .ok (.getfield 36, 3) := by decide +kernel
theorem d_af_planBricks_17 : decode (mcode M_af_planBricks) 17 = .ok (.invokevirtual 289, 3) := by decide +kernel
theorem d_af_planBricks_20 : decode (mcode M_af_planBricks) 20 = .ok (.iconst 0, 1) := by decide +kernel
theorem d_af_planBricks_21 : decode (mcode M_af_planBricks) 21 = .ok (.istore_n 2, 1) := by decide +kernel
theorem d_af_planBricks_22 : decode (mcode M_af_planBricks) 22 = .ok (.iload_n 2, 1) := by decide +kernel
theorem d_af_planBricks_23 : decode (mcode M_af_planBricks) 23 = .ok (.aload_n 0, 1) := by decide +kernel
theorem d_af_planBricks_24 : decode (mcode M_af_planBricks) 24 = .ok (.getfield 16, 3) := by decide +kernel
theorem d_af_planBricks_27 : decode (mcode M_af_planBricks) 27 = .ok (.invokevirtual 89, 3) := by decide +kernel
theorem d_af_planBricks_30 : decode (mcode M_af_planBricks) 30 = .ok (.if_icmp .ge 74, 3) := by decide +kernel
theorem d_af_planBricks_33 : decode (mcode M_af_planBricks) 33 = .ok (.aload_n 0, 1) := by decide +kernel
theorem d_af_planBricks_34 : decode (mcode M_af_planBricks) 34 = .ok (.getfield 16, 3) := by decide +kernel
theorem d_af_planBricks_37 : decode (mcode M_af_planBricks) 37 = .ok (.iload_n 2, 1) := by decide +kernel
theorem d_af_planBricks_38 : decode (mcode M_af_planBricks) 38 = .ok (.invokevirtual 179, 3) := by decide +kernel
theorem d_af_planBricks_41 : decode (mcode M_af_planBricks) 41 = .ok (.checkcast 93, 3) := by decide +kernel
theorem d_af_planBricks_44 : decode (mcode M_af_planBricks) 44 = .ok (.astore_n 3, 1) := by decide +kernel
theorem d_af_planBricks_45 : decode (mcode M_af_planBricks) 45 = .ok (.aload_n 3, 1) := by decide +kernel
theorem d_af_planBricks_46 : decode (mcode M_af_planBricks) 46 = .ok (.getfield 110, 3) := by decide +kernel
theorem d_af_planBricks_49 : decode (mcode M_af_planBricks) 49 = .ok (.ifCond .ne 49, 3) := by decide +kernel
theorem d_af_planBricks_52 : decode (mcode M_af_planBricks) 52 = .ok (.aload_n 3, 1) := by decide +kernel
theorem d_af_planBricks_53 : decode (mcode M_af_planBricks) 53 = .ok (.getfield 196, 3) := by decide +kernel
theorem d_af_planBricks_56 : decode (mcode M_af_planBricks) 56 = .ok (.iconst (-1), 1) := by decide +kernel
theorem d_af_planBricks_57 : decode (mcode M_af_planBricks) 57 = .ok (.if_icmp .ne 10, 3) := by decide +kernel
theorem d_af_planBricks_60 : decode (mcode M_af_planBricks) 60 = .ok (.aload_n 0, 1) := by decide +kernel
theorem d_af_planBricks_61 : decode (mcode M_af_planBricks) 61 = .ok (.getfield 64, 3) := by decide +kernel
theorem d_af_planBricks_64 : decode (mcode M_af_planBricks) 64 = .ok (.goto 7, 3) := by decide +kernel
theorem d_af_planBricks_67 : decode (mcode M_af_planBricks) 67 = .ok (.aload_n 3, 1) := by decide +kernel
theorem d_af_planBricks_68 : decode (mcode M_af_planBricks) 68 = .ok (.getfield 196, 3) := by decide +kernel
theorem d_af_planBricks_71 : decode (mcode M_af_planBricks) 71 = .ok (.istore 4, 2) := by decide +kernel
theorem d_af_planBricks_73 : decode (mcode M_af_planBricks) 73 = .ok (.aload_n 0, 1) := by decide +kernel
theorem d_af_planBricks_74 : decode (mcode M_af_planBricks) 74 = .ok (.getfield 36, 3) := by decide +kernel
theorem d_af_planBricks_77 : decode (mcode M_af_planBricks) 77 = .ok (.iload_n 2, 1) := by decide +kernel
theorem d_af_planBricks_78 : decode (mcode M_af_planBricks) 78 = .ok (.aload_n 3, 1) := by decide +kernel
theorem d_af_planBricks_79 : decode (mcode M_af_planBricks) 79 = .ok (.iload_n 1, 1) := by decide +kernel
theorem d_af_planBricks_80 : decode (mcode M_af_planBricks) 80 = .ok (.iload 4, 2) := by decide +kernel
theorem d_af_planBricks_82 : decode (mcode M_af_planBricks) 82 = .ok (.aload_n 0, 1) := by decide +kernel
theorem d_af_planBricks_83 : decode (mcode M_af_planBricks) 83 = .ok (.getfield 54, 3) := by decide +kernel
theorem d_af_planBricks_86 : decode (mcode M_af_planBricks) 86 = .ok (.isub, 1) := by decide +kernel
theorem d_af_planBricks_87 : decode (mcode M_af_planBricks) 87 = .ok (.iconst 1, 1) := by decide +kernel
theorem d_af_planBricks_88 : decode (mcode M_af_planBricks) 88 = .ok (.iadd, 1) := by decide +kernel
theorem d_af_planBricks_89 : decode (mcode M_af_planBricks) 89 = .ok (.imul, 1) := by decide +kernel
theorem d_af_planBricks_90 : decode (mcode M_af_planBricks) 90 = .ok (.invokevirtual 292, 3) := by decide +kernel
theorem d_af_planBricks_93 : decode (mcode M_af_planBricks) 93 = .ok (.ifCond .ne 5, 3) := by decide +kernel
theorem d_af_planBricks_96 : decode (mcode M_af_planBricks) 96 = .ok (.iconst 0, 1) := by decide +kernel
theorem d_af_planBricks_97 : decode (mcode M_af_planBricks) 97 = .ok (.ireturn, 1) := by decide +kernel
theorem d_af_planBricks_98 : decode (mcode M_af_planBricks) 98 = .ok (.iinc 2 1, 3) := by decide +kernel
theorem d_af_planBricks_101 : decode (mcode M_af_planBricks) 101 = .ok (.goto (-79), 3) := by decide +kernel
theorem d_af_planBricks_104 : decode (mcode M_af_planBricks) 104 = .ok (.aload_n 0, 1) := by decide +kernel
theorem d_af_planBricks_105 : decode (mcode M_af_planBricks) 105 = .ok (.getfield 36, 3) := by decide +kernel
theorem d_af_planBricks_108 : decode (mcode M_af_planBricks) 108 = .ok (.invokevirtual 295, 3) := by decide +kernel
theorem d_af_planBricks_111 : decode (mcode M_af_planBricks) 111 = .ok (.iconst 1, 1) := by decide +kernel
theorem d_af_planBricks_112 : decode (mcode M_af_planBricks) 112 = .ok (.ireturn, 1) := by decide +kernel
theorem d_md_init_0 : decode (mcode M_md_init) 0 = .ok (.aload_n 0, 1) := by decide +kernel
theorem d_md_init_1 : decode (mcode M_md_init) 1 = .ok (.invokespecial 1, 3) := by decide +kernel
theorem d_md_init_4 : decode (mcode M_md_init) 4 = .ok (.aload_n 0, 1) := by decide +kernel
theorem d_md_init_5 : decode (mcode M_md_init) 5 = .ok (.bipush 20, 2) := by decide +kernel
theorem d_md_init_7 : decode (mcode M_md_init) 7 = .ok (.newarray .int, 2) := by decide +kernel
theorem d_md_init_9 : decode (mcode M_md_init) 9 = .ok (.putfield 9, 3) := by decide +kernel
theorem d_md_init_12 : decode (mcode M_md_init) 12 = .ok (.aload_n 0, 1) := by decide +kernel
theorem d_md_init_13 : decode (mcode M_md_init) 13 = .ok (.bipush 24, 2) := by decide +kernel
theorem d_md_init_15 : decode (mcode M_md_init) 15 = .ok (.newarray .int, 2) := by decide +kernel
theorem d_md_init_17 : decode (mcode M_md_init) 17 = .ok (.putfield 13, 3) := by decide +kernel
theorem d_md_init_20 : decode (mcode M_md_init) 20 = .ok (.aload_n 0, 1) := by decide +kernel
theorem d_md_init_21 : decode (mcode M_md_init) 21 = .ok (.bipush 24, 2) := by decide +kernel
theorem d_md_init_23 : decode (mcode M_md_init) 23 = .ok (.newarray .int, 2) := by decide +kernel
theorem d_md_init_25 : decode (mcode M_md_init) 25 = .ok (.putfield 16, 3) := by decide +kernel
theorem d_md_init_28 : decode (mcode M_md_init) 28 = .ok (.aload_n 0, 1) := by decide +kernel
theorem d_md_init_29 : decode (mcode M_md_init) 29 = .ok (.bipush 24, 2) := by decide +kernel
theorem d_md_init_31 : decode (mcode M_md_init) 31 = .ok (.newarray .int, 2) := by decide +kernel
theorem d_md_init_33 : decode (mcode M_md_init) 33 = .ok (.putfield 19, 3) := by decide +kernel
theorem d_md_init_36 : decode (mcode M_md_init) 36 = .ok (.aload_n 0, 1) := by decide +kernel
theorem d_md_init_37 : decode (mcode M_md_init) 37 = .ok (.bipush 24, 2) := by decide +kernel
theorem d_md_init_39 : decode (mcode M_md_init) 39 = .ok (.newarray .int, 2) := by decide +kernel
theorem d_md_init_41 : decode (mcode M_md_init) 41 = .ok (.putfield 22, 3) := by decide +kernel
theorem d_md_init_44 : decode (mcode M_md_init) 44 = .ok (.aload_n 0, 1) := by decide +kernel
theorem d_md_init_45 : decode (mcode M_md_init) 45 = .ok (.bipush 24, 2) := by decide +kernel
theorem d_md_init_47 : decode (mcode M_md_init) 47 = .ok (.newarray .int, 2) := by decide +kernel
theorem d_md_init_49 : decode (mcode M_md_init) 49 = .ok (.putfield 25, 3) := by decide +kernel
theorem d_md_init_52 : decode (mcode M_md_init) 52 = .ok (.aload_n 0, 1) := by decide +kernel
theorem d_md_init_53 : decode (mcode M_md_init) 53 = .ok (.bipush 96, 2) := by decide +kernel
theorem d_md_init_55 : decode (mcode M_md_init) 55 = .ok (.newarray .int, 2) := by decide +kernel
theorem d_md_init_57 : decode (mcode M_md_init) 57 = .ok (.putfield 28, 3) := by decide +kernel
theorem d_md_init_60 : decode (mcode M_md_init) 60 = .ok (.aload_n 0, 1) := by decide +kernel
theorem d_md_init_61 : decode (mcode M_md_init) 61 = .ok (.bipush 96, 2) := by decide +kernel
theorem d_md_init_63 : decode (mcode M_md_init) 63 = .ok (.newarray .int, 2) := by decide +kernel
theorem d_md_init_65 : decode (mcode M_md_init) 65 = .ok (.putfield 31, 3) := by decide +kernel
theorem d_md_init_68 : decode (mcode M_md_init) 68 = .ok (.aload_n 0, 1) := by decide +kernel
theorem d_md_init_69 : decode (mcode M_md_init) 69 = .ok (.bipush 96, 2) := by decide +kernel
theorem d_md_init_71 : decode (mcode M_md_init) 71 = .ok (.newarray .int, 2) := by decide +kernel
theorem d_md_init_73 : decode (mcode M_md_init) 73 = .ok (.putfield 34, 3) := by decide +kernel
theorem d_md_init_76 : decode (mcode M_md_init) 76 = .ok (.aload_n 0, 1) := by decide +kernel
theorem d_md_init_77 : decode (mcode M_md_init) 77 = .ok (.bipush 24, 2) := by decide +kernel
theorem d_md_init_79 : decode (mcode M_md_init) 79 = .ok (.newarray .int, 2) := by decide +kernel
theorem d_md_init_81 : decode (mcode M_md_init) 81 = .ok (.putfield 37, 3) := by decide +kernel
theorem d_md_init_84 : decode (mcode M_md_init) 84 = .ok (.aload_n 0, 1) := by decide +kernel
theorem d_md_init_85 : decode (mcode M_md_init) 85 = .ok (.bipush 24, 2) := by decide +kernel
theorem d_md_init_87 : decode (mcode M_md_init) 87 = .ok (.newarray .int, 2) := by decide +kernel
theorem d_md_init_89 : decode (mcode M_md_init) 89 = .ok (.putfield 40, 3) := by decide +kernel
theorem d_md_init_92 : decode (mcode M_md_init) 92 = .ok (.aload_n 0, 1) := by decide +kernel
theorem d_md_init_93 : decode (mcode M_md_init) 93 = .ok (.bipush 24, 2) := by decide +kernel
theorem d_md_init_95 : decode (mcode M_md_init) 95 = .ok (.newarray .int, 2) := by decide +kernel
theorem d_md_init_97 : decode (mcode M_md_init) 97 = .ok (.putfield 43, 3) := by decide +kernel
theorem d_md_init_100 : decode (mcode M_md_init) 100 = .ok (.aload_n 0, 1) := by decide +kernel
theorem d_md_init_101 : decode (mcode M_md_init) 101 = .ok (.bipush 24, 2) := by decide +kernel
theorem d_md_init_103 : decode (mcode M_md_init) 103 = .ok (.newarray .int, 2) := by decide +kernel
theorem d_md_init_105 : decode (mcode M_md_init) 105 = .ok (.putfield 46, 3) := by decide +kernel
theorem d_md_init_108 : decode (mcode M_md_init) 108 = .ok (.aload_n 0, 1) := by decide +kernel
theorem d_md_init_109 : decode (mcode M_md_init) 109 = .ok (.bipush 24, 2) := by decide +kernel
theorem d_md_init_111 : decode (mcode M_md_init) 111 = .ok (.newarray .int, 2) := by decide +kernel
theorem d_md_init_113 : decode (mcode M_md_init) 113 = .ok (.putfield 49, 3) := by decide +kernel
theorem d_md_init_116 : decode (mcode M_md_init) 116 = .ok (.aload_n 0, 1) := by decide +kernel
theorem d_md_init_117 : decode (mcode M_md_init) 117 = .ok (.iconst 2, 1) := by decide +kernel
theorem d_md_init_118 : decode (mcode M_md_init) 118 = .ok (.putfield 52, 3) := by decide +kernel
theorem d_md_init_121 : decode (mcode M_md_init) 121 = .ok (.aload_n 0, 1) := by decide +kernel
theorem d_md_init_122 : decode (mcode M_md_init) 122 = .ok (.iconst 3, 1) := by decide +kernel
theorem d_md_init_123 : decode (mcode M_md_init) 123 = .ok (.putfield 56, 3) := by decide +kernel
theorem d_md_init_126 : decode (mcode M_md_init) 126 = .ok (.aload_n 0, 1) := by decide +kernel
theorem d_md_init_127 : decode (mcode M_md_init) 127 = .ok (.bipush 10, 2) := by decide +kernel
theorem d_md_init_129 : decode (mcode M_md_init) 129 = .ok (.putfield 59, 3) := by decide +kernel
theorem d_md_init_132 : decode (mcode M_md_init) 132 = .ok (.aload_n 0, 1) := by decide +kernel
theorem d_md_init_133 : decode (mcode M_md_init) 133 = .ok (.bipush 20, 2) := by decide +kernel
theorem d_md_init_135 : decode (mcode M_md_init) 135 = .ok (.newarray .int, 2) := by decide +kernel
theorem d_md_init_137 : decode (mcode M_md_init) 137 = .ok (.putfield 62, 3) := by decide +kernel
theorem d_md_init_140 : decode (mcode M_md_init) 140 = .ok (.aload_n 0, 1) := by decide +kernel
theorem d_md_init_141 : decode (mcode M_md_init) 141 = .ok (.bipush 48, 2) := by decide +kernel
theorem d_md_init_143 : decode (mcode M_md_init) 143 = .ok (.newarray .int, 2) := by decide +kernel
theorem d_md_init_145 : decode (mcode M_md_init) 145 = .ok (.putfield 65, 3) := by decide +kernel
theorem d_md_init_148 : decode (mcode M_md_init) 148 = .ok (.aload_n 0, 1) := by decide +kernel
theorem d_md_init_149 : decode (mcode M_md_init) 149 = .ok (.iconst 4, 1) := by decide +kernel
theorem d_md_init_150 : decode (mcode M_md_init) 150 = .ok (.newarray .int, 2) := by decide +kernel
theorem d_md_init_152 : decode (mcode M_md_init) 152 = .ok (.putfield 68, 3) := by decide +kernel
theorem d_md_init_155 : decode (mcode M_md_init) 155 = .ok (.aload_n 0, 1) := by decide +kernel
theorem d_md_init_156 : decode (mcode M_md_init) 156 = .ok (.iconst 4, 1) := by decide +kernel
theorem d_md_init_157 : decode (mcode M_md_init) 157 = .ok (.newarray .long, 2) := by decide +kernel
theorem d_md_init_159 : decode (mcode M_md_init) 159 = .ok (.putfield 71, 3) := by decide +kernel
theorem d_md_init_162 : decode (mcode M_md_init) 162 = .ok (.aload_n 0, 1) := by decide +kernel
theorem d_md_init_163 : decode (mcode M_md_init) 163 = .ok (.bipush 12, 2) := by decide +kernel
theorem d_md_init_165 : decode (mcode M_md_init) 165 = .ok (.newarray .int, 2) := by decide +kernel
theorem d_md_init_167 : decode (mcode M_md_init) 167 = .ok (.putfield 75, 3) := by decide +kernel
theorem d_md_init_170 : decode (mcode M_md_init) 170 = .ok (.aload_n 0, 1) := by decide +kernel
theorem d_md_init_171 : decode (mcode M_md_init) 171 = .ok (.bipush 8, 2) := by decide +kernel
theorem d_md_init_173 : decode (mcode M_md_init) 173 = .ok (.newarray .int, 2) := by decide +kernel
theorem d_md_init_175 : decode (mcode M_md_init) 175 = .ok (.putfield 78, 3) := by decide +kernel
theorem d_md_init_178 : decode (mcode M_md_init) 178 = .ok (.aload_n 0, 1) := by decide +kernel
theorem d_md_init_179 : decode (mcode M_md_init) 179 = .ok (.sipush 2709, 3) := by decide +kernel
theorem d_md_init_182 : decode (mcode M_md_init) 182 = .ok (.newarray .int, 2) := by decide +kernel
theorem d_md_init_184 : decode (mcode M_md_init) 184 = .ok (.putfield 81, 3) := by decide +kernel
theorem d_md_init_187 : decode (mcode M_md_init) 187 = .ok (.iconst 0, 1) := by decide +kernel
theorem d_md_init_188 : decode (mcode M_md_init) 188 = .ok (.istore_n 1, 1) := by decide +kernel
theorem d_md_init_189 : decode (mcode M_md_init) 189 = .ok (.iload_n 1, 1) := by decide +kernel
theorem d_md_init_190 : decode (mcode M_md_init) 190 = .ok (.bipush 48, 2) := by decide +kernel
theorem d_md_init_192 : decode (mcode M_md_init) 192 = .ok (.if_icmp .ge 16, 3) := by decide +kernel
theorem d_md_init_195 : decode (mcode M_md_init) 195 = .ok (.aload_n 0, 1) := by decide +kernel
theorem d_md_init_196 : decode (mcode M_md_init) 196 = .ok (.getfield 65, 3) := by decide +kernel
theorem d_md_init_199 : decode (mcode M_md_init) 199 = .ok (.iload_n 1, 1) := by decide +kernel
theorem d_md_init_200 : decode (mcode M_md_init) 200 = .ok (.iconst (-1), 1) := by decide +kernel
theorem d_md_init_201 : decode (mcode M_md_init) 201 = .ok (.iastore, 1) := by decide +kernel
theorem d_md_init_202 : decode (mcode M_md_init) 202 = .ok (.iinc 1 1, 3) := by decide +kernel
theorem d_md_init_205 : decode (mcode M_md_init) 205 = .ok (.goto (-16), 3) := by decide +kernel
theorem d_md_init_208 : decode (mcode M_md_init) 208 = .ok (.return_, 1) := by decide +kernel
theorem d_md_in_0 : decode (mcode M_md_in) 0 = .ok (.iload_n 0, 1) := by decide +kernel
theorem d_md_in_1 : decode (mcode M_md_in) 1 = .ok (.iload_n 1, 1) := by decide +kernel
theorem d_md_in_2 : decode (mcode M_md_in) 2 = .ok (.if_icmp .lt 12, 3) := by decide +kernel
theorem d_md_in_5 : decode (mcode M_md_in) 5 = .ok (.iload_n 0, 1) := by decide +kernel
theorem d_md_in_6 : decode (mcode M_md_in) 6 = .ok (.iload_n 2, 1) := by decide +kernel
theorem d_md_in_7 : decode (mcode M_md_in) 7 = .ok (.if_icmp .gt 7, 3) := by decide +kernel
theorem d_md_in_10 : decode (mcode M_md_in) 10 = .ok (.iconst 1, 1) := by decide +kernel
theorem d_md_in_11 : decode (mcode M_md_in) 11 = .ok (.goto 4, 3) := by decide +kernel
theorem d_md_in_14 : decode (mcode M_md_in) 14 = .ok (.iconst 0, 1) := by decide +kernel
theorem d_md_in_15 : decode (mcode M_md_in) 15 = .ok (.ireturn, 1) := by decide +kernel
theorem d_md_isPlot_0 : decode (mcode M_md_isPlot) 0 = .ok (.iload_n 1, 1) := by decide +kernel
theorem d_md_isPlot_1 : decode (mcode M_md_isPlot) 1 = .ok (.iconst 0, 1) := by decide +kernel
theorem d_md_isPlot_2 : decode (mcode M_md_isPlot) 2 = .ok (.aload_n 0, 1) := by decide +kernel
theorem d_md_isPlot_3 : decode (mcode M_md_isPlot) 3 = .ok (.getfield 84, 3) := by decide +kernel
theorem d_md_isPlot_6 : decode (mcode M_md_isPlot) 6 = .ok (.iconst 1, 1) := by decide +kernel
theorem d_md_isPlot_7 : decode (mcode M_md_isPlot) 7 = .ok (.isub, 1) := by decide +kernel
theorem d_md_isPlot_8 : decode (mcode M_md_isPlot) 8 = .ok (.invokestatic 87, 3) := by decide +kernel
theorem d_md_isPlot_11 : decode (mcode M_md_isPlot) 11 = .ok (.ireturn, 1) := by decide +kernel
theorem d_md_isStreet_0 : decode (mcode M_md_isStreet) 0 = .ok (.iload_n 0, 1) := by decide +kernel
theorem d_md_isStreet_1 : decode (mcode M_md_isStreet) 1 = .ok (.iconst 0, 1) := by decide +kernel
theorem d_md_isStreet_2 : decode (mcode M_md_isStreet) 2 = .ok (.iconst 5, 1) := by decide +kernel
theorem d_md_isStreet_3 : decode (mcode M_md_isStreet) 3 = .ok (.invokestatic 87, 3) := by decide +kernel
theorem d_md_isStreet_6 : decode (mcode M_md_isStreet) 6 = .ok (.ireturn, 1) := by decide +kernel
theorem d_md_isGone_0 : decode (mcode M_md_isGone) 0 = .ok (.aload_n 0, 1) := by decide +kernel
theorem d_md_isGone_1 : decode (mcode M_md_isGone) 1 = .ok (.getfield 22, 3) := by decide +kernel
theorem d_md_isGone_4 : decode (mcode M_md_isGone) 4 = .ok (.iload_n 1, 1) := by decide +kernel
theorem d_md_isGone_5 : decode (mcode M_md_isGone) 5 = .ok (.iaload, 1) := by decide +kernel
theorem d_md_isGone_6 : decode (mcode M_md_isGone) 6 = .ok (.iconst 2, 1) := by decide +kernel
theorem d_md_isGone_7 : decode (mcode M_md_isGone) 7 = .ok (.if_icmp .eq 13, 3) := by decide +kernel
theorem d_md_isGone_10 : decode (mcode M_md_isGone) 10 = .ok (.aload_n 0, 1) := by decide +kernel
theorem d_md_isGone_11 : decode (mcode M_md_isGone) 11 = .ok (.getfield 22, 3) := by decide +kernel
theorem d_md_isGone_14 : decode (mcode M_md_isGone) 14 = .ok (.iload_n 1, 1) := by decide +kernel
theorem d_md_isGone_15 : decode (mcode M_md_isGone) 15 = .ok (.iaload, 1) := by decide +kernel
theorem d_md_isGone_16 : decode (mcode M_md_isGone) 16 = .ok (.iconst 3, 1) := by decide +kernel
theorem d_md_isGone_17 : decode (mcode M_md_isGone) 17 = .ok (.if_icmp .ne 7, 3) := by decide +kernel
theorem d_md_isGone_20 : decode (mcode M_md_isGone) 20 = .ok (.iconst 1, 1) := by decide +kernel
theorem d_md_isGone_21 : decode (mcode M_md_isGone) 21 = .ok (.goto 4, 3) := by decide +kernel
theorem d_md_isGone_24 : decode (mcode M_md_isGone) 24 = .ok (.iconst 0, 1) := by decide +kernel
theorem d_md_isGone_25 : decode (mcode M_md_isGone) 25 = .ok (.ireturn, 1) := by decide +kernel
theorem d_md_coins_0 : decode (mcode M_md_coins) 0 = .ok (.iload_n 1, 1) := by decide +kernel
theorem d_md_coins_1 : decode (mcode M_md_coins) 1 = .ok (.iconst 0, 1) := by decide +kernel
theorem d_md_coins_2 : decode (mcode M_md_coins) 2 = .ok (.bipush 19, 2) := by decide +kernel
theorem d_md_coins_4 : decode (mcode M_md_coins) 4 = .ok (.invokestatic 87, 3) := by decide +kernel
theorem d_md_coins_7 : decode (mcode M_md_coins) 7 = .ok (.ifCond .eq 13, 3) := by decide +kernel
theorem d_md_coins_10 : decode (mcode M_md_coins) 10 = .ok (.iload_n 2, 1) := by decide +kernel
theorem d_md_coins_11 : decode (mcode M_md_coins) 11 = .ok (.iconst 1, 1) := by decide +kernel
theorem d_md_coins_12 : decode (mcode M_md_coins) 12 = .ok (.ldc 91, 2) := by decide +kernel
theorem d_md_coins_14 : decode (mcode M_md_coins) 14 = .ok (.invokestatic 87, 3) := by decide +kernel
theorem d_md_coins_17 : decode (mcode M_md_coins) 17 = .ok (.ifCond .ne 6, 3) := by decide +kernel
theorem d_md_coins_20 : decode (mcode M_md_coins) 20 = .ok (.ldc 92, 2) := by decide +kernel
theorem d_md_coins_22 : decode (mcode M_md_coins) 22 = .ok (.ireturn, 1) := by decide +kernel
theorem d_md_coins_23 : decode (mcode M_md_coins) 23 = .ok (.aload_n 0, 1) := by decide +kernel
theorem d_md_coins_24 : decode (mcode M_md_coins) 24 = .ok (.getfield 9, 3) := by decide +kernel
theorem d_md_coins_27 : decode (mcode M_md_coins) 27 = .ok (.iload_n 1, 1) := by decide +kernel
theorem d_md_coins_28 : decode (mcode M_md_coins) 28 = .ok (.dup2, 1) := by decide +kernel
theorem d_md_coins_29 : decode (mcode M_md_coins) 29 = .ok (.iaload, 1) := by decide +kernel
theorem d_md_coins_30 : decode (mcode M_md_coins) 30 = .ok (.iload_n 2, 1) := by decide +kernel
theorem d_md_coins_31 : decode (mcode M_md_coins) 31 = .ok (.iadd, 1) := by decide +kernel
theorem d_md_coins_32 : decode (mcode M_md_coins) 32 = .ok (.iastore, 1) := by decide +kernel
theorem d_md_coins_33 : decode (mcode M_md_coins) 33 = .ok (.aload_n 0, 1) := by decide +kernel
theorem d_md_coins_34 : decode (mcode M_md_coins) 34 = .ok (.getfield 9, 3) := by decide +kernel
theorem d_md_coins_37 : decode (mcode M_md_coins) 37 = .ok (.iload_n 1, 1) := by decide +kernel
theorem d_md_coins_38 : decode (mcode M_md_coins) 38 = .ok (.iaload, 1) := by decide +kernel
theorem d_md_coins_39 : decode (mcode M_md_coins) 39 = .ok (.ireturn, 1) := by decide +kernel
theorem d_md_onStreet_0 : decode (mcode M_md_onStreet) 0 = .ok (.iconst 0, 1) := by decide +kernel
theorem d_md_onStreet_1 : decode (mcode M_md_onStreet) 1 = .ok (.istore_n 2, 1) := by decide +kernel
theorem d_md_onStreet_2 : decode (mcode M_md_onStreet) 2 = .ok (.iconst 0, 1) := by decide +kernel
theorem d_md_onStreet_3 : decode (mcode M_md_onStreet) 3 = .ok (.istore_n 3, 1) := by decide +kernel
theorem d_md_onStreet_4 : decode (mcode M_md_onStreet) 4 = .ok (.iload_n 3, 1) := by decide +kernel
theorem d_md_onStreet_5 : decode (mcode M_md_onStreet) 5 = .ok (.aload_n 0, 1) := by decide +kernel
theorem d_md_onStreet_6 : decode (mcode M_md_onStreet) 6 = .ok (.getfield 84, 3) := by decide +kernel
theorem d_md_onStreet_9 : decode (mcode M_md_onStreet) 9 = .ok (.if_icmp .ge 27, 3) := by decide +kernel
theorem d_md_onStreet_12 : decode (mcode M_md_onStreet) 12 = .ok (.iload_n 2, 1) := by decide +kernel
theorem d_md_onStreet_13 : decode (mcode M_md_onStreet) 13 = .ok (.aload_n 0, 1) := by decide +kernel
theorem d_md_onStreet_14 : decode (mcode M_md_onStreet) 14 = .ok (.getfield 13, 3) := by decide +kernel
theorem d_md_onStreet_17 : decode (mcode M_md_onStreet) 17 = .ok (.iload_n 3, 1) := by decide +kernel
theorem d_md_onStreet_18 : decode (mcode M_md_onStreet) 18 = .ok (.iaload, 1) := by decide +kernel
theorem d_md_onStreet_19 : decode (mcode M_md_onStreet) 19 = .ok (.iload_n 1, 1) := by decide +kernel
theorem d_md_onStreet_20 : decode (mcode M_md_onStreet) 20 = .ok (.if_icmp .ne 7, 3) := by decide +kernel
theorem d_md_onStreet_23 : decode (mcode M_md_onStreet) 23 = .ok (.iconst 1, 1) := by decide +kernel
theorem d_md_onStreet_24 : decode (mcode M_md_onStreet) 24 = .ok (.goto 4, 3) := by decide +kernel
theorem d_md_onStreet_27 : decode (mcode M_md_onStreet) 27 = .ok (.iconst 0, 1) := by decide +kernel
theorem d_md_onStreet_28 : decode (mcode M_md_onStreet) 28 = .ok (.iadd, 1) := by decide +kernel
theorem d_md_onStreet_29 : decode (mcode M_md_onStreet) 29 = .ok (.istore_n 2, 1) := by decide +kernel
theorem d_md_onStreet_30 : decode (mcode M_md_onStreet) 30 = .ok (.iinc 3 1, 3) := by decide +kernel
theorem d_md_onStreet_33 : decode (mcode M_md_onStreet) 33 = .ok (.goto (-29), 3) := by decide +kernel
theorem d_md_onStreet_36 : decode (mcode M_md_onStreet) 36 = .ok (.iload_n 2, 1) := by decide +kernel
theorem d_md_onStreet_37 : decode (mcode M_md_onStreet) 37 = .ok (.ireturn, 1) := by decide +kernel
theorem d_md_plot_0 : decode (mcode M_md_plot) 0 = .ok (.iload_n 1, 1) := by decide +kernel
theorem d_md_plot_1 : decode (mcode M_md_plot) 1 = .ok (.invokestatic 93, 3) := by decide +kernel
theorem d_md_plot_4 : decode (mcode M_md_plot) 4 = .ok (.ifCond .eq 62, 3) := by decide +kernel
theorem d_md_plot_7 : decode (mcode M_md_plot) 7 = .ok (.iload_n 3, 1) := by decide +kernel
theorem d_md_plot_8 : decode (mcode M_md_plot) 8 = .ok (.iconst 0, 1) := by decide +kernel
theorem d_md_plot_9 : decode (mcode M_md_plot) 9 = .ok (.bipush 19, 2) := by decide +kernel
theorem d_md_plot_11 : decode (mcode M_md_plot) 11 = .ok (.invokestatic 87, 3) := by decide +kernel
theorem d_md_plot_14 : decode (mcode M_md_plot) 14 = .ok (.ifCond .eq 52, 3) := by decide +kernel
theorem d_md_plot_17 : decode (mcode M_md_plot) 17 = .ok (.iload_n 2, 1) := by decide +kernel
theorem d_md_plot_18 : decode (mcode M_md_plot) 18 = .ok (.sipush 1000, 3) := by decide +kernel
theorem d_md_plot_21 : decode (mcode M_md_plot) 21 = .ok (.idiv, 1) := by decide +kernel
theorem d_md_plot_22 : decode (mcode M_md_plot) 22 = .ok (.bipush 10, 2) := by decide +kernel
theorem d_md_plot_24 : decode (mcode M_md_plot) 24 = .ok (.bipush 60, 2) := by decide +kernel
theorem d_md_plot_26 : decode (mcode M_md_plot) 26 = .ok (.invokestatic 87, 3) := by decide +kernel
theorem d_md_plot_29 : decode (mcode M_md_plot) 29 = .ok (.ifCond .eq 37, 3) := by decide +kernel
theorem d_md_plot_32 : decode (mcode M_md_plot) 32 = .ok (.iload_n 2, 1) := by decide +kernel
theorem d_md_plot_33 : decode (mcode M_md_plot) 33 = .ok (.sipush 1000, 3) := by decide +kernel
theorem d_md_plot_36 : decode (mcode M_md_plot) 36 = .ok (.irem, 1) := by decide +kernel
theorem d_md_plot_37 : decode (mcode M_md_plot) 37 = .ok (.bipush 20, 2) := by decide +kernel
theorem d_md_plot_39 : decode (mcode M_md_plot) 39 = .ok (.bipush 100, 2) := by decide +kernel
theorem d_md_plot_41 : decode (mcode M_md_plot) 41 = .ok (.invokestatic 87, 3) := by decide +kernel
theorem d_md_plot_44 : decode (mcode M_md_plot) 44 = .ok (.ifCond .eq 22, 3) := by decide +kernel
theorem d_md_plot_47 : decode (mcode M_md_plot) 47 = .ok (.aload_n 0, 1) := by decide +kernel
theorem d_md_plot_48 : decode (mcode M_md_plot) 48 = .ok (.getfield 84, 3) := by decide +kernel
theorem d_md_plot_51 : decode (mcode M_md_plot) 51 = .ok (.bipush 24, 2) := by decide +kernel
theorem d_md_plot_53 : decode (mcode M_md_plot) 53 = .ok (.if_icmp .eq 13, 3) := by decide +kernel
theorem d_md_plot_56 : decode (mcode M_md_plot) 56 = .ok (.aload_n 0, 1) := by decide +kernel
theorem d_md_plot_57 : decode (mcode M_md_plot) 57 = .ok (.iload_n 1, 1) := by decide +kernel
theorem d_md_plot_58 : decode (mcode M_md_plot) 58 = .ok (.invokevirtual 97, 3) := by decide +kernel
theorem d_md_plot_61 : decode (mcode M_md_plot) 61 = .ok (.bipush 8, 2) := by decide +kernel
theorem d_md_plot_63 : decode (mcode M_md_plot) 63 = .ok (.if_icmp .ne 5, 3) := by decide +kernel
theorem d_md_plot_66 : decode (mcode M_md_plot) 66 = .ok (.iconst (-1), 1) := by decide +kernel
theorem d_md_plot_67 : decode (mcode M_md_plot) 67 = .ok (.ireturn, 1) := by decide +kernel
theorem d_md_plot_68 : decode (mcode M_md_plot) 68 = .ok (.aload_n 0, 1) := by decide +kernel
theorem d_md_plot_69 : decode (mcode M_md_plot) 69 = .ok (.getfield 13, 3) := by decide +kernel
theorem d_md_plot_72 : decode (mcode M_md_plot) 72 = .ok (.aload_n 0, 1) := by decide +kernel
theorem d_md_plot_73 : decode (mcode M_md_plot) 73 = .ok (.getfield 84, 3) := by decide +kernel
theorem d_md_plot_76 : decode (mcode M_md_plot) 76 = .ok (.iload_n 1, 1) := by decide +kernel
theorem d_md_plot_77 : decode (mcode M_md_plot) 77 = .ok (.iastore, 1) := by decide +kernel
theorem d_md_plot_78 : decode (mcode M_md_plot) 78 = .ok (.aload_n 0, 1) := by decide +kernel
theorem d_md_plot_79 : decode (mcode M_md_plot) 79 = .ok (.getfield 16, 3) := by decide +kernel
theorem d_md_plot_82 : decode (mcode M_md_plot) 82 = .ok (.aload_n 0, 1) := by decide +kernel
theorem d_md_plot_83 : decode (mcode M_md_plot) 83 = .ok (.getfield 84, 3) := by decide +kernel
theorem d_md_plot_86 : decode (mcode M_md_plot) 86 = .ok (.iload_n 2, 1) := by decide +kernel
theorem d_md_plot_87 : decode (mcode M_md_plot) 87 = .ok (.sipush 1000, 3) := by decide +kernel
theorem d_md_plot_90 : decode (mcode M_md_plot) 90 = .ok (.idiv, 1) := by decide +kernel
theorem d_md_plot_91 : decode (mcode M_md_plot) 91 = .ok (.iastore, 1) := by decide +kernel
theorem d_md_plot_92 : decode (mcode M_md_plot) 92 = .ok (.aload_n 0, 1) := by decide +kernel
theorem d_md_plot_93 : decode (mcode M_md_plot) 93 = .ok (.getfield 19, 3) := by decide +kernel
theorem d_md_plot_96 : decode (mcode M_md_plot) 96 = .ok (.aload_n 0, 1) := by decide +kernel
theorem d_md_plot_97 : decode (mcode M_md_plot) 97 = .ok (.getfield 84, 3) := by decide +kernel
theorem d_md_plot_100 : decode (mcode M_md_plot) 100 = .ok (.iload_n 2, 1) := by decide +kernel
theorem d_md_plot_101 : decode (mcode M_md_plot) 101 = .ok (.sipush 1000, 3) := by decide +kernel
theorem d_md_plot_104 : decode (mcode M_md_plot) 104 = .ok (.irem, 1) := by decide +kernel
theorem d_md_plot_105 : decode (mcode M_md_plot) 105 = .ok (.iastore, 1) := by decide +kernel
theorem d_md_plot_106 : decode (mcode M_md_plot) 106 = .ok (.aload_n 0, 1) := by decide +kernel
theorem d_md_plot_107 : decode (mcode M_md_plot) 107 = .ok (.getfield 28, 3) := by decide +kernel
theorem d_md_plot_110 : decode (mcode M_md_plot) 110 = .ok (.iconst 4, 1) := by decide +kernel
theorem d_md_plot_111 : decode (mcode M_md_plot) 111 = .ok (.aload_n 0, 1) := by decide +kernel
theorem d_md_plot_112 : decode (mcode M_md_plot) 112 = .ok (.getfield 84, 3) := by decide +kernel
theorem d_md_plot_115 : decode (mcode M_md_plot) 115 = .ok (.imul, 1) := by decide +kernel
theorem d_md_plot_116 : decode (mcode M_md_plot) 116 = .ok (.iload_n 3, 1) := by decide +kernel
theorem d_md_plot_117 : decode (mcode M_md_plot) 117 = .ok (.iastore, 1) := by decide +kernel
theorem d_md_plot_118 : decode (mcode M_md_plot) 118 = .ok (.aload_n 0, 1) := by decide +kernel
theorem d_md_plot_119 : decode (mcode M_md_plot) 119 = .ok (.getfield 31, 3) := by decide +kernel
theorem d_md_plot_122 : decode (mcode M_md_plot) 122 = .ok (.iconst 4, 1) := by decide +kernel
theorem d_md_plot_123 : decode (mcode M_md_plot) 123 = .ok (.aload_n 0, 1) := by decide +kernel
theorem d_md_plot_124 : decode (mcode M_md_plot) 124 = .ok (.getfield 84, 3) := by decide +kernel
theorem d_md_plot_127 : decode (mcode M_md_plot) 127 = .ok (.imul, 1) := by decide +kernel
theorem d_md_plot_128 : decode (mcode M_md_plot) 128 = .ok (.bipush 99, 2) := by decide +kernel
theorem d_md_plot_130 : decode (mcode M_md_plot) 130 = .ok (.iastore, 1) := by decide +kernel
theorem d_md_plot_131 : decode (mcode M_md_plot) 131 = .ok (.aload_n 0, 1) := by decide +kernel
theorem d_md_plot_132 : decode (mcode M_md_plot) 132 = .ok (.getfield 37, 3) := by decide +kernel
theorem d_md_plot_135 : decode (mcode M_md_plot) 135 = .ok (.aload_n 0, 1) := by decide +kernel
theorem d_md_plot_136 : decode (mcode M_md_plot) 136 = .ok (.getfield 84, 3) := by decide +kernel
theorem d_md_plot_139 : decode (mcode M_md_plot) 139 = .ok (.iconst (-1), 1) := by decide +kernel
theorem d_md_plot_140 : decode (mcode M_md_plot) 140 = .ok (.iastore, 1) := by decide +kernel
theorem d_md_plot_141 : decode (mcode M_md_plot) 141 = .ok (.aload_n 0, 1) := by decide +kernel
end
section
theorem d_md_plot_142 : decode (mcode M_md_plot) 142 = .ok (.getfield 40, 3) := by decide +kernel
theorem d_md_plot_145 : decode (mcode M_md_plot) 145 = .ok (.aload_n 0, 1) := by decide +kernel
theorem d_md_plot_146 : decode (mcode M_md_plot) 146 = .ok (.getfield 84, 3) := by decide +kernel
theorem d_md_plot_149 : decode (mcode M_md_plot) 149 = .ok (.iconst (-1), 1) := by decide +kernel
theorem d_md_plot_150 : decode (mcode M_md_plot) 150 = .ok (.iastore, 1) := by decide +kernel
theorem d_md_plot_151 : decode (mcode M_md_plot) 151 = .ok (.aload_n 0, 1) := by decide +kernel
theorem d_md_plot_152 : decode (mcode M_md_plot) 152 = .ok (.getfield 43, 3) := by decide +kernel
theorem d_md_plot_155 : decode (mcode M_md_plot) 155 = .ok (.aload_n 0, 1) := by decide +kernel
theorem d_md_plot_156 : decode (mcode M_md_plot) 156 = .ok (.getfield 84, 3) := by decide +kernel
theorem d_md_plot_159 : decode (mcode M_md_plot) 159 = .ok (.iconst (-1), 1) := by decide +kernel
theorem d_md_plot_160 : decode (mcode M_md_plot) 160 = .ok (.iastore, 1) := by decide +kernel
theorem d_md_plot_161 : decode (mcode M_md_plot) 161 = .ok (.aload_n 0, 1) := by decide +kernel
theorem d_md_plot_162 : decode (mcode M_md_plot) 162 = .ok (.getfield 46, 3) := by decide +kernel
theorem d_md_plot_165 : decode (mcode M_md_plot) 165 = .ok (.aload_n 0, 1) := by decide +kernel
theorem d_md_plot_166 : decode (mcode M_md_plot) 166 = .ok (.getfield 84, 3) := by decide +kernel
theorem d_md_plot_169 : decode (mcode M_md_plot) 169 = .ok (.iconst (-1), 1) := by decide +kernel
theorem d_md_plot_170 : decode (mcode M_md_plot) 170 = .ok (.iastore, 1) := by decide +kernel
theorem d_md_plot_171 : decode (mcode M_md_plot) 171 = .ok (.aload_n 0, 1) := by decide +kernel
theorem d_md_plot_172 : decode (mcode M_md_plot) 172 = .ok (.dup, 1) := by decide +kernel
theorem d_md_plot_173 : decode (mcode M_md_plot) 173 = .ok (.getfield 84, 3) := by decide +kernel
theorem d_md_plot_176 : decode (mcode M_md_plot) 176 = .ok (.iconst 1, 1) := by decide +kernel
theorem d_md_plot_177 : decode (mcode M_md_plot) 177 = .ok (.iadd, 1) := by decide +kernel
theorem d_md_plot_178 : decode (mcode M_md_plot) 178 = .ok (.putfield 84, 3) := by decide +kernel
theorem d_md_plot_181 : decode (mcode M_md_plot) 181 = .ok (.aload_n 0, 1) := by decide +kernel
theorem d_md_plot_182 : decode (mcode M_md_plot) 182 = .ok (.getfield 84, 3) := by decide +kernel
theorem d_md_plot_185 : decode (mcode M_md_plot) 185 = .ok (.iconst 1, 1) := by decide +kernel
theorem d_md_plot_186 : decode (mcode M_md_plot) 186 = .ok (.isub, 1) := by decide +kernel
theorem d_md_plot_187 : decode (mcode M_md_plot) 187 = .ok (.ireturn, 1) := by decide +kernel
theorem d_md_lease_0 : decode (mcode M_md_lease) 0 = .ok (.aload_n 0, 1) := by decide +kernel
theorem d_md_lease_1 : decode (mcode M_md_lease) 1 = .ok (.iload_n 1, 1) := by decide +kernel
theorem d_md_lease_2 : decode (mcode M_md_lease) 2 = .ok (.invokevirtual 101, 3) := by decide +kernel
theorem d_md_lease_5 : decode (mcode M_md_lease) 5 = .ok (.ifCond .eq 32, 3) := by decide +kernel
theorem d_md_lease_8 : decode (mcode M_md_lease) 8 = .ok (.aload_n 0, 1) := by decide +kernel
theorem d_md_lease_9 : decode (mcode M_md_lease) 9 = .ok (.getfield 22, 3) := by decide +kernel
theorem d_md_lease_12 : decode (mcode M_md_lease) 12 = .ok (.iload_n 1, 1) := by decide +kernel
theorem d_md_lease_13 : decode (mcode M_md_lease) 13 = .ok (.iaload, 1) := by decide +kernel
theorem d_md_lease_14 : decode (mcode M_md_lease) 14 = .ok (.ifCond .ne 23, 3) := by decide +kernel
theorem d_md_lease_17 : decode (mcode M_md_lease) 17 = .ok (.iload_n 2, 1) := by decide +kernel
theorem d_md_lease_18 : decode (mcode M_md_lease) 18 = .ok (.iconst 0, 1) := by decide +kernel
theorem d_md_lease_19 : decode (mcode M_md_lease) 19 = .ok (.bipush 19, 2) := by decide +kernel
theorem d_md_lease_21 : decode (mcode M_md_lease) 21 = .ok (.invokestatic 87, 3) := by decide +kernel
theorem d_md_lease_24 : decode (mcode M_md_lease) 24 = .ok (.ifCond .eq 13, 3) := by decide +kernel
theorem d_md_lease_27 : decode (mcode M_md_lease) 27 = .ok (.aload_n 0, 1) := by decide +kernel
theorem d_md_lease_28 : decode (mcode M_md_lease) 28 = .ok (.getfield 25, 3) := by decide +kernel
theorem d_md_lease_31 : decode (mcode M_md_lease) 31 = .ok (.iload_n 1, 1) := by decide +kernel
theorem d_md_lease_32 : decode (mcode M_md_lease) 32 = .ok (.iaload, 1) := by decide +kernel
theorem d_md_lease_33 : decode (mcode M_md_lease) 33 = .ok (.iconst 3, 1) := by decide +kernel
theorem d_md_lease_34 : decode (mcode M_md_lease) 34 = .ok (.if_icmp .ne 5, 3) := by decide +kernel
theorem d_md_lease_37 : decode (mcode M_md_lease) 37 = .ok (.iconst (-1), 1) := by decide +kernel
theorem d_md_lease_38 : decode (mcode M_md_lease) 38 = .ok (.ireturn, 1) := by decide +kernel
theorem d_md_lease_39 : decode (mcode M_md_lease) 39 = .ok (.iconst 4, 1) := by decide +kernel
theorem d_md_lease_40 : decode (mcode M_md_lease) 40 = .ok (.iload_n 1, 1) := by decide +kernel
theorem d_md_lease_41 : decode (mcode M_md_lease) 41 = .ok (.imul, 1) := by decide +kernel
theorem d_md_lease_42 : decode (mcode M_md_lease) 42 = .ok (.aload_n 0, 1) := by decide +kernel
theorem d_md_lease_43 : decode (mcode M_md_lease) 43 = .ok (.getfield 25, 3) := by decide +kernel
theorem d_md_lease_46 : decode (mcode M_md_lease) 46 = .ok (.iload_n 1, 1) := by decide +kernel
theorem d_md_lease_47 : decode (mcode M_md_lease) 47 = .ok (.iaload, 1) := by decide +kernel
theorem d_md_lease_48 : decode (mcode M_md_lease) 48 = .ok (.iadd, 1) := by decide +kernel
theorem d_md_lease_49 : decode (mcode M_md_lease) 49 = .ok (.istore 5, 2) := by decide +kernel
theorem d_md_lease_51 : decode (mcode M_md_lease) 51 = .ok (.iload_n 3, 1) := by decide +kernel
theorem d_md_lease_52 : decode (mcode M_md_lease) 52 = .ok (.iconst 1, 1) := by decide +kernel
theorem d_md_lease_53 : decode (mcode M_md_lease) 53 = .ok (.aload_n 0, 1) := by decide +kernel
theorem d_md_lease_54 : decode (mcode M_md_lease) 54 = .ok (.getfield 31, 3) := by decide +kernel
theorem d_md_lease_57 : decode (mcode M_md_lease) 57 = .ok (.iload 5, 2) := by decide +kernel
theorem d_md_lease_59 : decode (mcode M_md_lease) 59 = .ok (.iaload, 1) := by decide +kernel
theorem d_md_lease_60 : decode (mcode M_md_lease) 60 = .ok (.invokestatic 87, 3) := by decide +kernel
theorem d_md_lease_63 : decode (mcode M_md_lease) 63 = .ok (.ifCond .eq 15, 3) := by decide +kernel
theorem d_md_lease_66 : decode (mcode M_md_lease) 66 = .ok (.iload 4, 2) := by decide +kernel
theorem d_md_lease_68 : decode (mcode M_md_lease) 68 = .ok (.iconst 0, 1) := by decide +kernel
theorem d_md_lease_69 : decode (mcode M_md_lease) 69 = .ok (.sipush 999, 3) := by decide +kernel
theorem d_md_lease_72 : decode (mcode M_md_lease) 72 = .ok (.invokestatic 87, 3) := by decide +kernel
theorem d_md_lease_75 : decode (mcode M_md_lease) 75 = .ok (.ifCond .ne 5, 3) := by decide +kernel
theorem d_md_lease_78 : decode (mcode M_md_lease) 78 = .ok (.iconst (-1), 1) := by decide +kernel
theorem d_md_lease_79 : decode (mcode M_md_lease) 79 = .ok (.ireturn, 1) := by decide +kernel
theorem d_md_lease_80 : decode (mcode M_md_lease) 80 = .ok (.aload_n 0, 1) := by decide +kernel
theorem d_md_lease_81 : decode (mcode M_md_lease) 81 = .ok (.getfield 25, 3) := by decide +kernel
theorem d_md_lease_84 : decode (mcode M_md_lease) 84 = .ok (.iload_n 1, 1) := by decide +kernel
theorem d_md_lease_85 : decode (mcode M_md_lease) 85 = .ok (.dup2, 1) := by decide +kernel
theorem d_md_lease_86 : decode (mcode M_md_lease) 86 = .ok (.iaload, 1) := by decide +kernel
theorem d_md_lease_87 : decode (mcode M_md_lease) 87 = .ok (.iconst 1, 1) := by decide +kernel
theorem d_md_lease_88 : decode (mcode M_md_lease) 88 = .ok (.iadd, 1) := by decide +kernel
theorem d_md_lease_89 : decode (mcode M_md_lease) 89 = .ok (.iastore, 1) := by decide +kernel
theorem d_md_lease_90 : decode (mcode M_md_lease) 90 = .ok (.aload_n 0, 1) := by decide +kernel
theorem d_md_lease_91 : decode (mcode M_md_lease) 91 = .ok (.getfield 28, 3) := by decide +kernel
theorem d_md_lease_94 : decode (mcode M_md_lease) 94 = .ok (.iload 5, 2) := by decide +kernel
theorem d_md_lease_96 : decode (mcode M_md_lease) 96 = .ok (.iconst 1, 1) := by decide +kernel
theorem d_md_lease_97 : decode (mcode M_md_lease) 97 = .ok (.iadd, 1) := by decide +kernel
theorem d_md_lease_98 : decode (mcode M_md_lease) 98 = .ok (.iload_n 2, 1) := by decide +kernel
theorem d_md_lease_99 : decode (mcode M_md_lease) 99 = .ok (.iastore, 1) := by decide +kernel
theorem d_md_lease_100 : decode (mcode M_md_lease) 100 = .ok (.aload_n 0, 1) := by decide +kernel
theorem d_md_lease_101 : decode (mcode M_md_lease) 101 = .ok (.getfield 31, 3) := by decide +kernel
theorem d_md_lease_104 : decode (mcode M_md_lease) 104 = .ok (.iload 5, 2) := by decide +kernel
theorem d_md_lease_106 : decode (mcode M_md_lease) 106 = .ok (.iconst 1, 1) := by decide +kernel
theorem d_md_lease_107 : decode (mcode M_md_lease) 107 = .ok (.iadd, 1) := by decide +kernel
theorem d_md_lease_108 : decode (mcode M_md_lease) 108 = .ok (.iload_n 3, 1) := by decide +kernel
theorem d_md_lease_109 : decode (mcode M_md_lease) 109 = .ok (.iastore, 1) := by decide +kernel
theorem d_md_lease_110 : decode (mcode M_md_lease) 110 = .ok (.aload_n 0, 1) := by decide +kernel
theorem d_md_lease_111 : decode (mcode M_md_lease) 111 = .ok (.getfield 34, 3) := by decide +kernel
theorem d_md_lease_114 : decode (mcode M_md_lease) 114 = .ok (.iload 5, 2) := by decide +kernel
theorem d_md_lease_116 : decode (mcode M_md_lease) 116 = .ok (.iconst 1, 1) := by decide +kernel
theorem d_md_lease_117 : decode (mcode M_md_lease) 117 = .ok (.iadd, 1) := by decide +kernel
theorem d_md_lease_118 : decode (mcode M_md_lease) 118 = .ok (.iload 4, 2) := by decide +kernel
theorem d_md_lease_120 : decode (mcode M_md_lease) 120 = .ok (.iastore, 1) := by decide +kernel
theorem d_md_lease_121 : decode (mcode M_md_lease) 121 = .ok (.aload_n 0, 1) := by decide +kernel
theorem d_md_lease_122 : decode (mcode M_md_lease) 122 = .ok (.getfield 25, 3) := by decide +kernel
theorem d_md_lease_125 : decode (mcode M_md_lease) 125 = .ok (.iload_n 1, 1) := by decide +kernel
theorem d_md_lease_126 : decode (mcode M_md_lease) 126 = .ok (.iaload, 1) := by decide +kernel
theorem d_md_lease_127 : decode (mcode M_md_lease) 127 = .ok (.ireturn, 1) := by decide +kernel
theorem d_md_rates_0 : decode (mcode M_md_rates) 0 = .ok (.iload_n 1, 1) := by decide +kernel
theorem d_md_rates_1 : decode (mcode M_md_rates) 1 = .ok (.iconst 1, 1) := by decide +kernel
theorem d_md_rates_2 : decode (mcode M_md_rates) 2 = .ok (.bipush 9, 2) := by decide +kernel
theorem d_md_rates_4 : decode (mcode M_md_rates) 4 = .ok (.invokestatic 87, 3) := by decide +kernel
theorem d_md_rates_7 : decode (mcode M_md_rates) 7 = .ok (.ifCond .eq 23, 3) := by decide +kernel
theorem d_md_rates_10 : decode (mcode M_md_rates) 10 = .ok (.iload_n 2, 1) := by decide +kernel
theorem d_md_rates_11 : decode (mcode M_md_rates) 11 = .ok (.iconst 1, 1) := by decide +kernel
theorem d_md_rates_12 : decode (mcode M_md_rates) 12 = .ok (.bipush 9, 2) := by decide +kernel
theorem d_md_rates_14 : decode (mcode M_md_rates) 14 = .ok (.invokestatic 87, 3) := by decide +kernel
theorem d_md_rates_17 : decode (mcode M_md_rates) 17 = .ok (.ifCond .eq 13, 3) := by decide +kernel
theorem d_md_rates_20 : decode (mcode M_md_rates) 20 = .ok (.iload_n 3, 1) := by decide +kernel
theorem d_md_rates_21 : decode (mcode M_md_rates) 21 = .ok (.iconst 0, 1) := by decide +kernel
theorem d_md_rates_22 : decode (mcode M_md_rates) 22 = .ok (.bipush 60, 2) := by decide +kernel
theorem d_md_rates_24 : decode (mcode M_md_rates) 24 = .ok (.invokestatic 87, 3) := by decide +kernel
theorem d_md_rates_27 : decode (mcode M_md_rates) 27 = .ok (.ifCond .ne 5, 3) := by decide +kernel
theorem d_md_rates_30 : decode (mcode M_md_rates) 30 = .ok (.iconst 0, 1) := by decide +kernel
theorem d_md_rates_31 : decode (mcode M_md_rates) 31 = .ok (.ireturn, 1) := by decide +kernel
theorem d_md_rates_32 : decode (mcode M_md_rates) 32 = .ok (.aload_n 0, 1) := by decide +kernel
theorem d_md_rates_33 : decode (mcode M_md_rates) 33 = .ok (.iload_n 1, 1) := by decide +kernel
theorem d_md_rates_34 : decode (mcode M_md_rates) 34 = .ok (.putfield 52, 3) := by decide +kernel
theorem d_md_rates_37 : decode (mcode M_md_rates) 37 = .ok (.aload_n 0, 1) := by decide +kernel
theorem d_md_rates_38 : decode (mcode M_md_rates) 38 = .ok (.iload_n 2, 1) := by decide +kernel
theorem d_md_rates_39 : decode (mcode M_md_rates) 39 = .ok (.putfield 56, 3) := by decide +kernel
theorem d_md_rates_42 : decode (mcode M_md_rates) 42 = .ok (.aload_n 0, 1) := by decide +kernel
theorem d_md_rates_43 : decode (mcode M_md_rates) 43 = .ok (.iload_n 3, 1) := by decide +kernel
theorem d_md_rates_44 : decode (mcode M_md_rates) 44 = .ok (.putfield 59, 3) := by decide +kernel
theorem d_md_rates_47 : decode (mcode M_md_rates) 47 = .ok (.iconst 1, 1) := by decide +kernel
theorem d_md_rates_48 : decode (mcode M_md_rates) 48 = .ok (.ireturn, 1) := by decide +kernel
theorem d_md_worth_0 : decode (mcode M_md_worth) 0 = .ok (.aload_n 0, 1) := by decide +kernel
theorem d_md_worth_1 : decode (mcode M_md_worth) 1 = .ok (.iload_n 1, 1) := by decide +kernel
theorem d_md_worth_2 : decode (mcode M_md_worth) 2 = .ok (.invokevirtual 101, 3) := by decide +kernel
theorem d_md_worth_5 : decode (mcode M_md_worth) 5 = .ok (.ifCond .eq 22, 3) := by decide +kernel
theorem d_md_worth_8 : decode (mcode M_md_worth) 8 = .ok (.aload_n 0, 1) := by decide +kernel
theorem d_md_worth_9 : decode (mcode M_md_worth) 9 = .ok (.getfield 16, 3) := by decide +kernel
theorem d_md_worth_12 : decode (mcode M_md_worth) 12 = .ok (.iload_n 1, 1) := by decide +kernel
theorem d_md_worth_13 : decode (mcode M_md_worth) 13 = .ok (.iaload, 1) := by decide +kernel
theorem d_md_worth_14 : decode (mcode M_md_worth) 14 = .ok (.aload_n 0, 1) := by decide +kernel
theorem d_md_worth_15 : decode (mcode M_md_worth) 15 = .ok (.getfield 19, 3) := by decide +kernel
theorem d_md_worth_18 : decode (mcode M_md_worth) 18 = .ok (.iload_n 1, 1) := by decide +kernel
theorem d_md_worth_19 : decode (mcode M_md_worth) 19 = .ok (.iaload, 1) := by decide +kernel
theorem d_md_worth_20 : decode (mcode M_md_worth) 20 = .ok (.imul, 1) := by decide +kernel
theorem d_md_worth_21 : decode (mcode M_md_worth) 21 = .ok (.bipush 20, 2) := by decide +kernel
theorem d_md_worth_23 : decode (mcode M_md_worth) 23 = .ok (.idiv, 1) := by decide +kernel
theorem d_md_worth_24 : decode (mcode M_md_worth) 24 = .ok (.goto 4, 3) := by decide +kernel
theorem d_md_worth_27 : decode (mcode M_md_worth) 27 = .ok (.iconst (-1), 1) := by decide +kernel
theorem d_md_worth_28 : decode (mcode M_md_worth) 28 = .ok (.ireturn, 1) := by decide +kernel
theorem d_md_isPlace_0 : decode (mcode M_md_isPlace) 0 = .ok (.aload_n 0, 1) := by decide +kernel
theorem d_md_isPlace_1 : decode (mcode M_md_isPlace) 1 = .ok (.iload_n 1, 1) := by decide +kernel
theorem d_md_isPlace_2 : decode (mcode M_md_isPlace) 2 = .ok (.invokevirtual 101, 3) := by decide +kernel
theorem d_md_isPlace_5 : decode (mcode M_md_isPlace) 5 = .ok (.ifCond .eq 29, 3) := by decide +kernel
theorem d_md_isPlace_8 : decode (mcode M_md_isPlace) 8 = .ok (.aload_n 0, 1) := by decide +kernel
theorem d_md_isPlace_9 : decode (mcode M_md_isPlace) 9 = .ok (.iload_n 1, 1) := by decide +kernel
theorem d_md_isPlace_10 : decode (mcode M_md_isPlace) 10 = .ok (.invokevirtual 104, 3) := by decide +kernel
theorem d_md_isPlace_13 : decode (mcode M_md_isPlace) 13 = .ok (.ifCond .ne 21, 3) := by decide +kernel
theorem d_md_isPlace_16 : decode (mcode M_md_isPlace) 16 = .ok (.iload_n 2, 1) := by decide +kernel
theorem d_md_isPlace_17 : decode (mcode M_md_isPlace) 17 = .ok (.iconst 0, 1) := by decide +kernel
theorem d_md_isPlace_18 : decode (mcode M_md_isPlace) 18 = .ok (.aload_n 0, 1) := by decide +kernel
theorem d_md_isPlace_19 : decode (mcode M_md_isPlace) 19 = .ok (.getfield 25, 3) := by decide +kernel
theorem d_md_isPlace_22 : decode (mcode M_md_isPlace) 22 = .ok (.iload_n 1, 1) := by decide +kernel
theorem d_md_isPlace_23 : decode (mcode M_md_isPlace) 23 = .ok (.iaload, 1) := by decide +kernel
theorem d_md_isPlace_24 : decode (mcode M_md_isPlace) 24 = .ok (.invokestatic 87, 3) := by decide +kernel
theorem d_md_isPlace_27 : decode (mcode M_md_isPlace) 27 = .ok (.ifCond .eq 7, 3) := by decide +kernel
theorem d_md_isPlace_30 : decode (mcode M_md_isPlace) 30 = .ok (.iconst 1, 1) := by decide +kernel
theorem d_md_isPlace_31 : decode (mcode M_md_isPlace) 31 = .ok (.goto 4, 3) := by decide +kernel
theorem d_md_isPlace_34 : decode (mcode M_md_isPlace) 34 = .ok (.iconst 0, 1) := by decide +kernel
theorem d_md_isPlace_35 : decode (mcode M_md_isPlace) 35 = .ok (.ireturn, 1) := by decide +kernel
theorem d_md_interestOf_0 : decode (mcode M_md_interestOf) 0 = .ok (.iconst 4, 1) := by decide +kernel
theorem d_md_interestOf_1 : decode (mcode M_md_interestOf) 1 = .ok (.iload_n 1, 1) := by decide +kernel
theorem d_md_interestOf_2 : decode (mcode M_md_interestOf) 2 = .ok (.imul, 1) := by decide +kernel
theorem d_md_interestOf_3 : decode (mcode M_md_interestOf) 3 = .ok (.iload_n 2, 1) := by decide +kernel
theorem d_md_interestOf_4 : decode (mcode M_md_interestOf) 4 = .ok (.iadd, 1) := by decide +kernel
theorem d_md_interestOf_5 : decode (mcode M_md_interestOf) 5 = .ok (.istore_n 3, 1) := by decide +kernel
theorem d_md_interestOf_6 : decode (mcode M_md_interestOf) 6 = .ok (.iload_n 2, 1) := by decide +kernel
theorem d_md_interestOf_7 : decode (mcode M_md_interestOf) 7 = .ok (.aload_n 0, 1) := by decide +kernel
theorem d_md_interestOf_8 : decode (mcode M_md_interestOf) 8 = .ok (.getfield 25, 3) := by decide +kernel
theorem d_md_interestOf_11 : decode (mcode M_md_interestOf) 11 = .ok (.iload_n 1, 1) := by decide +kernel
theorem d_md_interestOf_12 : decode (mcode M_md_interestOf) 12 = .ok (.iaload, 1) := by decide +kernel
theorem d_md_interestOf_13 : decode (mcode M_md_interestOf) 13 = .ok (.if_icmp .ge 14, 3) := by decide +kernel
theorem d_md_interestOf_16 : decode (mcode M_md_interestOf) 16 = .ok (.aload_n 0, 1) := by decide +kernel
theorem d_md_interestOf_17 : decode (mcode M_md_interestOf) 17 = .ok (.getfield 34, 3) := by decide +kernel
theorem d_md_interestOf_20 : decode (mcode M_md_interestOf) 20 = .ok (.iload_n 3, 1) := by decide +kernel
theorem d_md_interestOf_21 : decode (mcode M_md_interestOf) 21 = .ok (.iconst 1, 1) := by decide +kernel
theorem d_md_interestOf_22 : decode (mcode M_md_interestOf) 22 = .ok (.iadd, 1) := by decide +kernel
theorem d_md_interestOf_23 : decode (mcode M_md_interestOf) 23 = .ok (.iaload, 1) := by decide +kernel
theorem d_md_interestOf_24 : decode (mcode M_md_interestOf) 24 = .ok (.goto 8, 3) := by decide +kernel
theorem d_md_interestOf_27 : decode (mcode M_md_interestOf) 27 = .ok (.aload_n 0, 1) := by decide +kernel
theorem d_md_interestOf_28 : decode (mcode M_md_interestOf) 28 = .ok (.iload_n 1, 1) := by decide +kernel
theorem d_md_interestOf_29 : decode (mcode M_md_interestOf) 29 = .ok (.invokevirtual 107, 3) := by decide +kernel
theorem d_md_interestOf_32 : decode (mcode M_md_interestOf) 32 = .ok (.iload_n 2, 1) := by decide +kernel
theorem d_md_interestOf_33 : decode (mcode M_md_interestOf) 33 = .ok (.ifCond .le 12, 3) := by decide +kernel
theorem d_md_interestOf_36 : decode (mcode M_md_interestOf) 36 = .ok (.aload_n 0, 1) := by decide +kernel
theorem d_md_interestOf_37 : decode (mcode M_md_interestOf) 37 = .ok (.getfield 34, 3) := by decide +kernel
theorem d_md_interestOf_40 : decode (mcode M_md_interestOf) 40 = .ok (.iload_n 3, 1) := by decide +kernel
theorem d_md_interestOf_41 : decode (mcode M_md_interestOf) 41 = .ok (.iaload, 1) := by decide +kernel
theorem d_md_interestOf_42 : decode (mcode M_md_interestOf) 42 = .ok (.goto 4, 3) := by decide +kernel
theorem d_md_interestOf_45 : decode (mcode M_md_interestOf) 45 = .ok (.iconst 0, 1) := by decide +kernel
theorem d_md_interestOf_46 : decode (mcode M_md_interestOf) 46 = .ok (.isub, 1) := by decide +kernel
theorem d_md_interestOf_47 : decode (mcode M_md_interestOf) 47 = .ok (.istore 4, 2) := by decide +kernel
theorem d_md_interestOf_49 : decode (mcode M_md_interestOf) 49 = .ok (.iload 4, 2) := by decide +kernel
theorem d_md_interestOf_51 : decode (mcode M_md_interestOf) 51 = .ok (.ifCond .gt 7, 3) := by decide +kernel
theorem d_md_interestOf_54 : decode (mcode M_md_interestOf) 54 = .ok (.iconst 0, 1) := by decide +kernel
theorem d_md_interestOf_55 : decode (mcode M_md_interestOf) 55 = .ok (.goto 21, 3) := by decide +kernel
theorem d_md_interestOf_58 : decode (mcode M_md_interestOf) 58 = .ok (.iload 4, 2) := by decide +kernel
theorem d_md_interestOf_60 : decode (mcode M_md_interestOf) 60 = .ok (.iload_n 2, 1) := by decide +kernel
theorem d_md_interestOf_61 : decode (mcode M_md_interestOf) 61 = .ok (.ifCond .ne 8, 3) := by decide +kernel
theorem d_md_interestOf_64 : decode (mcode M_md_interestOf) 64 = .ok (.bipush 40, 2) := by decide +kernel
theorem d_md_interestOf_66 : decode (mcode M_md_interestOf) 66 = .ok (.goto 9, 3) := by decide +kernel
theorem d_md_interestOf_69 : decode (mcode M_md_interestOf) 69 = .ok (.aload_n 0, 1) := by decide +kernel
theorem d_md_interestOf_70 : decode (mcode M_md_interestOf) 70 = .ok (.getfield 31, 3) := by decide +kernel
theorem d_md_interestOf_73 : decode (mcode M_md_interestOf) 73 = .ok (.iload_n 3, 1) := by decide +kernel
theorem d_md_interestOf_74 : decode (mcode M_md_interestOf) 74 = .ok (.iaload, 1) := by decide +kernel
theorem d_md_interestOf_75 : decode (mcode M_md_interestOf) 75 = .ok (.imul, 1) := by decide +kernel
theorem d_md_interestOf_76 : decode (mcode M_md_interestOf) 76 = .ok (.ireturn, 1) := by decide +kernel
theorem d_md_interest_0 : decode (mcode M_md_interest) 0 = .ok (.aload_n 0, 1) := by decide +kernel
theorem d_md_interest_1 : decode (mcode M_md_interest) 1 = .ok (.iload_n 1, 1) := by decide +kernel
theorem d_md_interest_2 : decode (mcode M_md_interest) 2 = .ok (.iload_n 2, 1) := by decide +kernel
theorem d_md_interest_3 : decode (mcode M_md_interest) 3 = .ok (.invokevirtual 110, 3) := by decide +kernel
theorem d_md_interest_6 : decode (mcode M_md_interest) 6 = .ok (.ifCond .eq 12, 3) := by decide +kernel
theorem d_md_interest_9 : decode (mcode M_md_interest) 9 = .ok (.aload_n 0, 1) := by decide +kernel
theorem d_md_interest_10 : decode (mcode M_md_interest) 10 = .ok (.iload_n 1, 1) := by decide +kernel
theorem d_md_interest_11 : decode (mcode M_md_interest) 11 = .ok (.iload_n 2, 1) := by decide +kernel
theorem d_md_interest_12 : decode (mcode M_md_interest) 12 = .ok (.invokevirtual 114, 3) := by decide +kernel
theorem d_md_interest_15 : decode (mcode M_md_interest) 15 = .ok (.goto 4, 3) := by decide +kernel
theorem d_md_interest_18 : decode (mcode M_md_interest) 18 = .ok (.iconst (-1), 1) := by decide +kernel
theorem d_md_interest_19 : decode (mcode M_md_interest) 19 = .ok (.ireturn, 1) := by decide +kernel
theorem d_md_costOf_0 : decode (mcode M_md_costOf) 0 = .ok (.aload_n 0, 1) := by decide +kernel
theorem d_md_costOf_1 : decode (mcode M_md_costOf) 1 = .ok (.getfield 16, 3) := by decide +kernel
theorem d_md_costOf_4 : decode (mcode M_md_costOf) 4 = .ok (.iload_n 1, 1) := by decide +kernel
theorem d_md_costOf_5 : decode (mcode M_md_costOf) 5 = .ok (.iaload, 1) := by decide +kernel
theorem d_md_costOf_6 : decode (mcode M_md_costOf) 6 = .ok (.aload_n 0, 1) := by decide +kernel
theorem d_md_costOf_7 : decode (mcode M_md_costOf) 7 = .ok (.getfield 19, 3) := by decide +kernel
theorem d_md_costOf_10 : decode (mcode M_md_costOf) 10 = .ok (.iload_n 1, 1) := by decide +kernel
theorem d_md_costOf_11 : decode (mcode M_md_costOf) 11 = .ok (.iaload, 1) := by decide +kernel
theorem d_md_costOf_12 : decode (mcode M_md_costOf) 12 = .ok (.imul, 1) := by decide +kernel
theorem d_md_costOf_13 : decode (mcode M_md_costOf) 13 = .ok (.aload_n 0, 1) := by decide +kernel
theorem d_md_costOf_14 : decode (mcode M_md_costOf) 14 = .ok (.getfield 52, 3) := by decide +kernel
theorem d_md_costOf_17 : decode (mcode M_md_costOf) 17 = .ok (.imul, 1) := by decide +kernel
theorem d_md_costOf_18 : decode (mcode M_md_costOf) 18 = .ok (.ireturn, 1) := by decide +kernel
theorem d_md_builder_0 : decode (mcode M_md_builder) 0 = .ok (.aload_n 0, 1) := by decide +kernel
theorem d_md_builder_1 : decode (mcode M_md_builder) 1 = .ok (.getfield 25, 3) := by decide +kernel
theorem d_md_builder_4 : decode (mcode M_md_builder) 4 = .ok (.iload_n 1, 1) := by decide +kernel
theorem d_md_builder_5 : decode (mcode M_md_builder) 5 = .ok (.iaload, 1) := by decide +kernel
theorem d_md_builder_6 : decode (mcode M_md_builder) 6 = .ok (.istore_n 2, 1) := by decide +kernel
theorem d_md_builder_7 : decode (mcode M_md_builder) 7 = .ok (.iload_n 2, 1) := by decide +kernel
theorem d_md_builder_8 : decode (mcode M_md_builder) 8 = .ok (.ifCond .lt 32, 3) := by decide +kernel
theorem d_md_builder_11 : decode (mcode M_md_builder) 11 = .ok (.aload_n 0, 1) := by decide +kernel
theorem d_md_builder_12 : decode (mcode M_md_builder) 12 = .ok (.getfield 9, 3) := by decide +kernel
theorem d_md_builder_15 : decode (mcode M_md_builder) 15 = .ok (.aload_n 0, 1) := by decide +kernel
theorem d_md_builder_16 : decode (mcode M_md_builder) 16 = .ok (.getfield 28, 3) := by decide +kernel
theorem d_md_builder_19 : decode (mcode M_md_builder) 19 = .ok (.iconst 4, 1) := by decide +kernel
theorem d_md_builder_20 : decode (mcode M_md_builder) 20 = .ok (.iload_n 1, 1) := by decide +kernel
theorem d_md_builder_21 : decode (mcode M_md_builder) 21 = .ok (.imul, 1) := by decide +kernel
theorem d_md_builder_22 : decode (mcode M_md_builder) 22 = .ok (.iload_n 2, 1) := by decide +kernel
theorem d_md_builder_23 : decode (mcode M_md_builder) 23 = .ok (.iadd, 1) := by decide +kernel
theorem d_md_builder_24 : decode (mcode M_md_builder) 24 = .ok (.iaload, 1) := by decide +kernel
theorem d_md_builder_25 : decode (mcode M_md_builder) 25 = .ok (.iaload, 1) := by decide +kernel
theorem d_md_builder_26 : decode (mcode M_md_builder) 26 = .ok (.aload_n 0, 1) := by decide +kernel
theorem d_md_builder_27 : decode (mcode M_md_builder) 27 = .ok (.iload_n 1, 1) := by decide +kernel
theorem d_md_builder_28 : decode (mcode M_md_builder) 28 = .ok (.invokevirtual 118, 3) := by decide +kernel
theorem d_md_builder_31 : decode (mcode M_md_builder) 31 = .ok (.if_icmp .ge 9, 3) := by decide +kernel
theorem d_md_builder_34 : decode (mcode M_md_builder) 34 = .ok (.iinc 2 (-1), 3) := by decide +kernel
theorem d_md_builder_37 : decode (mcode M_md_builder) 37 = .ok (.goto (-30), 3) := by decide +kernel
theorem d_md_builder_40 : decode (mcode M_md_builder) 40 = .ok (.iload_n 2, 1) := by decide +kernel
theorem d_md_builder_41 : decode (mcode M_md_builder) 41 = .ok (.ireturn, 1) := by decide +kernel
theorem d_md_parted_0 : decode (mcode M_md_parted) 0 = .ok (.aload_n 0, 1) := by decide +kernel
theorem d_md_parted_1 : decode (mcode M_md_parted) 1 = .ok (.iload_n 1, 1) := by decide +kernel
theorem d_md_parted_2 : decode (mcode M_md_parted) 2 = .ok (.invokevirtual 121, 3) := by decide +kernel
theorem d_md_parted_5 : decode (mcode M_md_parted) 5 = .ok (.istore_n 2, 1) := by decide +kernel
theorem d_md_parted_6 : decode (mcode M_md_parted) 6 = .ok (.iload_n 2, 1) := by decide +kernel
theorem d_md_parted_7 : decode (mcode M_md_parted) 7 = .ok (.iconst (-1), 1) := by decide +kernel
theorem d_md_parted_8 : decode (mcode M_md_parted) 8 = .ok (.if_icmp .ne 5, 3) := by decide +kernel
theorem d_md_parted_11 : decode (mcode M_md_parted) 11 = .ok (.iconst (-1), 1) := by decide +kernel
theorem d_md_parted_12 : decode (mcode M_md_parted) 12 = .ok (.ireturn, 1) := by decide +kernel
theorem d_md_parted_13 : decode (mcode M_md_parted) 13 = .ok (.lconst 0, 1) := by decide +kernel
theorem d_md_parted_14 : decode (mcode M_md_parted) 14 = .ok (.lstore_n 3, 1) := by decide +kernel
theorem d_md_parted_15 : decode (mcode M_md_parted) 15 = .ok (.aload_n 0, 1) := by decide +kernel
theorem d_md_parted_16 : decode (mcode M_md_parted) 16 = .ok (.iload_n 1, 1) := by decide +kernel
theorem d_md_parted_17 : decode (mcode M_md_parted) 17 = .ok (.invokevirtual 118, 3) := by decide +kernel
theorem d_md_parted_20 : decode (mcode M_md_parted) 20 = .ok (.istore 5, 2) := by decide +kernel
theorem d_md_parted_22 : decode (mcode M_md_parted) 22 = .ok (.iconst 0, 1) := by decide +kernel
theorem d_md_parted_23 : decode (mcode M_md_parted) 23 = .ok (.istore 6, 2) := by decide +kernel
theorem d_md_parted_25 : decode (mcode M_md_parted) 25 = .ok (.iload 6, 2) := by decide +kernel
theorem d_md_parted_27 : decode (mcode M_md_parted) 27 = .ok (.aload_n 0, 1) := by decide +kernel
theorem d_md_parted_28 : decode (mcode M_md_parted) 28 = .ok (.getfield 25, 3) := by decide +kernel
theorem d_md_parted_31 : decode (mcode M_md_parted) 31 = .ok (.iload_n 1, 1) := by decide +kernel
theorem d_md_parted_32 : decode (mcode M_md_parted) 32 = .ok (.iaload, 1) := by decide +kernel
theorem d_md_parted_33 : decode (mcode M_md_parted) 33 = .ok (.if_icmp .gt 20, 3) := by decide +kernel
theorem d_md_parted_36 : decode (mcode M_md_parted) 36 = .ok (.lload_n 3, 1) := by decide +kernel
theorem d_md_parted_37 : decode (mcode M_md_parted) 37 = .ok (.aload_n 0, 1) := by decide +kernel
theorem d_md_parted_38 : decode (mcode M_md_parted) 38 = .ok (.iload_n 1, 1) := by decide +kernel
theorem d_md_parted_39 : decode (mcode M_md_parted) 39 = .ok (.iload 6, 2) := by decide +kernel
theorem d_md_parted_41 : decode (mcode M_md_parted) 41 = .ok (.invokevirtual 114, 3) := by decide +kernel
theorem d_md_parted_44 : decode (mcode M_md_parted) 44 = .ok (.i2l, 1) := by decide +kernel
theorem d_md_parted_45 : decode (mcode M_md_parted) 45 = .ok (.ladd, 1) := by decide +kernel
theorem d_md_parted_46 : decode (mcode M_md_parted) 46 = .ok (.lstore_n 3, 1) := by decide +kernel
theorem d_md_parted_47 : decode (mcode M_md_parted) 47 = .ok (.iinc 6 1, 3) := by decide +kernel
theorem d_md_parted_50 : decode (mcode M_md_parted) 50 = .ok (.goto (-25), 3) := by decide +kernel
theorem d_md_parted_53 : decode (mcode M_md_parted) 53 = .ok (.iconst 0, 1) := by decide +kernel
theorem d_md_parted_54 : decode (mcode M_md_parted) 54 = .ok (.istore 6, 2) := by decide +kernel
theorem d_md_parted_56 : decode (mcode M_md_parted) 56 = .ok (.iload 6, 2) := by decide +kernel
theorem d_md_parted_58 : decode (mcode M_md_parted) 58 = .ok (.aload_n 0, 1) := by decide +kernel
theorem d_md_parted_59 : decode (mcode M_md_parted) 59 = .ok (.getfield 25, 3) := by decide +kernel
theorem d_md_parted_62 : decode (mcode M_md_parted) 62 = .ok (.iload_n 1, 1) := by decide +kernel
theorem d_md_parted_63 : decode (mcode M_md_parted) 63 = .ok (.iaload, 1) := by decide +kernel
theorem d_md_parted_64 : decode (mcode M_md_parted) 64 = .ok (.if_icmp .gt 80, 3) := by decide +kernel
theorem d_md_parted_67 : decode (mcode M_md_parted) 67 = .ok (.aload_n 0, 1) := by decide +kernel
theorem d_md_parted_68 : decode (mcode M_md_parted) 68 = .ok (.iload_n 1, 1) := by decide +kernel
theorem d_md_parted_69 : decode (mcode M_md_parted) 69 = .ok (.invokevirtual 118, 3) := by decide +kernel
theorem d_md_parted_72 : decode (mcode M_md_parted) 72 = .ok (.i2l, 1) := by decide +kernel
theorem d_md_parted_73 : decode (mcode M_md_parted) 73 = .ok (.aload_n 0, 1) := by decide +kernel
theorem d_md_parted_74 : decode (mcode M_md_parted) 74 = .ok (.iload_n 1, 1) := by decide +kernel
theorem d_md_parted_75 : decode (mcode M_md_parted) 75 = .ok (.iload 6, 2) := by decide +kernel
theorem d_md_parted_77 : decode (mcode M_md_parted) 77 = .ok (.invokevirtual 114, 3) := by decide +kernel
theorem d_md_parted_80 : decode (mcode M_md_parted) 80 = .ok (.i2l, 1) := by decide +kernel
theorem d_md_parted_81 : decode (mcode M_md_parted) 81 = .ok (.lmul, 1) := by decide +kernel
theorem d_md_parted_82 : decode (mcode M_md_parted) 82 = .ok (.lstore 7, 2) := by decide +kernel
theorem d_md_parted_84 : decode (mcode M_md_parted) 84 = .ok (.aload_n 0, 1) := by decide +kernel
theorem d_md_parted_85 : decode (mcode M_md_parted) 85 = .ok (.getfield 68, 3) := by decide +kernel
theorem d_md_parted_88 : decode (mcode M_md_parted) 88 = .ok (.iload 6, 2) := by decide +kernel
theorem d_md_parted_90 : decode (mcode M_md_parted) 90 = .ok (.lload_n 3, 1) := by decide +kernel
theorem d_md_parted_91 : decode (mcode M_md_parted) 91 = .ok (.lconst 0, 1) := by decide +kernel
theorem d_md_parted_92 : decode (mcode M_md_parted) 92 = .ok (.lcmp, 1) := by decide +kernel
theorem d_md_parted_93 : decode (mcode M_md_parted) 93 = .ok (.ifCond .ne 18, 3) := by decide +kernel
theorem d_md_parted_96 : decode (mcode M_md_parted) 96 = .ok (.iload 6, 2) := by decide +kernel
theorem d_md_parted_98 : decode (mcode M_md_parted) 98 = .ok (.iload_n 2, 1) := by decide +kernel
theorem d_md_parted_99 : decode (mcode M_md_parted) 99 = .ok (.if_icmp .ne 8, 3) := by decide +kernel
theorem d_md_parted_102 : decode (mcode M_md_parted) 102 = .ok (.iload 5, 2) := by decide +kernel
theorem d_md_parted_104 : decode (mcode M_md_parted) 104 = .ok (.goto 12, 3) := by decide +kernel
theorem d_md_parted_107 : decode (mcode M_md_parted) 107 = .ok (.iconst 0, 1) := by decide +kernel
theorem d_md_parted_108 : decode (mcode M_md_parted) 108 = .ok (.goto 8, 3) := by decide +kernel
theorem d_md_parted_111 : decode (mcode M_md_parted) 111 = .ok (.lload 7, 2) := by decide +kernel
theorem d_md_parted_113 : decode (mcode M_md_parted) 113 = .ok (.lload_n 3, 1) := by decide +kernel
theorem d_md_parted_114 : decode (mcode M_md_parted) 114 = .ok (.ldiv, 1) := by decide +kernel
theorem d_md_parted_115 : decode (mcode M_md_parted) 115 = .ok (.l2i, 1) := by decide +kernel
theorem d_md_parted_116 : decode (mcode M_md_parted) 116 = .ok (.iastore, 1) := by decide +kernel
theorem d_md_parted_117 : decode (mcode M_md_parted) 117 = .ok (.aload_n 0, 1) := by decide +kernel
theorem d_md_parted_118 : decode (mcode M_md_parted) 118 = .ok (.getfield 71, 3) := by decide +kernel
theorem d_md_parted_121 : decode (mcode M_md_parted) 121 = .ok (.iload 6, 2) := by decide +kernel
theorem d_md_parted_123 : decode (mcode M_md_parted) 123 = .ok (.lload_n 3, 1) := by decide +kernel
theorem d_md_parted_124 : decode (mcode M_md_parted) 124 = .ok (.lconst 0, 1) := by decide +kernel
theorem d_md_parted_125 : decode (mcode M_md_parted) 125 = .ok (.lcmp, 1) := by decide +kernel
theorem d_md_parted_126 : decode (mcode M_md_parted) 126 = .ok (.ifCond .ne 7, 3) := by decide +kernel
theorem d_md_parted_129 : decode (mcode M_md_parted) 129 = .ok (.lconst 0, 1) := by decide +kernel
theorem d_md_parted_130 : decode (mcode M_md_parted) 130 = .ok (.goto 7, 3) := by decide +kernel
theorem d_md_parted_133 : decode (mcode M_md_parted) 133 = .ok (.lload 7, 2) := by decide +kernel
theorem d_md_parted_135 : decode (mcode M_md_parted) 135 = .ok (.lload_n 3, 1) := by decide +kernel
theorem d_md_parted_136 : decode (mcode M_md_parted) 136 = .ok (.lrem, 1) := by decide +kernel
theorem d_md_parted_137 : decode (mcode M_md_parted) 137 = .ok (.lastore, 1) := by decide +kernel
theorem d_md_parted_138 : decode (mcode M_md_parted) 138 = .ok (.iinc 6 1, 3) := by decide +kernel
theorem d_md_parted_141 : decode (mcode M_md_parted) 141 = .ok (.goto (-85), 3) := by decide +kernel
theorem d_md_parted_144 : decode (mcode M_md_parted) 144 = .ok (.iconst 0, 1) := by decide +kernel
theorem d_md_parted_145 : decode (mcode M_md_parted) 145 = .ok (.istore 6, 2) := by decide +kernel
theorem d_md_parted_147 : decode (mcode M_md_parted) 147 = .ok (.iload 6, 2) := by decide +kernel
theorem d_md_parted_149 : decode (mcode M_md_parted) 149 = .ok (.aload_n 0, 1) := by decide +kernel
theorem d_md_parted_150 : decode (mcode M_md_parted) 150 = .ok (.getfield 25, 3) := by decide +kernel
theorem d_md_parted_153 : decode (mcode M_md_parted) 153 = .ok (.iload_n 1, 1) := by decide +kernel
theorem d_md_parted_154 : decode (mcode M_md_parted) 154 = .ok (.iaload, 1) := by decide +kernel
theorem d_md_parted_155 : decode (mcode M_md_parted) 155 = .ok (.if_icmp .gt 21, 3) := by decide +kernel
theorem d_md_parted_158 : decode (mcode M_md_parted) 158 = .ok (.iload 5, 2) := by decide +kernel
theorem d_md_parted_160 : decode (mcode M_md_parted) 160 = .ok (.aload_n 0, 1) := by decide +kernel
theorem d_md_parted_161 : decode (mcode M_md_parted) 161 = .ok (.getfield 68, 3) := by decide +kernel
theorem d_md_parted_164 : decode (mcode M_md_parted) 164 = .ok (.iload 6, 2) := by decide +kernel
theorem d_md_parted_166 : decode (mcode M_md_parted) 166 = .ok (.iaload, 1) := by decide +kernel
theorem d_md_parted_167 : decode (mcode M_md_parted) 167 = .ok (.isub, 1) := by decide +kernel
theorem d_md_parted_168 : decode (mcode M_md_parted) 168 = .ok (.istore 5, 2) := by decide +kernel
theorem d_md_parted_170 : decode (mcode M_md_parted) 170 = .ok (.iinc 6 1, 3) := by decide +kernel
theorem d_md_parted_173 : decode (mcode M_md_parted) 173 = .ok (.goto (-26), 3) := by decide +kernel
theorem d_md_parted_176 : decode (mcode M_md_parted) 176 = .ok (.iload 5, 2) := by decide +kernel
theorem d_md_parted_178 : decode (mcode M_md_parted) 178 = .ok (.ifCond .le 75, 3) := by decide +kernel
theorem d_md_parted_181 : decode (mcode M_md_parted) 181 = .ok (.iconst 0, 1) := by decide +kernel
theorem d_md_parted_182 : decode (mcode M_md_parted) 182 = .ok (.istore 6, 2) := by decide +kernel
theorem d_md_parted_184 : decode (mcode M_md_parted) 184 = .ok (.iconst 1, 1) := by decide +kernel
theorem d_md_parted_185 : decode (mcode M_md_parted) 185 = .ok (.istore 7, 2) := by decide +kernel
theorem d_md_parted_187 : decode (mcode M_md_parted) 187 = .ok (.iload 7, 2) := by decide +kernel
theorem d_md_parted_189 : decode (mcode M_md_parted) 189 = .ok (.aload_n 0, 1) := by decide +kernel
theorem d_md_parted_190 : decode (mcode M_md_parted) 190 = .ok (.getfield 25, 3) := by decide +kernel
theorem d_md_parted_193 : decode (mcode M_md_parted) 193 = .ok (.iload_n 1, 1) := by decide +kernel
theorem d_md_parted_194 : decode (mcode M_md_parted) 194 = .ok (.iaload, 1) := by decide +kernel
theorem d_md_parted_195 : decode (mcode M_md_parted) 195 = .ok (.if_icmp .gt 31, 3) := by decide +kernel
theorem d_md_parted_198 : decode (mcode M_md_parted) 198 = .ok (.aload_n 0, 1) := by decide +kernel
theorem d_md_parted_199 : decode (mcode M_md_parted) 199 = .ok (.getfield 71, 3) := by decide +kernel
theorem d_md_parted_202 : decode (mcode M_md_parted) 202 = .ok (.iload 7, 2) := by decide +kernel
theorem d_md_parted_204 : decode (mcode M_md_parted) 204 = .ok (.laload, 1) := by decide +kernel
theorem d_md_parted_205 : decode (mcode M_md_parted) 205 = .ok (.aload_n 0, 1) := by decide +kernel
theorem d_md_parted_206 : decode (mcode M_md_parted) 206 = .ok (.getfield 71, 3) := by decide +kernel
theorem d_md_parted_209 : decode (mcode M_md_parted) 209 = .ok (.iload 6, 2) := by decide +kernel
theorem d_md_parted_211 : decode (mcode M_md_parted) 211 = .ok (.laload, 1) := by decide +kernel
theorem d_md_parted_212 : decode (mcode M_md_parted) 212 = .ok (.lcmp, 1) := by decide +kernel
theorem d_md_parted_213 : decode (mcode M_md_parted) 213 = .ok (.ifCond .le 7, 3) := by decide +kernel
theorem d_md_parted_216 : decode (mcode M_md_parted) 216 = .ok (.iload 7, 2) := by decide +kernel
theorem d_md_parted_218 : decode (mcode M_md_parted) 218 = .ok (.istore 6, 2) := by decide +kernel
theorem d_md_parted_220 : decode (mcode M_md_parted) 220 = .ok (.iinc 7 1, 3) := by decide +kernel
theorem d_md_parted_223 : decode (mcode M_md_parted) 223 = .ok (.goto (-36), 3) := by decide +kernel
theorem d_md_parted_226 : decode (mcode M_md_parted) 226 = .ok (.aload_n 0, 1) := by decide +kernel
theorem d_md_parted_227 : decode (mcode M_md_parted) 227 = .ok (.getfield 68, 3) := by decide +kernel
theorem d_md_parted_230 : decode (mcode M_md_parted) 230 = .ok (.iload 6, 2) := by decide +kernel
theorem d_md_parted_232 : decode (mcode M_md_parted) 232 = .ok (.dup2, 1) := by decide +kernel
theorem d_md_parted_233 : decode (mcode M_md_parted) 233 = .ok (.iaload, 1) := by decide +kernel
theorem d_md_parted_234 : decode (mcode M_md_parted) 234 = .ok (.iconst 1, 1) := by decide +kernel
theorem d_md_parted_235 : decode (mcode M_md_parted) 235 = .ok (.iadd, 1) := by decide +kernel
theorem d_md_parted_236 : decode (mcode M_md_parted) 236 = .ok (.iastore, 1) := by decide +kernel
theorem d_md_parted_237 : decode (mcode M_md_parted) 237 = .ok (.aload_n 0, 1) := by decide +kernel
theorem d_md_parted_238 : decode (mcode M_md_parted) 238 = .ok (.getfield 71, 3) := by decide +kernel
theorem d_md_parted_241 : decode (mcode M_md_parted) 241 = .ok (.iload 6, 2) := by decide +kernel
theorem d_md_parted_243 : decode (mcode M_md_parted) 243 = .ok (.ldc2_w 124, 3) := by decide +kernel
theorem d_md_parted_246 : decode (mcode M_md_parted) 246 = .ok (.lastore, 1) := by decide +kernel
theorem d_md_parted_247 : decode (mcode M_md_parted) 247 = .ok (.iinc 5 (-1), 3) := by decide +kernel
theorem d_md_parted_250 : decode (mcode M_md_parted) 250 = .ok (.goto (-74), 3) := by decide +kernel
theorem d_md_parted_253 : decode (mcode M_md_parted) 253 = .ok (.iload_n 2, 1) := by decide +kernel
theorem d_md_parted_254 : decode (mcode M_md_parted) 254 = .ok (.ireturn, 1) := by decide +kernel
theorem d_md_bears_0 : decode (mcode M_md_bears) 0 = .ok (.aload_n 0, 1) := by decide +kernel
theorem d_md_bears_1 : decode (mcode M_md_bears) 1 = .ok (.iload_n 1, 1) := by decide +kernel
theorem d_md_bears_2 : decode (mcode M_md_bears) 2 = .ok (.iload_n 2, 1) := by decide +kernel
theorem d_md_bears_3 : decode (mcode M_md_bears) 3 = .ok (.invokevirtual 110, 3) := by decide +kernel
theorem d_md_bears_6 : decode (mcode M_md_bears) 6 = .ok (.ifCond .eq 21, 3) := by decide +kernel
theorem d_md_bears_9 : decode (mcode M_md_bears) 9 = .ok (.aload_n 0, 1) := by decide +kernel
theorem d_md_bears_10 : decode (mcode M_md_bears) 10 = .ok (.iload_n 1, 1) := by decide +kernel
theorem d_md_bears_11 : decode (mcode M_md_bears) 11 = .ok (.invokevirtual 126, 3) := by decide +kernel
theorem d_md_bears_14 : decode (mcode M_md_bears) 14 = .ok (.iconst (-1), 1) := by decide +kernel
theorem d_md_bears_15 : decode (mcode M_md_bears) 15 = .ok (.if_icmp .eq 12, 3) := by decide +kernel
theorem d_md_bears_18 : decode (mcode M_md_bears) 18 = .ok (.aload_n 0, 1) := by decide +kernel
theorem d_md_bears_19 : decode (mcode M_md_bears) 19 = .ok (.getfield 68, 3) := by decide +kernel
theorem d_md_bears_22 : decode (mcode M_md_bears) 22 = .ok (.iload_n 2, 1) := by decide +kernel
theorem d_md_bears_23 : decode (mcode M_md_bears) 23 = .ok (.iaload, 1) := by decide +kernel
theorem d_md_bears_24 : decode (mcode M_md_bears) 24 = .ok (.goto 4, 3) := by decide +kernel
theorem d_md_bears_27 : decode (mcode M_md_bears) 27 = .ok (.iconst (-1), 1) := by decide +kernel
theorem d_md_bears_28 : decode (mcode M_md_bears) 28 = .ok (.ireturn, 1) := by decide +kernel
theorem d_md_decree_0 : decode (mcode M_md_decree) 0 = .ok (.aload_n 0, 1) := by decide +kernel
theorem d_md_decree_1 : decode (mcode M_md_decree) 1 = .ok (.iload_n 1, 1) := by decide +kernel
theorem d_md_decree_2 : decode (mcode M_md_decree) 2 = .ok (.invokevirtual 101, 3) := by decide +kernel
theorem d_md_decree_5 : decode (mcode M_md_decree) 5 = .ok (.ifCond .eq 12, 3) := by decide +kernel
theorem d_md_decree_8 : decode (mcode M_md_decree) 8 = .ok (.aload_n 0, 1) := by decide +kernel
theorem d_md_decree_9 : decode (mcode M_md_decree) 9 = .ok (.getfield 22, 3) := by decide +kernel
theorem d_md_decree_12 : decode (mcode M_md_decree) 12 = .ok (.iload_n 1, 1) := by decide +kernel
theorem d_md_decree_13 : decode (mcode M_md_decree) 13 = .ok (.iaload, 1) := by decide +kernel
theorem d_md_decree_14 : decode (mcode M_md_decree) 14 = .ok (.ifCond .eq 5, 3) := by decide +kernel
theorem d_md_decree_17 : decode (mcode M_md_decree) 17 = .ok (.iconst (-1), 1) := by decide +kernel
theorem d_md_decree_18 : decode (mcode M_md_decree) 18 = .ok (.ireturn, 1) := by decide +kernel
theorem d_md_decree_19 : decode (mcode M_md_decree) 19 = .ok (.aload_n 0, 1) := by decide +kernel
theorem d_md_decree_20 : decode (mcode M_md_decree) 20 = .ok (.iload_n 1, 1) := by decide +kernel
theorem d_md_decree_21 : decode (mcode M_md_decree) 21 = .ok (.invokevirtual 126, 3) := by decide +kernel
theorem d_md_decree_24 : decode (mcode M_md_decree) 24 = .ok (.istore_n 2, 1) := by decide +kernel
theorem d_md_decree_25 : decode (mcode M_md_decree) 25 = .ok (.iload_n 2, 1) := by decide +kernel
theorem d_md_decree_26 : decode (mcode M_md_decree) 26 = .ok (.iconst (-1), 1) := by decide +kernel
theorem d_md_decree_27 : decode (mcode M_md_decree) 27 = .ok (.if_icmp .ne 5, 3) := by decide +kernel
theorem d_md_decree_30 : decode (mcode M_md_decree) 30 = .ok (.iconst (-1), 1) := by decide +kernel
theorem d_md_decree_31 : decode (mcode M_md_decree) 31 = .ok (.ireturn, 1) := by decide +kernel
theorem d_md_decree_32 : decode (mcode M_md_decree) 32 = .ok (.aload_n 0, 1) := by decide +kernel
theorem d_md_decree_33 : decode (mcode M_md_decree) 33 = .ok (.getfield 28, 3) := by decide +kernel
theorem d_md_decree_36 : decode (mcode M_md_decree) 36 = .ok (.iconst 4, 1) := by decide +kernel
theorem d_md_decree_37 : decode (mcode M_md_decree) 37 = .ok (.iload_n 1, 1) := by decide +kernel
theorem d_md_decree_38 : decode (mcode M_md_decree) 38 = .ok (.imul, 1) := by decide +kernel
theorem d_md_decree_39 : decode (mcode M_md_decree) 39 = .ok (.iload_n 2, 1) := by decide +kernel
theorem d_md_decree_40 : decode (mcode M_md_decree) 40 = .ok (.iadd, 1) := by decide +kernel
theorem d_md_decree_41 : decode (mcode M_md_decree) 41 = .ok (.iaload, 1) := by decide +kernel
theorem d_md_decree_42 : decode (mcode M_md_decree) 42 = .ok (.istore_n 3, 1) := by decide +kernel
theorem d_md_decree_43 : decode (mcode M_md_decree) 43 = .ok (.aload_n 0, 1) := by decide +kernel
theorem d_md_decree_44 : decode (mcode M_md_decree) 44 = .ok (.getfield 9, 3) := by decide +kernel
theorem d_md_decree_47 : decode (mcode M_md_decree) 47 = .ok (.iload_n 3, 1) := by decide +kernel
theorem d_md_decree_48 : decode (mcode M_md_decree) 48 = .ok (.dup2, 1) := by decide +kernel
theorem d_md_decree_49 : decode (mcode M_md_decree) 49 = .ok (.iaload, 1) := by decide +kernel
theorem d_md_decree_50 : decode (mcode M_md_decree) 50 = .ok (.aload_n 0, 1) := by decide +kernel
theorem d_md_decree_51 : decode (mcode M_md_decree) 51 = .ok (.iload_n 1, 1) := by decide +kernel
theorem d_md_decree_52 : decode (mcode M_md_decree) 52 = .ok (.invokevirtual 118, 3) := by decide +kernel
theorem d_md_decree_55 : decode (mcode M_md_decree) 55 = .ok (.isub, 1) := by decide +kernel
theorem d_md_decree_56 : decode (mcode M_md_decree) 56 = .ok (.iastore, 1) := by decide +kernel
theorem d_md_decree_57 : decode (mcode M_md_decree) 57 = .ok (.iconst 0, 1) := by decide +kernel
theorem d_md_decree_58 : decode (mcode M_md_decree) 58 = .ok (.istore 4, 2) := by decide +kernel
theorem d_md_decree_60 : decode (mcode M_md_decree) 60 = .ok (.iload 4, 2) := by decide +kernel
theorem d_md_decree_62 : decode (mcode M_md_decree) 62 = .ok (.aload_n 0, 1) := by decide +kernel
theorem d_md_decree_63 : decode (mcode M_md_decree) 63 = .ok (.getfield 25, 3) := by decide +kernel
theorem d_md_decree_66 : decode (mcode M_md_decree) 66 = .ok (.iload_n 1, 1) := by decide +kernel
theorem d_md_decree_67 : decode (mcode M_md_decree) 67 = .ok (.iaload, 1) := by decide +kernel
theorem d_md_decree_68 : decode (mcode M_md_decree) 68 = .ok (.if_icmp .gt 60, 3) := by decide +kernel
theorem d_md_decree_71 : decode (mcode M_md_decree) 71 = .ok (.iload 4, 2) := by decide +kernel
theorem d_md_decree_73 : decode (mcode M_md_decree) 73 = .ok (.iload_n 2, 1) := by decide +kernel
theorem d_md_decree_74 : decode (mcode M_md_decree) 74 = .ok (.if_icmp .ne 6, 3) := by decide +kernel
theorem d_md_decree_77 : decode (mcode M_md_decree) 77 = .ok (.goto 45, 3) := by decide +kernel
theorem d_md_decree_80 : decode (mcode M_md_decree) 80 = .ok (.aload_n 0, 1) := by decide +kernel
theorem d_md_decree_81 : decode (mcode M_md_decree) 81 = .ok (.getfield 9, 3) := by decide +kernel
theorem d_md_decree_84 : decode (mcode M_md_decree) 84 = .ok (.aload_n 0, 1) := by decide +kernel
theorem d_md_decree_85 : decode (mcode M_md_decree) 85 = .ok (.getfield 28, 3) := by decide +kernel
theorem d_md_decree_88 : decode (mcode M_md_decree) 88 = .ok (.iconst 4, 1) := by decide +kernel
theorem d_md_decree_89 : decode (mcode M_md_decree) 89 = .ok (.iload_n 1, 1) := by decide +kernel
theorem d_md_decree_90 : decode (mcode M_md_decree) 90 = .ok (.imul, 1) := by decide +kernel
theorem d_md_decree_91 : decode (mcode M_md_decree) 91 = .ok (.iload 4, 2) := by decide +kernel
theorem d_md_decree_93 : decode (mcode M_md_decree) 93 = .ok (.iadd, 1) := by decide +kernel
theorem d_md_decree_94 : decode (mcode M_md_decree) 94 = .ok (.iaload, 1) := by decide +kernel
theorem d_md_decree_95 : decode (mcode M_md_decree) 95 = .ok (.dup2, 1) := by decide +kernel
theorem d_md_decree_96 : decode (mcode M_md_decree) 96 = .ok (.iaload, 1) := by decide +kernel
theorem d_md_decree_97 : decode (mcode M_md_decree) 97 = .ok (.aload_n 0, 1) := by decide +kernel
theorem d_md_decree_98 : decode (mcode M_md_decree) 98 = .ok (.getfield 68, 3) := by decide +kernel
theorem d_md_decree_101 : decode (mcode M_md_decree) 101 = .ok (.iload 4, 2) := by decide +kernel
theorem d_md_decree_103 : decode (mcode M_md_decree) 103 = .ok (.iaload, 1) := by decide +kernel
theorem d_md_decree_104 : decode (mcode M_md_decree) 104 = .ok (.isub, 1) := by decide +kernel
theorem d_md_decree_105 : decode (mcode M_md_decree) 105 = .ok (.iastore, 1) := by decide +kernel
theorem d_md_decree_106 : decode (mcode M_md_decree) 106 = .ok (.aload_n 0, 1) := by decide +kernel
theorem d_md_decree_107 : decode (mcode M_md_decree) 107 = .ok (.getfield 9, 3) := by decide +kernel
theorem d_md_decree_110 : decode (mcode M_md_decree) 110 = .ok (.iload_n 3, 1) := by decide +kernel
theorem d_md_decree_111 : decode (mcode M_md_decree) 111 = .ok (.dup2, 1) := by decide +kernel
theorem d_md_decree_112 : decode (mcode M_md_decree) 112 = .ok (.iaload, 1) := by decide +kernel
theorem d_md_decree_113 : decode (mcode M_md_decree) 113 = .ok (.aload_n 0, 1) := by decide +kernel
theorem d_md_decree_114 : decode (mcode M_md_decree) 114 = .ok (.getfield 68, 3) := by decide +kernel
theorem d_md_decree_117 : decode (mcode M_md_decree) 117 = .ok (.iload 4, 2) := by decide +kernel
theorem d_md_decree_119 : decode (mcode M_md_decree) 119 = .ok (.iaload, 1) := by decide +kernel
theorem d_md_decree_120 : decode (mcode M_md_decree) 120 = .ok (.iadd, 1) := by decide +kernel
theorem d_md_decree_121 : decode (mcode M_md_decree) 121 = .ok (.iastore, 1) := by decide +kernel
theorem d_md_decree_122 : decode (mcode M_md_decree) 122 = .ok (.iinc 4 1, 3) := by decide +kernel
theorem d_md_decree_125 : decode (mcode M_md_decree) 125 = .ok (.goto (-65), 3) := by decide +kernel
theorem d_md_decree_128 : decode (mcode M_md_decree) 128 = .ok (.iload_n 2, 1) := by decide +kernel
theorem d_md_decree_129 : decode (mcode M_md_decree) 129 = .ok (.istore 4, 2) := by decide +kernel
theorem d_md_decree_131 : decode (mcode M_md_decree) 131 = .ok (.iload 4, 2) := by decide +kernel
theorem d_md_decree_133 : decode (mcode M_md_decree) 133 = .ok (.ifCond .le 64, 3) := by decide +kernel
theorem d_md_decree_136 : decode (mcode M_md_decree) 136 = .ok (.iload 4, 2) := by decide +kernel
theorem d_md_decree_138 : decode (mcode M_md_decree) 138 = .ok (.iload_n 2, 1) := by decide +kernel
theorem d_md_decree_139 : decode (mcode M_md_decree) 139 = .ok (.if_icmp .ne 8, 3) := by decide +kernel
theorem d_md_decree_142 : decode (mcode M_md_decree) 142 = .ok (.bipush 40, 2) := by decide +kernel
theorem d_md_decree_144 : decode (mcode M_md_decree) 144 = .ok (.goto 16, 3) := by decide +kernel
theorem d_md_decree_147 : decode (mcode M_md_decree) 147 = .ok (.aload_n 0, 1) := by decide +kernel
theorem d_md_decree_148 : decode (mcode M_md_decree) 148 = .ok (.getfield 31, 3) := by decide +kernel
theorem d_md_decree_151 : decode (mcode M_md_decree) 151 = .ok (.iconst 4, 1) := by decide +kernel
theorem d_md_decree_152 : decode (mcode M_md_decree) 152 = .ok (.iload_n 1, 1) := by decide +kernel
theorem d_md_decree_153 : decode (mcode M_md_decree) 153 = .ok (.imul, 1) := by decide +kernel
theorem d_md_decree_154 : decode (mcode M_md_decree) 154 = .ok (.iload 4, 2) := by decide +kernel
theorem d_md_decree_156 : decode (mcode M_md_decree) 156 = .ok (.iadd, 1) := by decide +kernel
theorem d_md_decree_157 : decode (mcode M_md_decree) 157 = .ok (.iconst 1, 1) := by decide +kernel
theorem d_md_decree_158 : decode (mcode M_md_decree) 158 = .ok (.iadd, 1) := by decide +kernel
theorem d_md_decree_159 : decode (mcode M_md_decree) 159 = .ok (.iaload, 1) := by decide +kernel
theorem d_md_decree_160 : decode (mcode M_md_decree) 160 = .ok (.istore 5, 2) := by decide +kernel
theorem d_md_decree_162 : decode (mcode M_md_decree) 162 = .ok (.aload_n 0, 1) := by decide +kernel
theorem d_md_decree_163 : decode (mcode M_md_decree) 163 = .ok (.getfield 31, 3) := by decide +kernel
theorem d_md_decree_166 : decode (mcode M_md_decree) 166 = .ok (.iconst 4, 1) := by decide +kernel
theorem d_md_decree_167 : decode (mcode M_md_decree) 167 = .ok (.iload_n 1, 1) := by decide +kernel
theorem d_md_decree_168 : decode (mcode M_md_decree) 168 = .ok (.imul, 1) := by decide +kernel
theorem d_md_decree_169 : decode (mcode M_md_decree) 169 = .ok (.iload 4, 2) := by decide +kernel
theorem d_md_decree_171 : decode (mcode M_md_decree) 171 = .ok (.iadd, 1) := by decide +kernel
theorem d_md_decree_172 : decode (mcode M_md_decree) 172 = .ok (.iaload, 1) := by decide +kernel
theorem d_md_decree_173 : decode (mcode M_md_decree) 173 = .ok (.iload 5, 2) := by decide +kernel
theorem d_md_decree_175 : decode (mcode M_md_decree) 175 = .ok (.if_icmp .ge 16, 3) := by decide +kernel
theorem d_md_decree_178 : decode (mcode M_md_decree) 178 = .ok (.aload_n 0, 1) := by decide +kernel
theorem d_md_decree_179 : decode (mcode M_md_decree) 179 = .ok (.getfield 31, 3) := by decide +kernel
theorem d_md_decree_182 : decode (mcode M_md_decree) 182 = .ok (.iconst 4, 1) := by decide +kernel
theorem d_md_decree_183 : decode (mcode M_md_decree) 183 = .ok (.iload_n 1, 1) := by decide +kernel
theorem d_md_decree_184 : decode (mcode M_md_decree) 184 = .ok (.imul, 1) := by decide +kernel
theorem d_md_decree_185 : decode (mcode M_md_decree) 185 = .ok (.iload 4, 2) := by decide +kernel
theorem d_md_decree_187 : decode (mcode M_md_decree) 187 = .ok (.iadd, 1) := by decide +kernel
theorem d_md_decree_188 : decode (mcode M_md_decree) 188 = .ok (.iload 5, 2) := by decide +kernel
theorem d_md_decree_190 : decode (mcode M_md_decree) 190 = .ok (.iastore, 1) := by decide +kernel
theorem d_md_decree_191 : decode (mcode M_md_decree) 191 = .ok (.iinc 4 (-1), 3) := by decide +kernel
theorem d_md_decree_194 : decode (mcode M_md_decree) 194 = .ok (.goto (-63), 3) := by decide +kernel
theorem d_md_decree_197 : decode (mcode M_md_decree) 197 = .ok (.aload_n 0, 1) := by decide +kernel
theorem d_md_decree_198 : decode (mcode M_md_decree) 198 = .ok (.getfield 22, 3) := by decide +kernel
theorem d_md_decree_201 : decode (mcode M_md_decree) 201 = .ok (.iload_n 1, 1) := by decide +kernel
theorem d_md_decree_202 : decode (mcode M_md_decree) 202 = .ok (.iconst 1, 1) := by decide +kernel
theorem d_md_decree_203 : decode (mcode M_md_decree) 203 = .ok (.iastore, 1) := by decide +kernel
theorem d_md_decree_204 : decode (mcode M_md_decree) 204 = .ok (.aload_n 0, 1) := by decide +kernel
theorem d_md_decree_205 : decode (mcode M_md_decree) 205 = .ok (.getfield 37, 3) := by decide +kernel
theorem d_md_decree_208 : decode (mcode M_md_decree) 208 = .ok (.iload_n 1, 1) := by decide +kernel
theorem d_md_decree_209 : decode (mcode M_md_decree) 209 = .ok (.iload_n 3, 1) := by decide +kernel
theorem d_md_decree_210 : decode (mcode M_md_decree) 210 = .ok (.iastore, 1) := by decide +kernel
theorem d_md_decree_211 : decode (mcode M_md_decree) 211 = .ok (.aload_n 0, 1) := by decide +kernel
theorem d_md_decree_212 : decode (mcode M_md_decree) 212 = .ok (.getfield 40, 3) := by decide +kernel
theorem d_md_decree_215 : decode (mcode M_md_decree) 215 = .ok (.iload_n 1, 1) := by decide +kernel
theorem d_md_decree_216 : decode (mcode M_md_decree) 216 = .ok (.aload_n 0, 1) := by decide +kernel
theorem d_md_decree_217 : decode (mcode M_md_decree) 217 = .ok (.getfield 129, 3) := by decide +kernel
theorem d_md_decree_220 : decode (mcode M_md_decree) 220 = .ok (.iastore, 1) := by decide +kernel
theorem d_md_decree_221 : decode (mcode M_md_decree) 221 = .ok (.aload_n 0, 1) := by decide +kernel
theorem d_md_decree_222 : decode (mcode M_md_decree) 222 = .ok (.aload_n 0, 1) := by decide +kernel
theorem d_md_decree_223 : decode (mcode M_md_decree) 223 = .ok (.iload_n 1, 1) := by decide +kernel
theorem d_md_decree_224 : decode (mcode M_md_decree) 224 = .ok (.invokevirtual 132, 3) := by decide +kernel
theorem d_md_decree_227 : decode (mcode M_md_decree) 227 = .ok (.iload_n 1, 1) := by decide +kernel
theorem d_md_decree_228 : decode (mcode M_md_decree) 228 = .ok (.iload_n 3, 1) := by decide +kernel
theorem d_md_decree_229 : decode (mcode M_md_decree) 229 = .ok (.invokevirtual 135, 3) := by decide +kernel
theorem d_md_decree_232 : decode (mcode M_md_decree) 232 = .ok (.aload_n 0, 1) := by decide +kernel
theorem d_md_decree_233 : decode (mcode M_md_decree) 233 = .ok (.iload_n 1, 1) := by decide +kernel
theorem d_md_decree_234 : decode (mcode M_md_decree) 234 = .ok (.aload_n 0, 1) := by decide +kernel
theorem d_md_decree_235 : decode (mcode M_md_decree) 235 = .ok (.iload_n 1, 1) := by decide +kernel
theorem d_md_decree_236 : decode (mcode M_md_decree) 236 = .ok (.invokevirtual 139, 3) := by decide +kernel
theorem d_md_decree_239 : decode (mcode M_md_decree) 239 = .ok (.iload_n 3, 1) := by decide +kernel
theorem d_md_decree_240 : decode (mcode M_md_decree) 240 = .ok (.invokevirtual 135, 3) := by decide +kernel
theorem d_md_decree_243 : decode (mcode M_md_decree) 243 = .ok (.iload_n 2, 1) := by decide +kernel
theorem d_md_decree_244 : decode (mcode M_md_decree) 244 = .ok (.ireturn, 1) := by decide +kernel
theorem d_md_before_0 : decode (mcode M_md_before) 0 = .ok (.iconst (-1), 1) := by decide +kernel
theorem d_md_before_1 : decode (mcode M_md_before) 1 = .ok (.istore_n 2, 1) := by decide +kernel
theorem d_md_before_2 : decode (mcode M_md_before) 2 = .ok (.iconst 0, 1) := by decide +kernel
theorem d_md_before_3 : decode (mcode M_md_before) 3 = .ok (.istore_n 3, 1) := by decide +kernel
theorem d_md_before_4 : decode (mcode M_md_before) 4 = .ok (.iload_n 3, 1) := by decide +kernel
theorem d_md_before_5 : decode (mcode M_md_before) 5 = .ok (.iload_n 1, 1) := by decide +kernel
theorem d_md_before_6 : decode (mcode M_md_before) 6 = .ok (.if_icmp .ge 26, 3) := by decide +kernel
theorem d_md_before_9 : decode (mcode M_md_before) 9 = .ok (.aload_n 0, 1) := by decide +kernel
theorem d_md_before_10 : decode (mcode M_md_before) 10 = .ok (.getfield 13, 3) := by decide +kernel
theorem d_md_before_13 : decode (mcode M_md_before) 13 = .ok (.iload_n 3, 1) := by decide +kernel
theorem d_md_before_14 : decode (mcode M_md_before) 14 = .ok (.iaload, 1) := by decide +kernel
theorem d_md_before_15 : decode (mcode M_md_before) 15 = .ok (.aload_n 0, 1) := by decide +kernel
theorem d_md_before_16 : decode (mcode M_md_before) 16 = .ok (.getfield 13, 3) := by decide +kernel
theorem d_md_before_19 : decode (mcode M_md_before) 19 = .ok (.iload_n 1, 1) := by decide +kernel
theorem d_md_before_20 : decode (mcode M_md_before) 20 = .ok (.iaload, 1) := by decide +kernel
theorem d_md_before_21 : decode (mcode M_md_before) 21 = .ok (.if_icmp .ne 5, 3) := by decide +kernel
theorem d_md_before_24 : decode (mcode M_md_before) 24 = .ok (.iload_n 3, 1) := by decide +kernel
theorem d_md_before_25 : decode (mcode M_md_before) 25 = .ok (.istore_n 2, 1) := by decide +kernel
theorem d_md_before_26 : decode (mcode M_md_before) 26 = .ok (.iinc 3 1, 3) := by decide +kernel
theorem d_md_before_29 : decode (mcode M_md_before) 29 = .ok (.goto (-25), 3) := by decide +kernel
theorem d_md_before_32 : decode (mcode M_md_before) 32 = .ok (.iload_n 2, 1) := by decide +kernel
theorem d_md_before_33 : decode (mcode M_md_before) 33 = .ok (.ireturn, 1) := by decide +kernel
theorem d_md_behind_0 : decode (mcode M_md_behind) 0 = .ok (.iload_n 1, 1) := by decide +kernel
theorem d_md_behind_1 : decode (mcode M_md_behind) 1 = .ok (.iconst 1, 1) := by decide +kernel
theorem d_md_behind_2 : decode (mcode M_md_behind) 2 = .ok (.iadd, 1) := by decide +kernel
theorem d_md_behind_3 : decode (mcode M_md_behind) 3 = .ok (.istore_n 2, 1) := by decide +kernel
theorem d_md_behind_4 : decode (mcode M_md_behind) 4 = .ok (.iload_n 2, 1) := by decide +kernel
theorem d_md_behind_5 : decode (mcode M_md_behind) 5 = .ok (.aload_n 0, 1) := by decide +kernel
theorem d_md_behind_6 : decode (mcode M_md_behind) 6 = .ok (.getfield 84, 3) := by decide +kernel
theorem d_md_behind_9 : decode (mcode M_md_behind) 9 = .ok (.if_icmp .ge 26, 3) := by decide +kernel
theorem d_md_behind_12 : decode (mcode M_md_behind) 12 = .ok (.aload_n 0, 1) := by decide +kernel
theorem d_md_behind_13 : decode (mcode M_md_behind) 13 = .ok (.getfield 13, 3) := by decide +kernel
theorem d_md_behind_16 : decode (mcode M_md_behind) 16 = .ok (.iload_n 2, 1) := by decide +kernel
theorem d_md_behind_17 : decode (mcode M_md_behind) 17 = .ok (.iaload, 1) := by decide +kernel
theorem d_md_behind_18 : decode (mcode M_md_behind) 18 = .ok (.aload_n 0, 1) := by decide +kernel
theorem d_md_behind_19 : decode (mcode M_md_behind) 19 = .ok (.getfield 13, 3) := by decide +kernel
theorem d_md_behind_22 : decode (mcode M_md_behind) 22 = .ok (.iload_n 1, 1) := by decide +kernel
theorem d_md_behind_23 : decode (mcode M_md_behind) 23 = .ok (.iaload, 1) := by decide +kernel
theorem d_md_behind_24 : decode (mcode M_md_behind) 24 = .ok (.if_icmp .ne 5, 3) := by decide +kernel
theorem d_md_behind_27 : decode (mcode M_md_behind) 27 = .ok (.iload_n 2, 1) := by decide +kernel
theorem d_md_behind_28 : decode (mcode M_md_behind) 28 = .ok (.ireturn, 1) := by decide +kernel
theorem d_md_behind_29 : decode (mcode M_md_behind) 29 = .ok (.iinc 2 1, 3) := by decide +kernel
theorem d_md_behind_32 : decode (mcode M_md_behind) 32 = .ok (.goto (-28), 3) := by decide +kernel
theorem d_md_behind_35 : decode (mcode M_md_behind) 35 = .ok (.iconst (-1), 1) := by decide +kernel
theorem d_md_behind_36 : decode (mcode M_md_behind) 36 = .ok (.ireturn, 1) := by decide +kernel
theorem d_md_wall_0 : decode (mcode M_md_wall) 0 = .ok (.iload_n 1, 1) := by decide +kernel
theorem d_md_wall_1 : decode (mcode M_md_wall) 1 = .ok (.iconst (-1), 1) := by decide +kernel
theorem d_md_wall_2 : decode (mcode M_md_wall) 2 = .ok (.if_icmp .eq 24, 3) := by decide +kernel
theorem d_md_wall_5 : decode (mcode M_md_wall) 5 = .ok (.iload_n 2, 1) := by decide +kernel
theorem d_md_wall_6 : decode (mcode M_md_wall) 6 = .ok (.iconst (-1), 1) := by decide +kernel
theorem d_md_wall_7 : decode (mcode M_md_wall) 7 = .ok (.if_icmp .eq 19, 3) := by decide +kernel
theorem d_md_wall_10 : decode (mcode M_md_wall) 10 = .ok (.aload_n 0, 1) := by decide +kernel
theorem d_md_wall_11 : decode (mcode M_md_wall) 11 = .ok (.iload_n 1, 1) := by decide +kernel
theorem d_md_wall_12 : decode (mcode M_md_wall) 12 = .ok (.invokevirtual 104, 3) := by decide +kernel
theorem d_md_wall_15 : decode (mcode M_md_wall) 15 = .ok (.ifCond .ne 11, 3) := by decide +kernel
theorem d_md_wall_18 : decode (mcode M_md_wall) 18 = .ok (.aload_n 0, 1) := by decide +kernel
theorem d_md_wall_19 : decode (mcode M_md_wall) 19 = .ok (.iload_n 2, 1) := by decide +kernel
theorem d_md_wall_20 : decode (mcode M_md_wall) 20 = .ok (.invokevirtual 104, 3) := by decide +kernel
theorem d_md_wall_23 : decode (mcode M_md_wall) 23 = .ok (.ifCond .eq 4, 3) := by decide +kernel
theorem d_md_wall_26 : decode (mcode M_md_wall) 26 = .ok (.return_, 1) := by decide +kernel
theorem d_md_wall_27 : decode (mcode M_md_wall) 27 = .ok (.aload_n 0, 1) := by decide +kernel
theorem d_md_wall_28 : decode (mcode M_md_wall) 28 = .ok (.getfield 46, 3) := by decide +kernel
theorem d_md_wall_31 : decode (mcode M_md_wall) 31 = .ok (.iload_n 1, 1) := by decide +kernel
theorem d_md_wall_32 : decode (mcode M_md_wall) 32 = .ok (.iaload, 1) := by decide +kernel
theorem d_md_wall_33 : decode (mcode M_md_wall) 33 = .ok (.iconst (-1), 1) := by decide +kernel
theorem d_md_wall_34 : decode (mcode M_md_wall) 34 = .ok (.if_icmp .ne 66, 3) := by decide +kernel
theorem d_md_wall_37 : decode (mcode M_md_wall) 37 = .ok (.aload_n 0, 1) := by decide +kernel
theorem d_md_wall_38 : decode (mcode M_md_wall) 38 = .ok (.getfield 46, 3) := by decide +kernel
theorem d_md_wall_41 : decode (mcode M_md_wall) 41 = .ok (.iload_n 1, 1) := by decide +kernel
theorem d_md_wall_42 : decode (mcode M_md_wall) 42 = .ok (.iload_n 3, 1) := by decide +kernel
theorem d_md_wall_43 : decode (mcode M_md_wall) 43 = .ok (.iastore, 1) := by decide +kernel
theorem d_md_wall_44 : decode (mcode M_md_wall) 44 = .ok (.aload_n 0, 1) := by decide +kernel
theorem d_md_wall_45 : decode (mcode M_md_wall) 45 = .ok (.getfield 49, 3) := by decide +kernel
theorem d_md_wall_48 : decode (mcode M_md_wall) 48 = .ok (.iload_n 1, 1) := by decide +kernel
theorem d_md_wall_49 : decode (mcode M_md_wall) 49 = .ok (.iconst 3, 1) := by decide +kernel
theorem d_md_wall_50 : decode (mcode M_md_wall) 50 = .ok (.aload_n 0, 1) := by decide +kernel
theorem d_md_wall_51 : decode (mcode M_md_wall) 51 = .ok (.getfield 19, 3) := by decide +kernel
theorem d_md_wall_54 : decode (mcode M_md_wall) 54 = .ok (.iload_n 1, 1) := by decide +kernel
theorem d_md_wall_55 : decode (mcode M_md_wall) 55 = .ok (.iaload, 1) := by decide +kernel
theorem d_md_wall_56 : decode (mcode M_md_wall) 56 = .ok (.aload_n 0, 1) := by decide +kernel
theorem d_md_wall_57 : decode (mcode M_md_wall) 57 = .ok (.getfield 19, 3) := by decide +kernel
theorem d_md_wall_60 : decode (mcode M_md_wall) 60 = .ok (.iload_n 2, 1) := by decide +kernel
theorem d_md_wall_61 : decode (mcode M_md_wall) 61 = .ok (.iaload, 1) := by decide +kernel
theorem d_md_wall_62 : decode (mcode M_md_wall) 62 = .ok (.if_icmp .ge 12, 3) := by decide +kernel
theorem d_md_wall_65 : decode (mcode M_md_wall) 65 = .ok (.aload_n 0, 1) := by decide +kernel
theorem d_md_wall_66 : decode (mcode M_md_wall) 66 = .ok (.getfield 19, 3) := by decide +kernel
theorem d_md_wall_69 : decode (mcode M_md_wall) 69 = .ok (.iload_n 1, 1) := by decide +kernel
theorem d_md_wall_70 : decode (mcode M_md_wall) 70 = .ok (.iaload, 1) := by decide +kernel
theorem d_md_wall_71 : decode (mcode M_md_wall) 71 = .ok (.goto 9, 3) := by decide +kernel
theorem d_md_wall_74 : decode (mcode M_md_wall) 74 = .ok (.aload_n 0, 1) := by decide +kernel
theorem d_md_wall_75 : decode (mcode M_md_wall) 75 = .ok (.getfield 19, 3) := by decide +kernel
theorem d_md_wall_78 : decode (mcode M_md_wall) 78 = .ok (.iload_n 2, 1) := by decide +kernel
theorem d_md_wall_79 : decode (mcode M_md_wall) 79 = .ok (.iaload, 1) := by decide +kernel
theorem d_md_wall_80 : decode (mcode M_md_wall) 80 = .ok (.imul, 1) := by decide +kernel
theorem d_md_wall_81 : decode (mcode M_md_wall) 81 = .ok (.iastore, 1) := by decide +kernel
theorem d_md_wall_82 : decode (mcode M_md_wall) 82 = .ok (.aload_n 0, 1) := by decide +kernel
theorem d_md_wall_83 : decode (mcode M_md_wall) 83 = .ok (.getfield 9, 3) := by decide +kernel
theorem d_md_wall_86 : decode (mcode M_md_wall) 86 = .ok (.iload_n 3, 1) := by decide +kernel
theorem d_md_wall_87 : decode (mcode M_md_wall) 87 = .ok (.dup2, 1) := by decide +kernel
theorem d_md_wall_88 : decode (mcode M_md_wall) 88 = .ok (.iaload, 1) := by decide +kernel
theorem d_md_wall_89 : decode (mcode M_md_wall) 89 = .ok (.aload_n 0, 1) := by decide +kernel
theorem d_md_wall_90 : decode (mcode M_md_wall) 90 = .ok (.getfield 49, 3) := by decide +kernel
theorem d_md_wall_93 : decode (mcode M_md_wall) 93 = .ok (.iload_n 1, 1) := by decide +kernel
theorem d_md_wall_94 : decode (mcode M_md_wall) 94 = .ok (.iaload, 1) := by decide +kernel
theorem d_md_wall_95 : decode (mcode M_md_wall) 95 = .ok (.isub, 1) := by decide +kernel
theorem d_md_wall_96 : decode (mcode M_md_wall) 96 = .ok (.iastore, 1) := by decide +kernel
theorem d_md_wall_97 : decode (mcode M_md_wall) 97 = .ok (.goto 42, 3) := by decide +kernel
theorem d_md_wall_100 : decode (mcode M_md_wall) 100 = .ok (.aload_n 0, 1) := by decide +kernel
theorem d_md_wall_101 : decode (mcode M_md_wall) 101 = .ok (.getfield 9, 3) := by decide +kernel
theorem d_md_wall_104 : decode (mcode M_md_wall) 104 = .ok (.iload_n 3, 1) := by decide +kernel
theorem d_md_wall_105 : decode (mcode M_md_wall) 105 = .ok (.dup2, 1) := by decide +kernel
theorem d_md_wall_106 : decode (mcode M_md_wall) 106 = .ok (.iaload, 1) := by decide +kernel
theorem d_md_wall_107 : decode (mcode M_md_wall) 107 = .ok (.aload_n 0, 1) := by decide +kernel
theorem d_md_wall_108 : decode (mcode M_md_wall) 108 = .ok (.getfield 49, 3) := by decide +kernel
theorem d_md_wall_111 : decode (mcode M_md_wall) 111 = .ok (.iload_n 1, 1) := by decide +kernel
theorem d_md_wall_112 : decode (mcode M_md_wall) 112 = .ok (.iaload, 1) := by decide +kernel
theorem d_md_wall_113 : decode (mcode M_md_wall) 113 = .ok (.iconst 2, 1) := by decide +kernel
theorem d_md_wall_114 : decode (mcode M_md_wall) 114 = .ok (.idiv, 1) := by decide +kernel
theorem d_md_wall_115 : decode (mcode M_md_wall) 115 = .ok (.isub, 1) := by decide +kernel
theorem d_md_wall_116 : decode (mcode M_md_wall) 116 = .ok (.iastore, 1) := by decide +kernel
theorem d_md_wall_117 : decode (mcode M_md_wall) 117 = .ok (.aload_n 0, 1) := by decide +kernel
theorem d_md_wall_118 : decode (mcode M_md_wall) 118 = .ok (.getfield 9, 3) := by decide +kernel
theorem d_md_wall_121 : decode (mcode M_md_wall) 121 = .ok (.aload_n 0, 1) := by decide +kernel
theorem d_md_wall_122 : decode (mcode M_md_wall) 122 = .ok (.getfield 46, 3) := by decide +kernel
theorem d_md_wall_125 : decode (mcode M_md_wall) 125 = .ok (.iload_n 1, 1) := by decide +kernel
theorem d_md_wall_126 : decode (mcode M_md_wall) 126 = .ok (.iaload, 1) := by decide +kernel
theorem d_md_wall_127 : decode (mcode M_md_wall) 127 = .ok (.dup2, 1) := by decide +kernel
theorem d_md_wall_128 : decode (mcode M_md_wall) 128 = .ok (.iaload, 1) := by decide +kernel
theorem d_md_wall_129 : decode (mcode M_md_wall) 129 = .ok (.aload_n 0, 1) := by decide +kernel
theorem d_md_wall_130 : decode (mcode M_md_wall) 130 = .ok (.getfield 49, 3) := by decide +kernel
theorem d_md_wall_133 : decode (mcode M_md_wall) 133 = .ok (.iload_n 1, 1) := by decide +kernel
theorem d_md_wall_134 : decode (mcode M_md_wall) 134 = .ok (.iaload, 1) := by decide +kernel
theorem d_md_wall_135 : decode (mcode M_md_wall) 135 = .ok (.iconst 2, 1) := by decide +kernel
theorem d_md_wall_136 : decode (mcode M_md_wall) 136 = .ok (.idiv, 1) := by decide +kernel
theorem d_md_wall_137 : decode (mcode M_md_wall) 137 = .ok (.iadd, 1) := by decide +kernel
theorem d_md_wall_138 : decode (mcode M_md_wall) 138 = .ok (.iastore, 1) := by decide +kernel
theorem d_md_wall_139 : decode (mcode M_md_wall) 139 = .ok (.return_, 1) := by decide +kernel
theorem d_md_act_0 : decode (mcode M_md_act) 0 = .ok (.iload_n 1, 1) := by decide +kernel
theorem d_md_act_1 : decode (mcode M_md_act) 1 = .ok (.invokestatic 93, 3) := by decide +kernel
theorem d_md_act_4 : decode (mcode M_md_act) 4 = .ok (.ifCond .eq 13, 3) := by decide +kernel
theorem d_md_act_7 : decode (mcode M_md_act) 7 = .ok (.iload_n 2, 1) := by decide +kernel
theorem d_md_act_8 : decode (mcode M_md_act) 8 = .ok (.iconst 1, 1) := by decide +kernel
theorem d_md_act_9 : decode (mcode M_md_act) 9 = .ok (.bipush 40, 2) := by decide +kernel
theorem d_md_act_11 : decode (mcode M_md_act) 11 = .ok (.invokestatic 87, 3) := by decide +kernel
theorem d_md_act_14 : decode (mcode M_md_act) 14 = .ok (.ifCond .ne 5, 3) := by decide +kernel
theorem d_md_act_17 : decode (mcode M_md_act) 17 = .ok (.iconst (-1), 1) := by decide +kernel
theorem d_md_act_18 : decode (mcode M_md_act) 18 = .ok (.ireturn, 1) := by decide +kernel
theorem d_md_act_19 : decode (mcode M_md_act) 19 = .ok (.iconst 0, 1) := by decide +kernel
theorem d_md_act_20 : decode (mcode M_md_act) 20 = .ok (.istore_n 3, 1) := by decide +kernel
theorem d_md_act_21 : decode (mcode M_md_act) 21 = .ok (.iconst 0, 1) := by decide +kernel
theorem d_md_act_22 : decode (mcode M_md_act) 22 = .ok (.istore 4, 2) := by decide +kernel
theorem d_md_act_24 : decode (mcode M_md_act) 24 = .ok (.iload 4, 2) := by decide +kernel
theorem d_md_act_26 : decode (mcode M_md_act) 26 = .ok (.aload_n 0, 1) := by decide +kernel
theorem d_md_act_27 : decode (mcode M_md_act) 27 = .ok (.getfield 84, 3) := by decide +kernel
theorem d_md_act_30 : decode (mcode M_md_act) 30 = .ok (.if_icmp .ge 151, 3) := by decide +kernel
theorem d_md_act_33 : decode (mcode M_md_act) 33 = .ok (.aload_n 0, 1) := by decide +kernel
theorem d_md_act_34 : decode (mcode M_md_act) 34 = .ok (.getfield 13, 3) := by decide +kernel
theorem d_md_act_37 : decode (mcode M_md_act) 37 = .ok (.iload 4, 2) := by decide +kernel
theorem d_md_act_39 : decode (mcode M_md_act) 39 = .ok (.iaload, 1) := by decide +kernel
theorem d_md_act_40 : decode (mcode M_md_act) 40 = .ok (.iload_n 1, 1) := by decide +kernel
theorem d_md_act_41 : decode (mcode M_md_act) 41 = .ok (.if_icmp .ne 134, 3) := by decide +kernel
theorem d_md_act_44 : decode (mcode M_md_act) 44 = .ok (.aload_n 0, 1) := by decide +kernel
theorem d_md_act_45 : decode (mcode M_md_act) 45 = .ok (.getfield 22, 3) := by decide +kernel
theorem d_md_act_48 : decode (mcode M_md_act) 48 = .ok (.iload 4, 2) := by decide +kernel
theorem d_md_act_50 : decode (mcode M_md_act) 50 = .ok (.iaload, 1) := by decide +kernel
theorem d_md_act_51 : decode (mcode M_md_act) 51 = .ok (.ifCond .eq 6, 3) := by decide +kernel
theorem d_md_act_54 : decode (mcode M_md_act) 54 = .ok (.goto 121, 3) := by decide +kernel
theorem d_md_act_57 : decode (mcode M_md_act) 57 = .ok (.aload_n 0, 1) := by decide +kernel
theorem d_md_act_58 : decode (mcode M_md_act) 58 = .ok (.getfield 19, 3) := by decide +kernel
theorem d_md_act_61 : decode (mcode M_md_act) 61 = .ok (.iload 4, 2) := by decide +kernel
theorem d_md_act_63 : decode (mcode M_md_act) 63 = .ok (.iaload, 1) := by decide +kernel
theorem d_md_act_64 : decode (mcode M_md_act) 64 = .ok (.iload_n 2, 1) := by decide +kernel
theorem d_md_act_65 : decode (mcode M_md_act) 65 = .ok (.isub, 1) := by decide +kernel
theorem d_md_act_66 : decode (mcode M_md_act) 66 = .ok (.bipush 20, 2) := by decide +kernel
theorem d_md_act_68 : decode (mcode M_md_act) 68 = .ok (.if_icmp .ge 7, 3) := by decide +kernel
theorem d_md_act_71 : decode (mcode M_md_act) 71 = .ok (.iconst 1, 1) := by decide +kernel
theorem d_md_act_72 : decode (mcode M_md_act) 72 = .ok (.goto 4, 3) := by decide +kernel
theorem d_md_act_75 : decode (mcode M_md_act) 75 = .ok (.iconst 0, 1) := by decide +kernel
theorem d_md_act_76 : decode (mcode M_md_act) 76 = .ok (.istore 5, 2) := by decide +kernel
theorem d_md_act_78 : decode (mcode M_md_act) 78 = .ok (.aload_n 0, 1) := by decide +kernel
theorem d_md_act_79 : decode (mcode M_md_act) 79 = .ok (.getfield 16, 3) := by decide +kernel
theorem d_md_act_82 : decode (mcode M_md_act) 82 = .ok (.iload 4, 2) := by decide +kernel
theorem d_md_act_84 : decode (mcode M_md_act) 84 = .ok (.iaload, 1) := by decide +kernel
theorem d_md_act_85 : decode (mcode M_md_act) 85 = .ok (.iload 5, 2) := by decide +kernel
theorem d_md_act_87 : decode (mcode M_md_act) 87 = .ok (.ifCond .eq 13, 3) := by decide +kernel
theorem d_md_act_90 : decode (mcode M_md_act) 90 = .ok (.aload_n 0, 1) := by decide +kernel
theorem d_md_act_91 : decode (mcode M_md_act) 91 = .ok (.getfield 19, 3) := by decide +kernel
theorem d_md_act_94 : decode (mcode M_md_act) 94 = .ok (.iload 4, 2) := by decide +kernel
theorem d_md_act_96 : decode (mcode M_md_act) 96 = .ok (.iaload, 1) := by decide +kernel
theorem d_md_act_97 : decode (mcode M_md_act) 97 = .ok (.goto 4, 3) := by decide +kernel
theorem d_md_act_100 : decode (mcode M_md_act) 100 = .ok (.iload_n 2, 1) := by decide +kernel
theorem d_md_act_101 : decode (mcode M_md_act) 101 = .ok (.imul, 1) := by decide +kernel
theorem d_md_act_102 : decode (mcode M_md_act) 102 = .ok (.istore 6, 2) := by decide +kernel
theorem d_md_act_104 : decode (mcode M_md_act) 104 = .ok (.iload_n 3, 1) := by decide +kernel
theorem d_md_act_105 : decode (mcode M_md_act) 105 = .ok (.iload 6, 2) := by decide +kernel
theorem d_md_act_107 : decode (mcode M_md_act) 107 = .ok (.iadd, 1) := by decide +kernel
theorem d_md_act_108 : decode (mcode M_md_act) 108 = .ok (.istore_n 3, 1) := by decide +kernel
theorem d_md_act_109 : decode (mcode M_md_act) 109 = .ok (.aload_n 0, 1) := by decide +kernel
theorem d_md_act_110 : decode (mcode M_md_act) 110 = .ok (.getfield 9, 3) := by decide +kernel
theorem d_md_act_113 : decode (mcode M_md_act) 113 = .ok (.aload_n 0, 1) := by decide +kernel
theorem d_md_act_114 : decode (mcode M_md_act) 114 = .ok (.getfield 28, 3) := by decide +kernel
theorem d_md_act_117 : decode (mcode M_md_act) 117 = .ok (.iconst 4, 1) := by decide +kernel
theorem d_md_act_118 : decode (mcode M_md_act) 118 = .ok (.iload 4, 2) := by decide +kernel
theorem d_md_act_120 : decode (mcode M_md_act) 120 = .ok (.imul, 1) := by decide +kernel
theorem d_md_act_121 : decode (mcode M_md_act) 121 = .ok (.iaload, 1) := by decide +kernel
theorem d_md_act_122 : decode (mcode M_md_act) 122 = .ok (.dup2, 1) := by decide +kernel
theorem d_md_act_123 : decode (mcode M_md_act) 123 = .ok (.iaload, 1) := by decide +kernel
theorem d_md_act_124 : decode (mcode M_md_act) 124 = .ok (.iload 6, 2) := by decide +kernel
theorem d_md_act_126 : decode (mcode M_md_act) 126 = .ok (.aload_n 0, 1) := by decide +kernel
theorem d_md_act_127 : decode (mcode M_md_act) 127 = .ok (.getfield 56, 3) := by decide +kernel
theorem d_md_act_130 : decode (mcode M_md_act) 130 = .ok (.imul, 1) := by decide +kernel
theorem d_md_act_131 : decode (mcode M_md_act) 131 = .ok (.iadd, 1) := by decide +kernel
theorem d_md_act_132 : decode (mcode M_md_act) 132 = .ok (.iastore, 1) := by decide +kernel
theorem d_md_act_133 : decode (mcode M_md_act) 133 = .ok (.aload_n 0, 1) := by decide +kernel
theorem d_md_act_134 : decode (mcode M_md_act) 134 = .ok (.dup, 1) := by decide +kernel
theorem d_md_act_135 : decode (mcode M_md_act) 135 = .ok (.getfield 142, 3) := by decide +kernel
theorem d_md_act_138 : decode (mcode M_md_act) 138 = .ok (.iload 6, 2) := by decide +kernel
theorem d_md_act_140 : decode (mcode M_md_act) 140 = .ok (.aload_n 0, 1) := by decide +kernel
theorem d_md_act_141 : decode (mcode M_md_act) 141 = .ok (.getfield 56, 3) := by decide +kernel
theorem d_md_act_144 : decode (mcode M_md_act) 144 = .ok (.imul, 1) := by decide +kernel
theorem d_md_act_145 : decode (mcode M_md_act) 145 = .ok (.iadd, 1) := by decide +kernel
theorem d_md_act_146 : decode (mcode M_md_act) 146 = .ok (.putfield 142, 3) := by decide +kernel
theorem d_md_act_149 : decode (mcode M_md_act) 149 = .ok (.iload 5, 2) := by decide +kernel
theorem d_md_act_151 : decode (mcode M_md_act) 151 = .ok (.ifCond .eq 13, 3) := by decide +kernel
theorem d_md_act_154 : decode (mcode M_md_act) 154 = .ok (.aload_n 0, 1) := by decide +kernel
theorem d_md_act_155 : decode (mcode M_md_act) 155 = .ok (.iload 4, 2) := by decide +kernel
theorem d_md_act_157 : decode (mcode M_md_act) 157 = .ok (.iconst 3, 1) := by decide +kernel
theorem d_md_act_158 : decode (mcode M_md_act) 158 = .ok (.invokevirtual 145, 3) := by decide +kernel
theorem d_md_act_161 : decode (mcode M_md_act) 161 = .ok (.goto 14, 3) := by decide +kernel
theorem d_md_act_164 : decode (mcode M_md_act) 164 = .ok (.aload_n 0, 1) := by decide +kernel
theorem d_md_act_165 : decode (mcode M_md_act) 165 = .ok (.getfield 19, 3) := by decide +kernel
theorem d_md_act_168 : decode (mcode M_md_act) 168 = .ok (.iload 4, 2) := by decide +kernel
theorem d_md_act_170 : decode (mcode M_md_act) 170 = .ok (.dup2, 1) := by decide +kernel
theorem d_md_act_171 : decode (mcode M_md_act) 171 = .ok (.iaload, 1) := by decide +kernel
theorem d_md_act_172 : decode (mcode M_md_act) 172 = .ok (.iload_n 2, 1) := by decide +kernel
theorem d_md_act_173 : decode (mcode M_md_act) 173 = .ok (.isub, 1) := by decide +kernel
theorem d_md_act_174 : decode (mcode M_md_act) 174 = .ok (.iastore, 1) := by decide +kernel
theorem d_md_act_175 : decode (mcode M_md_act) 175 = .ok (.iinc 4 1, 3) := by decide +kernel
theorem d_md_act_178 : decode (mcode M_md_act) 178 = .ok (.goto (-154), 3) := by decide +kernel
theorem d_md_act_181 : decode (mcode M_md_act) 181 = .ok (.iload_n 3, 1) := by decide +kernel
theorem d_md_act_182 : decode (mcode M_md_act) 182 = .ok (.ireturn, 1) := by decide +kernel
theorem d_md_ends_0 : decode (mcode M_md_ends) 0 = .ok (.aload_n 0, 1) := by decide +kernel
theorem d_md_ends_1 : decode (mcode M_md_ends) 1 = .ok (.getfield 22, 3) := by decide +kernel
theorem d_md_ends_4 : decode (mcode M_md_ends) 4 = .ok (.iload_n 1, 1) := by decide +kernel
theorem d_md_ends_5 : decode (mcode M_md_ends) 5 = .ok (.iload_n 2, 1) := by decide +kernel
theorem d_md_ends_6 : decode (mcode M_md_ends) 6 = .ok (.iastore, 1) := by decide +kernel
theorem d_md_ends_7 : decode (mcode M_md_ends) 7 = .ok (.aload_n 0, 1) := by decide +kernel
theorem d_md_ends_8 : decode (mcode M_md_ends) 8 = .ok (.getfield 25, 3) := by decide +kernel
theorem d_md_ends_11 : decode (mcode M_md_ends) 11 = .ok (.iload_n 1, 1) := by decide +kernel
theorem d_md_ends_12 : decode (mcode M_md_ends) 12 = .ok (.iconst 0, 1) := by decide +kernel
theorem d_md_ends_13 : decode (mcode M_md_ends) 13 = .ok (.iastore, 1) := by decide +kernel
theorem d_md_ends_14 : decode (mcode M_md_ends) 14 = .ok (.return_, 1) := by decide +kernel
theorem d_md_year_0 : decode (mcode M_md_year) 0 = .ok (.aload_n 0, 1) := by decide +kernel
theorem d_md_year_1 : decode (mcode M_md_year) 1 = .ok (.getfield 129, 3) := by decide +kernel
theorem d_md_year_4 : decode (mcode M_md_year) 4 = .ok (.bipush 60, 2) := by decide +kernel
theorem d_md_year_6 : decode (mcode M_md_year) 6 = .ok (.if_icmp .ne 5, 3) := by decide +kernel
theorem d_md_year_9 : decode (mcode M_md_year) 9 = .ok (.iconst (-1), 1) := by decide +kernel
theorem d_md_year_10 : decode (mcode M_md_year) 10 = .ok (.ireturn, 1) := by decide +kernel
theorem d_md_year_11 : decode (mcode M_md_year) 11 = .ok (.iconst 0, 1) := by decide +kernel
theorem d_md_year_12 : decode (mcode M_md_year) 12 = .ok (.istore_n 1, 1) := by decide +kernel
theorem d_md_year_13 : decode (mcode M_md_year) 13 = .ok (.iconst 0, 1) := by decide +kernel
theorem d_md_year_14 : decode (mcode M_md_year) 14 = .ok (.istore_n 2, 1) := by decide +kernel
theorem d_md_year_15 : decode (mcode M_md_year) 15 = .ok (.iload_n 2, 1) := by decide +kernel
theorem d_md_year_16 : decode (mcode M_md_year) 16 = .ok (.aload_n 0, 1) := by decide +kernel
theorem d_md_year_17 : decode (mcode M_md_year) 17 = .ok (.getfield 84, 3) := by decide +kernel
theorem d_md_year_20 : decode (mcode M_md_year) 20 = .ok (.if_icmp .ge 41, 3) := by decide +kernel
theorem d_md_year_23 : decode (mcode M_md_year) 23 = .ok (.aload_n 0, 1) := by decide +kernel
theorem d_md_year_24 : decode (mcode M_md_year) 24 = .ok (.getfield 129, 3) := by decide +kernel
theorem d_md_year_27 : decode (mcode M_md_year) 27 = .ok (.aload_n 0, 1) := by decide +kernel
theorem d_md_year_28 : decode (mcode M_md_year) 28 = .ok (.getfield 59, 3) := by decide +kernel
theorem d_md_year_31 : decode (mcode M_md_year) 31 = .ok (.if_icmp .lt 30, 3) := by decide +kernel
theorem d_md_year_34 : decode (mcode M_md_year) 34 = .ok (.aload_n 0, 1) := by decide +kernel
theorem d_md_year_35 : decode (mcode M_md_year) 35 = .ok (.getfield 22, 3) := by decide +kernel
theorem d_md_year_38 : decode (mcode M_md_year) 38 = .ok (.iload_n 2, 1) := by decide +kernel
theorem d_md_year_39 : decode (mcode M_md_year) 39 = .ok (.iaload, 1) := by decide +kernel
theorem d_md_year_40 : decode (mcode M_md_year) 40 = .ok (.ifCond .eq 6, 3) := by decide +kernel
theorem d_md_year_43 : decode (mcode M_md_year) 43 = .ok (.goto 12, 3) := by decide +kernel
theorem d_md_year_46 : decode (mcode M_md_year) 46 = .ok (.aload_n 0, 1) := by decide +kernel
theorem d_md_year_47 : decode (mcode M_md_year) 47 = .ok (.iload_n 2, 1) := by decide +kernel
theorem d_md_year_48 : decode (mcode M_md_year) 48 = .ok (.iconst 2, 1) := by decide +kernel
theorem d_md_year_49 : decode (mcode M_md_year) 49 = .ok (.invokevirtual 145, 3) := by decide +kernel
theorem d_md_year_52 : decode (mcode M_md_year) 52 = .ok (.iinc 1 1, 3) := by decide +kernel
theorem d_md_year_55 : decode (mcode M_md_year) 55 = .ok (.iinc 2 1, 3) := by decide +kernel
theorem d_md_year_58 : decode (mcode M_md_year) 58 = .ok (.goto (-43), 3) := by decide +kernel
theorem d_md_year_61 : decode (mcode M_md_year) 61 = .ok (.aload_n 0, 1) := by decide +kernel
theorem d_md_year_62 : decode (mcode M_md_year) 62 = .ok (.dup, 1) := by decide +kernel
theorem d_md_year_63 : decode (mcode M_md_year) 63 = .ok (.getfield 149, 3) := by decide +kernel
theorem d_md_year_66 : decode (mcode M_md_year) 66 = .ok (.aload_n 0, 1) := by decide +kernel
theorem d_md_year_67 : decode (mcode M_md_year) 67 = .ok (.getfield 152, 3) := by decide +kernel
theorem d_md_year_70 : decode (mcode M_md_year) 70 = .ok (.iadd, 1) := by decide +kernel
theorem d_md_year_71 : decode (mcode M_md_year) 71 = .ok (.putfield 149, 3) := by decide +kernel
theorem d_md_year_74 : decode (mcode M_md_year) 74 = .ok (.iconst 0, 1) := by decide +kernel
theorem d_md_year_75 : decode (mcode M_md_year) 75 = .ok (.istore_n 2, 1) := by decide +kernel
theorem d_md_year_76 : decode (mcode M_md_year) 76 = .ok (.iload_n 2, 1) := by decide +kernel
theorem d_md_year_77 : decode (mcode M_md_year) 77 = .ok (.aload_n 0, 1) := by decide +kernel
theorem d_md_year_78 : decode (mcode M_md_year) 78 = .ok (.getfield 155, 3) := by decide +kernel
theorem d_md_year_81 : decode (mcode M_md_year) 81 = .ok (.if_icmp .ge 56, 3) := by decide +kernel
theorem d_md_year_84 : decode (mcode M_md_year) 84 = .ok (.aload_n 0, 1) := by decide +kernel
theorem d_md_year_85 : decode (mcode M_md_year) 85 = .ok (.getfield 62, 3) := by decide +kernel
theorem d_md_year_88 : decode (mcode M_md_year) 88 = .ok (.iload_n 2, 1) := by decide +kernel
theorem d_md_year_89 : decode (mcode M_md_year) 89 = .ok (.iaload, 1) := by decide +kernel
theorem d_md_year_90 : decode (mcode M_md_year) 90 = .ok (.aload_n 0, 1) := by decide +kernel
theorem d_md_year_91 : decode (mcode M_md_year) 91 = .ok (.getfield 149, 3) := by decide +kernel
theorem d_md_year_94 : decode (mcode M_md_year) 94 = .ok (.if_icmp .ge 12, 3) := by decide +kernel
theorem d_md_year_97 : decode (mcode M_md_year) 97 = .ok (.aload_n 0, 1) := by decide +kernel
theorem d_md_year_98 : decode (mcode M_md_year) 98 = .ok (.getfield 62, 3) := by decide +kernel
theorem d_md_year_101 : decode (mcode M_md_year) 101 = .ok (.iload_n 2, 1) := by decide +kernel
theorem d_md_year_102 : decode (mcode M_md_year) 102 = .ok (.iaload, 1) := by decide +kernel
theorem d_md_year_103 : decode (mcode M_md_year) 103 = .ok (.goto 7, 3) := by decide +kernel
theorem d_md_year_106 : decode (mcode M_md_year) 106 = .ok (.aload_n 0, 1) := by decide +kernel
theorem d_md_year_107 : decode (mcode M_md_year) 107 = .ok (.getfield 149, 3) := by decide +kernel
theorem d_md_year_110 : decode (mcode M_md_year) 110 = .ok (.istore_n 3, 1) := by decide +kernel
theorem d_md_year_111 : decode (mcode M_md_year) 111 = .ok (.aload_n 0, 1) := by decide +kernel
theorem d_md_year_112 : decode (mcode M_md_year) 112 = .ok (.getfield 62, 3) := by decide +kernel
theorem d_md_year_115 : decode (mcode M_md_year) 115 = .ok (.iload_n 2, 1) := by decide +kernel
theorem d_md_year_116 : decode (mcode M_md_year) 116 = .ok (.dup2, 1) := by decide +kernel
theorem d_md_year_117 : decode (mcode M_md_year) 117 = .ok (.iaload, 1) := by decide +kernel
theorem d_md_year_118 : decode (mcode M_md_year) 118 = .ok (.iload_n 3, 1) := by decide +kernel
theorem d_md_year_119 : decode (mcode M_md_year) 119 = .ok (.isub, 1) := by decide +kernel
theorem d_md_year_120 : decode (mcode M_md_year) 120 = .ok (.iastore, 1) := by decide +kernel
theorem d_md_year_121 : decode (mcode M_md_year) 121 = .ok (.aload_n 0, 1) := by decide +kernel
theorem d_md_year_122 : decode (mcode M_md_year) 122 = .ok (.dup, 1) := by decide +kernel
theorem d_md_year_123 : decode (mcode M_md_year) 123 = .ok (.getfield 149, 3) := by decide +kernel
theorem d_md_year_126 : decode (mcode M_md_year) 126 = .ok (.iload_n 3, 1) := by decide +kernel
theorem d_md_year_127 : decode (mcode M_md_year) 127 = .ok (.isub, 1) := by decide +kernel
theorem d_md_year_128 : decode (mcode M_md_year) 128 = .ok (.putfield 149, 3) := by decide +kernel
theorem d_md_year_131 : decode (mcode M_md_year) 131 = .ok (.iinc 2 1, 3) := by decide +kernel
theorem d_md_year_134 : decode (mcode M_md_year) 134 = .ok (.goto (-58), 3) := by decide +kernel
theorem d_md_year_137 : decode (mcode M_md_year) 137 = .ok (.iconst 0, 1) := by decide +kernel
theorem d_md_year_138 : decode (mcode M_md_year) 138 = .ok (.istore_n 2, 1) := by decide +kernel
theorem d_md_year_139 : decode (mcode M_md_year) 139 = .ok (.iload_n 2, 1) := by decide +kernel
theorem d_md_year_140 : decode (mcode M_md_year) 140 = .ok (.aload_n 0, 1) := by decide +kernel
theorem d_md_year_141 : decode (mcode M_md_year) 141 = .ok (.getfield 84, 3) := by decide +kernel
theorem d_md_year_144 : decode (mcode M_md_year) 144 = .ok (.if_icmp .ge 14, 3) := by decide +kernel
theorem d_md_year_147 : decode (mcode M_md_year) 147 = .ok (.aload_n 0, 1) := by decide +kernel
theorem d_md_year_148 : decode (mcode M_md_year) 148 = .ok (.iload_n 2, 1) := by decide +kernel
theorem d_md_year_149 : decode (mcode M_md_year) 149 = .ok (.invokevirtual 158, 3) := by decide +kernel
theorem d_md_year_152 : decode (mcode M_md_year) 152 = .ok (.iinc 2 1, 3) := by decide +kernel
theorem d_md_year_155 : decode (mcode M_md_year) 155 = .ok (.goto (-16), 3) := by decide +kernel
theorem d_md_year_158 : decode (mcode M_md_year) 158 = .ok (.aload_n 0, 1) := by decide +kernel
theorem d_md_year_159 : decode (mcode M_md_year) 159 = .ok (.dup, 1) := by decide +kernel
theorem d_md_year_160 : decode (mcode M_md_year) 160 = .ok (.getfield 129, 3) := by decide +kernel
theorem d_md_year_163 : decode (mcode M_md_year) 163 = .ok (.iconst 1, 1) := by decide +kernel
theorem d_md_year_164 : decode (mcode M_md_year) 164 = .ok (.iadd, 1) := by decide +kernel
theorem d_md_year_165 : decode (mcode M_md_year) 165 = .ok (.putfield 129, 3) := by decide +kernel
theorem d_md_year_168 : decode (mcode M_md_year) 168 = .ok (.iload_n 1, 1) := by decide +kernel
theorem d_md_year_169 : decode (mcode M_md_year) 169 = .ok (.ireturn, 1) := by decide +kernel
theorem d_md_older_0 : decode (mcode M_md_older) 0 = .ok (.aload_n 0, 1) := by decide +kernel
theorem d_md_older_1 : decode (mcode M_md_older) 1 = .ok (.getfield 25, 3) := by decide +kernel
theorem d_md_older_4 : decode (mcode M_md_older) 4 = .ok (.iload_n 1, 1) := by decide +kernel
theorem d_md_older_5 : decode (mcode M_md_older) 5 = .ok (.iaload, 1) := by decide +kernel
theorem d_md_older_6 : decode (mcode M_md_older) 6 = .ok (.istore_n 2, 1) := by decide +kernel
theorem d_md_older_7 : decode (mcode M_md_older) 7 = .ok (.aload_n 0, 1) := by decide +kernel
theorem d_md_older_8 : decode (mcode M_md_older) 8 = .ok (.getfield 25, 3) := by decide +kernel
theorem d_md_older_11 : decode (mcode M_md_older) 11 = .ok (.iload_n 1, 1) := by decide +kernel
theorem d_md_older_12 : decode (mcode M_md_older) 12 = .ok (.iaload, 1) := by decide +kernel
theorem d_md_older_13 : decode (mcode M_md_older) 13 = .ok (.istore_n 3, 1) := by decide +kernel
theorem d_md_older_14 : decode (mcode M_md_older) 14 = .ok (.iload_n 3, 1) := by decide +kernel
theorem d_md_older_15 : decode (mcode M_md_older) 15 = .ok (.ifCond .le 40, 3) := by decide +kernel
theorem d_md_older_18 : decode (mcode M_md_older) 18 = .ok (.aload_n 0, 1) := by decide +kernel
theorem d_md_older_19 : decode (mcode M_md_older) 19 = .ok (.getfield 31, 3) := by decide +kernel
theorem d_md_older_22 : decode (mcode M_md_older) 22 = .ok (.iconst 4, 1) := by decide +kernel
theorem d_md_older_23 : decode (mcode M_md_older) 23 = .ok (.iload_n 1, 1) := by decide +kernel
theorem d_md_older_24 : decode (mcode M_md_older) 24 = .ok (.imul, 1) := by decide +kernel
theorem d_md_older_25 : decode (mcode M_md_older) 25 = .ok (.iload_n 3, 1) := by decide +kernel
theorem d_md_older_26 : decode (mcode M_md_older) 26 = .ok (.iadd, 1) := by decide +kernel
theorem d_md_older_27 : decode (mcode M_md_older) 27 = .ok (.dup2, 1) := by decide +kernel
theorem d_md_older_28 : decode (mcode M_md_older) 28 = .ok (.iaload, 1) := by decide +kernel
theorem d_md_older_29 : decode (mcode M_md_older) 29 = .ok (.iconst 1, 1) := by decide +kernel
theorem d_md_older_30 : decode (mcode M_md_older) 30 = .ok (.isub, 1) := by decide +kernel
theorem d_md_older_31 : decode (mcode M_md_older) 31 = .ok (.iastore, 1) := by decide +kernel
theorem d_md_older_32 : decode (mcode M_md_older) 32 = .ok (.aload_n 0, 1) := by decide +kernel
theorem d_md_older_33 : decode (mcode M_md_older) 33 = .ok (.getfield 31, 3) := by decide +kernel
theorem d_md_older_36 : decode (mcode M_md_older) 36 = .ok (.iconst 4, 1) := by decide +kernel
theorem d_md_older_37 : decode (mcode M_md_older) 37 = .ok (.iload_n 1, 1) := by decide +kernel
theorem d_md_older_38 : decode (mcode M_md_older) 38 = .ok (.imul, 1) := by decide +kernel
theorem d_md_older_39 : decode (mcode M_md_older) 39 = .ok (.iload_n 3, 1) := by decide +kernel
theorem d_md_older_40 : decode (mcode M_md_older) 40 = .ok (.iadd, 1) := by decide +kernel
theorem d_md_older_41 : decode (mcode M_md_older) 41 = .ok (.iaload, 1) := by decide +kernel
theorem d_md_older_42 : decode (mcode M_md_older) 42 = .ok (.ifCond .ne 7, 3) := by decide +kernel
theorem d_md_older_45 : decode (mcode M_md_older) 45 = .ok (.iload_n 3, 1) := by decide +kernel
theorem d_md_older_46 : decode (mcode M_md_older) 46 = .ok (.iconst 1, 1) := by decide +kernel
theorem d_md_older_47 : decode (mcode M_md_older) 47 = .ok (.isub, 1) := by decide +kernel
theorem d_md_older_48 : decode (mcode M_md_older) 48 = .ok (.istore_n 2, 1) := by decide +kernel
theorem d_md_older_49 : decode (mcode M_md_older) 49 = .ok (.iinc 3 (-1), 3) := by decide +kernel
theorem d_md_older_52 : decode (mcode M_md_older) 52 = .ok (.goto (-38), 3) := by decide +kernel
theorem d_md_older_55 : decode (mcode M_md_older) 55 = .ok (.aload_n 0, 1) := by decide +kernel
theorem d_md_older_56 : decode (mcode M_md_older) 56 = .ok (.getfield 25, 3) := by decide +kernel
theorem d_md_older_59 : decode (mcode M_md_older) 59 = .ok (.iload_n 1, 1) := by decide +kernel
theorem d_md_older_60 : decode (mcode M_md_older) 60 = .ok (.iload_n 2, 1) := by decide +kernel
theorem d_md_older_61 : decode (mcode M_md_older) 61 = .ok (.iastore, 1) := by decide +kernel
theorem d_md_older_62 : decode (mcode M_md_older) 62 = .ok (.return_, 1) := by decide +kernel
theorem d_md_due_0 : decode (mcode M_md_due) 0 = .ok (.aload_n 0, 1) := by decide +kernel
theorem d_md_due_1 : decode (mcode M_md_due) 1 = .ok (.iload_n 1, 1) := by decide +kernel
theorem d_md_due_2 : decode (mcode M_md_due) 2 = .ok (.invokevirtual 101, 3) := by decide +kernel
theorem d_md_due_5 : decode (mcode M_md_due) 5 = .ok (.ifCond .eq 13, 3) := by decide +kernel
theorem d_md_due_8 : decode (mcode M_md_due) 8 = .ok (.iload_n 2, 1) := by decide +kernel
theorem d_md_due_9 : decode (mcode M_md_due) 9 = .ok (.iconst 0, 1) := by decide +kernel
theorem d_md_due_10 : decode (mcode M_md_due) 10 = .ok (.bipush 60, 2) := by decide +kernel
theorem d_md_due_12 : decode (mcode M_md_due) 12 = .ok (.invokestatic 87, 3) := by decide +kernel
theorem d_md_due_15 : decode (mcode M_md_due) 15 = .ok (.ifCond .ne 5, 3) := by decide +kernel
theorem d_md_due_18 : decode (mcode M_md_due) 18 = .ok (.iconst 0, 1) := by decide +kernel
theorem d_md_due_19 : decode (mcode M_md_due) 19 = .ok (.ireturn, 1) := by decide +kernel
theorem d_md_due_20 : decode (mcode M_md_due) 20 = .ok (.aload_n 0, 1) := by decide +kernel
theorem d_md_due_21 : decode (mcode M_md_due) 21 = .ok (.getfield 43, 3) := by decide +kernel
theorem d_md_due_24 : decode (mcode M_md_due) 24 = .ok (.iload_n 1, 1) := by decide +kernel
theorem d_md_due_25 : decode (mcode M_md_due) 25 = .ok (.iload_n 2, 1) := by decide +kernel
theorem d_md_due_26 : decode (mcode M_md_due) 26 = .ok (.iastore, 1) := by decide +kernel
theorem d_md_due_27 : decode (mcode M_md_due) 27 = .ok (.iconst 1, 1) := by decide +kernel
theorem d_md_due_28 : decode (mcode M_md_due) 28 = .ok (.ireturn, 1) := by decide +kernel
theorem d_md_dueOf_0 : decode (mcode M_md_dueOf) 0 = .ok (.aload_n 0, 1) := by decide +kernel
theorem d_md_dueOf_1 : decode (mcode M_md_dueOf) 1 = .ok (.getfield 43, 3) := by decide +kernel
theorem d_md_dueOf_4 : decode (mcode M_md_dueOf) 4 = .ok (.iload_n 1, 1) := by decide +kernel
theorem d_md_dueOf_5 : decode (mcode M_md_dueOf) 5 = .ok (.iaload, 1) := by decide +kernel
theorem d_md_dueOf_6 : decode (mcode M_md_dueOf) 6 = .ok (.iconst (-1), 1) := by decide +kernel
theorem d_md_dueOf_7 : decode (mcode M_md_dueOf) 7 = .ok (.if_icmp .ne 10, 3) := by decide +kernel
theorem d_md_dueOf_10 : decode (mcode M_md_dueOf) 10 = .ok (.aload_n 0, 1) := by decide +kernel
theorem d_md_dueOf_11 : decode (mcode M_md_dueOf) 11 = .ok (.getfield 59, 3) := by decide +kernel
theorem d_md_dueOf_14 : decode (mcode M_md_dueOf) 14 = .ok (.goto 9, 3) := by decide +kernel
theorem d_md_dueOf_17 : decode (mcode M_md_dueOf) 17 = .ok (.aload_n 0, 1) := by decide +kernel
theorem d_md_dueOf_18 : decode (mcode M_md_dueOf) 18 = .ok (.getfield 43, 3) := by decide +kernel
theorem d_md_dueOf_21 : decode (mcode M_md_dueOf) 21 = .ok (.iload_n 1, 1) := by decide +kernel
theorem d_md_dueOf_22 : decode (mcode M_md_dueOf) 22 = .ok (.iaload, 1) := by decide +kernel
theorem d_md_dueOf_23 : decode (mcode M_md_dueOf) 23 = .ok (.ireturn, 1) := by decide +kernel
theorem d_md_canBe_0 : decode (mcode M_md_canBe) 0 = .ok (.iconst 0, 1) := by decide +kernel
theorem d_md_canBe_1 : decode (mcode M_md_canBe) 1 = .ok (.istore 4, 2) := by decide +kernel
theorem d_md_canBe_3 : decode (mcode M_md_canBe) 3 = .ok (.iload 4, 2) := by decide +kernel
theorem d_md_canBe_5 : decode (mcode M_md_canBe) 5 = .ok (.bipush 60, 2) := by decide +kernel
theorem d_md_canBe_7 : decode (mcode M_md_canBe) 7 = .ok (.if_icmp .gt 123, 3) := by decide +kernel
theorem d_md_canBe_10 : decode (mcode M_md_canBe) 10 = .ok (.iconst 0, 1) := by decide +kernel
theorem d_md_canBe_11 : decode (mcode M_md_canBe) 11 = .ok (.istore 5, 2) := by decide +kernel
theorem d_md_canBe_13 : decode (mcode M_md_canBe) 13 = .ok (.iconst 0, 1) := by decide +kernel
theorem d_md_canBe_14 : decode (mcode M_md_canBe) 14 = .ok (.istore 6, 2) := by decide +kernel
theorem d_md_canBe_16 : decode (mcode M_md_canBe) 16 = .ok (.iconst 0, 1) := by decide +kernel
theorem d_md_canBe_17 : decode (mcode M_md_canBe) 17 = .ok (.istore 7, 2) := by decide +kernel
theorem d_md_canBe_19 : decode (mcode M_md_canBe) 19 = .ok (.iload 7, 2) := by decide +kernel
theorem d_md_canBe_21 : decode (mcode M_md_canBe) 21 = .ok (.iload_n 2, 1) := by decide +kernel
theorem d_md_canBe_22 : decode (mcode M_md_canBe) 22 = .ok (.if_icmp .ge 70, 3) := by decide +kernel
theorem d_md_canBe_25 : decode (mcode M_md_canBe) 25 = .ok (.iload_n 1, 1) := by decide +kernel
theorem d_md_canBe_26 : decode (mcode M_md_canBe) 26 = .ok (.iload 7, 2) := by decide +kernel
theorem d_md_canBe_28 : decode (mcode M_md_canBe) 28 = .ok (.ishr, 1) := by decide +kernel
theorem d_md_canBe_29 : decode (mcode M_md_canBe) 29 = .ok (.iconst 1, 1) := by decide +kernel
theorem d_md_canBe_30 : decode (mcode M_md_canBe) 30 = .ok (.iand, 1) := by decide +kernel
theorem d_md_canBe_31 : decode (mcode M_md_canBe) 31 = .ok (.ifCond .eq 55, 3) := by decide +kernel
theorem d_md_canBe_34 : decode (mcode M_md_canBe) 34 = .ok (.aload_n 0, 1) := by decide +kernel
theorem d_md_canBe_35 : decode (mcode M_md_canBe) 35 = .ok (.aload_n 0, 1) := by decide +kernel
theorem d_md_canBe_36 : decode (mcode M_md_canBe) 36 = .ok (.getfield 75, 3) := by decide +kernel
theorem d_md_canBe_39 : decode (mcode M_md_canBe) 39 = .ok (.iload 7, 2) := by decide +kernel
theorem d_md_canBe_41 : decode (mcode M_md_canBe) 41 = .ok (.iaload, 1) := by decide +kernel
theorem d_md_canBe_42 : decode (mcode M_md_canBe) 42 = .ok (.invokevirtual 162, 3) := by decide +kernel
theorem d_md_canBe_45 : decode (mcode M_md_canBe) 45 = .ok (.iload 4, 2) := by decide +kernel
theorem d_md_canBe_47 : decode (mcode M_md_canBe) 47 = .ok (.if_icmp .le 6, 3) := by decide +kernel
theorem d_md_canBe_50 : decode (mcode M_md_canBe) 50 = .ok (.goto 36, 3) := by decide +kernel
theorem d_md_canBe_53 : decode (mcode M_md_canBe) 53 = .ok (.iload 5, 2) := by decide +kernel
theorem d_md_canBe_55 : decode (mcode M_md_canBe) 55 = .ok (.aload_n 0, 1) := by decide +kernel
theorem d_md_canBe_56 : decode (mcode M_md_canBe) 56 = .ok (.getfield 16, 3) := by decide +kernel
theorem d_md_canBe_59 : decode (mcode M_md_canBe) 59 = .ok (.aload_n 0, 1) := by decide +kernel
theorem d_md_canBe_60 : decode (mcode M_md_canBe) 60 = .ok (.getfield 75, 3) := by decide +kernel
theorem d_md_canBe_63 : decode (mcode M_md_canBe) 63 = .ok (.iload 7, 2) := by decide +kernel
theorem d_md_canBe_65 : decode (mcode M_md_canBe) 65 = .ok (.iaload, 1) := by decide +kernel
theorem d_md_canBe_66 : decode (mcode M_md_canBe) 66 = .ok (.iaload, 1) := by decide +kernel
theorem d_md_canBe_67 : decode (mcode M_md_canBe) 67 = .ok (.aload_n 0, 1) := by decide +kernel
theorem d_md_canBe_68 : decode (mcode M_md_canBe) 68 = .ok (.getfield 19, 3) := by decide +kernel
theorem d_md_canBe_71 : decode (mcode M_md_canBe) 71 = .ok (.aload_n 0, 1) := by decide +kernel
theorem d_md_canBe_72 : decode (mcode M_md_canBe) 72 = .ok (.getfield 75, 3) := by decide +kernel
theorem d_md_canBe_75 : decode (mcode M_md_canBe) 75 = .ok (.iload 7, 2) := by decide +kernel
theorem d_md_canBe_77 : decode (mcode M_md_canBe) 77 = .ok (.iaload, 1) := by decide +kernel
theorem d_md_canBe_78 : decode (mcode M_md_canBe) 78 = .ok (.iaload, 1) := by decide +kernel
theorem d_md_canBe_79 : decode (mcode M_md_canBe) 79 = .ok (.iadd, 1) := by decide +kernel
theorem d_md_canBe_80 : decode (mcode M_md_canBe) 80 = .ok (.iadd, 1) := by decide +kernel
theorem d_md_canBe_81 : decode (mcode M_md_canBe) 81 = .ok (.istore 5, 2) := by decide +kernel
theorem d_md_canBe_83 : decode (mcode M_md_canBe) 83 = .ok (.iconst 1, 1) := by decide +kernel
theorem d_md_canBe_84 : decode (mcode M_md_canBe) 84 = .ok (.istore 6, 2) := by decide +kernel
theorem d_md_canBe_86 : decode (mcode M_md_canBe) 86 = .ok (.iinc 7 1, 3) := by decide +kernel
theorem d_md_canBe_89 : decode (mcode M_md_canBe) 89 = .ok (.goto (-70), 3) := by decide +kernel
theorem d_md_canBe_92 : decode (mcode M_md_canBe) 92 = .ok (.iload 6, 2) := by decide +kernel
theorem d_md_canBe_94 : decode (mcode M_md_canBe) 94 = .ok (.ifCond .eq 30, 3) := by decide +kernel
theorem d_md_canBe_97 : decode (mcode M_md_canBe) 97 = .ok (.iload 4, 2) := by decide +kernel
theorem d_md_canBe_99 : decode (mcode M_md_canBe) 99 = .ok (.aload_n 0, 1) := by decide +kernel
theorem d_md_canBe_100 : decode (mcode M_md_canBe) 100 = .ok (.getfield 129, 3) := by decide +kernel
theorem d_md_canBe_103 : decode (mcode M_md_canBe) 103 = .ok (.if_icmp .lt 19, 3) := by decide +kernel
theorem d_md_canBe_106 : decode (mcode M_md_canBe) 106 = .ok (.iload 5, 2) := by decide +kernel
theorem d_md_canBe_108 : decode (mcode M_md_canBe) 108 = .ok (.iload_n 3, 1) := by decide +kernel
theorem d_md_canBe_109 : decode (mcode M_md_canBe) 109 = .ok (.iload 4, 2) := by decide +kernel
theorem d_md_canBe_111 : decode (mcode M_md_canBe) 111 = .ok (.aload_n 0, 1) := by decide +kernel
theorem d_md_canBe_112 : decode (mcode M_md_canBe) 112 = .ok (.getfield 129, 3) := by decide +kernel
theorem d_md_canBe_115 : decode (mcode M_md_canBe) 115 = .ok (.isub, 1) := by decide +kernel
theorem d_md_canBe_116 : decode (mcode M_md_canBe) 116 = .ok (.iconst 1, 1) := by decide +kernel
theorem d_md_canBe_117 : decode (mcode M_md_canBe) 117 = .ok (.iadd, 1) := by decide +kernel
theorem d_md_canBe_118 : decode (mcode M_md_canBe) 118 = .ok (.imul, 1) := by decide +kernel
theorem d_md_canBe_119 : decode (mcode M_md_canBe) 119 = .ok (.if_icmp .le 5, 3) := by decide +kernel
theorem d_md_canBe_122 : decode (mcode M_md_canBe) 122 = .ok (.iconst 0, 1) := by decide +kernel
theorem d_md_canBe_123 : decode (mcode M_md_canBe) 123 = .ok (.ireturn, 1) := by decide +kernel
theorem d_md_canBe_124 : decode (mcode M_md_canBe) 124 = .ok (.iinc 4 1, 3) := by decide +kernel
theorem d_md_canBe_127 : decode (mcode M_md_canBe) 127 = .ok (.goto (-124), 3) := by decide +kernel
theorem d_md_canBe_130 : decode (mcode M_md_canBe) 130 = .ok (.iconst 1, 1) := by decide +kernel
theorem d_md_canBe_131 : decode (mcode M_md_canBe) 131 = .ok (.ireturn, 1) := by decide +kernel
theorem d_md_saves_0 : decode (mcode M_md_saves) 0 = .ok (.iload_n 1, 1) := by decide +kernel
theorem d_md_saves_1 : decode (mcode M_md_saves) 1 = .ok (.iconst 1, 1) := by decide +kernel
theorem d_md_saves_2 : decode (mcode M_md_saves) 2 = .ok (.sipush 2000, 3) := by decide +kernel
theorem d_md_saves_5 : decode (mcode M_md_saves) 5 = .ok (.invokestatic 87, 3) := by decide +kernel
theorem d_md_saves_8 : decode (mcode M_md_saves) 8 = .ok (.ifCond .ne 5, 3) := by decide +kernel
theorem d_md_saves_11 : decode (mcode M_md_saves) 11 = .ok (.iconst 0, 1) := by decide +kernel
theorem d_md_saves_12 : decode (mcode M_md_saves) 12 = .ok (.ireturn, 1) := by decide +kernel
theorem d_md_saves_13 : decode (mcode M_md_saves) 13 = .ok (.iconst 0, 1) := by decide +kernel
theorem d_md_saves_14 : decode (mcode M_md_saves) 14 = .ok (.istore_n 2, 1) := by decide +kernel
theorem d_md_saves_15 : decode (mcode M_md_saves) 15 = .ok (.iconst 0, 1) := by decide +kernel
theorem d_md_saves_16 : decode (mcode M_md_saves) 16 = .ok (.istore_n 3, 1) := by decide +kernel
theorem d_md_saves_17 : decode (mcode M_md_saves) 17 = .ok (.iload_n 3, 1) := by decide +kernel
theorem d_md_saves_18 : decode (mcode M_md_saves) 18 = .ok (.aload_n 0, 1) := by decide +kernel
theorem d_md_saves_19 : decode (mcode M_md_saves) 19 = .ok (.getfield 84, 3) := by decide +kernel
theorem d_md_saves_22 : decode (mcode M_md_saves) 22 = .ok (.if_icmp .ge 39, 3) := by decide +kernel
theorem d_md_saves_25 : decode (mcode M_md_saves) 25 = .ok (.aload_n 0, 1) := by decide +kernel
theorem d_md_saves_26 : decode (mcode M_md_saves) 26 = .ok (.getfield 22, 3) := by decide +kernel
theorem d_md_saves_29 : decode (mcode M_md_saves) 29 = .ok (.iload_n 3, 1) := by decide +kernel
theorem d_md_saves_30 : decode (mcode M_md_saves) 30 = .ok (.iaload, 1) := by decide +kernel
theorem d_md_saves_31 : decode (mcode M_md_saves) 31 = .ok (.ifCond .eq 6, 3) := by decide +kernel
theorem d_md_saves_34 : decode (mcode M_md_saves) 34 = .ok (.goto 21, 3) := by decide +kernel
theorem d_md_saves_37 : decode (mcode M_md_saves) 37 = .ok (.iload_n 2, 1) := by decide +kernel
theorem d_md_saves_38 : decode (mcode M_md_saves) 38 = .ok (.bipush 12, 2) := by decide +kernel
theorem d_md_saves_40 : decode (mcode M_md_saves) 40 = .ok (.if_icmp .ne 5, 3) := by decide +kernel
theorem d_md_saves_43 : decode (mcode M_md_saves) 43 = .ok (.iconst 0, 1) := by decide +kernel
theorem d_md_saves_44 : decode (mcode M_md_saves) 44 = .ok (.ireturn, 1) := by decide +kernel
theorem d_md_saves_45 : decode (mcode M_md_saves) 45 = .ok (.aload_n 0, 1) := by decide +kernel
theorem d_md_saves_46 : decode (mcode M_md_saves) 46 = .ok (.getfield 75, 3) := by decide +kernel
theorem d_md_saves_49 : decode (mcode M_md_saves) 49 = .ok (.iload_n 2, 1) := by decide +kernel
theorem d_md_saves_50 : decode (mcode M_md_saves) 50 = .ok (.iload_n 3, 1) := by decide +kernel
theorem d_md_saves_51 : decode (mcode M_md_saves) 51 = .ok (.iastore, 1) := by decide +kernel
theorem d_md_saves_52 : decode (mcode M_md_saves) 52 = .ok (.iinc 2 1, 3) := by decide +kernel
theorem d_md_saves_55 : decode (mcode M_md_saves) 55 = .ok (.iinc 3 1, 3) := by decide +kernel
theorem d_md_saves_58 : decode (mcode M_md_saves) 58 = .ok (.goto (-41), 3) := by decide +kernel
theorem d_md_saves_61 : decode (mcode M_md_saves) 61 = .ok (.aload_n 0, 1) := by decide +kernel
theorem d_md_saves_62 : decode (mcode M_md_saves) 62 = .ok (.iconst (-1), 1) := by decide +kernel
theorem d_md_saves_63 : decode (mcode M_md_saves) 63 = .ok (.putfield 165, 3) := by decide +kernel
theorem d_md_saves_66 : decode (mcode M_md_saves) 66 = .ok (.iconst 0, 1) := by decide +kernel
theorem d_md_saves_67 : decode (mcode M_md_saves) 67 = .ok (.istore_n 3, 1) := by decide +kernel
theorem d_md_saves_68 : decode (mcode M_md_saves) 68 = .ok (.iload_n 3, 1) := by decide +kernel
theorem d_md_saves_69 : decode (mcode M_md_saves) 69 = .ok (.iconst 1, 1) := by decide +kernel
theorem d_md_saves_70 : decode (mcode M_md_saves) 70 = .ok (.iload_n 2, 1) := by decide +kernel
theorem d_md_saves_71 : decode (mcode M_md_saves) 71 = .ok (.ishl, 1) := by decide +kernel
theorem d_md_saves_72 : decode (mcode M_md_saves) 72 = .ok (.if_icmp .ge 128, 3) := by decide +kernel
theorem d_md_saves_75 : decode (mcode M_md_saves) 75 = .ok (.iconst 0, 1) := by decide +kernel
theorem d_md_saves_76 : decode (mcode M_md_saves) 76 = .ok (.istore 4, 2) := by decide +kernel
theorem d_md_saves_78 : decode (mcode M_md_saves) 78 = .ok (.iconst 0, 1) := by decide +kernel
theorem d_md_saves_79 : decode (mcode M_md_saves) 79 = .ok (.istore 5, 2) := by decide +kernel
theorem d_md_saves_81 : decode (mcode M_md_saves) 81 = .ok (.iload 5, 2) := by decide +kernel
theorem d_md_saves_83 : decode (mcode M_md_saves) 83 = .ok (.iload_n 2, 1) := by decide +kernel
theorem d_md_saves_84 : decode (mcode M_md_saves) 84 = .ok (.if_icmp .ge 39, 3) := by decide +kernel
theorem d_md_saves_87 : decode (mcode M_md_saves) 87 = .ok (.iload 4, 2) := by decide +kernel
theorem d_md_saves_89 : decode (mcode M_md_saves) 89 = .ok (.iload_n 3, 1) := by decide +kernel
theorem d_md_saves_90 : decode (mcode M_md_saves) 90 = .ok (.iload 5, 2) := by decide +kernel
theorem d_md_saves_92 : decode (mcode M_md_saves) 92 = .ok (.ishr, 1) := by decide +kernel
theorem d_md_saves_93 : decode (mcode M_md_saves) 93 = .ok (.iconst 1, 1) := by decide +kernel
theorem d_md_saves_94 : decode (mcode M_md_saves) 94 = .ok (.iand, 1) := by decide +kernel
theorem d_md_saves_95 : decode (mcode M_md_saves) 95 = .ok (.iconst 1, 1) := by decide +kernel
theorem d_md_saves_96 : decode (mcode M_md_saves) 96 = .ok (.if_icmp .ne 17, 3) := by decide +kernel
theorem d_md_saves_99 : decode (mcode M_md_saves) 99 = .ok (.aload_n 0, 1) := by decide +kernel
theorem d_md_saves_100 : decode (mcode M_md_saves) 100 = .ok (.aload_n 0, 1) := by decide +kernel
theorem d_md_saves_101 : decode (mcode M_md_saves) 101 = .ok (.getfield 75, 3) := by decide +kernel
theorem d_md_saves_104 : decode (mcode M_md_saves) 104 = .ok (.iload 5, 2) := by decide +kernel
theorem d_md_saves_106 : decode (mcode M_md_saves) 106 = .ok (.iaload, 1) := by decide +kernel
theorem d_md_saves_107 : decode (mcode M_md_saves) 107 = .ok (.invokevirtual 107, 3) := by decide +kernel
theorem d_md_saves_110 : decode (mcode M_md_saves) 110 = .ok (.goto 4, 3) := by decide +kernel
theorem d_md_saves_113 : decode (mcode M_md_saves) 113 = .ok (.iconst 0, 1) := by decide +kernel
theorem d_md_saves_114 : decode (mcode M_md_saves) 114 = .ok (.iadd, 1) := by decide +kernel
theorem d_md_saves_115 : decode (mcode M_md_saves) 115 = .ok (.istore 4, 2) := by decide +kernel
theorem d_md_saves_117 : decode (mcode M_md_saves) 117 = .ok (.iinc 5 1, 3) := by decide +kernel
theorem d_md_saves_120 : decode (mcode M_md_saves) 120 = .ok (.goto (-39), 3) := by decide +kernel
theorem d_md_saves_123 : decode (mcode M_md_saves) 123 = .ok (.iload 4, 2) := by decide +kernel
theorem d_md_saves_125 : decode (mcode M_md_saves) 125 = .ok (.aload_n 0, 1) := by decide +kernel
theorem d_md_saves_126 : decode (mcode M_md_saves) 126 = .ok (.getfield 165, 3) := by decide +kernel
theorem d_md_saves_129 : decode (mcode M_md_saves) 129 = .ok (.if_icmp .le 65, 3) := by decide +kernel
theorem d_md_saves_132 : decode (mcode M_md_saves) 132 = .ok (.aload_n 0, 1) := by decide +kernel
theorem d_md_saves_133 : decode (mcode M_md_saves) 133 = .ok (.iload_n 3, 1) := by decide +kernel
theorem d_md_saves_134 : decode (mcode M_md_saves) 134 = .ok (.iload_n 2, 1) := by decide +kernel
theorem d_md_saves_135 : decode (mcode M_md_saves) 135 = .ok (.iload_n 1, 1) := by decide +kernel
theorem d_md_saves_136 : decode (mcode M_md_saves) 136 = .ok (.invokevirtual 168, 3) := by decide +kernel
theorem d_md_saves_139 : decode (mcode M_md_saves) 139 = .ok (.ifCond .ne 6, 3) := by decide +kernel
theorem d_md_saves_142 : decode (mcode M_md_saves) 142 = .ok (.goto 52, 3) := by decide +kernel
theorem d_md_saves_145 : decode (mcode M_md_saves) 145 = .ok (.aload_n 0, 1) := by decide +kernel
theorem d_md_saves_146 : decode (mcode M_md_saves) 146 = .ok (.iload 4, 2) := by decide +kernel
theorem d_md_saves_148 : decode (mcode M_md_saves) 148 = .ok (.putfield 165, 3) := by decide +kernel
theorem d_md_saves_151 : decode (mcode M_md_saves) 151 = .ok (.aload_n 0, 1) := by decide +kernel
theorem d_md_saves_152 : decode (mcode M_md_saves) 152 = .ok (.iconst 0, 1) := by decide +kernel
theorem d_md_saves_153 : decode (mcode M_md_saves) 153 = .ok (.putfield 171, 3) := by decide +kernel
theorem d_md_saves_156 : decode (mcode M_md_saves) 156 = .ok (.iconst 0, 1) := by decide +kernel
theorem d_md_saves_157 : decode (mcode M_md_saves) 157 = .ok (.istore 5, 2) := by decide +kernel
theorem d_md_saves_159 : decode (mcode M_md_saves) 159 = .ok (.iload 5, 2) := by decide +kernel
theorem d_md_saves_161 : decode (mcode M_md_saves) 161 = .ok (.iload_n 2, 1) := by decide +kernel
theorem d_md_saves_162 : decode (mcode M_md_saves) 162 = .ok (.if_icmp .ge 32, 3) := by decide +kernel
theorem d_md_saves_165 : decode (mcode M_md_saves) 165 = .ok (.aload_n 0, 1) := by decide +kernel
theorem d_md_saves_166 : decode (mcode M_md_saves) 166 = .ok (.dup, 1) := by decide +kernel
theorem d_md_saves_167 : decode (mcode M_md_saves) 167 = .ok (.getfield 171, 3) := by decide +kernel
theorem d_md_saves_170 : decode (mcode M_md_saves) 170 = .ok (.iload_n 3, 1) := by decide +kernel
theorem d_md_saves_171 : decode (mcode M_md_saves) 171 = .ok (.iload 5, 2) := by decide +kernel
theorem d_md_saves_173 : decode (mcode M_md_saves) 173 = .ok (.ishr, 1) := by decide +kernel
theorem d_md_saves_174 : decode (mcode M_md_saves) 174 = .ok (.iconst 1, 1) := by decide +kernel
theorem d_md_saves_175 : decode (mcode M_md_saves) 175 = .ok (.iand, 1) := by decide +kernel
theorem d_md_saves_176 : decode (mcode M_md_saves) 176 = .ok (.aload_n 0, 1) := by decide +kernel
theorem d_md_saves_177 : decode (mcode M_md_saves) 177 = .ok (.getfield 75, 3) := by decide +kernel
theorem d_md_saves_180 : decode (mcode M_md_saves) 180 = .ok (.iload 5, 2) := by decide +kernel
theorem d_md_saves_182 : decode (mcode M_md_saves) 182 = .ok (.iaload, 1) := by decide +kernel
theorem d_md_saves_183 : decode (mcode M_md_saves) 183 = .ok (.ishl, 1) := by decide +kernel
theorem d_md_saves_184 : decode (mcode M_md_saves) 184 = .ok (.ior, 1) := by decide +kernel
theorem d_md_saves_185 : decode (mcode M_md_saves) 185 = .ok (.putfield 171, 3) := by decide +kernel
theorem d_md_saves_188 : decode (mcode M_md_saves) 188 = .ok (.iinc 5 1, 3) := by decide +kernel
theorem d_md_saves_191 : decode (mcode M_md_saves) 191 = .ok (.goto (-32), 3) := by decide +kernel
theorem d_md_saves_194 : decode (mcode M_md_saves) 194 = .ok (.iinc 3 1, 3) := by decide +kernel
theorem d_md_saves_197 : decode (mcode M_md_saves) 197 = .ok (.goto (-129), 3) := by decide +kernel
theorem d_md_saves_200 : decode (mcode M_md_saves) 200 = .ok (.iconst 1, 1) := by decide +kernel
theorem d_md_saves_201 : decode (mcode M_md_saves) 201 = .ok (.ireturn, 1) := by decide +kernel
theorem d_md_saved_0 : decode (mcode M_md_saved) 0 = .ok (.aload_n 0, 1) := by decide +kernel
theorem d_md_saved_1 : decode (mcode M_md_saved) 1 = .ok (.iload_n 1, 1) := by decide +kernel
theorem d_md_saved_2 : decode (mcode M_md_saved) 2 = .ok (.invokevirtual 174, 3) := by decide +kernel
theorem d_md_saved_5 : decode (mcode M_md_saved) 5 = .ok (.ifCond .eq 10, 3) := by decide +kernel
theorem d_md_saved_8 : decode (mcode M_md_saved) 8 = .ok (.aload_n 0, 1) := by decide +kernel
theorem d_md_saved_9 : decode (mcode M_md_saved) 9 = .ok (.getfield 165, 3) := by decide +kernel
theorem d_md_saved_12 : decode (mcode M_md_saved) 12 = .ok (.goto 4, 3) := by decide +kernel
theorem d_md_saved_15 : decode (mcode M_md_saved) 15 = .ok (.iconst (-1), 1) := by decide +kernel
theorem d_md_saved_16 : decode (mcode M_md_saved) 16 = .ok (.ireturn, 1) := by decide +kernel
theorem d_md_heap_0 : decode (mcode M_md_heap) 0 = .ok (.aload_n 0, 1) := by decide +kernel
theorem d_md_heap_1 : decode (mcode M_md_heap) 1 = .ok (.iload_n 1, 1) := by decide +kernel
theorem d_md_heap_2 : decode (mcode M_md_heap) 2 = .ok (.invokevirtual 174, 3) := by decide +kernel
theorem d_md_heap_5 : decode (mcode M_md_heap) 5 = .ok (.ifCond .eq 10, 3) := by decide +kernel
theorem d_md_heap_8 : decode (mcode M_md_heap) 8 = .ok (.aload_n 0, 1) := by decide +kernel
theorem d_md_heap_9 : decode (mcode M_md_heap) 9 = .ok (.getfield 171, 3) := by decide +kernel
theorem d_md_heap_12 : decode (mcode M_md_heap) 12 = .ok (.goto 4, 3) := by decide +kernel
theorem d_md_heap_15 : decode (mcode M_md_heap) 15 = .ok (.iconst (-1), 1) := by decide +kernel
theorem d_md_heap_16 : decode (mcode M_md_heap) 16 = .ok (.ireturn, 1) := by decide +kernel
theorem d_md_works_0 : decode (mcode M_md_works) 0 = .ok (.iload_n 1, 1) := by decide +kernel
theorem d_md_works_1 : decode (mcode M_md_works) 1 = .ok (.iconst 1, 1) := by decide +kernel
theorem d_md_works_2 : decode (mcode M_md_works) 2 = .ok (.sipush 10000, 3) := by decide +kernel
theorem d_md_works_5 : decode (mcode M_md_works) 5 = .ok (.invokestatic 87, 3) := by decide +kernel
theorem d_md_works_8 : decode (mcode M_md_works) 8 = .ok (.ifCond .eq 12, 3) := by decide +kernel
theorem d_md_works_11 : decode (mcode M_md_works) 11 = .ok (.aload_n 0, 1) := by decide +kernel
theorem d_md_works_12 : decode (mcode M_md_works) 12 = .ok (.getfield 155, 3) := by decide +kernel
theorem d_md_works_15 : decode (mcode M_md_works) 15 = .ok (.bipush 20, 2) := by decide +kernel
theorem d_md_works_17 : decode (mcode M_md_works) 17 = .ok (.if_icmp .ne 5, 3) := by decide +kernel
theorem d_md_works_20 : decode (mcode M_md_works) 20 = .ok (.iconst (-1), 1) := by decide +kernel
theorem d_md_works_21 : decode (mcode M_md_works) 21 = .ok (.ireturn, 1) := by decide +kernel
theorem d_md_works_22 : decode (mcode M_md_works) 22 = .ok (.aload_n 0, 1) := by decide +kernel
theorem d_md_works_23 : decode (mcode M_md_works) 23 = .ok (.getfield 62, 3) := by decide +kernel
theorem d_md_works_26 : decode (mcode M_md_works) 26 = .ok (.aload_n 0, 1) := by decide +kernel
theorem d_md_works_27 : decode (mcode M_md_works) 27 = .ok (.getfield 155, 3) := by decide +kernel
theorem d_md_works_30 : decode (mcode M_md_works) 30 = .ok (.iload_n 1, 1) := by decide +kernel
theorem d_md_works_31 : decode (mcode M_md_works) 31 = .ok (.iastore, 1) := by decide +kernel
theorem d_md_works_32 : decode (mcode M_md_works) 32 = .ok (.aload_n 0, 1) := by decide +kernel
theorem d_md_works_33 : decode (mcode M_md_works) 33 = .ok (.dup, 1) := by decide +kernel
theorem d_md_works_34 : decode (mcode M_md_works) 34 = .ok (.getfield 155, 3) := by decide +kernel
theorem d_md_works_37 : decode (mcode M_md_works) 37 = .ok (.iconst 1, 1) := by decide +kernel
theorem d_md_works_38 : decode (mcode M_md_works) 38 = .ok (.iadd, 1) := by decide +kernel
theorem d_md_works_39 : decode (mcode M_md_works) 39 = .ok (.putfield 155, 3) := by decide +kernel
theorem d_md_works_42 : decode (mcode M_md_works) 42 = .ok (.aload_n 0, 1) := by decide +kernel
theorem d_md_works_43 : decode (mcode M_md_works) 43 = .ok (.getfield 155, 3) := by decide +kernel
theorem d_md_works_46 : decode (mcode M_md_works) 46 = .ok (.iconst 1, 1) := by decide +kernel
theorem d_md_works_47 : decode (mcode M_md_works) 47 = .ok (.isub, 1) := by decide +kernel
theorem d_md_works_48 : decode (mcode M_md_works) 48 = .ok (.ireturn, 1) := by decide +kernel
theorem d_md_tax_0 : decode (mcode M_md_tax) 0 = .ok (.iload_n 1, 1) := by decide +kernel
theorem d_md_tax_1 : decode (mcode M_md_tax) 1 = .ok (.iconst 0, 1) := by decide +kernel
theorem d_md_tax_2 : decode (mcode M_md_tax) 2 = .ok (.sipush 5000, 3) := by decide +kernel
theorem d_md_tax_5 : decode (mcode M_md_tax) 5 = .ok (.invokestatic 87, 3) := by decide +kernel
theorem d_md_tax_8 : decode (mcode M_md_tax) 8 = .ok (.ifCond .ne 5, 3) := by decide +kernel
theorem d_md_tax_11 : decode (mcode M_md_tax) 11 = .ok (.iconst 0, 1) := by decide +kernel
theorem d_md_tax_12 : decode (mcode M_md_tax) 12 = .ok (.ireturn, 1) := by decide +kernel
theorem d_md_tax_13 : decode (mcode M_md_tax) 13 = .ok (.aload_n 0, 1) := by decide +kernel
theorem d_md_tax_14 : decode (mcode M_md_tax) 14 = .ok (.iload_n 1, 1) := by decide +kernel
theorem d_md_tax_15 : decode (mcode M_md_tax) 15 = .ok (.putfield 152, 3) := by decide +kernel
theorem d_md_tax_18 : decode (mcode M_md_tax) 18 = .ok (.iconst 1, 1) := by decide +kernel
theorem d_md_tax_19 : decode (mcode M_md_tax) 19 = .ok (.ireturn, 1) := by decide +kernel
theorem d_md_stake_0 : decode (mcode M_md_stake) 0 = .ok (.iload_n 1, 1) := by decide +kernel
end
section
theorem d_md_stake_1 : decode (mcode M_md_stake) 1 = .ok (.invokestatic 93, 3) := by decide +kernel
theorem d_md_stake_4 : decode (mcode M_md_stake) 4 = .ok (.ifCond .eq 24, 3) := by decide +kernel
theorem d_md_stake_7 : decode (mcode M_md_stake) 7 = .ok (.iload_n 2, 1) := by decide +kernel
theorem d_md_stake_8 : decode (mcode M_md_stake) 8 = .ok (.iconst 0, 1) := by decide +kernel
theorem d_md_stake_9 : decode (mcode M_md_stake) 9 = .ok (.bipush 6, 2) := by decide +kernel
theorem d_md_stake_11 : decode (mcode M_md_stake) 11 = .ok (.invokestatic 87, 3) := by decide +kernel
theorem d_md_stake_14 : decode (mcode M_md_stake) 14 = .ok (.ifCond .eq 14, 3) := by decide +kernel
theorem d_md_stake_17 : decode (mcode M_md_stake) 17 = .ok (.iload_n 3, 1) := by decide +kernel
theorem d_md_stake_18 : decode (mcode M_md_stake) 18 = .ok (.iconst (-1), 1) := by decide +kernel
theorem d_md_stake_19 : decode (mcode M_md_stake) 19 = .ok (.sipush 300, 3) := by decide +kernel
theorem d_md_stake_22 : decode (mcode M_md_stake) 22 = .ok (.invokestatic 87, 3) := by decide +kernel
theorem d_md_stake_25 : decode (mcode M_md_stake) 25 = .ok (.ifCond .ne 5, 3) := by decide +kernel
theorem d_md_stake_28 : decode (mcode M_md_stake) 28 = .ok (.iconst 0, 1) := by decide +kernel
theorem d_md_stake_29 : decode (mcode M_md_stake) 29 = .ok (.ireturn, 1) := by decide +kernel
theorem d_md_stake_30 : decode (mcode M_md_stake) 30 = .ok (.aload_n 0, 1) := by decide +kernel
theorem d_md_stake_31 : decode (mcode M_md_stake) 31 = .ok (.getfield 65, 3) := by decide +kernel
theorem d_md_stake_34 : decode (mcode M_md_stake) 34 = .ok (.bipush 8, 2) := by decide +kernel
theorem d_md_stake_36 : decode (mcode M_md_stake) 36 = .ok (.iload_n 1, 1) := by decide +kernel
theorem d_md_stake_37 : decode (mcode M_md_stake) 37 = .ok (.imul, 1) := by decide +kernel
theorem d_md_stake_38 : decode (mcode M_md_stake) 38 = .ok (.iload_n 2, 1) := by decide +kernel
theorem d_md_stake_39 : decode (mcode M_md_stake) 39 = .ok (.iadd, 1) := by decide +kernel
theorem d_md_stake_40 : decode (mcode M_md_stake) 40 = .ok (.iload_n 3, 1) := by decide +kernel
theorem d_md_stake_41 : decode (mcode M_md_stake) 41 = .ok (.iastore, 1) := by decide +kernel
theorem d_md_stake_42 : decode (mcode M_md_stake) 42 = .ok (.iconst 1, 1) := by decide +kernel
theorem d_md_stake_43 : decode (mcode M_md_stake) 43 = .ok (.ireturn, 1) := by decide +kernel
theorem d_md_apart_0 : decode (mcode M_md_apart) 0 = .ok (.iload_n 0, 1) := by decide +kernel
theorem d_md_apart_1 : decode (mcode M_md_apart) 1 = .ok (.iload_n 1, 1) := by decide +kernel
theorem d_md_apart_2 : decode (mcode M_md_apart) 2 = .ok (.if_icmp .ge 9, 3) := by decide +kernel
theorem d_md_apart_5 : decode (mcode M_md_apart) 5 = .ok (.iload_n 1, 1) := by decide +kernel
theorem d_md_apart_6 : decode (mcode M_md_apart) 6 = .ok (.iload_n 0, 1) := by decide +kernel
theorem d_md_apart_7 : decode (mcode M_md_apart) 7 = .ok (.isub, 1) := by decide +kernel
theorem d_md_apart_8 : decode (mcode M_md_apart) 8 = .ok (.goto 6, 3) := by decide +kernel
theorem d_md_apart_11 : decode (mcode M_md_apart) 11 = .ok (.iload_n 0, 1) := by decide +kernel
theorem d_md_apart_12 : decode (mcode M_md_apart) 12 = .ok (.iload_n 1, 1) := by decide +kernel
theorem d_md_apart_13 : decode (mcode M_md_apart) 13 = .ok (.isub, 1) := by decide +kernel
theorem d_md_apart_14 : decode (mcode M_md_apart) 14 = .ok (.ireturn, 1) := by decide +kernel
theorem d_md_quarrels_0 : decode (mcode M_md_quarrels) 0 = .ok (.iload_n 1, 1) := by decide +kernel
theorem d_md_quarrels_1 : decode (mcode M_md_quarrels) 1 = .ok (.invokestatic 93, 3) := by decide +kernel
theorem d_md_quarrels_4 : decode (mcode M_md_quarrels) 4 = .ok (.ifCond .ne 5, 3) := by decide +kernel
theorem d_md_quarrels_7 : decode (mcode M_md_quarrels) 7 = .ok (.iconst (-1), 1) := by decide +kernel
theorem d_md_quarrels_8 : decode (mcode M_md_quarrels) 8 = .ok (.ireturn, 1) := by decide +kernel
theorem d_md_quarrels_9 : decode (mcode M_md_quarrels) 9 = .ok (.iconst 0, 1) := by decide +kernel
theorem d_md_quarrels_10 : decode (mcode M_md_quarrels) 10 = .ok (.istore_n 3, 1) := by decide +kernel
theorem d_md_quarrels_11 : decode (mcode M_md_quarrels) 11 = .ok (.iconst 0, 1) := by decide +kernel
theorem d_md_quarrels_12 : decode (mcode M_md_quarrels) 12 = .ok (.istore 4, 2) := by decide +kernel
theorem d_md_quarrels_14 : decode (mcode M_md_quarrels) 14 = .ok (.iload 4, 2) := by decide +kernel
theorem d_md_quarrels_16 : decode (mcode M_md_quarrels) 16 = .ok (.aload_n 0, 1) := by decide +kernel
theorem d_md_quarrels_17 : decode (mcode M_md_quarrels) 17 = .ok (.getfield 84, 3) := by decide +kernel
theorem d_md_quarrels_20 : decode (mcode M_md_quarrels) 20 = .ok (.if_icmp .ge 39, 3) := by decide +kernel
theorem d_md_quarrels_23 : decode (mcode M_md_quarrels) 23 = .ok (.aload_n 0, 1) := by decide +kernel
theorem d_md_quarrels_24 : decode (mcode M_md_quarrels) 24 = .ok (.getfield 13, 3) := by decide +kernel
theorem d_md_quarrels_27 : decode (mcode M_md_quarrels) 27 = .ok (.iload 4, 2) := by decide +kernel
theorem d_md_quarrels_29 : decode (mcode M_md_quarrels) 29 = .ok (.iaload, 1) := by decide +kernel
theorem d_md_quarrels_30 : decode (mcode M_md_quarrels) 30 = .ok (.iload_n 1, 1) := by decide +kernel
theorem d_md_quarrels_31 : decode (mcode M_md_quarrels) 31 = .ok (.if_icmp .eq 6, 3) := by decide +kernel
theorem d_md_quarrels_34 : decode (mcode M_md_quarrels) 34 = .ok (.goto 19, 3) := by decide +kernel
theorem d_md_quarrels_37 : decode (mcode M_md_quarrels) 37 = .ok (.aload_n 0, 1) := by decide +kernel
theorem d_md_quarrels_38 : decode (mcode M_md_quarrels) 38 = .ok (.getfield 78, 3) := by decide +kernel
theorem d_md_quarrels_41 : decode (mcode M_md_quarrels) 41 = .ok (.iload_n 3, 1) := by decide +kernel
theorem d_md_quarrels_42 : decode (mcode M_md_quarrels) 42 = .ok (.aload_n 0, 1) := by decide +kernel
theorem d_md_quarrels_43 : decode (mcode M_md_quarrels) 43 = .ok (.getfield 16, 3) := by decide +kernel
theorem d_md_quarrels_46 : decode (mcode M_md_quarrels) 46 = .ok (.iload 4, 2) := by decide +kernel
theorem d_md_quarrels_48 : decode (mcode M_md_quarrels) 48 = .ok (.iaload, 1) := by decide +kernel
theorem d_md_quarrels_49 : decode (mcode M_md_quarrels) 49 = .ok (.iastore, 1) := by decide +kernel
theorem d_md_quarrels_50 : decode (mcode M_md_quarrels) 50 = .ok (.iinc 3 1, 3) := by decide +kernel
theorem d_md_quarrels_53 : decode (mcode M_md_quarrels) 53 = .ok (.iinc 4 1, 3) := by decide +kernel
theorem d_md_quarrels_56 : decode (mcode M_md_quarrels) 56 = .ok (.goto (-42), 3) := by decide +kernel
theorem d_md_quarrels_59 : decode (mcode M_md_quarrels) 59 = .ok (.iload_n 3, 1) := by decide +kernel
theorem d_md_quarrels_60 : decode (mcode M_md_quarrels) 60 = .ok (.ifCond .eq 23, 3) := by decide +kernel
theorem d_md_quarrels_63 : decode (mcode M_md_quarrels) 63 = .ok (.iload_n 2, 1) := by decide +kernel
theorem d_md_quarrels_64 : decode (mcode M_md_quarrels) 64 = .ok (.iload_n 3, 1) := by decide +kernel
theorem d_md_quarrels_65 : decode (mcode M_md_quarrels) 65 = .ok (.iconst 2, 1) := by decide +kernel
theorem d_md_quarrels_66 : decode (mcode M_md_quarrels) 66 = .ok (.if_icmp .le 7, 3) := by decide +kernel
theorem d_md_quarrels_69 : decode (mcode M_md_quarrels) 69 = .ok (.iload_n 3, 1) := by decide +kernel
theorem d_md_quarrels_70 : decode (mcode M_md_quarrels) 70 = .ok (.goto 4, 3) := by decide +kernel
theorem d_md_quarrels_73 : decode (mcode M_md_quarrels) 73 = .ok (.iconst 2, 1) := by decide +kernel
theorem d_md_quarrels_74 : decode (mcode M_md_quarrels) 74 = .ok (.sipush 300, 3) := by decide +kernel
theorem d_md_quarrels_77 : decode (mcode M_md_quarrels) 77 = .ok (.invokestatic 87, 3) := by decide +kernel
theorem d_md_quarrels_80 : decode (mcode M_md_quarrels) 80 = .ok (.ifCond .ne 5, 3) := by decide +kernel
theorem d_md_quarrels_83 : decode (mcode M_md_quarrels) 83 = .ok (.iconst (-1), 1) := by decide +kernel
theorem d_md_quarrels_84 : decode (mcode M_md_quarrels) 84 = .ok (.ireturn, 1) := by decide +kernel
theorem d_md_quarrels_85 : decode (mcode M_md_quarrels) 85 = .ok (.iload_n 3, 1) := by decide +kernel
theorem d_md_quarrels_86 : decode (mcode M_md_quarrels) 86 = .ok (.istore 4, 2) := by decide +kernel
theorem d_md_quarrels_88 : decode (mcode M_md_quarrels) 88 = .ok (.iload 4, 2) := by decide +kernel
theorem d_md_quarrels_90 : decode (mcode M_md_quarrels) 90 = .ok (.ifCond .lt 69, 3) := by decide +kernel
theorem d_md_quarrels_93 : decode (mcode M_md_quarrels) 93 = .ok (.iconst 0, 1) := by decide +kernel
theorem d_md_quarrels_94 : decode (mcode M_md_quarrels) 94 = .ok (.istore 5, 2) := by decide +kernel
theorem d_md_quarrels_96 : decode (mcode M_md_quarrels) 96 = .ok (.iload 5, 2) := by decide +kernel
theorem d_md_quarrels_98 : decode (mcode M_md_quarrels) 98 = .ok (.iload_n 2, 1) := by decide +kernel
theorem d_md_quarrels_99 : decode (mcode M_md_quarrels) 99 = .ok (.if_icmp .gt 54, 3) := by decide +kernel
theorem d_md_quarrels_102 : decode (mcode M_md_quarrels) 102 = .ok (.aload_n 0, 1) := by decide +kernel
theorem d_md_quarrels_103 : decode (mcode M_md_quarrels) 103 = .ok (.getfield 81, 3) := by decide +kernel
theorem d_md_quarrels_106 : decode (mcode M_md_quarrels) 106 = .ok (.sipush 301, 3) := by decide +kernel
theorem d_md_quarrels_109 : decode (mcode M_md_quarrels) 109 = .ok (.iload 4, 2) := by decide +kernel
theorem d_md_quarrels_111 : decode (mcode M_md_quarrels) 111 = .ok (.imul, 1) := by decide +kernel
theorem d_md_quarrels_112 : decode (mcode M_md_quarrels) 112 = .ok (.iload 5, 2) := by decide +kernel
theorem d_md_quarrels_114 : decode (mcode M_md_quarrels) 114 = .ok (.iadd, 1) := by decide +kernel
theorem d_md_quarrels_115 : decode (mcode M_md_quarrels) 115 = .ok (.iload 4, 2) := by decide +kernel
theorem d_md_quarrels_117 : decode (mcode M_md_quarrels) 117 = .ok (.iload_n 3, 1) := by decide +kernel
theorem d_md_quarrels_118 : decode (mcode M_md_quarrels) 118 = .ok (.if_icmp .ne 18, 3) := by decide +kernel
theorem d_md_quarrels_121 : decode (mcode M_md_quarrels) 121 = .ok (.iload 5, 2) := by decide +kernel
theorem d_md_quarrels_123 : decode (mcode M_md_quarrels) 123 = .ok (.iload_n 2, 1) := by decide +kernel
theorem d_md_quarrels_124 : decode (mcode M_md_quarrels) 124 = .ok (.if_icmp .ne 7, 3) := by decide +kernel
theorem d_md_quarrels_127 : decode (mcode M_md_quarrels) 127 = .ok (.iconst 0, 1) := by decide +kernel
theorem d_md_quarrels_128 : decode (mcode M_md_quarrels) 128 = .ok (.goto 18, 3) := by decide +kernel
theorem d_md_quarrels_131 : decode (mcode M_md_quarrels) 131 = .ok (.ldc 177, 2) := by decide +kernel
theorem d_md_quarrels_133 : decode (mcode M_md_quarrels) 133 = .ok (.goto 13, 3) := by decide +kernel
theorem d_md_quarrels_136 : decode (mcode M_md_quarrels) 136 = .ok (.aload_n 0, 1) := by decide +kernel
theorem d_md_quarrels_137 : decode (mcode M_md_quarrels) 137 = .ok (.iload_n 1, 1) := by decide +kernel
theorem d_md_quarrels_138 : decode (mcode M_md_quarrels) 138 = .ok (.iload 4, 2) := by decide +kernel
theorem d_md_quarrels_140 : decode (mcode M_md_quarrels) 140 = .ok (.iload 5, 2) := by decide +kernel
theorem d_md_quarrels_142 : decode (mcode M_md_quarrels) 142 = .ok (.iload_n 2, 1) := by decide +kernel
theorem d_md_quarrels_143 : decode (mcode M_md_quarrels) 143 = .ok (.invokevirtual 178, 3) := by decide +kernel
theorem d_md_quarrels_146 : decode (mcode M_md_quarrels) 146 = .ok (.iastore, 1) := by decide +kernel
theorem d_md_quarrels_147 : decode (mcode M_md_quarrels) 147 = .ok (.iinc 5 1, 3) := by decide +kernel
theorem d_md_quarrels_150 : decode (mcode M_md_quarrels) 150 = .ok (.goto (-54), 3) := by decide +kernel
theorem d_md_quarrels_153 : decode (mcode M_md_quarrels) 153 = .ok (.iinc 4 (-1), 3) := by decide +kernel
theorem d_md_quarrels_156 : decode (mcode M_md_quarrels) 156 = .ok (.goto (-68), 3) := by decide +kernel
theorem d_md_quarrels_159 : decode (mcode M_md_quarrels) 159 = .ok (.iload_n 3, 1) := by decide +kernel
theorem d_md_quarrels_160 : decode (mcode M_md_quarrels) 160 = .ok (.ireturn, 1) := by decide +kernel
theorem d_md_from_0 : decode (mcode M_md_from) 0 = .ok (.ldc 177, 2) := by decide +kernel
theorem d_md_from_2 : decode (mcode M_md_from) 2 = .ok (.istore 5, 2) := by decide +kernel
theorem d_md_from_4 : decode (mcode M_md_from) 4 = .ok (.iload_n 3, 1) := by decide +kernel
theorem d_md_from_5 : decode (mcode M_md_from) 5 = .ok (.iconst 1, 1) := by decide +kernel
theorem d_md_from_6 : decode (mcode M_md_from) 6 = .ok (.iadd, 1) := by decide +kernel
theorem d_md_from_7 : decode (mcode M_md_from) 7 = .ok (.istore 6, 2) := by decide +kernel
theorem d_md_from_9 : decode (mcode M_md_from) 9 = .ok (.iload 6, 2) := by decide +kernel
theorem d_md_from_11 : decode (mcode M_md_from) 11 = .ok (.iload 4, 2) := by decide +kernel
theorem d_md_from_13 : decode (mcode M_md_from) 13 = .ok (.if_icmp .gt 33, 3) := by decide +kernel
theorem d_md_from_16 : decode (mcode M_md_from) 16 = .ok (.aload_n 0, 1) := by decide +kernel
theorem d_md_from_17 : decode (mcode M_md_from) 17 = .ok (.iload_n 1, 1) := by decide +kernel
theorem d_md_from_18 : decode (mcode M_md_from) 18 = .ok (.iload_n 2, 1) := by decide +kernel
theorem d_md_from_19 : decode (mcode M_md_from) 19 = .ok (.iload_n 3, 1) := by decide +kernel
theorem d_md_from_20 : decode (mcode M_md_from) 20 = .ok (.iload 6, 2) := by decide +kernel
theorem d_md_from_22 : decode (mcode M_md_from) 22 = .ok (.iload 4, 2) := by decide +kernel
theorem d_md_from_24 : decode (mcode M_md_from) 24 = .ok (.invokevirtual 182, 3) := by decide +kernel
theorem d_md_from_27 : decode (mcode M_md_from) 27 = .ok (.istore 7, 2) := by decide +kernel
theorem d_md_from_29 : decode (mcode M_md_from) 29 = .ok (.iload 7, 2) := by decide +kernel
theorem d_md_from_31 : decode (mcode M_md_from) 31 = .ok (.iload 5, 2) := by decide +kernel
theorem d_md_from_33 : decode (mcode M_md_from) 33 = .ok (.if_icmp .ge 7, 3) := by decide +kernel
theorem d_md_from_36 : decode (mcode M_md_from) 36 = .ok (.iload 7, 2) := by decide +kernel
theorem d_md_from_38 : decode (mcode M_md_from) 38 = .ok (.istore 5, 2) := by decide +kernel
theorem d_md_from_40 : decode (mcode M_md_from) 40 = .ok (.iinc 6 1, 3) := by decide +kernel
theorem d_md_from_43 : decode (mcode M_md_from) 43 = .ok (.goto (-34), 3) := by decide +kernel
theorem d_md_from_46 : decode (mcode M_md_from) 46 = .ok (.iload 5, 2) := by decide +kernel
theorem d_md_from_48 : decode (mcode M_md_from) 48 = .ok (.ireturn, 1) := by decide +kernel
theorem d_md_costs_0 : decode (mcode M_md_costs) 0 = .ok (.aload_n 0, 1) := by decide +kernel
theorem d_md_costs_1 : decode (mcode M_md_costs) 1 = .ok (.getfield 81, 3) := by decide +kernel
theorem d_md_costs_4 : decode (mcode M_md_costs) 4 = .ok (.sipush 301, 3) := by decide +kernel
theorem d_md_costs_7 : decode (mcode M_md_costs) 7 = .ok (.iload_n 2, 1) := by decide +kernel
theorem d_md_costs_8 : decode (mcode M_md_costs) 8 = .ok (.iconst 1, 1) := by decide +kernel
theorem d_md_costs_9 : decode (mcode M_md_costs) 9 = .ok (.iadd, 1) := by decide +kernel
theorem d_md_costs_10 : decode (mcode M_md_costs) 10 = .ok (.imul, 1) := by decide +kernel
theorem d_md_costs_11 : decode (mcode M_md_costs) 11 = .ok (.iload 4, 2) := by decide +kernel
theorem d_md_costs_13 : decode (mcode M_md_costs) 13 = .ok (.iadd, 1) := by decide +kernel
theorem d_md_costs_14 : decode (mcode M_md_costs) 14 = .ok (.iaload, 1) := by decide +kernel
theorem d_md_costs_15 : decode (mcode M_md_costs) 15 = .ok (.istore 6, 2) := by decide +kernel
theorem d_md_costs_17 : decode (mcode M_md_costs) 17 = .ok (.iload 6, 2) := by decide +kernel
theorem d_md_costs_19 : decode (mcode M_md_costs) 19 = .ok (.ldc 177, 2) := by decide +kernel
theorem d_md_costs_21 : decode (mcode M_md_costs) 21 = .ok (.if_icmp .lt 6, 3) := by decide +kernel
theorem d_md_costs_24 : decode (mcode M_md_costs) 24 = .ok (.ldc 177, 2) := by decide +kernel
theorem d_md_costs_26 : decode (mcode M_md_costs) 26 = .ok (.ireturn, 1) := by decide +kernel
theorem d_md_costs_27 : decode (mcode M_md_costs) 27 = .ok (.iload 4, 2) := by decide +kernel
theorem d_md_costs_29 : decode (mcode M_md_costs) 29 = .ok (.iload 5, 2) := by decide +kernel
theorem d_md_costs_31 : decode (mcode M_md_costs) 31 = .ok (.if_icmp .ge 17, 3) := by decide +kernel
theorem d_md_costs_34 : decode (mcode M_md_costs) 34 = .ok (.aload_n 0, 1) := by decide +kernel
theorem d_md_costs_35 : decode (mcode M_md_costs) 35 = .ok (.getfield 65, 3) := by decide +kernel
theorem d_md_costs_38 : decode (mcode M_md_costs) 38 = .ok (.bipush 8, 2) := by decide +kernel
theorem d_md_costs_40 : decode (mcode M_md_costs) 40 = .ok (.iload_n 1, 1) := by decide +kernel
theorem d_md_costs_41 : decode (mcode M_md_costs) 41 = .ok (.imul, 1) := by decide +kernel
theorem d_md_costs_42 : decode (mcode M_md_costs) 42 = .ok (.iload_n 2, 1) := by decide +kernel
theorem d_md_costs_43 : decode (mcode M_md_costs) 43 = .ok (.iadd, 1) := by decide +kernel
theorem d_md_costs_44 : decode (mcode M_md_costs) 44 = .ok (.iaload, 1) := by decide +kernel
theorem d_md_costs_45 : decode (mcode M_md_costs) 45 = .ok (.goto 4, 3) := by decide +kernel
theorem d_md_costs_48 : decode (mcode M_md_costs) 48 = .ok (.iconst (-1), 1) := by decide +kernel
theorem d_md_costs_49 : decode (mcode M_md_costs) 49 = .ok (.istore 7, 2) := by decide +kernel
theorem d_md_costs_51 : decode (mcode M_md_costs) 51 = .ok (.iload 6, 2) := by decide +kernel
theorem d_md_costs_53 : decode (mcode M_md_costs) 53 = .ok (.iload 4, 2) := by decide +kernel
theorem d_md_costs_55 : decode (mcode M_md_costs) 55 = .ok (.iload_n 3, 1) := by decide +kernel
theorem d_md_costs_56 : decode (mcode M_md_costs) 56 = .ok (.isub, 1) := by decide +kernel
theorem d_md_costs_57 : decode (mcode M_md_costs) 57 = .ok (.aload_n 0, 1) := by decide +kernel
theorem d_md_costs_58 : decode (mcode M_md_costs) 58 = .ok (.getfield 78, 3) := by decide +kernel
theorem d_md_costs_61 : decode (mcode M_md_costs) 61 = .ok (.iload_n 2, 1) := by decide +kernel
theorem d_md_costs_62 : decode (mcode M_md_costs) 62 = .ok (.iaload, 1) := by decide +kernel
theorem d_md_costs_63 : decode (mcode M_md_costs) 63 = .ok (.invokestatic 186, 3) := by decide +kernel
theorem d_md_costs_66 : decode (mcode M_md_costs) 66 = .ok (.iadd, 1) := by decide +kernel
theorem d_md_costs_67 : decode (mcode M_md_costs) 67 = .ok (.iload 7, 2) := by decide +kernel
theorem d_md_costs_69 : decode (mcode M_md_costs) 69 = .ok (.iconst (-1), 1) := by decide +kernel
theorem d_md_costs_70 : decode (mcode M_md_costs) 70 = .ok (.if_icmp .ne 7, 3) := by decide +kernel
theorem d_md_costs_73 : decode (mcode M_md_costs) 73 = .ok (.iconst 0, 1) := by decide +kernel
theorem d_md_costs_74 : decode (mcode M_md_costs) 74 = .ok (.goto 10, 3) := by decide +kernel
theorem d_md_costs_77 : decode (mcode M_md_costs) 77 = .ok (.iload 4, 2) := by decide +kernel
theorem d_md_costs_79 : decode (mcode M_md_costs) 79 = .ok (.iload 7, 2) := by decide +kernel
theorem d_md_costs_81 : decode (mcode M_md_costs) 81 = .ok (.invokestatic 186, 3) := by decide +kernel
theorem d_md_costs_84 : decode (mcode M_md_costs) 84 = .ok (.iadd, 1) := by decide +kernel
theorem d_md_costs_85 : decode (mcode M_md_costs) 85 = .ok (.ireturn, 1) := by decide +kernel
theorem d_md_quarrel_0 : decode (mcode M_md_quarrel) 0 = .ok (.aload_n 0, 1) := by decide +kernel
theorem d_md_quarrel_1 : decode (mcode M_md_quarrel) 1 = .ok (.iload_n 1, 1) := by decide +kernel
theorem d_md_quarrel_2 : decode (mcode M_md_quarrel) 2 = .ok (.iload_n 2, 1) := by decide +kernel
theorem d_md_quarrel_3 : decode (mcode M_md_quarrel) 3 = .ok (.invokevirtual 189, 3) := by decide +kernel
theorem d_md_quarrel_6 : decode (mcode M_md_quarrel) 6 = .ok (.iconst (-1), 1) := by decide +kernel
theorem d_md_quarrel_7 : decode (mcode M_md_quarrel) 7 = .ok (.if_icmp .ne 7, 3) := by decide +kernel
theorem d_md_quarrel_10 : decode (mcode M_md_quarrel) 10 = .ok (.iconst (-1), 1) := by decide +kernel
theorem d_md_quarrel_11 : decode (mcode M_md_quarrel) 11 = .ok (.goto 9, 3) := by decide +kernel
theorem d_md_quarrel_14 : decode (mcode M_md_quarrel) 14 = .ok (.aload_n 0, 1) := by decide +kernel
theorem d_md_quarrel_15 : decode (mcode M_md_quarrel) 15 = .ok (.getfield 81, 3) := by decide +kernel
theorem d_md_quarrel_18 : decode (mcode M_md_quarrel) 18 = .ok (.iconst 0, 1) := by decide +kernel
theorem d_md_quarrel_19 : decode (mcode M_md_quarrel) 19 = .ok (.iaload, 1) := by decide +kernel
theorem d_md_quarrel_20 : decode (mcode M_md_quarrel) 20 = .ok (.ireturn, 1) := by decide +kernel
theorem d_md_border_0 : decode (mcode M_md_border) 0 = .ok (.aload_n 0, 1) := by decide +kernel
theorem d_md_border_1 : decode (mcode M_md_border) 1 = .ok (.iload_n 1, 1) := by decide +kernel
theorem d_md_border_2 : decode (mcode M_md_border) 2 = .ok (.iload_n 2, 1) := by decide +kernel
theorem d_md_border_3 : decode (mcode M_md_border) 3 = .ok (.invokevirtual 189, 3) := by decide +kernel
theorem d_md_border_6 : decode (mcode M_md_border) 6 = .ok (.istore 4, 2) := by decide +kernel
theorem d_md_border_8 : decode (mcode M_md_border) 8 = .ok (.iload_n 3, 1) := by decide +kernel
theorem d_md_border_9 : decode (mcode M_md_border) 9 = .ok (.iconst 0, 1) := by decide +kernel
theorem d_md_border_10 : decode (mcode M_md_border) 10 = .ok (.iload 4, 2) := by decide +kernel
theorem d_md_border_12 : decode (mcode M_md_border) 12 = .ok (.iconst 2, 1) := by decide +kernel
theorem d_md_border_13 : decode (mcode M_md_border) 13 = .ok (.isub, 1) := by decide +kernel
theorem d_md_border_14 : decode (mcode M_md_border) 14 = .ok (.invokestatic 87, 3) := by decide +kernel
theorem d_md_border_17 : decode (mcode M_md_border) 17 = .ok (.ifCond .ne 5, 3) := by decide +kernel
theorem d_md_border_20 : decode (mcode M_md_border) 20 = .ok (.iconst (-1), 1) := by decide +kernel
theorem d_md_border_21 : decode (mcode M_md_border) 21 = .ok (.ireturn, 1) := by decide +kernel
theorem d_md_border_22 : decode (mcode M_md_border) 22 = .ok (.iconst 0, 1) := by decide +kernel
theorem d_md_border_23 : decode (mcode M_md_border) 23 = .ok (.istore 5, 2) := by decide +kernel
theorem d_md_border_25 : decode (mcode M_md_border) 25 = .ok (.iconst 0, 1) := by decide +kernel
theorem d_md_border_26 : decode (mcode M_md_border) 26 = .ok (.istore 6, 2) := by decide +kernel
theorem d_md_border_28 : decode (mcode M_md_border) 28 = .ok (.iload 6, 2) := by decide +kernel
theorem d_md_border_30 : decode (mcode M_md_border) 30 = .ok (.iload_n 3, 1) := by decide +kernel
theorem d_md_border_31 : decode (mcode M_md_border) 31 = .ok (.if_icmp .gt 54, 3) := by decide +kernel
theorem d_md_border_34 : decode (mcode M_md_border) 34 = .ok (.iload 5, 2) := by decide +kernel
theorem d_md_border_36 : decode (mcode M_md_border) 36 = .ok (.iconst 1, 1) := by decide +kernel
theorem d_md_border_37 : decode (mcode M_md_border) 37 = .ok (.iadd, 1) := by decide +kernel
theorem d_md_border_38 : decode (mcode M_md_border) 38 = .ok (.istore 7, 2) := by decide +kernel
theorem d_md_border_40 : decode (mcode M_md_border) 40 = .ok (.aload_n 0, 1) := by decide +kernel
theorem d_md_border_41 : decode (mcode M_md_border) 41 = .ok (.iload_n 1, 1) := by decide +kernel
theorem d_md_border_42 : decode (mcode M_md_border) 42 = .ok (.iload 6, 2) := by decide +kernel
theorem d_md_border_44 : decode (mcode M_md_border) 44 = .ok (.iload 5, 2) := by decide +kernel
theorem d_md_border_46 : decode (mcode M_md_border) 46 = .ok (.iload 7, 2) := by decide +kernel
theorem d_md_border_48 : decode (mcode M_md_border) 48 = .ok (.iload_n 2, 1) := by decide +kernel
theorem d_md_border_49 : decode (mcode M_md_border) 49 = .ok (.invokevirtual 182, 3) := by decide +kernel
theorem d_md_border_52 : decode (mcode M_md_border) 52 = .ok (.aload_n 0, 1) := by decide +kernel
theorem d_md_border_53 : decode (mcode M_md_border) 53 = .ok (.getfield 81, 3) := by decide +kernel
theorem d_md_border_56 : decode (mcode M_md_border) 56 = .ok (.sipush 301, 3) := by decide +kernel
theorem d_md_border_59 : decode (mcode M_md_border) 59 = .ok (.iload 6, 2) := by decide +kernel
theorem d_md_border_61 : decode (mcode M_md_border) 61 = .ok (.imul, 1) := by decide +kernel
theorem d_md_border_62 : decode (mcode M_md_border) 62 = .ok (.iload 5, 2) := by decide +kernel
theorem d_md_border_64 : decode (mcode M_md_border) 64 = .ok (.iadd, 1) := by decide +kernel
theorem d_md_border_65 : decode (mcode M_md_border) 65 = .ok (.iaload, 1) := by decide +kernel
theorem d_md_border_66 : decode (mcode M_md_border) 66 = .ok (.if_icmp .eq 9, 3) := by decide +kernel
theorem d_md_border_69 : decode (mcode M_md_border) 69 = .ok (.iinc 7 1, 3) := by decide +kernel
theorem d_md_border_72 : decode (mcode M_md_border) 72 = .ok (.goto (-32), 3) := by decide +kernel
theorem d_md_border_75 : decode (mcode M_md_border) 75 = .ok (.iload 7, 2) := by decide +kernel
theorem d_md_border_77 : decode (mcode M_md_border) 77 = .ok (.istore 5, 2) := by decide +kernel
theorem d_md_border_79 : decode (mcode M_md_border) 79 = .ok (.iinc 6 1, 3) := by decide +kernel
theorem d_md_border_82 : decode (mcode M_md_border) 82 = .ok (.goto (-54), 3) := by decide +kernel
theorem d_md_border_85 : decode (mcode M_md_border) 85 = .ok (.iload 5, 2) := by decide +kernel
theorem d_md_border_87 : decode (mcode M_md_border) 87 = .ok (.ireturn, 1) := by decide +kernel
theorem d_md_wallsOf_0 : decode (mcode M_md_wallsOf) 0 = .ok (.aload_n 0, 1) := by decide +kernel
theorem d_md_wallsOf_1 : decode (mcode M_md_wallsOf) 1 = .ok (.iload_n 1, 1) := by decide +kernel
theorem d_md_wallsOf_2 : decode (mcode M_md_wallsOf) 2 = .ok (.invokevirtual 132, 3) := by decide +kernel
theorem d_md_wallsOf_5 : decode (mcode M_md_wallsOf) 5 = .ok (.iconst (-1), 1) := by decide +kernel
theorem d_md_wallsOf_6 : decode (mcode M_md_wallsOf) 6 = .ok (.if_icmp .eq 21, 3) := by decide +kernel
theorem d_md_wallsOf_9 : decode (mcode M_md_wallsOf) 9 = .ok (.aload_n 0, 1) := by decide +kernel
theorem d_md_wallsOf_10 : decode (mcode M_md_wallsOf) 10 = .ok (.getfield 46, 3) := by decide +kernel
theorem d_md_wallsOf_13 : decode (mcode M_md_wallsOf) 13 = .ok (.aload_n 0, 1) := by decide +kernel
theorem d_md_wallsOf_14 : decode (mcode M_md_wallsOf) 14 = .ok (.iload_n 1, 1) := by decide +kernel
theorem d_md_wallsOf_15 : decode (mcode M_md_wallsOf) 15 = .ok (.invokevirtual 132, 3) := by decide +kernel
theorem d_md_wallsOf_18 : decode (mcode M_md_wallsOf) 18 = .ok (.iaload, 1) := by decide +kernel
theorem d_md_wallsOf_19 : decode (mcode M_md_wallsOf) 19 = .ok (.iconst (-1), 1) := by decide +kernel
theorem d_md_wallsOf_20 : decode (mcode M_md_wallsOf) 20 = .ok (.if_icmp .eq 7, 3) := by decide +kernel
theorem d_md_wallsOf_23 : decode (mcode M_md_wallsOf) 23 = .ok (.iconst 1, 1) := by decide +kernel
theorem d_md_wallsOf_24 : decode (mcode M_md_wallsOf) 24 = .ok (.goto 4, 3) := by decide +kernel
theorem d_md_wallsOf_27 : decode (mcode M_md_wallsOf) 27 = .ok (.iconst 0, 1) := by decide +kernel
theorem d_md_wallsOf_28 : decode (mcode M_md_wallsOf) 28 = .ok (.istore_n 2, 1) := by decide +kernel
theorem d_md_wallsOf_29 : decode (mcode M_md_wallsOf) 29 = .ok (.iload_n 2, 1) := by decide +kernel
theorem d_md_wallsOf_30 : decode (mcode M_md_wallsOf) 30 = .ok (.aload_n 0, 1) := by decide +kernel
theorem d_md_wallsOf_31 : decode (mcode M_md_wallsOf) 31 = .ok (.getfield 46, 3) := by decide +kernel
theorem d_md_wallsOf_34 : decode (mcode M_md_wallsOf) 34 = .ok (.iload_n 1, 1) := by decide +kernel
theorem d_md_wallsOf_35 : decode (mcode M_md_wallsOf) 35 = .ok (.iaload, 1) := by decide +kernel
theorem d_md_wallsOf_36 : decode (mcode M_md_wallsOf) 36 = .ok (.iconst (-1), 1) := by decide +kernel
theorem d_md_wallsOf_37 : decode (mcode M_md_wallsOf) 37 = .ok (.if_icmp .eq 7, 3) := by decide +kernel
theorem d_md_wallsOf_40 : decode (mcode M_md_wallsOf) 40 = .ok (.iconst 1, 1) := by decide +kernel
theorem d_md_wallsOf_41 : decode (mcode M_md_wallsOf) 41 = .ok (.goto 4, 3) := by decide +kernel
theorem d_md_wallsOf_44 : decode (mcode M_md_wallsOf) 44 = .ok (.iconst 0, 1) := by decide +kernel
theorem d_md_wallsOf_45 : decode (mcode M_md_wallsOf) 45 = .ok (.iadd, 1) := by decide +kernel
theorem d_md_wallsOf_46 : decode (mcode M_md_wallsOf) 46 = .ok (.ireturn, 1) := by decide +kernel
theorem d_md_told_0 : decode (mcode M_md_told) 0 = .ok (.aload_n 0, 1) := by decide +kernel
theorem d_md_told_1 : decode (mcode M_md_told) 1 = .ok (.iload_n 1, 1) := by decide +kernel
theorem d_md_told_2 : decode (mcode M_md_told) 2 = .ok (.invokevirtual 101, 3) := by decide +kernel
theorem d_md_told_5 : decode (mcode M_md_told) 5 = .ok (.ifCond .ne 5, 3) := by decide +kernel
theorem d_md_told_8 : decode (mcode M_md_told) 8 = .ok (.iconst (-1), 1) := by decide +kernel
theorem d_md_told_9 : decode (mcode M_md_told) 9 = .ok (.ireturn, 1) := by decide +kernel
theorem d_md_told_10 : decode (mcode M_md_told) 10 = .ok (.iload_n 2, 1) := by decide +kernel
theorem d_md_told_11 : decode (mcode M_md_told) 11 = .ok (.tableswitch 89 0 6 #[41, 48, 55, 62, 69, 76, 83], 41) := by decide +kernel
theorem d_md_told_52 : decode (mcode M_md_told) 52 = .ok (.aload_n 0, 1) := by decide +kernel
theorem d_md_told_53 : decode (mcode M_md_told) 53 = .ok (.getfield 22, 3) := by decide +kernel
theorem d_md_told_56 : decode (mcode M_md_told) 56 = .ok (.iload_n 1, 1) := by decide +kernel
theorem d_md_told_57 : decode (mcode M_md_told) 57 = .ok (.iaload, 1) := by decide +kernel
theorem d_md_told_58 : decode (mcode M_md_told) 58 = .ok (.ireturn, 1) := by decide +kernel
theorem d_md_told_59 : decode (mcode M_md_told) 59 = .ok (.aload_n 0, 1) := by decide +kernel
theorem d_md_told_60 : decode (mcode M_md_told) 60 = .ok (.getfield 16, 3) := by decide +kernel
theorem d_md_told_63 : decode (mcode M_md_told) 63 = .ok (.iload_n 1, 1) := by decide +kernel
theorem d_md_told_64 : decode (mcode M_md_told) 64 = .ok (.iaload, 1) := by decide +kernel
theorem d_md_told_65 : decode (mcode M_md_told) 65 = .ok (.ireturn, 1) := by decide +kernel
theorem d_md_told_66 : decode (mcode M_md_told) 66 = .ok (.aload_n 0, 1) := by decide +kernel
theorem d_md_told_67 : decode (mcode M_md_told) 67 = .ok (.getfield 19, 3) := by decide +kernel
theorem d_md_told_70 : decode (mcode M_md_told) 70 = .ok (.iload_n 1, 1) := by decide +kernel
theorem d_md_told_71 : decode (mcode M_md_told) 71 = .ok (.iaload, 1) := by decide +kernel
theorem d_md_told_72 : decode (mcode M_md_told) 72 = .ok (.ireturn, 1) := by decide +kernel
theorem d_md_told_73 : decode (mcode M_md_told) 73 = .ok (.aload_n 0, 1) := by decide +kernel
theorem d_md_told_74 : decode (mcode M_md_told) 74 = .ok (.getfield 25, 3) := by decide +kernel
theorem d_md_told_77 : decode (mcode M_md_told) 77 = .ok (.iload_n 1, 1) := by decide +kernel
theorem d_md_told_78 : decode (mcode M_md_told) 78 = .ok (.iaload, 1) := by decide +kernel
theorem d_md_told_79 : decode (mcode M_md_told) 79 = .ok (.ireturn, 1) := by decide +kernel
theorem d_md_told_80 : decode (mcode M_md_told) 80 = .ok (.aload_n 0, 1) := by decide +kernel
theorem d_md_told_81 : decode (mcode M_md_told) 81 = .ok (.getfield 37, 3) := by decide +kernel
theorem d_md_told_84 : decode (mcode M_md_told) 84 = .ok (.iload_n 1, 1) := by decide +kernel
theorem d_md_told_85 : decode (mcode M_md_told) 85 = .ok (.iaload, 1) := by decide +kernel
theorem d_md_told_86 : decode (mcode M_md_told) 86 = .ok (.ireturn, 1) := by decide +kernel
theorem d_md_told_87 : decode (mcode M_md_told) 87 = .ok (.aload_n 0, 1) := by decide +kernel
theorem d_md_told_88 : decode (mcode M_md_told) 88 = .ok (.getfield 40, 3) := by decide +kernel
theorem d_md_told_91 : decode (mcode M_md_told) 91 = .ok (.iload_n 1, 1) := by decide +kernel
theorem d_md_told_92 : decode (mcode M_md_told) 92 = .ok (.iaload, 1) := by decide +kernel
theorem d_md_told_93 : decode (mcode M_md_told) 93 = .ok (.ireturn, 1) := by decide +kernel
theorem d_md_told_94 : decode (mcode M_md_told) 94 = .ok (.aload_n 0, 1) := by decide +kernel
theorem d_md_told_95 : decode (mcode M_md_told) 95 = .ok (.iload_n 1, 1) := by decide +kernel
theorem d_md_told_96 : decode (mcode M_md_told) 96 = .ok (.invokevirtual 192, 3) := by decide +kernel
theorem d_md_told_99 : decode (mcode M_md_told) 99 = .ok (.ireturn, 1) := by decide +kernel
theorem d_md_told_100 : decode (mcode M_md_told) 100 = .ok (.iconst (-1), 1) := by decide +kernel
theorem d_md_told_101 : decode (mcode M_md_told) 101 = .ok (.ireturn, 1) := by decide +kernel
theorem d_md_chain_0 : decode (mcode M_md_chain) 0 = .ok (.aload_n 0, 1) := by decide +kernel
theorem d_md_chain_1 : decode (mcode M_md_chain) 1 = .ok (.iload_n 1, 1) := by decide +kernel
theorem d_md_chain_2 : decode (mcode M_md_chain) 2 = .ok (.iload_n 2, 1) := by decide +kernel
theorem d_md_chain_3 : decode (mcode M_md_chain) 3 = .ok (.invokevirtual 110, 3) := by decide +kernel
theorem d_md_chain_6 : decode (mcode M_md_chain) 6 = .ok (.ifCond .ne 5, 3) := by decide +kernel
theorem d_md_chain_9 : decode (mcode M_md_chain) 9 = .ok (.iconst (-1), 1) := by decide +kernel
theorem d_md_chain_10 : decode (mcode M_md_chain) 10 = .ok (.ireturn, 1) := by decide +kernel
theorem d_md_chain_11 : decode (mcode M_md_chain) 11 = .ok (.iload_n 3, 1) := by decide +kernel
theorem d_md_chain_12 : decode (mcode M_md_chain) 12 = .ok (.tableswitch 69 0 2 #[28, 39, 50], 28) := by decide +kernel
theorem d_md_chain_40 : decode (mcode M_md_chain) 40 = .ok (.aload_n 0, 1) := by decide +kernel
theorem d_md_chain_41 : decode (mcode M_md_chain) 41 = .ok (.getfield 28, 3) := by decide +kernel
theorem d_md_chain_44 : decode (mcode M_md_chain) 44 = .ok (.iconst 4, 1) := by decide +kernel
theorem d_md_chain_45 : decode (mcode M_md_chain) 45 = .ok (.iload_n 1, 1) := by decide +kernel
theorem d_md_chain_46 : decode (mcode M_md_chain) 46 = .ok (.imul, 1) := by decide +kernel
theorem d_md_chain_47 : decode (mcode M_md_chain) 47 = .ok (.iload_n 2, 1) := by decide +kernel
theorem d_md_chain_48 : decode (mcode M_md_chain) 48 = .ok (.iadd, 1) := by decide +kernel
theorem d_md_chain_49 : decode (mcode M_md_chain) 49 = .ok (.iaload, 1) := by decide +kernel
theorem d_md_chain_50 : decode (mcode M_md_chain) 50 = .ok (.ireturn, 1) := by decide +kernel
theorem d_md_chain_51 : decode (mcode M_md_chain) 51 = .ok (.aload_n 0, 1) := by decide +kernel
theorem d_md_chain_52 : decode (mcode M_md_chain) 52 = .ok (.getfield 31, 3) := by decide +kernel
theorem d_md_chain_55 : decode (mcode M_md_chain) 55 = .ok (.iconst 4, 1) := by decide +kernel
theorem d_md_chain_56 : decode (mcode M_md_chain) 56 = .ok (.iload_n 1, 1) := by decide +kernel
theorem d_md_chain_57 : decode (mcode M_md_chain) 57 = .ok (.imul, 1) := by decide +kernel
theorem d_md_chain_58 : decode (mcode M_md_chain) 58 = .ok (.iload_n 2, 1) := by decide +kernel
theorem d_md_chain_59 : decode (mcode M_md_chain) 59 = .ok (.iadd, 1) := by decide +kernel
theorem d_md_chain_60 : decode (mcode M_md_chain) 60 = .ok (.iaload, 1) := by decide +kernel
theorem d_md_chain_61 : decode (mcode M_md_chain) 61 = .ok (.ireturn, 1) := by decide +kernel
theorem d_md_chain_62 : decode (mcode M_md_chain) 62 = .ok (.iload_n 2, 1) := by decide +kernel
theorem d_md_chain_63 : decode (mcode M_md_chain) 63 = .ok (.ifCond .ne 7, 3) := by decide +kernel
theorem d_md_chain_66 : decode (mcode M_md_chain) 66 = .ok (.iconst 0, 1) := by decide +kernel
theorem d_md_chain_67 : decode (mcode M_md_chain) 67 = .ok (.goto 13, 3) := by decide +kernel
theorem d_md_chain_70 : decode (mcode M_md_chain) 70 = .ok (.aload_n 0, 1) := by decide +kernel
theorem d_md_chain_71 : decode (mcode M_md_chain) 71 = .ok (.getfield 34, 3) := by decide +kernel
theorem d_md_chain_74 : decode (mcode M_md_chain) 74 = .ok (.iconst 4, 1) := by decide +kernel
theorem d_md_chain_75 : decode (mcode M_md_chain) 75 = .ok (.iload_n 1, 1) := by decide +kernel
theorem d_md_chain_76 : decode (mcode M_md_chain) 76 = .ok (.imul, 1) := by decide +kernel
theorem d_md_chain_77 : decode (mcode M_md_chain) 77 = .ok (.iload_n 2, 1) := by decide +kernel
theorem d_md_chain_78 : decode (mcode M_md_chain) 78 = .ok (.iadd, 1) := by decide +kernel
theorem d_md_chain_79 : decode (mcode M_md_chain) 79 = .ok (.iaload, 1) := by decide +kernel
theorem d_md_chain_80 : decode (mcode M_md_chain) 80 = .ok (.ireturn, 1) := by decide +kernel
theorem d_md_chain_81 : decode (mcode M_md_chain) 81 = .ok (.iconst (-1), 1) := by decide +kernel
theorem d_md_chain_82 : decode (mcode M_md_chain) 82 = .ok (.ireturn, 1) := by decide +kernel
theorem d_md_has_0 : decode (mcode M_md_has) 0 = .ok (.iload_n 1, 1) := by decide +kernel
theorem d_md_has_1 : decode (mcode M_md_has) 1 = .ok (.iconst 0, 1) := by decide +kernel
theorem d_md_has_2 : decode (mcode M_md_has) 2 = .ok (.bipush 19, 2) := by decide +kernel
theorem d_md_has_4 : decode (mcode M_md_has) 4 = .ok (.invokestatic 87, 3) := by decide +kernel
theorem d_md_has_7 : decode (mcode M_md_has) 7 = .ok (.ifCond .eq 12, 3) := by decide +kernel
theorem d_md_has_10 : decode (mcode M_md_has) 10 = .ok (.aload_n 0, 1) := by decide +kernel
theorem d_md_has_11 : decode (mcode M_md_has) 11 = .ok (.getfield 9, 3) := by decide +kernel
theorem d_md_has_14 : decode (mcode M_md_has) 14 = .ok (.iload_n 1, 1) := by decide +kernel
theorem d_md_has_15 : decode (mcode M_md_has) 15 = .ok (.iaload, 1) := by decide +kernel
theorem d_md_has_16 : decode (mcode M_md_has) 16 = .ok (.goto 5, 3) := by decide +kernel
theorem d_md_has_19 : decode (mcode M_md_has) 19 = .ok (.ldc 92, 2) := by decide +kernel
theorem d_md_has_21 : decode (mcode M_md_has) 21 = .ok (.ireturn, 1) := by decide +kernel
theorem d_md_countOf_0 : decode (mcode M_md_countOf) 0 = .ok (.iconst 0, 1) := by decide +kernel
theorem d_md_countOf_1 : decode (mcode M_md_countOf) 1 = .ok (.istore_n 2, 1) := by decide +kernel
theorem d_md_countOf_2 : decode (mcode M_md_countOf) 2 = .ok (.iconst 0, 1) := by decide +kernel
theorem d_md_countOf_3 : decode (mcode M_md_countOf) 3 = .ok (.istore_n 3, 1) := by decide +kernel
theorem d_md_countOf_4 : decode (mcode M_md_countOf) 4 = .ok (.iload_n 3, 1) := by decide +kernel
theorem d_md_countOf_5 : decode (mcode M_md_countOf) 5 = .ok (.aload_n 0, 1) := by decide +kernel
theorem d_md_countOf_6 : decode (mcode M_md_countOf) 6 = .ok (.getfield 84, 3) := by decide +kernel
theorem d_md_countOf_9 : decode (mcode M_md_countOf) 9 = .ok (.if_icmp .ge 27, 3) := by decide +kernel
theorem d_md_countOf_12 : decode (mcode M_md_countOf) 12 = .ok (.iload_n 2, 1) := by decide +kernel
theorem d_md_countOf_13 : decode (mcode M_md_countOf) 13 = .ok (.aload_n 0, 1) := by decide +kernel
theorem d_md_countOf_14 : decode (mcode M_md_countOf) 14 = .ok (.getfield 22, 3) := by decide +kernel
theorem d_md_countOf_17 : decode (mcode M_md_countOf) 17 = .ok (.iload_n 3, 1) := by decide +kernel
theorem d_md_countOf_18 : decode (mcode M_md_countOf) 18 = .ok (.iaload, 1) := by decide +kernel
theorem d_md_countOf_19 : decode (mcode M_md_countOf) 19 = .ok (.iload_n 1, 1) := by decide +kernel
theorem d_md_countOf_20 : decode (mcode M_md_countOf) 20 = .ok (.if_icmp .ne 7, 3) := by decide +kernel
theorem d_md_countOf_23 : decode (mcode M_md_countOf) 23 = .ok (.iconst 1, 1) := by decide +kernel
theorem d_md_countOf_24 : decode (mcode M_md_countOf) 24 = .ok (.goto 4, 3) := by decide +kernel
theorem d_md_countOf_27 : decode (mcode M_md_countOf) 27 = .ok (.iconst 0, 1) := by decide +kernel
theorem d_md_countOf_28 : decode (mcode M_md_countOf) 28 = .ok (.iadd, 1) := by decide +kernel
theorem d_md_countOf_29 : decode (mcode M_md_countOf) 29 = .ok (.istore_n 2, 1) := by decide +kernel
theorem d_md_countOf_30 : decode (mcode M_md_countOf) 30 = .ok (.iinc 3 1, 3) := by decide +kernel
theorem d_md_countOf_33 : decode (mcode M_md_countOf) 33 = .ok (.goto (-29), 3) := by decide +kernel
theorem d_md_countOf_36 : decode (mcode M_md_countOf) 36 = .ok (.iload_n 2, 1) := by decide +kernel
theorem d_md_countOf_37 : decode (mcode M_md_countOf) 37 = .ok (.ireturn, 1) := by decide +kernel
theorem d_md_count_0 : decode (mcode M_md_count) 0 = .ok (.iconst 0, 1) := by decide +kernel
theorem d_md_count_1 : decode (mcode M_md_count) 1 = .ok (.istore_n 2, 1) := by decide +kernel
theorem d_md_count_2 : decode (mcode M_md_count) 2 = .ok (.iload_n 1, 1) := by decide +kernel
theorem d_md_count_3 : decode (mcode M_md_count) 3 = .ok (.tableswitch 118 0 7 #[45, 50, 55, 61, 67, 73, 78, 113], 45) := by decide +kernel
theorem d_md_count_48 : decode (mcode M_md_count) 48 = .ok (.aload_n 0, 1) := by decide +kernel
theorem d_md_count_49 : decode (mcode M_md_count) 49 = .ok (.getfield 129, 3) := by decide +kernel
theorem d_md_count_52 : decode (mcode M_md_count) 52 = .ok (.ireturn, 1) := by decide +kernel
theorem d_md_count_53 : decode (mcode M_md_count) 53 = .ok (.aload_n 0, 1) := by decide +kernel
theorem d_md_count_54 : decode (mcode M_md_count) 54 = .ok (.getfield 84, 3) := by decide +kernel
theorem d_md_count_57 : decode (mcode M_md_count) 57 = .ok (.ireturn, 1) := by decide +kernel
theorem d_md_count_58 : decode (mcode M_md_count) 58 = .ok (.aload_n 0, 1) := by decide +kernel
theorem d_md_count_59 : decode (mcode M_md_count) 59 = .ok (.iconst 1, 1) := by decide +kernel
theorem d_md_count_60 : decode (mcode M_md_count) 60 = .ok (.invokevirtual 195, 3) := by decide +kernel
theorem d_md_count_63 : decode (mcode M_md_count) 63 = .ok (.ireturn, 1) := by decide +kernel
theorem d_md_count_64 : decode (mcode M_md_count) 64 = .ok (.aload_n 0, 1) := by decide +kernel
theorem d_md_count_65 : decode (mcode M_md_count) 65 = .ok (.iconst 2, 1) := by decide +kernel
theorem d_md_count_66 : decode (mcode M_md_count) 66 = .ok (.invokevirtual 195, 3) := by decide +kernel
theorem d_md_count_69 : decode (mcode M_md_count) 69 = .ok (.ireturn, 1) := by decide +kernel
theorem d_md_count_70 : decode (mcode M_md_count) 70 = .ok (.aload_n 0, 1) := by decide +kernel
theorem d_md_count_71 : decode (mcode M_md_count) 71 = .ok (.iconst 3, 1) := by decide +kernel
theorem d_md_count_72 : decode (mcode M_md_count) 72 = .ok (.invokevirtual 195, 3) := by decide +kernel
theorem d_md_count_75 : decode (mcode M_md_count) 75 = .ok (.ireturn, 1) := by decide +kernel
theorem d_md_count_76 : decode (mcode M_md_count) 76 = .ok (.aload_n 0, 1) := by decide +kernel
theorem d_md_count_77 : decode (mcode M_md_count) 77 = .ok (.getfield 149, 3) := by decide +kernel
theorem d_md_count_80 : decode (mcode M_md_count) 80 = .ok (.ireturn, 1) := by decide +kernel
theorem d_md_count_81 : decode (mcode M_md_count) 81 = .ok (.iconst 0, 1) := by decide +kernel
theorem d_md_count_82 : decode (mcode M_md_count) 82 = .ok (.istore_n 3, 1) := by decide +kernel
theorem d_md_count_83 : decode (mcode M_md_count) 83 = .ok (.iload_n 3, 1) := by decide +kernel
theorem d_md_count_84 : decode (mcode M_md_count) 84 = .ok (.aload_n 0, 1) := by decide +kernel
theorem d_md_count_85 : decode (mcode M_md_count) 85 = .ok (.getfield 155, 3) := by decide +kernel
theorem d_md_count_88 : decode (mcode M_md_count) 88 = .ok (.if_icmp .ge 26, 3) := by decide +kernel
theorem d_md_count_91 : decode (mcode M_md_count) 91 = .ok (.iload_n 2, 1) := by decide +kernel
theorem d_md_count_92 : decode (mcode M_md_count) 92 = .ok (.aload_n 0, 1) := by decide +kernel
theorem d_md_count_93 : decode (mcode M_md_count) 93 = .ok (.getfield 62, 3) := by decide +kernel
theorem d_md_count_96 : decode (mcode M_md_count) 96 = .ok (.iload_n 3, 1) := by decide +kernel
theorem d_md_count_97 : decode (mcode M_md_count) 97 = .ok (.iaload, 1) := by decide +kernel
theorem d_md_count_98 : decode (mcode M_md_count) 98 = .ok (.ifCond .ne 7, 3) := by decide +kernel
theorem d_md_count_101 : decode (mcode M_md_count) 101 = .ok (.iconst 1, 1) := by decide +kernel
theorem d_md_count_102 : decode (mcode M_md_count) 102 = .ok (.goto 4, 3) := by decide +kernel
theorem d_md_count_105 : decode (mcode M_md_count) 105 = .ok (.iconst 0, 1) := by decide +kernel
theorem d_md_count_106 : decode (mcode M_md_count) 106 = .ok (.iadd, 1) := by decide +kernel
theorem d_md_count_107 : decode (mcode M_md_count) 107 = .ok (.istore_n 2, 1) := by decide +kernel
theorem d_md_count_108 : decode (mcode M_md_count) 108 = .ok (.iinc 3 1, 3) := by decide +kernel
theorem d_md_count_111 : decode (mcode M_md_count) 111 = .ok (.goto (-28), 3) := by decide +kernel
theorem d_md_count_114 : decode (mcode M_md_count) 114 = .ok (.iload_n 2, 1) := by decide +kernel
theorem d_md_count_115 : decode (mcode M_md_count) 115 = .ok (.ireturn, 1) := by decide +kernel
theorem d_md_count_116 : decode (mcode M_md_count) 116 = .ok (.aload_n 0, 1) := by decide +kernel
theorem d_md_count_117 : decode (mcode M_md_count) 117 = .ok (.getfield 142, 3) := by decide +kernel
theorem d_md_count_120 : decode (mcode M_md_count) 120 = .ok (.ireturn, 1) := by decide +kernel
theorem d_md_count_121 : decode (mcode M_md_count) 121 = .ok (.iconst (-1), 1) := by decide +kernel
theorem d_md_count_122 : decode (mcode M_md_count) 122 = .ok (.ireturn, 1) := by decide +kernel
theorem d_ac_init_0 : decode (mcode M_ac_init) 0 = .ok (.aload_n 0, 1) := by decide +kernel
theorem d_ac_init_1 : decode (mcode M_ac_init) 1 = .ok (.invokespecial 1, 3) := by decide +kernel
theorem d_ac_init_4 : decode (mcode M_ac_init) 4 = .ok (.return_, 1) := by decide +kernel
theorem d_ab_init_0 : decode (mcode M_ab_init) 0 = .ok (.aload_n 0, 1) := by decide +kernel
theorem d_ab_init_1 : decode (mcode M_ab_init) 1 = .ok (.invokespecial 1, 3) := by decide +kernel
theorem d_ab_init_4 : decode (mcode M_ab_init) 4 = .ok (.aload_n 0, 1) := by decide +kernel
theorem d_ab_init_5 : decode (mcode M_ab_init) 5 = .ok (.iconst 0, 1) := by decide +kernel
theorem d_ab_init_6 : decode (mcode M_ab_init) 6 = .ok (.putfield 7, 3) := by decide +kernel
theorem d_ab_init_9 : decode (mcode M_ab_init) 9 = .ok (.return_, 1) := by decide +kernel
theorem d_al_init_0 : decode (mcode M_al_init) 0 = .ok (.aload_n 0, 1) := by decide +kernel
theorem d_al_init_1 : decode (mcode M_al_init) 1 = .ok (.invokespecial 1, 3) := by decide +kernel
theorem d_al_init_4 : decode (mcode M_al_init) 4 = .ok (.aload_n 0, 1) := by decide +kernel
theorem d_al_init_5 : decode (mcode M_al_init) 5 = .ok (.getstatic 39, 3) := by decide +kernel
theorem d_al_init_8 : decode (mcode M_al_init) 8 = .ok (.putfield 9, 3) := by decide +kernel
theorem d_al_init_11 : decode (mcode M_al_init) 11 = .ok (.return_, 1) := by decide +kernel
theorem d_al_grow_0 : decode (mcode M_al_grow) 0 = .ok (.aload_n 0, 1) := by decide +kernel
theorem d_al_grow_1 : decode (mcode M_al_grow) 1 = .ok (.getfield 9, 3) := by decide +kernel
theorem d_al_grow_4 : decode (mcode M_al_grow) 4 = .ok (.arraylength, 1) := by decide +kernel
theorem d_al_grow_5 : decode (mcode M_al_grow) 5 = .ok (.istore_n 2, 1) := by decide +kernel
theorem d_al_grow_6 : decode (mcode M_al_grow) 6 = .ok (.iload_n 2, 1) := by decide +kernel
theorem d_al_grow_7 : decode (mcode M_al_grow) 7 = .ok (.ifCond .gt 13, 3) := by decide +kernel
theorem d_al_grow_10 : decode (mcode M_al_grow) 10 = .ok (.aload_n 0, 1) := by decide +kernel
theorem d_al_grow_11 : decode (mcode M_al_grow) 11 = .ok (.getfield 9, 3) := by decide +kernel
theorem d_al_grow_14 : decode (mcode M_al_grow) 14 = .ok (.getstatic 39, 3) := by decide +kernel
theorem d_al_grow_17 : decode (mcode M_al_grow) 17 = .ok (.if_acmp .eq 28, 3) := by decide +kernel
theorem d_al_grow_20 : decode (mcode M_al_grow) 20 = .ok (.iload_n 2, 1) := by decide +kernel
theorem d_al_grow_21 : decode (mcode M_al_grow) 21 = .ok (.iload_n 1, 1) := by decide +kernel
theorem d_al_grow_22 : decode (mcode M_al_grow) 22 = .ok (.iload_n 2, 1) := by decide +kernel
theorem d_al_grow_23 : decode (mcode M_al_grow) 23 = .ok (.isub, 1) := by decide +kernel
theorem d_al_grow_24 : decode (mcode M_al_grow) 24 = .ok (.iload_n 2, 1) := by decide +kernel
theorem d_al_grow_25 : decode (mcode M_al_grow) 25 = .ok (.iconst 1, 1) := by decide +kernel
theorem d_al_grow_26 : decode (mcode M_al_grow) 26 = .ok (.ishr, 1) := by decide +kernel
theorem d_al_grow_27 : decode (mcode M_al_grow) 27 = .ok (.invokestatic 73, 3) := by decide +kernel
theorem d_al_grow_30 : decode (mcode M_al_grow) 30 = .ok (.istore_n 3, 1) := by decide +kernel
theorem d_al_grow_31 : decode (mcode M_al_grow) 31 = .ok (.aload_n 0, 1) := by decide +kernel
theorem d_al_grow_32 : decode (mcode M_al_grow) 32 = .ok (.aload_n 0, 1) := by decide +kernel
theorem d_al_grow_33 : decode (mcode M_al_grow) 33 = .ok (.getfield 9, 3) := by decide +kernel
theorem d_al_grow_36 : decode (mcode M_al_grow) 36 = .ok (.iload_n 3, 1) := by decide +kernel
theorem d_al_grow_37 : decode (mcode M_al_grow) 37 = .ok (.invokestatic 66, 3) := by decide +kernel
theorem d_al_grow_40 : decode (mcode M_al_grow) 40 = .ok (.dup_x1, 1) := by decide +kernel
theorem d_al_grow_41 : decode (mcode M_al_grow) 41 = .ok (.putfield 9, 3) := by decide +kernel
theorem d_al_grow_44 : decode (mcode M_al_grow) 44 = .ok (.areturn, 1) := by decide +kernel
theorem d_al_grow_45 : decode (mcode M_al_grow) 45 = .ok (.aload_n 0, 1) := by decide +kernel
theorem d_al_grow_46 : decode (mcode M_al_grow) 46 = .ok (.bipush 10, 2) := by decide +kernel
theorem d_al_grow_48 : decode (mcode M_al_grow) 48 = .ok (.iload_n 1, 1) := by decide +kernel
theorem d_al_grow_49 : decode (mcode M_al_grow) 49 = .ok (.invokestatic 79, 3) := by decide +kernel
theorem d_al_grow_52 : decode (mcode M_al_grow) 52 = .ok (.anewarray 7, 3) := by decide +kernel
theorem d_al_grow_55 : decode (mcode M_al_grow) 55 = .ok (.dup_x1, 1) := by decide +kernel
theorem d_al_grow_56 : decode (mcode M_al_grow) 56 = .ok (.putfield 9, 3) := by decide +kernel
theorem d_al_grow_59 : decode (mcode M_al_grow) 59 = .ok (.areturn, 1) := by decide +kernel
theorem d_al_grow2_0 : decode (mcode M_al_grow2) 0 = .ok (.aload_n 0, 1) := by decide +kernel
theorem d_al_grow2_1 : decode (mcode M_al_grow2) 1 = .ok (.aload_n 0, 1) := by decide +kernel
theorem d_al_grow2_2 : decode (mcode M_al_grow2) 2 = .ok (.getfield 48, 3) := by decide +kernel
theorem d_al_grow2_5 : decode (mcode M_al_grow2) 5 = .ok (.iconst 1, 1) := by decide +kernel
theorem d_al_grow2_6 : decode (mcode M_al_grow2) 6 = .ok (.iadd, 1) := by decide +kernel
theorem d_al_grow2_7 : decode (mcode M_al_grow2) 7 = .ok (.invokevirtual 69, 3) := by decide +kernel
theorem d_al_grow2_10 : decode (mcode M_al_grow2) 10 = .ok (.areturn, 1) := by decide +kernel
theorem d_al_size_0 : decode (mcode M_al_size) 0 = .ok (.aload_n 0, 1) := by decide +kernel
theorem d_al_size_1 : decode (mcode M_al_size) 1 = .ok (.getfield 48, 3) := by decide +kernel
theorem d_al_size_4 : decode (mcode M_al_size) 4 = .ok (.ireturn, 1) := by decide +kernel
theorem d_al_isEmpty_0 : decode (mcode M_al_isEmpty) 0 = .ok (.aload_n 0, 1) := by decide +kernel
theorem d_al_isEmpty_1 : decode (mcode M_al_isEmpty) 1 = .ok (.getfield 48, 3) := by decide +kernel
theorem d_al_isEmpty_4 : decode (mcode M_al_isEmpty) 4 = .ok (.ifCond .ne 7, 3) := by decide +kernel
theorem d_al_isEmpty_7 : decode (mcode M_al_isEmpty) 7 = .ok (.iconst 1, 1) := by decide +kernel
theorem d_al_isEmpty_8 : decode (mcode M_al_isEmpty) 8 = .ok (.goto 4, 3) := by decide +kernel
theorem d_al_isEmpty_11 : decode (mcode M_al_isEmpty) 11 = .ok (.iconst 0, 1) := by decide +kernel
theorem d_al_isEmpty_12 : decode (mcode M_al_isEmpty) 12 = .ok (.ireturn, 1) := by decide +kernel
theorem d_al_elementData_0 : decode (mcode M_al_elementData) 0 = .ok (.aload_n 0, 1) := by decide +kernel
theorem d_al_elementData_1 : decode (mcode M_al_elementData) 1 = .ok (.getfield 9, 3) := by decide +kernel
theorem d_al_elementData_4 : decode (mcode M_al_elementData) 4 = .ok (.iload_n 1, 1) := by decide +kernel
theorem d_al_elementData_5 : decode (mcode M_al_elementData) 5 = .ok (.aaload, 1) := by decide +kernel
theorem d_al_elementData_6 : decode (mcode M_al_elementData) 6 = .ok (.areturn, 1) := by decide +kernel
theorem d_al_get_0 : decode (mcode M_al_get) 0 = .ok (.iload_n 1, 1) := by decide +kernel
theorem d_al_get_1 : decode (mcode M_al_get) 1 = .ok (.aload_n 0, 1) := by decide +kernel
theorem d_al_get_2 : decode (mcode M_al_get) 2 = .ok (.getfield 48, 3) := by decide +kernel
theorem d_al_get_5 : decode (mcode M_al_get) 5 = .ok (.invokestatic 118, 3) := by decide +kernel
theorem d_al_get_8 : decode (mcode M_al_get) 8 = .ok (.pop, 1) := by decide +kernel
theorem d_al_get_9 : decode (mcode M_al_get) 9 = .ok (.aload_n 0, 1) := by decide +kernel
theorem d_al_get_10 : decode (mcode M_al_get) 10 = .ok (.iload_n 1, 1) := by decide +kernel
theorem d_al_get_11 : decode (mcode M_al_get) 11 = .ok (.invokevirtual 123, 3) := by decide +kernel
theorem d_al_get_14 : decode (mcode M_al_get) 14 = .ok (.areturn, 1) := by decide +kernel
theorem d_al_add_0 : decode (mcode M_al_add) 0 = .ok (.iload_n 3, 1) := by decide +kernel
theorem d_al_add_1 : decode (mcode M_al_add) 1 = .ok (.aload_n 2, 1) := by decide +kernel
theorem d_al_add_2 : decode (mcode M_al_add) 2 = .ok (.arraylength, 1) := by decide +kernel
theorem d_al_add_3 : decode (mcode M_al_add) 3 = .ok (.if_icmp .ne 8, 3) := by decide +kernel
theorem d_al_add_6 : decode (mcode M_al_add) 6 = .ok (.aload_n 0, 1) := by decide +kernel
theorem d_al_add_7 : decode (mcode M_al_add) 7 = .ok (.invokevirtual 129, 3) := by decide +kernel
theorem d_al_add_10 : decode (mcode M_al_add) 10 = .ok (.astore_n 2, 1) := by decide +kernel
theorem d_al_add_11 : decode (mcode M_al_add) 11 = .ok (.aload_n 2, 1) := by decide +kernel
theorem d_al_add_12 : decode (mcode M_al_add) 12 = .ok (.iload_n 3, 1) := by decide +kernel
theorem d_al_add_13 : decode (mcode M_al_add) 13 = .ok (.aload_n 1, 1) := by decide +kernel
theorem d_al_add_14 : decode (mcode M_al_add) 14 = .ok (.aastore, 1) := by decide +kernel
theorem d_al_add_15 : decode (mcode M_al_add) 15 = .ok (.aload_n 0, 1) := by decide +kernel
theorem d_al_add_16 : decode (mcode M_al_add) 16 = .ok (.iload_n 3, 1) := by decide +kernel
theorem d_al_add_17 : decode (mcode M_al_add) 17 = .ok (.iconst 1, 1) := by decide +kernel
theorem d_al_add_18 : decode (mcode M_al_add) 18 = .ok (.iadd, 1) := by decide +kernel
theorem d_al_add_19 : decode (mcode M_al_add) 19 = .ok (.putfield 48, 3) := by decide +kernel
theorem d_al_add_22 : decode (mcode M_al_add) 22 = .ok (.return_, 1) := by decide +kernel
theorem d_al_add2_0 : decode (mcode M_al_add2) 0 = .ok (.aload_n 0, 1) := by decide +kernel
theorem d_al_add2_1 : decode (mcode M_al_add2) 1 = .ok (.dup, 1) := by decide +kernel
theorem d_al_add2_2 : decode (mcode M_al_add2) 2 = .ok (.getfield 63, 3) := by decide +kernel
theorem d_al_add2_5 : decode (mcode M_al_add2) 5 = .ok (.iconst 1, 1) := by decide +kernel
theorem d_al_add2_6 : decode (mcode M_al_add2) 6 = .ok (.iadd, 1) := by decide +kernel
theorem d_al_add2_7 : decode (mcode M_al_add2) 7 = .ok (.putfield 63, 3) := by decide +kernel
theorem d_al_add2_10 : decode (mcode M_al_add2) 10 = .ok (.aload_n 0, 1) := by decide +kernel
theorem d_al_add2_11 : decode (mcode M_al_add2) 11 = .ok (.aload_n 1, 1) := by decide +kernel
theorem d_al_add2_12 : decode (mcode M_al_add2) 12 = .ok (.aload_n 0, 1) := by decide +kernel
theorem d_al_add2_13 : decode (mcode M_al_add2) 13 = .ok (.getfield 9, 3) := by decide +kernel
theorem d_al_add2_16 : decode (mcode M_al_add2) 16 = .ok (.aload_n 0, 1) := by decide +kernel
theorem d_al_add2_17 : decode (mcode M_al_add2) 17 = .ok (.getfield 48, 3) := by decide +kernel
theorem d_al_add2_20 : decode (mcode M_al_add2) 20 = .ok (.invokevirtual 131, 3) := by decide +kernel
theorem d_al_add2_23 : decode (mcode M_al_add2) 23 = .ok (.iconst 1, 1) := by decide +kernel
theorem d_al_add2_24 : decode (mcode M_al_add2) 24 = .ok (.ireturn, 1) := by decide +kernel
theorem d_ar_copyOf_0 : decode (mcode M_ar_copyOf) 0 = .ok (.aload_n 0, 1) := by decide +kernel
theorem d_ar_copyOf_1 : decode (mcode M_ar_copyOf) 1 = .ok (.iload_n 1, 1) := by decide +kernel
theorem d_ar_copyOf_2 : decode (mcode M_ar_copyOf) 2 = .ok (.aload_n 0, 1) := by decide +kernel
theorem d_ar_copyOf_3 : decode (mcode M_ar_copyOf) 3 = .ok (.invokevirtual 86, 3) := by decide +kernel
theorem d_ar_copyOf_6 : decode (mcode M_ar_copyOf) 6 = .ok (.invokestatic 300, 3) := by decide +kernel
theorem d_ar_copyOf_9 : decode (mcode M_ar_copyOf) 9 = .ok (.areturn, 1) := by decide +kernel
theorem d_ar_copyOf2_0 : decode (mcode M_ar_copyOf2) 0 = .ok (.aload_n 2, 1) := by decide +kernel
theorem d_ar_copyOf2_1 : decode (mcode M_ar_copyOf2) 1 = .ok (.ldc 110, 2) := by decide +kernel
theorem d_ar_copyOf2_3 : decode (mcode M_ar_copyOf2) 3 = .ok (.if_acmp .ne 10, 3) := by decide +kernel
theorem d_ar_copyOf2_6 : decode (mcode M_ar_copyOf2) 6 = .ok (.iload_n 1, 1) := by decide +kernel
theorem d_ar_copyOf2_7 : decode (mcode M_ar_copyOf2) 7 = .ok (.anewarray 2, 3) := by decide +kernel
theorem d_ar_copyOf2_10 : decode (mcode M_ar_copyOf2) 10 = .ok (.goto 14, 3) := by decide +kernel
theorem d_ar_copyOf2_13 : decode (mcode M_ar_copyOf2) 13 = .ok (.aload_n 2, 1) := by decide +kernel
theorem d_ar_copyOf2_14 : decode (mcode M_ar_copyOf2) 14 = .ok (.invokevirtual 90, 3) := by decide +kernel
theorem d_ar_copyOf2_17 : decode (mcode M_ar_copyOf2) 17 = .ok (.iload_n 1, 1) := by decide +kernel
theorem d_ar_copyOf2_18 : decode (mcode M_ar_copyOf2) 18 = .ok (.invokestatic 95, 3) := by decide +kernel
theorem d_ar_copyOf2_21 : decode (mcode M_ar_copyOf2) 21 = .ok (.checkcast 110, 3) := by decide +kernel
theorem d_ar_copyOf2_24 : decode (mcode M_ar_copyOf2) 24 = .ok (.astore_n 3, 1) := by decide +kernel
theorem d_ar_copyOf2_25 : decode (mcode M_ar_copyOf2) 25 = .ok (.aload_n 0, 1) := by decide +kernel
theorem d_ar_copyOf2_26 : decode (mcode M_ar_copyOf2) 26 = .ok (.iconst 0, 1) := by decide +kernel
theorem d_ar_copyOf2_27 : decode (mcode M_ar_copyOf2) 27 = .ok (.aload_n 3, 1) := by decide +kernel
theorem d_ar_copyOf2_28 : decode (mcode M_ar_copyOf2) 28 = .ok (.iconst 0, 1) := by decide +kernel
theorem d_ar_copyOf2_29 : decode (mcode M_ar_copyOf2) 29 = .ok (.aload_n 0, 1) := by decide +kernel
theorem d_ar_copyOf2_30 : decode (mcode M_ar_copyOf2) 30 = .ok (.arraylength, 1) := by decide +kernel
theorem d_ar_copyOf2_31 : decode (mcode M_ar_copyOf2) 31 = .ok (.iload_n 1, 1) := by decide +kernel
theorem d_ar_copyOf2_32 : decode (mcode M_ar_copyOf2) 32 = .ok (.invokestatic 304, 3) := by decide +kernel
theorem d_ar_copyOf2_35 : decode (mcode M_ar_copyOf2) 35 = .ok (.invokestatic 150, 3) := by decide +kernel
theorem d_ar_copyOf2_38 : decode (mcode M_ar_copyOf2) 38 = .ok (.aload_n 3, 1) := by decide +kernel
theorem d_ar_copyOf2_39 : decode (mcode M_ar_copyOf2) 39 = .ok (.areturn, 1) := by decide +kernel
theorem d_ob_checkIndex_0 : decode (mcode M_ob_checkIndex) 0 = .ok (.iload_n 0, 1) := by decide +kernel
theorem d_ob_checkIndex_1 : decode (mcode M_ob_checkIndex) 1 = .ok (.iload_n 1, 1) := by decide +kernel
theorem d_ob_checkIndex_2 : decode (mcode M_ob_checkIndex) 2 = .ok (.aconst_null, 1) := by decide +kernel
theorem d_ob_checkIndex_3 : decode (mcode M_ob_checkIndex) 3 = .ok (.invokestatic 105, 3) := by decide +kernel
theorem d_ob_checkIndex_6 : decode (mcode M_ob_checkIndex) 6 = .ok (.ireturn, 1) := by decide +kernel
theorem d_as_newLength_0 : decode (mcode M_as_newLength) 0 = .ok (.iload_n 0, 1) := by decide +kernel
theorem d_as_newLength_1 : decode (mcode M_as_newLength) 1 = .ok (.iload_n 1, 1) := by decide +kernel
theorem d_as_newLength_2 : decode (mcode M_as_newLength) 2 = .ok (.iload_n 2, 1) := by decide +kernel
theorem d_as_newLength_3 : decode (mcode M_as_newLength) 3 = .ok (.invokestatic 194, 3) := by decide +kernel
theorem d_as_newLength_6 : decode (mcode M_as_newLength) 6 = .ok (.iadd, 1) := by decide +kernel
theorem d_as_newLength_7 : decode (mcode M_as_newLength) 7 = .ok (.istore_n 3, 1) := by decide +kernel
theorem d_as_newLength_8 : decode (mcode M_as_newLength) 8 = .ok (.iconst 0, 1) := by decide +kernel
theorem d_as_newLength_9 : decode (mcode M_as_newLength) 9 = .ok (.iload_n 3, 1) := by decide +kernel
theorem d_as_newLength_10 : decode (mcode M_as_newLength) 10 = .ok (.if_icmp .ge 11, 3) := by decide +kernel
theorem d_as_newLength_13 : decode (mcode M_as_newLength) 13 = .ok (.iload_n 3, 1) := by decide +kernel
theorem d_as_newLength_14 : decode (mcode M_as_newLength) 14 = .ok (.ldc 200, 2) := by decide +kernel
theorem d_as_newLength_16 : decode (mcode M_as_newLength) 16 = .ok (.if_icmp .gt 5, 3) := by decide +kernel
theorem d_as_newLength_19 : decode (mcode M_as_newLength) 19 = .ok (.iload_n 3, 1) := by decide +kernel
theorem d_as_newLength_20 : decode (mcode M_as_newLength) 20 = .ok (.ireturn, 1) := by decide +kernel
theorem d_as_newLength_21 : decode (mcode M_as_newLength) 21 = .ok (.iload_n 0, 1) := by decide +kernel
theorem d_as_newLength_22 : decode (mcode M_as_newLength) 22 = .ok (.iload_n 1, 1) := by decide +kernel
theorem d_as_newLength_23 : decode (mcode M_as_newLength) 23 = .ok (.invokestatic 201, 3) := by decide +kernel
theorem d_as_newLength_26 : decode (mcode M_as_newLength) 26 = .ok (.ireturn, 1) := by decide +kernel
theorem d_as_hugeLength_0 : decode (mcode M_as_hugeLength) 0 = .ok (.iload_n 0, 1) := by decide +kernel
theorem d_as_hugeLength_1 : decode (mcode M_as_hugeLength) 1 = .ok (.iload_n 1, 1) := by decide +kernel
theorem d_as_hugeLength_2 : decode (mcode M_as_hugeLength) 2 = .ok (.iadd, 1) := by decide +kernel
theorem d_as_hugeLength_3 : decode (mcode M_as_hugeLength) 3 = .ok (.istore_n 2, 1) := by decide +kernel
theorem d_as_hugeLength_4 : decode (mcode M_as_hugeLength) 4 = .ok (.iload_n 2, 1) := by decide +kernel
theorem d_as_hugeLength_5 : decode (mcode M_as_hugeLength) 5 = .ok (.ifCond .ge 44, 3) := by decide +kernel
theorem d_as_hugeLength_8 : decode (mcode M_as_hugeLength) 8 = .ok (.new 204, 3) := by decide +kernel
theorem d_as_hugeLength_11 : decode (mcode M_as_hugeLength) 11 = .ok (.dup, 1) := by decide +kernel
theorem d_as_hugeLength_12 : decode (mcode M_as_hugeLength) 12 = .ok (.new 89, 3) := by decide +kernel
theorem d_as_hugeLength_15 : decode (mcode M_as_hugeLength) 15 = .ok (.dup, 1) := by decide +kernel
theorem d_as_hugeLength_16 : decode (mcode M_as_hugeLength) 16 = .ok (.invokespecial 91, 3) := by decide +kernel
theorem d_as_hugeLength_19 : decode (mcode M_as_hugeLength) 19 = .ok (.ldc 206, 2) := by decide +kernel
theorem d_as_hugeLength_21 : decode (mcode M_as_hugeLength) 21 = .ok (.invokevirtual 94, 3) := by decide +kernel
theorem d_as_hugeLength_24 : decode (mcode M_as_hugeLength) 24 = .ok (.iload_n 0, 1) := by decide +kernel
theorem d_as_hugeLength_25 : decode (mcode M_as_hugeLength) 25 = .ok (.invokevirtual 98, 3) := by decide +kernel
theorem d_as_hugeLength_28 : decode (mcode M_as_hugeLength) 28 = .ok (.ldc 208, 2) := by decide +kernel
theorem d_as_hugeLength_30 : decode (mcode M_as_hugeLength) 30 = .ok (.invokevirtual 94, 3) := by decide +kernel
theorem d_as_hugeLength_33 : decode (mcode M_as_hugeLength) 33 = .ok (.iload_n 1, 1) := by decide +kernel
theorem d_as_hugeLength_34 : decode (mcode M_as_hugeLength) 34 = .ok (.invokevirtual 98, 3) := by decide +kernel
theorem d_as_hugeLength_37 : decode (mcode M_as_hugeLength) 37 = .ok (.ldc 210, 2) := by decide +kernel
theorem d_as_hugeLength_39 : decode (mcode M_as_hugeLength) 39 = .ok (.invokevirtual 94, 3) := by decide +kernel
theorem d_as_hugeLength_42 : decode (mcode M_as_hugeLength) 42 = .ok (.invokevirtual 101, 3) := by decide +kernel
theorem d_as_hugeLength_45 : decode (mcode M_as_hugeLength) 45 = .ok (.invokespecial 212, 3) := by decide +kernel
theorem d_as_hugeLength_48 : decode (mcode M_as_hugeLength) 48 = .ok (.athrow, 1) := by decide +kernel
theorem d_as_hugeLength_49 : decode (mcode M_as_hugeLength) 49 = .ok (.iload_n 2, 1) := by decide +kernel
theorem d_as_hugeLength_50 : decode (mcode M_as_hugeLength) 50 = .ok (.ldc 200, 2) := by decide +kernel
theorem d_as_hugeLength_52 : decode (mcode M_as_hugeLength) 52 = .ok (.if_icmp .gt 6, 3) := by decide +kernel
theorem d_as_hugeLength_55 : decode (mcode M_as_hugeLength) 55 = .ok (.ldc 200, 2) := by decide +kernel
theorem d_as_hugeLength_57 : decode (mcode M_as_hugeLength) 57 = .ok (.ireturn, 1) := by decide +kernel
theorem d_as_hugeLength_58 : decode (mcode M_as_hugeLength) 58 = .ok (.iload_n 2, 1) := by decide +kernel
theorem d_as_hugeLength_59 : decode (mcode M_as_hugeLength) 59 = .ok (.ireturn, 1) := by decide +kernel
theorem d_pr_checkIndex_0 : decode (mcode M_pr_checkIndex) 0 = .ok (.iload_n 0, 1) := by decide +kernel
theorem d_pr_checkIndex_1 : decode (mcode M_pr_checkIndex) 1 = .ok (.ifCond .lt 8, 3) := by decide +kernel
theorem d_pr_checkIndex_4 : decode (mcode M_pr_checkIndex) 4 = .ok (.iload_n 0, 1) := by decide +kernel
theorem d_pr_checkIndex_5 : decode (mcode M_pr_checkIndex) 5 = .ok (.iload_n 1, 1) := by decide +kernel
theorem d_pr_checkIndex_6 : decode (mcode M_pr_checkIndex) 6 = .ok (.if_icmp .lt 10, 3) := by decide +kernel
theorem d_pr_checkIndex_9 : decode (mcode M_pr_checkIndex) 9 = .ok (.aload_n 2, 1) := by decide +kernel
theorem d_pr_checkIndex_10 : decode (mcode M_pr_checkIndex) 10 = .ok (.iload_n 0, 1) := by decide +kernel
theorem d_pr_checkIndex_11 : decode (mcode M_pr_checkIndex) 11 = .ok (.iload_n 1, 1) := by decide +kernel
theorem d_pr_checkIndex_12 : decode (mcode M_pr_checkIndex) 12 = .ok (.invokestatic 95, 3) := by decide +kernel
theorem d_pr_checkIndex_15 : decode (mcode M_pr_checkIndex) 15 = .ok (.athrow, 1) := by decide +kernel
theorem d_pr_checkIndex_16 : decode (mcode M_pr_checkIndex) 16 = .ok (.iload_n 0, 1) := by decide +kernel
theorem d_pr_checkIndex_17 : decode (mcode M_pr_checkIndex) 17 = .ok (.ireturn, 1) := by decide +kernel
theorem d_lw_law_0 : decode (mcode M_lw_law) 0 = .ok (.new 7, 3) := by decide +kernel
theorem d_lw_law_3 : decode (mcode M_lw_law) 3 = .ok (.dup, 1) := by decide +kernel
theorem d_lw_law_4 : decode (mcode M_lw_law) 4 = .ok (.invokespecial 9, 3) := by decide +kernel
theorem d_lw_law_7 : decode (mcode M_lw_law) 7 = .ok (.astore_n 1, 1) := by decide +kernel
theorem d_lw_law_8 : decode (mcode M_lw_law) 8 = .ok (.new 10, 3) := by decide +kernel
theorem d_lw_law_11 : decode (mcode M_lw_law) 11 = .ok (.dup, 1) := by decide +kernel
theorem d_lw_law_12 : decode (mcode M_lw_law) 12 = .ok (.invokespecial 12, 3) := by decide +kernel
theorem d_lw_law_15 : decode (mcode M_lw_law) 15 = .ok (.astore_n 2, 1) := by decide +kernel
theorem d_lw_law_16 : decode (mcode M_lw_law) 16 = .ok (.iconst 0, 1) := by decide +kernel
theorem d_lw_law_17 : decode (mcode M_lw_law) 17 = .ok (.istore_n 3, 1) := by decide +kernel
theorem d_lw_law_18 : decode (mcode M_lw_law) 18 = .ok (.iload_n 3, 1) := by decide +kernel
theorem d_lw_law_19 : decode (mcode M_lw_law) 19 = .ok (.aload_n 0, 1) := by decide +kernel
theorem d_lw_law_20 : decode (mcode M_lw_law) 20 = .ok (.arraylength, 1) := by decide +kernel
theorem d_lw_law_21 : decode (mcode M_lw_law) 21 = .ok (.iconst 5, 1) := by decide +kernel
theorem d_lw_law_22 : decode (mcode M_lw_law) 22 = .ok (.isub, 1) := by decide +kernel
theorem d_lw_law_23 : decode (mcode M_lw_law) 23 = .ok (.if_icmp .gt 815, 3) := by decide +kernel
theorem d_lw_law_26 : decode (mcode M_lw_law) 26 = .ok (.aload_n 0, 1) := by decide +kernel
theorem d_lw_law_27 : decode (mcode M_lw_law) 27 = .ok (.iload_n 3, 1) := by decide +kernel
theorem d_lw_law_28 : decode (mcode M_lw_law) 28 = .ok (.iaload, 1) := by decide +kernel
theorem d_lw_law_29 : decode (mcode M_lw_law) 29 = .ok (.bipush 31, 2) := by decide +kernel
theorem d_lw_law_31 : decode (mcode M_lw_law) 31 = .ok (.iand, 1) := by decide +kernel
theorem d_lw_law_32 : decode (mcode M_lw_law) 32 = .ok (.tableswitch 800 0 21 #[104, 137, 180, 233, 276, 299, 332, 365, 388, 421, 434, 467, 490, 513, 536, 559, 602, 635, 678, 711, 754, 777], 104) := by decide +kernel
theorem d_lw_law_136 : decode (mcode M_lw_law) 136 = .ok (.aload_n 1, 1) := by decide +kernel
theorem d_lw_law_137 : decode (mcode M_lw_law) 137 = .ok (.aload_n 0, 1) := by decide +kernel
theorem d_lw_law_138 : decode (mcode M_lw_law) 138 = .ok (.iload_n 3, 1) := by decide +kernel
theorem d_lw_law_139 : decode (mcode M_lw_law) 139 = .ok (.iconst 1, 1) := by decide +kernel
theorem d_lw_law_140 : decode (mcode M_lw_law) 140 = .ok (.iadd, 1) := by decide +kernel
theorem d_lw_law_141 : decode (mcode M_lw_law) 141 = .ok (.iaload, 1) := by decide +kernel
theorem d_lw_law_142 : decode (mcode M_lw_law) 142 = .ok (.aload_n 0, 1) := by decide +kernel
theorem d_lw_law_143 : decode (mcode M_lw_law) 143 = .ok (.iload_n 3, 1) := by decide +kernel
theorem d_lw_law_144 : decode (mcode M_lw_law) 144 = .ok (.iconst 2, 1) := by decide +kernel
theorem d_lw_law_145 : decode (mcode M_lw_law) 145 = .ok (.iadd, 1) := by decide +kernel
theorem d_lw_law_146 : decode (mcode M_lw_law) 146 = .ok (.iaload, 1) := by decide +kernel
theorem d_lw_law_147 : decode (mcode M_lw_law) 147 = .ok (.invokevirtual 13, 3) := by decide +kernel
theorem d_lw_law_150 : decode (mcode M_lw_law) 150 = .ok (.aload_n 2, 1) := by decide +kernel
theorem d_lw_law_151 : decode (mcode M_lw_law) 151 = .ok (.aload_n 0, 1) := by decide +kernel
theorem d_lw_law_152 : decode (mcode M_lw_law) 152 = .ok (.iload_n 3, 1) := by decide +kernel
theorem d_lw_law_153 : decode (mcode M_lw_law) 153 = .ok (.iconst 1, 1) := by decide +kernel
theorem d_lw_law_154 : decode (mcode M_lw_law) 154 = .ok (.iadd, 1) := by decide +kernel
theorem d_lw_law_155 : decode (mcode M_lw_law) 155 = .ok (.iaload, 1) := by decide +kernel
theorem d_lw_law_156 : decode (mcode M_lw_law) 156 = .ok (.aload_n 0, 1) := by decide +kernel
theorem d_lw_law_157 : decode (mcode M_lw_law) 157 = .ok (.iload_n 3, 1) := by decide +kernel
theorem d_lw_law_158 : decode (mcode M_lw_law) 158 = .ok (.iconst 2, 1) := by decide +kernel
theorem d_lw_law_159 : decode (mcode M_lw_law) 159 = .ok (.iadd, 1) := by decide +kernel
theorem d_lw_law_160 : decode (mcode M_lw_law) 160 = .ok (.iaload, 1) := by decide +kernel
theorem d_lw_law_161 : decode (mcode M_lw_law) 161 = .ok (.invokevirtual 17, 3) := by decide +kernel
theorem d_lw_law_164 : decode (mcode M_lw_law) 164 = .ok (.if_icmp .eq 668, 3) := by decide +kernel
theorem d_lw_law_167 : decode (mcode M_lw_law) 167 = .ok (.iconst 0, 1) := by decide +kernel
theorem d_lw_law_168 : decode (mcode M_lw_law) 168 = .ok (.ireturn, 1) := by decide +kernel
theorem d_lw_law_169 : decode (mcode M_lw_law) 169 = .ok (.aload_n 1, 1) := by decide +kernel
theorem d_lw_law_170 : decode (mcode M_lw_law) 170 = .ok (.aload_n 0, 1) := by decide +kernel
theorem d_lw_law_171 : decode (mcode M_lw_law) 171 = .ok (.iload_n 3, 1) := by decide +kernel
theorem d_lw_law_172 : decode (mcode M_lw_law) 172 = .ok (.iconst 1, 1) := by decide +kernel
theorem d_lw_law_173 : decode (mcode M_lw_law) 173 = .ok (.iadd, 1) := by decide +kernel
theorem d_lw_law_174 : decode (mcode M_lw_law) 174 = .ok (.iaload, 1) := by decide +kernel
theorem d_lw_law_175 : decode (mcode M_lw_law) 175 = .ok (.aload_n 0, 1) := by decide +kernel
theorem d_lw_law_176 : decode (mcode M_lw_law) 176 = .ok (.iload_n 3, 1) := by decide +kernel
theorem d_lw_law_177 : decode (mcode M_lw_law) 177 = .ok (.iconst 2, 1) := by decide +kernel
theorem d_lw_law_178 : decode (mcode M_lw_law) 178 = .ok (.iadd, 1) := by decide +kernel
theorem d_lw_law_179 : decode (mcode M_lw_law) 179 = .ok (.iaload, 1) := by decide +kernel
theorem d_lw_law_180 : decode (mcode M_lw_law) 180 = .ok (.aload_n 0, 1) := by decide +kernel
theorem d_lw_law_181 : decode (mcode M_lw_law) 181 = .ok (.iload_n 3, 1) := by decide +kernel
theorem d_lw_law_182 : decode (mcode M_lw_law) 182 = .ok (.iconst 3, 1) := by decide +kernel
theorem d_lw_law_183 : decode (mcode M_lw_law) 183 = .ok (.iadd, 1) := by decide +kernel
theorem d_lw_law_184 : decode (mcode M_lw_law) 184 = .ok (.iaload, 1) := by decide +kernel
theorem d_lw_law_185 : decode (mcode M_lw_law) 185 = .ok (.invokevirtual 18, 3) := by decide +kernel
theorem d_lw_law_188 : decode (mcode M_lw_law) 188 = .ok (.aload_n 2, 1) := by decide +kernel
theorem d_lw_law_189 : decode (mcode M_lw_law) 189 = .ok (.aload_n 0, 1) := by decide +kernel
theorem d_lw_law_190 : decode (mcode M_lw_law) 190 = .ok (.iload_n 3, 1) := by decide +kernel
theorem d_lw_law_191 : decode (mcode M_lw_law) 191 = .ok (.iconst 1, 1) := by decide +kernel
theorem d_lw_law_192 : decode (mcode M_lw_law) 192 = .ok (.iadd, 1) := by decide +kernel
theorem d_lw_law_193 : decode (mcode M_lw_law) 193 = .ok (.iaload, 1) := by decide +kernel
theorem d_lw_law_194 : decode (mcode M_lw_law) 194 = .ok (.aload_n 0, 1) := by decide +kernel
theorem d_lw_law_195 : decode (mcode M_lw_law) 195 = .ok (.iload_n 3, 1) := by decide +kernel
theorem d_lw_law_196 : decode (mcode M_lw_law) 196 = .ok (.iconst 2, 1) := by decide +kernel
theorem d_lw_law_197 : decode (mcode M_lw_law) 197 = .ok (.iadd, 1) := by decide +kernel
theorem d_lw_law_198 : decode (mcode M_lw_law) 198 = .ok (.iaload, 1) := by decide +kernel
theorem d_lw_law_199 : decode (mcode M_lw_law) 199 = .ok (.aload_n 0, 1) := by decide +kernel
theorem d_lw_law_200 : decode (mcode M_lw_law) 200 = .ok (.iload_n 3, 1) := by decide +kernel
theorem d_lw_law_201 : decode (mcode M_lw_law) 201 = .ok (.iconst 3, 1) := by decide +kernel
theorem d_lw_law_202 : decode (mcode M_lw_law) 202 = .ok (.iadd, 1) := by decide +kernel
theorem d_lw_law_203 : decode (mcode M_lw_law) 203 = .ok (.iaload, 1) := by decide +kernel
theorem d_lw_law_204 : decode (mcode M_lw_law) 204 = .ok (.invokevirtual 22, 3) := by decide +kernel
theorem d_lw_law_207 : decode (mcode M_lw_law) 207 = .ok (.if_icmp .eq 625, 3) := by decide +kernel
theorem d_lw_law_210 : decode (mcode M_lw_law) 210 = .ok (.iconst 0, 1) := by decide +kernel
theorem d_lw_law_211 : decode (mcode M_lw_law) 211 = .ok (.ireturn, 1) := by decide +kernel
theorem d_lw_law_212 : decode (mcode M_lw_law) 212 = .ok (.aload_n 1, 1) := by decide +kernel
theorem d_lw_law_213 : decode (mcode M_lw_law) 213 = .ok (.aload_n 0, 1) := by decide +kernel
theorem d_lw_law_214 : decode (mcode M_lw_law) 214 = .ok (.iload_n 3, 1) := by decide +kernel
theorem d_lw_law_215 : decode (mcode M_lw_law) 215 = .ok (.iconst 1, 1) := by decide +kernel
theorem d_lw_law_216 : decode (mcode M_lw_law) 216 = .ok (.iadd, 1) := by decide +kernel
theorem d_lw_law_217 : decode (mcode M_lw_law) 217 = .ok (.iaload, 1) := by decide +kernel
theorem d_lw_law_218 : decode (mcode M_lw_law) 218 = .ok (.aload_n 0, 1) := by decide +kernel
theorem d_lw_law_219 : decode (mcode M_lw_law) 219 = .ok (.iload_n 3, 1) := by decide +kernel
theorem d_lw_law_220 : decode (mcode M_lw_law) 220 = .ok (.iconst 2, 1) := by decide +kernel
theorem d_lw_law_221 : decode (mcode M_lw_law) 221 = .ok (.iadd, 1) := by decide +kernel
theorem d_lw_law_222 : decode (mcode M_lw_law) 222 = .ok (.iaload, 1) := by decide +kernel
theorem d_lw_law_223 : decode (mcode M_lw_law) 223 = .ok (.aload_n 0, 1) := by decide +kernel
theorem d_lw_law_224 : decode (mcode M_lw_law) 224 = .ok (.iload_n 3, 1) := by decide +kernel
theorem d_lw_law_225 : decode (mcode M_lw_law) 225 = .ok (.iconst 3, 1) := by decide +kernel
theorem d_lw_law_226 : decode (mcode M_lw_law) 226 = .ok (.iadd, 1) := by decide +kernel
theorem d_lw_law_227 : decode (mcode M_lw_law) 227 = .ok (.iaload, 1) := by decide +kernel
theorem d_lw_law_228 : decode (mcode M_lw_law) 228 = .ok (.aload_n 0, 1) := by decide +kernel
theorem d_lw_law_229 : decode (mcode M_lw_law) 229 = .ok (.iload_n 3, 1) := by decide +kernel
theorem d_lw_law_230 : decode (mcode M_lw_law) 230 = .ok (.iconst 4, 1) := by decide +kernel
theorem d_lw_law_231 : decode (mcode M_lw_law) 231 = .ok (.iadd, 1) := by decide +kernel
theorem d_lw_law_232 : decode (mcode M_lw_law) 232 = .ok (.iaload, 1) := by decide +kernel
theorem d_lw_law_233 : decode (mcode M_lw_law) 233 = .ok (.invokevirtual 23, 3) := by decide +kernel
theorem d_lw_law_236 : decode (mcode M_lw_law) 236 = .ok (.aload_n 2, 1) := by decide +kernel
theorem d_lw_law_237 : decode (mcode M_lw_law) 237 = .ok (.aload_n 0, 1) := by decide +kernel
theorem d_lw_law_238 : decode (mcode M_lw_law) 238 = .ok (.iload_n 3, 1) := by decide +kernel
theorem d_lw_law_239 : decode (mcode M_lw_law) 239 = .ok (.iconst 1, 1) := by decide +kernel
theorem d_lw_law_240 : decode (mcode M_lw_law) 240 = .ok (.iadd, 1) := by decide +kernel
theorem d_lw_law_241 : decode (mcode M_lw_law) 241 = .ok (.iaload, 1) := by decide +kernel
theorem d_lw_law_242 : decode (mcode M_lw_law) 242 = .ok (.aload_n 0, 1) := by decide +kernel
theorem d_lw_law_243 : decode (mcode M_lw_law) 243 = .ok (.iload_n 3, 1) := by decide +kernel
theorem d_lw_law_244 : decode (mcode M_lw_law) 244 = .ok (.iconst 2, 1) := by decide +kernel
theorem d_lw_law_245 : decode (mcode M_lw_law) 245 = .ok (.iadd, 1) := by decide +kernel
theorem d_lw_law_246 : decode (mcode M_lw_law) 246 = .ok (.iaload, 1) := by decide +kernel
theorem d_lw_law_247 : decode (mcode M_lw_law) 247 = .ok (.aload_n 0, 1) := by decide +kernel
theorem d_lw_law_248 : decode (mcode M_lw_law) 248 = .ok (.iload_n 3, 1) := by decide +kernel
theorem d_lw_law_249 : decode (mcode M_lw_law) 249 = .ok (.iconst 3, 1) := by decide +kernel
theorem d_lw_law_250 : decode (mcode M_lw_law) 250 = .ok (.iadd, 1) := by decide +kernel
theorem d_lw_law_251 : decode (mcode M_lw_law) 251 = .ok (.iaload, 1) := by decide +kernel
theorem d_lw_law_252 : decode (mcode M_lw_law) 252 = .ok (.aload_n 0, 1) := by decide +kernel
theorem d_lw_law_253 : decode (mcode M_lw_law) 253 = .ok (.iload_n 3, 1) := by decide +kernel
theorem d_lw_law_254 : decode (mcode M_lw_law) 254 = .ok (.iconst 4, 1) := by decide +kernel
theorem d_lw_law_255 : decode (mcode M_lw_law) 255 = .ok (.iadd, 1) := by decide +kernel
theorem d_lw_law_256 : decode (mcode M_lw_law) 256 = .ok (.iaload, 1) := by decide +kernel
theorem d_lw_law_257 : decode (mcode M_lw_law) 257 = .ok (.invokevirtual 27, 3) := by decide +kernel
theorem d_lw_law_260 : decode (mcode M_lw_law) 260 = .ok (.if_icmp .eq 572, 3) := by decide +kernel
theorem d_lw_law_263 : decode (mcode M_lw_law) 263 = .ok (.iconst 0, 1) := by decide +kernel
theorem d_lw_law_264 : decode (mcode M_lw_law) 264 = .ok (.ireturn, 1) := by decide +kernel
theorem d_lw_law_265 : decode (mcode M_lw_law) 265 = .ok (.aload_n 1, 1) := by decide +kernel
theorem d_lw_law_266 : decode (mcode M_lw_law) 266 = .ok (.aload_n 0, 1) := by decide +kernel
theorem d_lw_law_267 : decode (mcode M_lw_law) 267 = .ok (.iload_n 3, 1) := by decide +kernel
theorem d_lw_law_268 : decode (mcode M_lw_law) 268 = .ok (.iconst 1, 1) := by decide +kernel
theorem d_lw_law_269 : decode (mcode M_lw_law) 269 = .ok (.iadd, 1) := by decide +kernel
theorem d_lw_law_270 : decode (mcode M_lw_law) 270 = .ok (.iaload, 1) := by decide +kernel
theorem d_lw_law_271 : decode (mcode M_lw_law) 271 = .ok (.aload_n 0, 1) := by decide +kernel
theorem d_lw_law_272 : decode (mcode M_lw_law) 272 = .ok (.iload_n 3, 1) := by decide +kernel
theorem d_lw_law_273 : decode (mcode M_lw_law) 273 = .ok (.iconst 2, 1) := by decide +kernel
theorem d_lw_law_274 : decode (mcode M_lw_law) 274 = .ok (.iadd, 1) := by decide +kernel
theorem d_lw_law_275 : decode (mcode M_lw_law) 275 = .ok (.iaload, 1) := by decide +kernel
theorem d_lw_law_276 : decode (mcode M_lw_law) 276 = .ok (.aload_n 0, 1) := by decide +kernel
theorem d_lw_law_277 : decode (mcode M_lw_law) 277 = .ok (.iload_n 3, 1) := by decide +kernel
theorem d_lw_law_278 : decode (mcode M_lw_law) 278 = .ok (.iconst 3, 1) := by decide +kernel
theorem d_lw_law_279 : decode (mcode M_lw_law) 279 = .ok (.iadd, 1) := by decide +kernel
theorem d_lw_law_280 : decode (mcode M_lw_law) 280 = .ok (.iaload, 1) := by decide +kernel
theorem d_lw_law_281 : decode (mcode M_lw_law) 281 = .ok (.invokevirtual 28, 3) := by decide +kernel
theorem d_lw_law_284 : decode (mcode M_lw_law) 284 = .ok (.aload_n 2, 1) := by decide +kernel
theorem d_lw_law_285 : decode (mcode M_lw_law) 285 = .ok (.aload_n 0, 1) := by decide +kernel
theorem d_lw_law_286 : decode (mcode M_lw_law) 286 = .ok (.iload_n 3, 1) := by decide +kernel
theorem d_lw_law_287 : decode (mcode M_lw_law) 287 = .ok (.iconst 1, 1) := by decide +kernel
theorem d_lw_law_288 : decode (mcode M_lw_law) 288 = .ok (.iadd, 1) := by decide +kernel
theorem d_lw_law_289 : decode (mcode M_lw_law) 289 = .ok (.iaload, 1) := by decide +kernel
theorem d_lw_law_290 : decode (mcode M_lw_law) 290 = .ok (.aload_n 0, 1) := by decide +kernel
theorem d_lw_law_291 : decode (mcode M_lw_law) 291 = .ok (.iload_n 3, 1) := by decide +kernel
theorem d_lw_law_292 : decode (mcode M_lw_law) 292 = .ok (.iconst 2, 1) := by decide +kernel
theorem d_lw_law_293 : decode (mcode M_lw_law) 293 = .ok (.iadd, 1) := by decide +kernel
theorem d_lw_law_294 : decode (mcode M_lw_law) 294 = .ok (.iaload, 1) := by decide +kernel
theorem d_lw_law_295 : decode (mcode M_lw_law) 295 = .ok (.aload_n 0, 1) := by decide +kernel
theorem d_lw_law_296 : decode (mcode M_lw_law) 296 = .ok (.iload_n 3, 1) := by decide +kernel
theorem d_lw_law_297 : decode (mcode M_lw_law) 297 = .ok (.iconst 3, 1) := by decide +kernel
theorem d_lw_law_298 : decode (mcode M_lw_law) 298 = .ok (.iadd, 1) := by decide +kernel
theorem d_lw_law_299 : decode (mcode M_lw_law) 299 = .ok (.iaload, 1) := by decide +kernel
theorem d_lw_law_300 : decode (mcode M_lw_law) 300 = .ok (.invokevirtual 32, 3) := by decide +kernel
theorem d_lw_law_303 : decode (mcode M_lw_law) 303 = .ok (.if_icmp .eq 529, 3) := by decide +kernel
theorem d_lw_law_306 : decode (mcode M_lw_law) 306 = .ok (.iconst 0, 1) := by decide +kernel
theorem d_lw_law_307 : decode (mcode M_lw_law) 307 = .ok (.ireturn, 1) := by decide +kernel
theorem d_lw_law_308 : decode (mcode M_lw_law) 308 = .ok (.aload_n 1, 1) := by decide +kernel
theorem d_lw_law_309 : decode (mcode M_lw_law) 309 = .ok (.aload_n 0, 1) := by decide +kernel
theorem d_lw_law_310 : decode (mcode M_lw_law) 310 = .ok (.iload_n 3, 1) := by decide +kernel
theorem d_lw_law_311 : decode (mcode M_lw_law) 311 = .ok (.iconst 1, 1) := by decide +kernel
theorem d_lw_law_312 : decode (mcode M_lw_law) 312 = .ok (.iadd, 1) := by decide +kernel
theorem d_lw_law_313 : decode (mcode M_lw_law) 313 = .ok (.iaload, 1) := by decide +kernel
theorem d_lw_law_314 : decode (mcode M_lw_law) 314 = .ok (.invokevirtual 33, 3) := by decide +kernel
theorem d_lw_law_317 : decode (mcode M_lw_law) 317 = .ok (.aload_n 2, 1) := by decide +kernel
theorem d_lw_law_318 : decode (mcode M_lw_law) 318 = .ok (.aload_n 0, 1) := by decide +kernel
theorem d_lw_law_319 : decode (mcode M_lw_law) 319 = .ok (.iload_n 3, 1) := by decide +kernel
theorem d_lw_law_320 : decode (mcode M_lw_law) 320 = .ok (.iconst 1, 1) := by decide +kernel
theorem d_lw_law_321 : decode (mcode M_lw_law) 321 = .ok (.iadd, 1) := by decide +kernel
theorem d_lw_law_322 : decode (mcode M_lw_law) 322 = .ok (.iaload, 1) := by decide +kernel
theorem d_lw_law_323 : decode (mcode M_lw_law) 323 = .ok (.invokevirtual 37, 3) := by decide +kernel
theorem d_lw_law_326 : decode (mcode M_lw_law) 326 = .ok (.if_icmp .eq 506, 3) := by decide +kernel
theorem d_lw_law_329 : decode (mcode M_lw_law) 329 = .ok (.iconst 0, 1) := by decide +kernel
theorem d_lw_law_330 : decode (mcode M_lw_law) 330 = .ok (.ireturn, 1) := by decide +kernel
theorem d_lw_law_331 : decode (mcode M_lw_law) 331 = .ok (.aload_n 1, 1) := by decide +kernel
theorem d_lw_law_332 : decode (mcode M_lw_law) 332 = .ok (.aload_n 0, 1) := by decide +kernel
theorem d_lw_law_333 : decode (mcode M_lw_law) 333 = .ok (.iload_n 3, 1) := by decide +kernel
theorem d_lw_law_334 : decode (mcode M_lw_law) 334 = .ok (.iconst 1, 1) := by decide +kernel
theorem d_lw_law_335 : decode (mcode M_lw_law) 335 = .ok (.iadd, 1) := by decide +kernel
theorem d_lw_law_336 : decode (mcode M_lw_law) 336 = .ok (.iaload, 1) := by decide +kernel
theorem d_lw_law_337 : decode (mcode M_lw_law) 337 = .ok (.aload_n 0, 1) := by decide +kernel
theorem d_lw_law_338 : decode (mcode M_lw_law) 338 = .ok (.iload_n 3, 1) := by decide +kernel
theorem d_lw_law_339 : decode (mcode M_lw_law) 339 = .ok (.iconst 2, 1) := by decide +kernel
theorem d_lw_law_340 : decode (mcode M_lw_law) 340 = .ok (.iadd, 1) := by decide +kernel
theorem d_lw_law_341 : decode (mcode M_lw_law) 341 = .ok (.iaload, 1) := by decide +kernel
theorem d_lw_law_342 : decode (mcode M_lw_law) 342 = .ok (.invokevirtual 38, 3) := by decide +kernel
theorem d_lw_law_345 : decode (mcode M_lw_law) 345 = .ok (.aload_n 2, 1) := by decide +kernel
theorem d_lw_law_346 : decode (mcode M_lw_law) 346 = .ok (.aload_n 0, 1) := by decide +kernel
theorem d_lw_law_347 : decode (mcode M_lw_law) 347 = .ok (.iload_n 3, 1) := by decide +kernel
theorem d_lw_law_348 : decode (mcode M_lw_law) 348 = .ok (.iconst 1, 1) := by decide +kernel
theorem d_lw_law_349 : decode (mcode M_lw_law) 349 = .ok (.iadd, 1) := by decide +kernel
theorem d_lw_law_350 : decode (mcode M_lw_law) 350 = .ok (.iaload, 1) := by decide +kernel
theorem d_lw_law_351 : decode (mcode M_lw_law) 351 = .ok (.aload_n 0, 1) := by decide +kernel
theorem d_lw_law_352 : decode (mcode M_lw_law) 352 = .ok (.iload_n 3, 1) := by decide +kernel
theorem d_lw_law_353 : decode (mcode M_lw_law) 353 = .ok (.iconst 2, 1) := by decide +kernel
theorem d_lw_law_354 : decode (mcode M_lw_law) 354 = .ok (.iadd, 1) := by decide +kernel
theorem d_lw_law_355 : decode (mcode M_lw_law) 355 = .ok (.iaload, 1) := by decide +kernel
theorem d_lw_law_356 : decode (mcode M_lw_law) 356 = .ok (.invokevirtual 41, 3) := by decide +kernel
theorem d_lw_law_359 : decode (mcode M_lw_law) 359 = .ok (.if_icmp .eq 473, 3) := by decide +kernel
theorem d_lw_law_362 : decode (mcode M_lw_law) 362 = .ok (.iconst 0, 1) := by decide +kernel
theorem d_lw_law_363 : decode (mcode M_lw_law) 363 = .ok (.ireturn, 1) := by decide +kernel
theorem d_lw_law_364 : decode (mcode M_lw_law) 364 = .ok (.aload_n 1, 1) := by decide +kernel
theorem d_lw_law_365 : decode (mcode M_lw_law) 365 = .ok (.aload_n 0, 1) := by decide +kernel
theorem d_lw_law_366 : decode (mcode M_lw_law) 366 = .ok (.iload_n 3, 1) := by decide +kernel
theorem d_lw_law_367 : decode (mcode M_lw_law) 367 = .ok (.iconst 1, 1) := by decide +kernel
theorem d_lw_law_368 : decode (mcode M_lw_law) 368 = .ok (.iadd, 1) := by decide +kernel
theorem d_lw_law_369 : decode (mcode M_lw_law) 369 = .ok (.iaload, 1) := by decide +kernel
theorem d_lw_law_370 : decode (mcode M_lw_law) 370 = .ok (.aload_n 0, 1) := by decide +kernel
theorem d_lw_law_371 : decode (mcode M_lw_law) 371 = .ok (.iload_n 3, 1) := by decide +kernel
theorem d_lw_law_372 : decode (mcode M_lw_law) 372 = .ok (.iconst 2, 1) := by decide +kernel
theorem d_lw_law_373 : decode (mcode M_lw_law) 373 = .ok (.iadd, 1) := by decide +kernel
theorem d_lw_law_374 : decode (mcode M_lw_law) 374 = .ok (.iaload, 1) := by decide +kernel
theorem d_lw_law_375 : decode (mcode M_lw_law) 375 = .ok (.invokevirtual 42, 3) := by decide +kernel
theorem d_lw_law_378 : decode (mcode M_lw_law) 378 = .ok (.aload_n 2, 1) := by decide +kernel
theorem d_lw_law_379 : decode (mcode M_lw_law) 379 = .ok (.aload_n 0, 1) := by decide +kernel
theorem d_lw_law_380 : decode (mcode M_lw_law) 380 = .ok (.iload_n 3, 1) := by decide +kernel
theorem d_lw_law_381 : decode (mcode M_lw_law) 381 = .ok (.iconst 1, 1) := by decide +kernel
theorem d_lw_law_382 : decode (mcode M_lw_law) 382 = .ok (.iadd, 1) := by decide +kernel
theorem d_lw_law_383 : decode (mcode M_lw_law) 383 = .ok (.iaload, 1) := by decide +kernel
theorem d_lw_law_384 : decode (mcode M_lw_law) 384 = .ok (.aload_n 0, 1) := by decide +kernel
theorem d_lw_law_385 : decode (mcode M_lw_law) 385 = .ok (.iload_n 3, 1) := by decide +kernel
theorem d_lw_law_386 : decode (mcode M_lw_law) 386 = .ok (.iconst 2, 1) := by decide +kernel
theorem d_lw_law_387 : decode (mcode M_lw_law) 387 = .ok (.iadd, 1) := by decide +kernel
theorem d_lw_law_388 : decode (mcode M_lw_law) 388 = .ok (.iaload, 1) := by decide +kernel
theorem d_lw_law_389 : decode (mcode M_lw_law) 389 = .ok (.invokevirtual 45, 3) := by decide +kernel
theorem d_lw_law_392 : decode (mcode M_lw_law) 392 = .ok (.if_icmp .eq 440, 3) := by decide +kernel
theorem d_lw_law_395 : decode (mcode M_lw_law) 395 = .ok (.iconst 0, 1) := by decide +kernel
theorem d_lw_law_396 : decode (mcode M_lw_law) 396 = .ok (.ireturn, 1) := by decide +kernel
theorem d_lw_law_397 : decode (mcode M_lw_law) 397 = .ok (.aload_n 1, 1) := by decide +kernel
theorem d_lw_law_398 : decode (mcode M_lw_law) 398 = .ok (.aload_n 0, 1) := by decide +kernel
theorem d_lw_law_399 : decode (mcode M_lw_law) 399 = .ok (.iload_n 3, 1) := by decide +kernel
theorem d_lw_law_400 : decode (mcode M_lw_law) 400 = .ok (.iconst 1, 1) := by decide +kernel
theorem d_lw_law_401 : decode (mcode M_lw_law) 401 = .ok (.iadd, 1) := by decide +kernel
theorem d_lw_law_402 : decode (mcode M_lw_law) 402 = .ok (.iaload, 1) := by decide +kernel
theorem d_lw_law_403 : decode (mcode M_lw_law) 403 = .ok (.invokevirtual 46, 3) := by decide +kernel
theorem d_lw_law_406 : decode (mcode M_lw_law) 406 = .ok (.aload_n 2, 1) := by decide +kernel
theorem d_lw_law_407 : decode (mcode M_lw_law) 407 = .ok (.aload_n 0, 1) := by decide +kernel
theorem d_lw_law_408 : decode (mcode M_lw_law) 408 = .ok (.iload_n 3, 1) := by decide +kernel
theorem d_lw_law_409 : decode (mcode M_lw_law) 409 = .ok (.iconst 1, 1) := by decide +kernel
theorem d_lw_law_410 : decode (mcode M_lw_law) 410 = .ok (.iadd, 1) := by decide +kernel
theorem d_lw_law_411 : decode (mcode M_lw_law) 411 = .ok (.iaload, 1) := by decide +kernel
theorem d_lw_law_412 : decode (mcode M_lw_law) 412 = .ok (.invokevirtual 49, 3) := by decide +kernel
theorem d_lw_law_415 : decode (mcode M_lw_law) 415 = .ok (.if_icmp .eq 417, 3) := by decide +kernel
theorem d_lw_law_418 : decode (mcode M_lw_law) 418 = .ok (.iconst 0, 1) := by decide +kernel
theorem d_lw_law_419 : decode (mcode M_lw_law) 419 = .ok (.ireturn, 1) := by decide +kernel
theorem d_lw_law_420 : decode (mcode M_lw_law) 420 = .ok (.aload_n 1, 1) := by decide +kernel
theorem d_lw_law_421 : decode (mcode M_lw_law) 421 = .ok (.aload_n 0, 1) := by decide +kernel
theorem d_lw_law_422 : decode (mcode M_lw_law) 422 = .ok (.iload_n 3, 1) := by decide +kernel
theorem d_lw_law_423 : decode (mcode M_lw_law) 423 = .ok (.iconst 1, 1) := by decide +kernel
theorem d_lw_law_424 : decode (mcode M_lw_law) 424 = .ok (.iadd, 1) := by decide +kernel
theorem d_lw_law_425 : decode (mcode M_lw_law) 425 = .ok (.iaload, 1) := by decide +kernel
theorem d_lw_law_426 : decode (mcode M_lw_law) 426 = .ok (.aload_n 0, 1) := by decide +kernel
theorem d_lw_law_427 : decode (mcode M_lw_law) 427 = .ok (.iload_n 3, 1) := by decide +kernel
theorem d_lw_law_428 : decode (mcode M_lw_law) 428 = .ok (.iconst 2, 1) := by decide +kernel
theorem d_lw_law_429 : decode (mcode M_lw_law) 429 = .ok (.iadd, 1) := by decide +kernel
theorem d_lw_law_430 : decode (mcode M_lw_law) 430 = .ok (.iaload, 1) := by decide +kernel
theorem d_lw_law_431 : decode (mcode M_lw_law) 431 = .ok (.invokevirtual 50, 3) := by decide +kernel
theorem d_lw_law_434 : decode (mcode M_lw_law) 434 = .ok (.aload_n 2, 1) := by decide +kernel
theorem d_lw_law_435 : decode (mcode M_lw_law) 435 = .ok (.aload_n 0, 1) := by decide +kernel
theorem d_lw_law_436 : decode (mcode M_lw_law) 436 = .ok (.iload_n 3, 1) := by decide +kernel
theorem d_lw_law_437 : decode (mcode M_lw_law) 437 = .ok (.iconst 1, 1) := by decide +kernel
theorem d_lw_law_438 : decode (mcode M_lw_law) 438 = .ok (.iadd, 1) := by decide +kernel
theorem d_lw_law_439 : decode (mcode M_lw_law) 439 = .ok (.iaload, 1) := by decide +kernel
theorem d_lw_law_440 : decode (mcode M_lw_law) 440 = .ok (.aload_n 0, 1) := by decide +kernel
theorem d_lw_law_441 : decode (mcode M_lw_law) 441 = .ok (.iload_n 3, 1) := by decide +kernel
theorem d_lw_law_442 : decode (mcode M_lw_law) 442 = .ok (.iconst 2, 1) := by decide +kernel
theorem d_lw_law_443 : decode (mcode M_lw_law) 443 = .ok (.iadd, 1) := by decide +kernel
theorem d_lw_law_444 : decode (mcode M_lw_law) 444 = .ok (.iaload, 1) := by decide +kernel
theorem d_lw_law_445 : decode (mcode M_lw_law) 445 = .ok (.invokevirtual 53, 3) := by decide +kernel
theorem d_lw_law_448 : decode (mcode M_lw_law) 448 = .ok (.if_icmp .eq 384, 3) := by decide +kernel
theorem d_lw_law_451 : decode (mcode M_lw_law) 451 = .ok (.iconst 0, 1) := by decide +kernel
theorem d_lw_law_452 : decode (mcode M_lw_law) 452 = .ok (.ireturn, 1) := by decide +kernel
theorem d_lw_law_453 : decode (mcode M_lw_law) 453 = .ok (.aload_n 1, 1) := by decide +kernel
theorem d_lw_law_454 : decode (mcode M_lw_law) 454 = .ok (.invokevirtual 54, 3) := by decide +kernel
theorem d_lw_law_457 : decode (mcode M_lw_law) 457 = .ok (.aload_n 2, 1) := by decide +kernel
theorem d_lw_law_458 : decode (mcode M_lw_law) 458 = .ok (.invokevirtual 58, 3) := by decide +kernel
theorem d_lw_law_461 : decode (mcode M_lw_law) 461 = .ok (.if_icmp .eq 371, 3) := by decide +kernel
theorem d_lw_law_464 : decode (mcode M_lw_law) 464 = .ok (.iconst 0, 1) := by decide +kernel
theorem d_lw_law_465 : decode (mcode M_lw_law) 465 = .ok (.ireturn, 1) := by decide +kernel
theorem d_lw_law_466 : decode (mcode M_lw_law) 466 = .ok (.aload_n 1, 1) := by decide +kernel
theorem d_lw_law_467 : decode (mcode M_lw_law) 467 = .ok (.aload_n 0, 1) := by decide +kernel
theorem d_lw_law_468 : decode (mcode M_lw_law) 468 = .ok (.iload_n 3, 1) := by decide +kernel
theorem d_lw_law_469 : decode (mcode M_lw_law) 469 = .ok (.iconst 1, 1) := by decide +kernel
theorem d_lw_law_470 : decode (mcode M_lw_law) 470 = .ok (.iadd, 1) := by decide +kernel
theorem d_lw_law_471 : decode (mcode M_lw_law) 471 = .ok (.iaload, 1) := by decide +kernel
theorem d_lw_law_472 : decode (mcode M_lw_law) 472 = .ok (.aload_n 0, 1) := by decide +kernel
theorem d_lw_law_473 : decode (mcode M_lw_law) 473 = .ok (.iload_n 3, 1) := by decide +kernel
theorem d_lw_law_474 : decode (mcode M_lw_law) 474 = .ok (.iconst 2, 1) := by decide +kernel
theorem d_lw_law_475 : decode (mcode M_lw_law) 475 = .ok (.iadd, 1) := by decide +kernel
theorem d_lw_law_476 : decode (mcode M_lw_law) 476 = .ok (.iaload, 1) := by decide +kernel
theorem d_lw_law_477 : decode (mcode M_lw_law) 477 = .ok (.invokevirtual 59, 3) := by decide +kernel
theorem d_lw_law_480 : decode (mcode M_lw_law) 480 = .ok (.aload_n 2, 1) := by decide +kernel
theorem d_lw_law_481 : decode (mcode M_lw_law) 481 = .ok (.aload_n 0, 1) := by decide +kernel
theorem d_lw_law_482 : decode (mcode M_lw_law) 482 = .ok (.iload_n 3, 1) := by decide +kernel
theorem d_lw_law_483 : decode (mcode M_lw_law) 483 = .ok (.iconst 1, 1) := by decide +kernel
theorem d_lw_law_484 : decode (mcode M_lw_law) 484 = .ok (.iadd, 1) := by decide +kernel
theorem d_lw_law_485 : decode (mcode M_lw_law) 485 = .ok (.iaload, 1) := by decide +kernel
theorem d_lw_law_486 : decode (mcode M_lw_law) 486 = .ok (.aload_n 0, 1) := by decide +kernel
theorem d_lw_law_487 : decode (mcode M_lw_law) 487 = .ok (.iload_n 3, 1) := by decide +kernel
theorem d_lw_law_488 : decode (mcode M_lw_law) 488 = .ok (.iconst 2, 1) := by decide +kernel
theorem d_lw_law_489 : decode (mcode M_lw_law) 489 = .ok (.iadd, 1) := by decide +kernel
theorem d_lw_law_490 : decode (mcode M_lw_law) 490 = .ok (.iaload, 1) := by decide +kernel
theorem d_lw_law_491 : decode (mcode M_lw_law) 491 = .ok (.invokevirtual 63, 3) := by decide +kernel
theorem d_lw_law_494 : decode (mcode M_lw_law) 494 = .ok (.if_icmp .eq 338, 3) := by decide +kernel
theorem d_lw_law_497 : decode (mcode M_lw_law) 497 = .ok (.iconst 0, 1) := by decide +kernel
theorem d_lw_law_498 : decode (mcode M_lw_law) 498 = .ok (.ireturn, 1) := by decide +kernel
theorem d_lw_law_499 : decode (mcode M_lw_law) 499 = .ok (.aload_n 1, 1) := by decide +kernel
theorem d_lw_law_500 : decode (mcode M_lw_law) 500 = .ok (.aload_n 0, 1) := by decide +kernel
theorem d_lw_law_501 : decode (mcode M_lw_law) 501 = .ok (.iload_n 3, 1) := by decide +kernel
theorem d_lw_law_502 : decode (mcode M_lw_law) 502 = .ok (.iconst 1, 1) := by decide +kernel
theorem d_lw_law_503 : decode (mcode M_lw_law) 503 = .ok (.iadd, 1) := by decide +kernel
theorem d_lw_law_504 : decode (mcode M_lw_law) 504 = .ok (.iaload, 1) := by decide +kernel
theorem d_lw_law_505 : decode (mcode M_lw_law) 505 = .ok (.invokevirtual 64, 3) := by decide +kernel
theorem d_lw_law_508 : decode (mcode M_lw_law) 508 = .ok (.aload_n 2, 1) := by decide +kernel
theorem d_lw_law_509 : decode (mcode M_lw_law) 509 = .ok (.aload_n 0, 1) := by decide +kernel
theorem d_lw_law_510 : decode (mcode M_lw_law) 510 = .ok (.iload_n 3, 1) := by decide +kernel
theorem d_lw_law_511 : decode (mcode M_lw_law) 511 = .ok (.iconst 1, 1) := by decide +kernel
theorem d_lw_law_512 : decode (mcode M_lw_law) 512 = .ok (.iadd, 1) := by decide +kernel
theorem d_lw_law_513 : decode (mcode M_lw_law) 513 = .ok (.iaload, 1) := by decide +kernel
theorem d_lw_law_514 : decode (mcode M_lw_law) 514 = .ok (.invokevirtual 67, 3) := by decide +kernel
theorem d_lw_law_517 : decode (mcode M_lw_law) 517 = .ok (.if_icmp .eq 315, 3) := by decide +kernel
theorem d_lw_law_520 : decode (mcode M_lw_law) 520 = .ok (.iconst 0, 1) := by decide +kernel
theorem d_lw_law_521 : decode (mcode M_lw_law) 521 = .ok (.ireturn, 1) := by decide +kernel
theorem d_lw_law_522 : decode (mcode M_lw_law) 522 = .ok (.aload_n 1, 1) := by decide +kernel
theorem d_lw_law_523 : decode (mcode M_lw_law) 523 = .ok (.aload_n 0, 1) := by decide +kernel
theorem d_lw_law_524 : decode (mcode M_lw_law) 524 = .ok (.iload_n 3, 1) := by decide +kernel
theorem d_lw_law_525 : decode (mcode M_lw_law) 525 = .ok (.iconst 1, 1) := by decide +kernel
theorem d_lw_law_526 : decode (mcode M_lw_law) 526 = .ok (.iadd, 1) := by decide +kernel
theorem d_lw_law_527 : decode (mcode M_lw_law) 527 = .ok (.iaload, 1) := by decide +kernel
theorem d_lw_law_528 : decode (mcode M_lw_law) 528 = .ok (.invokevirtual 68, 3) := by decide +kernel
theorem d_lw_law_531 : decode (mcode M_lw_law) 531 = .ok (.aload_n 2, 1) := by decide +kernel
theorem d_lw_law_532 : decode (mcode M_lw_law) 532 = .ok (.aload_n 0, 1) := by decide +kernel
theorem d_lw_law_533 : decode (mcode M_lw_law) 533 = .ok (.iload_n 3, 1) := by decide +kernel
theorem d_lw_law_534 : decode (mcode M_lw_law) 534 = .ok (.iconst 1, 1) := by decide +kernel
theorem d_lw_law_535 : decode (mcode M_lw_law) 535 = .ok (.iadd, 1) := by decide +kernel
theorem d_lw_law_536 : decode (mcode M_lw_law) 536 = .ok (.iaload, 1) := by decide +kernel
theorem d_lw_law_537 : decode (mcode M_lw_law) 537 = .ok (.invokevirtual 71, 3) := by decide +kernel
theorem d_lw_law_540 : decode (mcode M_lw_law) 540 = .ok (.if_icmp .eq 292, 3) := by decide +kernel
theorem d_lw_law_543 : decode (mcode M_lw_law) 543 = .ok (.iconst 0, 1) := by decide +kernel
theorem d_lw_law_544 : decode (mcode M_lw_law) 544 = .ok (.ireturn, 1) := by decide +kernel
theorem d_lw_law_545 : decode (mcode M_lw_law) 545 = .ok (.aload_n 1, 1) := by decide +kernel
theorem d_lw_law_546 : decode (mcode M_lw_law) 546 = .ok (.aload_n 0, 1) := by decide +kernel
theorem d_lw_law_547 : decode (mcode M_lw_law) 547 = .ok (.iload_n 3, 1) := by decide +kernel
theorem d_lw_law_548 : decode (mcode M_lw_law) 548 = .ok (.iconst 1, 1) := by decide +kernel
theorem d_lw_law_549 : decode (mcode M_lw_law) 549 = .ok (.iadd, 1) := by decide +kernel
theorem d_lw_law_550 : decode (mcode M_lw_law) 550 = .ok (.iaload, 1) := by decide +kernel
theorem d_lw_law_551 : decode (mcode M_lw_law) 551 = .ok (.invokevirtual 72, 3) := by decide +kernel
theorem d_lw_law_554 : decode (mcode M_lw_law) 554 = .ok (.aload_n 2, 1) := by decide +kernel
theorem d_lw_law_555 : decode (mcode M_lw_law) 555 = .ok (.aload_n 0, 1) := by decide +kernel
theorem d_lw_law_556 : decode (mcode M_lw_law) 556 = .ok (.iload_n 3, 1) := by decide +kernel
theorem d_lw_law_557 : decode (mcode M_lw_law) 557 = .ok (.iconst 1, 1) := by decide +kernel
theorem d_lw_law_558 : decode (mcode M_lw_law) 558 = .ok (.iadd, 1) := by decide +kernel
theorem d_lw_law_559 : decode (mcode M_lw_law) 559 = .ok (.iaload, 1) := by decide +kernel
theorem d_lw_law_560 : decode (mcode M_lw_law) 560 = .ok (.invokevirtual 75, 3) := by decide +kernel
theorem d_lw_law_563 : decode (mcode M_lw_law) 563 = .ok (.if_icmp .eq 269, 3) := by decide +kernel
theorem d_lw_law_566 : decode (mcode M_lw_law) 566 = .ok (.iconst 0, 1) := by decide +kernel
theorem d_lw_law_567 : decode (mcode M_lw_law) 567 = .ok (.ireturn, 1) := by decide +kernel
theorem d_lw_law_568 : decode (mcode M_lw_law) 568 = .ok (.aload_n 1, 1) := by decide +kernel
theorem d_lw_law_569 : decode (mcode M_lw_law) 569 = .ok (.aload_n 0, 1) := by decide +kernel
theorem d_lw_law_570 : decode (mcode M_lw_law) 570 = .ok (.iload_n 3, 1) := by decide +kernel
theorem d_lw_law_571 : decode (mcode M_lw_law) 571 = .ok (.iconst 1, 1) := by decide +kernel
theorem d_lw_law_572 : decode (mcode M_lw_law) 572 = .ok (.iadd, 1) := by decide +kernel
theorem d_lw_law_573 : decode (mcode M_lw_law) 573 = .ok (.iaload, 1) := by decide +kernel
theorem d_lw_law_574 : decode (mcode M_lw_law) 574 = .ok (.invokevirtual 76, 3) := by decide +kernel
theorem d_lw_law_577 : decode (mcode M_lw_law) 577 = .ok (.aload_n 2, 1) := by decide +kernel
theorem d_lw_law_578 : decode (mcode M_lw_law) 578 = .ok (.aload_n 0, 1) := by decide +kernel
theorem d_lw_law_579 : decode (mcode M_lw_law) 579 = .ok (.iload_n 3, 1) := by decide +kernel
theorem d_lw_law_580 : decode (mcode M_lw_law) 580 = .ok (.iconst 1, 1) := by decide +kernel
theorem d_lw_law_581 : decode (mcode M_lw_law) 581 = .ok (.iadd, 1) := by decide +kernel
theorem d_lw_law_582 : decode (mcode M_lw_law) 582 = .ok (.iaload, 1) := by decide +kernel
theorem d_lw_law_583 : decode (mcode M_lw_law) 583 = .ok (.invokevirtual 80, 3) := by decide +kernel
theorem d_lw_law_586 : decode (mcode M_lw_law) 586 = .ok (.if_icmp .eq 246, 3) := by decide +kernel
theorem d_lw_law_589 : decode (mcode M_lw_law) 589 = .ok (.iconst 0, 1) := by decide +kernel
theorem d_lw_law_590 : decode (mcode M_lw_law) 590 = .ok (.ireturn, 1) := by decide +kernel
theorem d_lw_law_591 : decode (mcode M_lw_law) 591 = .ok (.aload_n 1, 1) := by decide +kernel
theorem d_lw_law_592 : decode (mcode M_lw_law) 592 = .ok (.aload_n 0, 1) := by decide +kernel
theorem d_lw_law_593 : decode (mcode M_lw_law) 593 = .ok (.iload_n 3, 1) := by decide +kernel
theorem d_lw_law_594 : decode (mcode M_lw_law) 594 = .ok (.iconst 1, 1) := by decide +kernel
theorem d_lw_law_595 : decode (mcode M_lw_law) 595 = .ok (.iadd, 1) := by decide +kernel
theorem d_lw_law_596 : decode (mcode M_lw_law) 596 = .ok (.iaload, 1) := by decide +kernel
theorem d_lw_law_597 : decode (mcode M_lw_law) 597 = .ok (.aload_n 0, 1) := by decide +kernel
theorem d_lw_law_598 : decode (mcode M_lw_law) 598 = .ok (.iload_n 3, 1) := by decide +kernel
theorem d_lw_law_599 : decode (mcode M_lw_law) 599 = .ok (.iconst 2, 1) := by decide +kernel
theorem d_lw_law_600 : decode (mcode M_lw_law) 600 = .ok (.iadd, 1) := by decide +kernel
theorem d_lw_law_601 : decode (mcode M_lw_law) 601 = .ok (.iaload, 1) := by decide +kernel
theorem d_lw_law_602 : decode (mcode M_lw_law) 602 = .ok (.aload_n 0, 1) := by decide +kernel
theorem d_lw_law_603 : decode (mcode M_lw_law) 603 = .ok (.iload_n 3, 1) := by decide +kernel
theorem d_lw_law_604 : decode (mcode M_lw_law) 604 = .ok (.iconst 3, 1) := by decide +kernel
theorem d_lw_law_605 : decode (mcode M_lw_law) 605 = .ok (.iadd, 1) := by decide +kernel
theorem d_lw_law_606 : decode (mcode M_lw_law) 606 = .ok (.iaload, 1) := by decide +kernel
theorem d_lw_law_607 : decode (mcode M_lw_law) 607 = .ok (.invokevirtual 81, 3) := by decide +kernel
theorem d_lw_law_610 : decode (mcode M_lw_law) 610 = .ok (.aload_n 2, 1) := by decide +kernel
theorem d_lw_law_611 : decode (mcode M_lw_law) 611 = .ok (.aload_n 0, 1) := by decide +kernel
theorem d_lw_law_612 : decode (mcode M_lw_law) 612 = .ok (.iload_n 3, 1) := by decide +kernel
theorem d_lw_law_613 : decode (mcode M_lw_law) 613 = .ok (.iconst 1, 1) := by decide +kernel
theorem d_lw_law_614 : decode (mcode M_lw_law) 614 = .ok (.iadd, 1) := by decide +kernel
theorem d_lw_law_615 : decode (mcode M_lw_law) 615 = .ok (.iaload, 1) := by decide +kernel
theorem d_lw_law_616 : decode (mcode M_lw_law) 616 = .ok (.aload_n 0, 1) := by decide +kernel
theorem d_lw_law_617 : decode (mcode M_lw_law) 617 = .ok (.iload_n 3, 1) := by decide +kernel
theorem d_lw_law_618 : decode (mcode M_lw_law) 618 = .ok (.iconst 2, 1) := by decide +kernel
theorem d_lw_law_619 : decode (mcode M_lw_law) 619 = .ok (.iadd, 1) := by decide +kernel
theorem d_lw_law_620 : decode (mcode M_lw_law) 620 = .ok (.iaload, 1) := by decide +kernel
theorem d_lw_law_621 : decode (mcode M_lw_law) 621 = .ok (.aload_n 0, 1) := by decide +kernel
theorem d_lw_law_622 : decode (mcode M_lw_law) 622 = .ok (.iload_n 3, 1) := by decide +kernel
theorem d_lw_law_623 : decode (mcode M_lw_law) 623 = .ok (.iconst 3, 1) := by decide +kernel
theorem d_lw_law_624 : decode (mcode M_lw_law) 624 = .ok (.iadd, 1) := by decide +kernel
theorem d_lw_law_625 : decode (mcode M_lw_law) 625 = .ok (.iaload, 1) := by decide +kernel
theorem d_lw_law_626 : decode (mcode M_lw_law) 626 = .ok (.invokevirtual 84, 3) := by decide +kernel
theorem d_lw_law_629 : decode (mcode M_lw_law) 629 = .ok (.if_icmp .eq 203, 3) := by decide +kernel
theorem d_lw_law_632 : decode (mcode M_lw_law) 632 = .ok (.iconst 0, 1) := by decide +kernel
theorem d_lw_law_633 : decode (mcode M_lw_law) 633 = .ok (.ireturn, 1) := by decide +kernel
theorem d_lw_law_634 : decode (mcode M_lw_law) 634 = .ok (.aload_n 1, 1) := by decide +kernel
theorem d_lw_law_635 : decode (mcode M_lw_law) 635 = .ok (.aload_n 0, 1) := by decide +kernel
theorem d_lw_law_636 : decode (mcode M_lw_law) 636 = .ok (.iload_n 3, 1) := by decide +kernel
theorem d_lw_law_637 : decode (mcode M_lw_law) 637 = .ok (.iconst 1, 1) := by decide +kernel
theorem d_lw_law_638 : decode (mcode M_lw_law) 638 = .ok (.iadd, 1) := by decide +kernel
theorem d_lw_law_639 : decode (mcode M_lw_law) 639 = .ok (.iaload, 1) := by decide +kernel
theorem d_lw_law_640 : decode (mcode M_lw_law) 640 = .ok (.aload_n 0, 1) := by decide +kernel
theorem d_lw_law_641 : decode (mcode M_lw_law) 641 = .ok (.iload_n 3, 1) := by decide +kernel
theorem d_lw_law_642 : decode (mcode M_lw_law) 642 = .ok (.iconst 2, 1) := by decide +kernel
theorem d_lw_law_643 : decode (mcode M_lw_law) 643 = .ok (.iadd, 1) := by decide +kernel
theorem d_lw_law_644 : decode (mcode M_lw_law) 644 = .ok (.iaload, 1) := by decide +kernel
theorem d_lw_law_645 : decode (mcode M_lw_law) 645 = .ok (.invokevirtual 85, 3) := by decide +kernel
theorem d_lw_law_648 : decode (mcode M_lw_law) 648 = .ok (.aload_n 2, 1) := by decide +kernel
theorem d_lw_law_649 : decode (mcode M_lw_law) 649 = .ok (.aload_n 0, 1) := by decide +kernel
theorem d_lw_law_650 : decode (mcode M_lw_law) 650 = .ok (.iload_n 3, 1) := by decide +kernel
theorem d_lw_law_651 : decode (mcode M_lw_law) 651 = .ok (.iconst 1, 1) := by decide +kernel
theorem d_lw_law_652 : decode (mcode M_lw_law) 652 = .ok (.iadd, 1) := by decide +kernel
theorem d_lw_law_653 : decode (mcode M_lw_law) 653 = .ok (.iaload, 1) := by decide +kernel
theorem d_lw_law_654 : decode (mcode M_lw_law) 654 = .ok (.aload_n 0, 1) := by decide +kernel
theorem d_lw_law_655 : decode (mcode M_lw_law) 655 = .ok (.iload_n 3, 1) := by decide +kernel
theorem d_lw_law_656 : decode (mcode M_lw_law) 656 = .ok (.iconst 2, 1) := by decide +kernel
theorem d_lw_law_657 : decode (mcode M_lw_law) 657 = .ok (.iadd, 1) := by decide +kernel
theorem d_lw_law_658 : decode (mcode M_lw_law) 658 = .ok (.iaload, 1) := by decide +kernel
theorem d_lw_law_659 : decode (mcode M_lw_law) 659 = .ok (.invokevirtual 88, 3) := by decide +kernel
theorem d_lw_law_662 : decode (mcode M_lw_law) 662 = .ok (.if_icmp .eq 170, 3) := by decide +kernel
theorem d_lw_law_665 : decode (mcode M_lw_law) 665 = .ok (.iconst 0, 1) := by decide +kernel
theorem d_lw_law_666 : decode (mcode M_lw_law) 666 = .ok (.ireturn, 1) := by decide +kernel
theorem d_lw_law_667 : decode (mcode M_lw_law) 667 = .ok (.aload_n 1, 1) := by decide +kernel
theorem d_lw_law_668 : decode (mcode M_lw_law) 668 = .ok (.aload_n 0, 1) := by decide +kernel
theorem d_lw_law_669 : decode (mcode M_lw_law) 669 = .ok (.iload_n 3, 1) := by decide +kernel
theorem d_lw_law_670 : decode (mcode M_lw_law) 670 = .ok (.iconst 1, 1) := by decide +kernel
theorem d_lw_law_671 : decode (mcode M_lw_law) 671 = .ok (.iadd, 1) := by decide +kernel
theorem d_lw_law_672 : decode (mcode M_lw_law) 672 = .ok (.iaload, 1) := by decide +kernel
theorem d_lw_law_673 : decode (mcode M_lw_law) 673 = .ok (.aload_n 0, 1) := by decide +kernel
theorem d_lw_law_674 : decode (mcode M_lw_law) 674 = .ok (.iload_n 3, 1) := by decide +kernel
theorem d_lw_law_675 : decode (mcode M_lw_law) 675 = .ok (.iconst 2, 1) := by decide +kernel
theorem d_lw_law_676 : decode (mcode M_lw_law) 676 = .ok (.iadd, 1) := by decide +kernel
theorem d_lw_law_677 : decode (mcode M_lw_law) 677 = .ok (.iaload, 1) := by decide +kernel
theorem d_lw_law_678 : decode (mcode M_lw_law) 678 = .ok (.aload_n 0, 1) := by decide +kernel
theorem d_lw_law_679 : decode (mcode M_lw_law) 679 = .ok (.iload_n 3, 1) := by decide +kernel
theorem d_lw_law_680 : decode (mcode M_lw_law) 680 = .ok (.iconst 3, 1) := by decide +kernel
theorem d_lw_law_681 : decode (mcode M_lw_law) 681 = .ok (.iadd, 1) := by decide +kernel
theorem d_lw_law_682 : decode (mcode M_lw_law) 682 = .ok (.iaload, 1) := by decide +kernel
theorem d_lw_law_683 : decode (mcode M_lw_law) 683 = .ok (.invokevirtual 89, 3) := by decide +kernel
theorem d_lw_law_686 : decode (mcode M_lw_law) 686 = .ok (.aload_n 2, 1) := by decide +kernel
theorem d_lw_law_687 : decode (mcode M_lw_law) 687 = .ok (.aload_n 0, 1) := by decide +kernel
theorem d_lw_law_688 : decode (mcode M_lw_law) 688 = .ok (.iload_n 3, 1) := by decide +kernel
theorem d_lw_law_689 : decode (mcode M_lw_law) 689 = .ok (.iconst 1, 1) := by decide +kernel
theorem d_lw_law_690 : decode (mcode M_lw_law) 690 = .ok (.iadd, 1) := by decide +kernel
theorem d_lw_law_691 : decode (mcode M_lw_law) 691 = .ok (.iaload, 1) := by decide +kernel
theorem d_lw_law_692 : decode (mcode M_lw_law) 692 = .ok (.aload_n 0, 1) := by decide +kernel
theorem d_lw_law_693 : decode (mcode M_lw_law) 693 = .ok (.iload_n 3, 1) := by decide +kernel
theorem d_lw_law_694 : decode (mcode M_lw_law) 694 = .ok (.iconst 2, 1) := by decide +kernel
theorem d_lw_law_695 : decode (mcode M_lw_law) 695 = .ok (.iadd, 1) := by decide +kernel
theorem d_lw_law_696 : decode (mcode M_lw_law) 696 = .ok (.iaload, 1) := by decide +kernel
theorem d_lw_law_697 : decode (mcode M_lw_law) 697 = .ok (.aload_n 0, 1) := by decide +kernel
theorem d_lw_law_698 : decode (mcode M_lw_law) 698 = .ok (.iload_n 3, 1) := by decide +kernel
theorem d_lw_law_699 : decode (mcode M_lw_law) 699 = .ok (.iconst 3, 1) := by decide +kernel
theorem d_lw_law_700 : decode (mcode M_lw_law) 700 = .ok (.iadd, 1) := by decide +kernel
theorem d_lw_law_701 : decode (mcode M_lw_law) 701 = .ok (.iaload, 1) := by decide +kernel
theorem d_lw_law_702 : decode (mcode M_lw_law) 702 = .ok (.invokevirtual 92, 3) := by decide +kernel
theorem d_lw_law_705 : decode (mcode M_lw_law) 705 = .ok (.if_icmp .eq 127, 3) := by decide +kernel
theorem d_lw_law_708 : decode (mcode M_lw_law) 708 = .ok (.iconst 0, 1) := by decide +kernel
theorem d_lw_law_709 : decode (mcode M_lw_law) 709 = .ok (.ireturn, 1) := by decide +kernel
theorem d_lw_law_710 : decode (mcode M_lw_law) 710 = .ok (.aload_n 1, 1) := by decide +kernel
theorem d_lw_law_711 : decode (mcode M_lw_law) 711 = .ok (.aload_n 0, 1) := by decide +kernel
theorem d_lw_law_712 : decode (mcode M_lw_law) 712 = .ok (.iload_n 3, 1) := by decide +kernel
theorem d_lw_law_713 : decode (mcode M_lw_law) 713 = .ok (.iconst 1, 1) := by decide +kernel
theorem d_lw_law_714 : decode (mcode M_lw_law) 714 = .ok (.iadd, 1) := by decide +kernel
theorem d_lw_law_715 : decode (mcode M_lw_law) 715 = .ok (.iaload, 1) := by decide +kernel
theorem d_lw_law_716 : decode (mcode M_lw_law) 716 = .ok (.aload_n 0, 1) := by decide +kernel
theorem d_lw_law_717 : decode (mcode M_lw_law) 717 = .ok (.iload_n 3, 1) := by decide +kernel
theorem d_lw_law_718 : decode (mcode M_lw_law) 718 = .ok (.iconst 2, 1) := by decide +kernel
theorem d_lw_law_719 : decode (mcode M_lw_law) 719 = .ok (.iadd, 1) := by decide +kernel
theorem d_lw_law_720 : decode (mcode M_lw_law) 720 = .ok (.iaload, 1) := by decide +kernel
theorem d_lw_law_721 : decode (mcode M_lw_law) 721 = .ok (.invokevirtual 93, 3) := by decide +kernel
theorem d_lw_law_724 : decode (mcode M_lw_law) 724 = .ok (.aload_n 2, 1) := by decide +kernel
theorem d_lw_law_725 : decode (mcode M_lw_law) 725 = .ok (.aload_n 0, 1) := by decide +kernel
theorem d_lw_law_726 : decode (mcode M_lw_law) 726 = .ok (.iload_n 3, 1) := by decide +kernel
theorem d_lw_law_727 : decode (mcode M_lw_law) 727 = .ok (.iconst 1, 1) := by decide +kernel
theorem d_lw_law_728 : decode (mcode M_lw_law) 728 = .ok (.iadd, 1) := by decide +kernel
theorem d_lw_law_729 : decode (mcode M_lw_law) 729 = .ok (.iaload, 1) := by decide +kernel
theorem d_lw_law_730 : decode (mcode M_lw_law) 730 = .ok (.aload_n 0, 1) := by decide +kernel
theorem d_lw_law_731 : decode (mcode M_lw_law) 731 = .ok (.iload_n 3, 1) := by decide +kernel
theorem d_lw_law_732 : decode (mcode M_lw_law) 732 = .ok (.iconst 2, 1) := by decide +kernel
theorem d_lw_law_733 : decode (mcode M_lw_law) 733 = .ok (.iadd, 1) := by decide +kernel
theorem d_lw_law_734 : decode (mcode M_lw_law) 734 = .ok (.iaload, 1) := by decide +kernel
theorem d_lw_law_735 : decode (mcode M_lw_law) 735 = .ok (.invokevirtual 96, 3) := by decide +kernel
theorem d_lw_law_738 : decode (mcode M_lw_law) 738 = .ok (.if_icmp .eq 94, 3) := by decide +kernel
theorem d_lw_law_741 : decode (mcode M_lw_law) 741 = .ok (.iconst 0, 1) := by decide +kernel
theorem d_lw_law_742 : decode (mcode M_lw_law) 742 = .ok (.ireturn, 1) := by decide +kernel
theorem d_lw_law_743 : decode (mcode M_lw_law) 743 = .ok (.aload_n 1, 1) := by decide +kernel
theorem d_lw_law_744 : decode (mcode M_lw_law) 744 = .ok (.aload_n 0, 1) := by decide +kernel
theorem d_lw_law_745 : decode (mcode M_lw_law) 745 = .ok (.iload_n 3, 1) := by decide +kernel
theorem d_lw_law_746 : decode (mcode M_lw_law) 746 = .ok (.iconst 1, 1) := by decide +kernel
theorem d_lw_law_747 : decode (mcode M_lw_law) 747 = .ok (.iadd, 1) := by decide +kernel
theorem d_lw_law_748 : decode (mcode M_lw_law) 748 = .ok (.iaload, 1) := by decide +kernel
theorem d_lw_law_749 : decode (mcode M_lw_law) 749 = .ok (.aload_n 0, 1) := by decide +kernel
theorem d_lw_law_750 : decode (mcode M_lw_law) 750 = .ok (.iload_n 3, 1) := by decide +kernel
theorem d_lw_law_751 : decode (mcode M_lw_law) 751 = .ok (.iconst 2, 1) := by decide +kernel
theorem d_lw_law_752 : decode (mcode M_lw_law) 752 = .ok (.iadd, 1) := by decide +kernel
theorem d_lw_law_753 : decode (mcode M_lw_law) 753 = .ok (.iaload, 1) := by decide +kernel
theorem d_lw_law_754 : decode (mcode M_lw_law) 754 = .ok (.aload_n 0, 1) := by decide +kernel
theorem d_lw_law_755 : decode (mcode M_lw_law) 755 = .ok (.iload_n 3, 1) := by decide +kernel
theorem d_lw_law_756 : decode (mcode M_lw_law) 756 = .ok (.iconst 3, 1) := by decide +kernel
theorem d_lw_law_757 : decode (mcode M_lw_law) 757 = .ok (.iadd, 1) := by decide +kernel
theorem d_lw_law_758 : decode (mcode M_lw_law) 758 = .ok (.iaload, 1) := by decide +kernel
theorem d_lw_law_759 : decode (mcode M_lw_law) 759 = .ok (.invokevirtual 97, 3) := by decide +kernel
theorem d_lw_law_762 : decode (mcode M_lw_law) 762 = .ok (.aload_n 2, 1) := by decide +kernel
theorem d_lw_law_763 : decode (mcode M_lw_law) 763 = .ok (.aload_n 0, 1) := by decide +kernel
theorem d_lw_law_764 : decode (mcode M_lw_law) 764 = .ok (.iload_n 3, 1) := by decide +kernel
theorem d_lw_law_765 : decode (mcode M_lw_law) 765 = .ok (.iconst 1, 1) := by decide +kernel
theorem d_lw_law_766 : decode (mcode M_lw_law) 766 = .ok (.iadd, 1) := by decide +kernel
theorem d_lw_law_767 : decode (mcode M_lw_law) 767 = .ok (.iaload, 1) := by decide +kernel
theorem d_lw_law_768 : decode (mcode M_lw_law) 768 = .ok (.aload_n 0, 1) := by decide +kernel
theorem d_lw_law_769 : decode (mcode M_lw_law) 769 = .ok (.iload_n 3, 1) := by decide +kernel
theorem d_lw_law_770 : decode (mcode M_lw_law) 770 = .ok (.iconst 2, 1) := by decide +kernel
theorem d_lw_law_771 : decode (mcode M_lw_law) 771 = .ok (.iadd, 1) := by decide +kernel
theorem d_lw_law_772 : decode (mcode M_lw_law) 772 = .ok (.iaload, 1) := by decide +kernel
theorem d_lw_law_773 : decode (mcode M_lw_law) 773 = .ok (.aload_n 0, 1) := by decide +kernel
theorem d_lw_law_774 : decode (mcode M_lw_law) 774 = .ok (.iload_n 3, 1) := by decide +kernel
theorem d_lw_law_775 : decode (mcode M_lw_law) 775 = .ok (.iconst 3, 1) := by decide +kernel
theorem d_lw_law_776 : decode (mcode M_lw_law) 776 = .ok (.iadd, 1) := by decide +kernel
theorem d_lw_law_777 : decode (mcode M_lw_law) 777 = .ok (.iaload, 1) := by decide +kernel
theorem d_lw_law_778 : decode (mcode M_lw_law) 778 = .ok (.invokevirtual 100, 3) := by decide +kernel
theorem d_lw_law_781 : decode (mcode M_lw_law) 781 = .ok (.if_icmp .eq 51, 3) := by decide +kernel
theorem d_lw_law_784 : decode (mcode M_lw_law) 784 = .ok (.iconst 0, 1) := by decide +kernel
theorem d_lw_law_785 : decode (mcode M_lw_law) 785 = .ok (.ireturn, 1) := by decide +kernel
theorem d_lw_law_786 : decode (mcode M_lw_law) 786 = .ok (.aload_n 1, 1) := by decide +kernel
theorem d_lw_law_787 : decode (mcode M_lw_law) 787 = .ok (.aload_n 0, 1) := by decide +kernel
theorem d_lw_law_788 : decode (mcode M_lw_law) 788 = .ok (.iload_n 3, 1) := by decide +kernel
theorem d_lw_law_789 : decode (mcode M_lw_law) 789 = .ok (.iconst 1, 1) := by decide +kernel
theorem d_lw_law_790 : decode (mcode M_lw_law) 790 = .ok (.iadd, 1) := by decide +kernel
theorem d_lw_law_791 : decode (mcode M_lw_law) 791 = .ok (.iaload, 1) := by decide +kernel
theorem d_lw_law_792 : decode (mcode M_lw_law) 792 = .ok (.invokevirtual 101, 3) := by decide +kernel
theorem d_lw_law_795 : decode (mcode M_lw_law) 795 = .ok (.aload_n 2, 1) := by decide +kernel
theorem d_lw_law_796 : decode (mcode M_lw_law) 796 = .ok (.aload_n 0, 1) := by decide +kernel
theorem d_lw_law_797 : decode (mcode M_lw_law) 797 = .ok (.iload_n 3, 1) := by decide +kernel
theorem d_lw_law_798 : decode (mcode M_lw_law) 798 = .ok (.iconst 1, 1) := by decide +kernel
theorem d_lw_law_799 : decode (mcode M_lw_law) 799 = .ok (.iadd, 1) := by decide +kernel
theorem d_lw_law_800 : decode (mcode M_lw_law) 800 = .ok (.iaload, 1) := by decide +kernel
theorem d_lw_law_801 : decode (mcode M_lw_law) 801 = .ok (.invokevirtual 104, 3) := by decide +kernel
theorem d_lw_law_804 : decode (mcode M_lw_law) 804 = .ok (.if_icmp .eq 28, 3) := by decide +kernel
theorem d_lw_law_807 : decode (mcode M_lw_law) 807 = .ok (.iconst 0, 1) := by decide +kernel
theorem d_lw_law_808 : decode (mcode M_lw_law) 808 = .ok (.ireturn, 1) := by decide +kernel
theorem d_lw_law_809 : decode (mcode M_lw_law) 809 = .ok (.aload_n 1, 1) := by decide +kernel
theorem d_lw_law_810 : decode (mcode M_lw_law) 810 = .ok (.aload_n 0, 1) := by decide +kernel
theorem d_lw_law_811 : decode (mcode M_lw_law) 811 = .ok (.iload_n 3, 1) := by decide +kernel
theorem d_lw_law_812 : decode (mcode M_lw_law) 812 = .ok (.iconst 1, 1) := by decide +kernel
theorem d_lw_law_813 : decode (mcode M_lw_law) 813 = .ok (.iadd, 1) := by decide +kernel
theorem d_lw_law_814 : decode (mcode M_lw_law) 814 = .ok (.iaload, 1) := by decide +kernel
theorem d_lw_law_815 : decode (mcode M_lw_law) 815 = .ok (.invokevirtual 105, 3) := by decide +kernel
theorem d_lw_law_818 : decode (mcode M_lw_law) 818 = .ok (.aload_n 2, 1) := by decide +kernel
theorem d_lw_law_819 : decode (mcode M_lw_law) 819 = .ok (.aload_n 0, 1) := by decide +kernel
theorem d_lw_law_820 : decode (mcode M_lw_law) 820 = .ok (.iload_n 3, 1) := by decide +kernel
theorem d_lw_law_821 : decode (mcode M_lw_law) 821 = .ok (.iconst 1, 1) := by decide +kernel
theorem d_lw_law_822 : decode (mcode M_lw_law) 822 = .ok (.iadd, 1) := by decide +kernel
theorem d_lw_law_823 : decode (mcode M_lw_law) 823 = .ok (.iaload, 1) := by decide +kernel
theorem d_lw_law_824 : decode (mcode M_lw_law) 824 = .ok (.invokevirtual 108, 3) := by decide +kernel
theorem d_lw_law_827 : decode (mcode M_lw_law) 827 = .ok (.if_icmp .eq 5, 3) := by decide +kernel
theorem d_lw_law_830 : decode (mcode M_lw_law) 830 = .ok (.iconst 0, 1) := by decide +kernel
theorem d_lw_law_831 : decode (mcode M_lw_law) 831 = .ok (.ireturn, 1) := by decide +kernel
theorem d_lw_law_832 : decode (mcode M_lw_law) 832 = .ok (.iinc 3 5, 3) := by decide +kernel
theorem d_lw_law_835 : decode (mcode M_lw_law) 835 = .ok (.goto (-817), 3) := by decide +kernel
theorem d_lw_law_838 : decode (mcode M_lw_law) 838 = .ok (.iconst 1, 1) := by decide +kernel
theorem d_lw_law_839 : decode (mcode M_lw_law) 839 = .ok (.ireturn, 1) := by decide +kernel
end
section
/-! the rows once more, as the walks use them -/
section RULES2
variable {d : Nat} {y : MI} {pc : Nat} {ls : List (Option Value)} {st : List Value} {G : AHp} {kc ks : Nat} {Q : Option Value → AHp → Prop}
theorem A.iload_k {n : Fin 4} {x : Int32} (i : Nat) (hi : (n : Nat) = i) (hl : ls[i]? = some (some (.int x))) (hd : decode (mcode y) pc = .ok (.iload_n n, 1)) (k : A d y (pc + 1) ls (.int x :: st) G kc ks Q) : A d y pc ls st G kc ks Q := by subst hi; exact A.iload_n hl hd k
theorem A.lload_k {n : Fin 4} {x : Int64} (i : Nat) (hi : (n : Nat) = i) (hl : ls[i]? = some (some (.long x))) (hd : decode (mcode y) pc = .ok (.lload_n n, 1)) (k : A d y (pc + 1) ls (.long x :: st) G kc ks Q) : A d y pc ls st G kc ks Q := by subst hi; exact A.lload_n hl hd k
theorem A.aload_k {n : Fin 4} {v : Value} (i : Nat) (hi : (n : Nat) = i) (hl : ls[i]? = some (some v)) (hr : isrf v = true) (hd : decode (mcode y) pc = .ok (.aload_n n, 1)) (k : A d y (pc + 1) ls (v :: st) G kc ks Q) : A d y pc ls st G kc ks Q := by subst hi; exact A.aload_n hl hr hd k
theorem A.istore_k {n : Fin 4} {x : Int32} (i : Nat) (hi : (n : Nat) = i) (hlt : i < y.2.2.1) (hp : okst ls i = true) (hd : decode (mcode y) pc = .ok (.istore_n n, 1)) (k : A d y (pc + 1) (ls.set i (some (.int x))) st G kc ks Q) : A d y pc ls (.int x :: st) G kc ks Q := by subst hi; exact A.istore_n hlt hp hd k
theorem A.lstore_k {n : Fin 4} {x : Int64} (i : Nat) (hi : (n : Nat) = i) (hlt : i + 1 < y.2.2.1) (hp : okst ls i = true) (hd : decode (mcode y) pc = .ok (.lstore_n n, 1)) (k : A d y (pc + 1) ((ls.set i (some (.long x))).set (i + 1) none) st G kc ks Q) : A d y pc ls (.long x :: st) G kc ks Q := by subst hi; exact A.lstore_n hlt hp hd k
theorem A.astore_k {n : Fin 4} {v : Value} (i : Nat) (hi : (n : Nat) = i) (hlt : i < y.2.2.1) (hr : isrf v = true) (hp : okst ls i = true) (hd : decode (mcode y) pc = .ok (.astore_n n, 1)) (k : A d y (pc + 1) (ls.set i (some v)) st G kc ks Q) : A d y pc ls (v :: st) G kc ks Q := by
  subst hi
  cases v <;> first | (cases hr; done) | exact A.astore_nr hlt hp hd k | exact A.astore_n0 hlt hp hd k
theorem A.astore {n : Nat} {v : Value} (hlt : n < y.2.2.1) (hr : isrf v = true) (hp : okst ls n = true) (hd : decode (mcode y) pc = .ok (.astore n, 2)) (k : A d y (pc + 2) (ls.set n (some v)) st G kc ks Q) : A d y pc ls (v :: st) G kc ks Q := by
  cases v <;> first | (cases hr; done) | exact A.astore_r hlt hp hd k | exact A.astore_0 hlt hp hd k
theorem isrf_rf (o : Option Nat) : isrf (va_rf o) = true := by cases o <;> rfl
theorem A.if_eq0 {off : Int} (tgt : Nat) (ht : (pc : Int) + off = (tgt : Int)) (hd : decode (mcode y) pc = .ok (.ifCond .eq off, 3)) (k : A d y tgt ls st G kc ks Q) : A d y pc ls (.int 0 :: st) G kc ks Q := A.if_eq tgt ht hd (fun _ => k) (fun h => absurd rfl h)
theorem A.if_eq1 {off : Int} (hd : decode (mcode y) pc = .ok (.ifCond .eq off, 3)) {tgt : Nat} (ht : (pc : Int) + off = (tgt : Int)) (k : A d y (pc + 3) ls st G kc ks Q) : A d y pc ls (.int 1 :: st) G kc ks Q := A.if_eq tgt ht hd (fun h => absurd h (by decide)) (fun _ => k)
theorem A.if_ne0 {off : Int} (hd : decode (mcode y) pc = .ok (.ifCond .ne off, 3)) {tgt : Nat} (ht : (pc : Int) + off = (tgt : Int)) (k : A d y (pc + 3) ls st G kc ks Q) : A d y pc ls (.int 0 :: st) G kc ks Q := A.if_ne tgt ht hd (fun h => absurd rfl h) (fun _ => k)
theorem A.if_ne1 {off : Int} (tgt : Nat) (ht : (pc : Int) + off = (tgt : Int)) (hd : decode (mcode y) pc = .ok (.ifCond .ne off, 3)) (k : A d y tgt ls st G kc ks Q) : A d y pc ls (.int 1 :: st) G kc ks Q := A.if_ne tgt ht hd (fun _ => k) (fun h => absurd h (by decide))
theorem A.callS0 {idx d1 : Nat} {y' : MI} {ls' : List (Option Value)} (hl : LkS (mcls y) idx y' 0) (hlen : (entl []).length ≤ y'.2.2.1) (hw : (st.map fun v => v.category).sum ≤ 8) (hdd : d1 + 1 ≤ d) (hd : decode (mcode y) pc = .ok (.invokestatic idx, 3)) (he : ent y'.2.2.1 [] = ls') (kk : A d1 y' 0 ls' [] G 0 0 (fun v G' => A d y (pc + 3) ls (psh v st) G' kc ks Q)) : A d y pc ls (st) G kc ks Q := by
  subst he
  exact A.callS (As := []) hl rfl hlen hw hdd (by omega) (by omega) hd kk
theorem A.callV0 {o idx ci d1 : Nat} {y' : MI} {ls' : List (Option Value)} (hl : LkV (mcls y) idx y' ci 0) (ha : ∃ fs, G o = some (oB ci fs)) (hlen : (entl [.ref o]).length ≤ y'.2.2.1) (hw : (st.map fun v => v.category).sum ≤ 8) (hdd : d1 + 1 ≤ d) (hd : decode (mcode y) pc = .ok (.invokevirtual idx, 3)) (he : ent y'.2.2.1 [.ref o] = ls') (kk : A d1 y' 0 ls' [] G 0 0 (fun v G' => A d y (pc + 3) ls (psh v st) G' kc ks Q)) : A d y pc ls (.ref o :: st) G kc ks Q := by
  subst he
  obtain ⟨fs, ha⟩ := ha
  exact A.callV (As := []) hl ha rfl hlen hw hdd (by omega) (by omega) hd kk
theorem A.callVa0 {o idx ci d1 kc1 ks1 kc2 ks2 : Nat} {y' : MI} {ls' : List (Option Value)} (hl : LkV (mcls y) idx y' ci 0) (ha : ∃ fs, G o = some (oB ci fs)) (hlen : (entl [.ref o]).length ≤ y'.2.2.1) (hw : (st.map fun v => v.category).sum ≤ 8) (hdd : d1 + 1 ≤ d) (hd : decode (mcode y) pc = .ok (.invokevirtual idx, 3)) (hkc : kc1 + kc2 ≤ kc) (hks : ks1 + ks2 ≤ ks) (he : ent y'.2.2.1 [.ref o] = ls') (kk : A d1 y' 0 ls' [] G kc1 ks1 (fun v G' => A d y (pc + 3) ls (psh v st) G' kc2 ks2 Q)) : A d y pc ls (.ref o :: st) G kc ks Q := by
  subst he
  obtain ⟨fs, ha⟩ := ha
  exact A.callV (As := []) hl ha rfl hlen hw hdd hkc hks hd kk
theorem A.callIa0 {o idx d1 kc1 ks1 kc2 ks2 : Nat} {y' : MI} {ls' : List (Option Value)} (hl : LkI (mcls y) idx y' 0) (hlen : (entl [.ref o]).length ≤ y'.2.2.1) (hw : (st.map fun v => v.category).sum ≤ 8) (hdd : d1 + 1 ≤ d) (hd : decode (mcode y) pc = .ok (.invokespecial idx, 3)) (hkc : kc1 + kc2 ≤ kc) (hks : ks1 + ks2 ≤ ks) (he : ent y'.2.2.1 [.ref o] = ls') (kk : A d1 y' 0 ls' [] G kc1 ks1 (fun v G' => A d y (pc + 3) ls (psh v st) G' kc2 ks2 Q)) : A d y pc ls (.ref o :: st) G kc ks Q := by
  subst he
  exact A.callI (As := []) hl rfl hlen hw hdd hkc hks hd kk
theorem A.callS1 {va : Value} {idx d1 : Nat} {y' : MI} {ls' : List (Option Value)} (hl : LkS (mcls y) idx y' 1) (hlen : (entl [va]).length ≤ y'.2.2.1) (hw : (st.map fun v => v.category).sum ≤ 8) (hdd : d1 + 1 ≤ d) (hd : decode (mcode y) pc = .ok (.invokestatic idx, 3)) (he : ent y'.2.2.1 [va] = ls') (kk : A d1 y' 0 ls' [] G 0 0 (fun v G' => A d y (pc + 3) ls (psh v st) G' kc ks Q)) : A d y pc ls (va :: st) G kc ks Q := by
  subst he
  exact A.callS (As := [va]) hl rfl hlen hw hdd (by omega) (by omega) hd kk
theorem A.callV1 {va : Value} {o idx ci d1 : Nat} {y' : MI} {ls' : List (Option Value)} (hl : LkV (mcls y) idx y' ci 1) (ha : ∃ fs, G o = some (oB ci fs)) (hlen : (entl [.ref o, va]).length ≤ y'.2.2.1) (hw : (st.map fun v => v.category).sum ≤ 8) (hdd : d1 + 1 ≤ d) (hd : decode (mcode y) pc = .ok (.invokevirtual idx, 3)) (he : ent y'.2.2.1 [.ref o, va] = ls') (kk : A d1 y' 0 ls' [] G 0 0 (fun v G' => A d y (pc + 3) ls (psh v st) G' kc ks Q)) : A d y pc ls (va :: .ref o :: st) G kc ks Q := by
  subst he
  obtain ⟨fs, ha⟩ := ha
  exact A.callV (As := [va]) hl ha rfl hlen hw hdd (by omega) (by omega) hd kk
theorem A.callVa1 {va : Value} {o idx ci d1 kc1 ks1 kc2 ks2 : Nat} {y' : MI} {ls' : List (Option Value)} (hl : LkV (mcls y) idx y' ci 1) (ha : ∃ fs, G o = some (oB ci fs)) (hlen : (entl [.ref o, va]).length ≤ y'.2.2.1) (hw : (st.map fun v => v.category).sum ≤ 8) (hdd : d1 + 1 ≤ d) (hd : decode (mcode y) pc = .ok (.invokevirtual idx, 3)) (hkc : kc1 + kc2 ≤ kc) (hks : ks1 + ks2 ≤ ks) (he : ent y'.2.2.1 [.ref o, va] = ls') (kk : A d1 y' 0 ls' [] G kc1 ks1 (fun v G' => A d y (pc + 3) ls (psh v st) G' kc2 ks2 Q)) : A d y pc ls (va :: .ref o :: st) G kc ks Q := by
  subst he
  obtain ⟨fs, ha⟩ := ha
  exact A.callV (As := [va]) hl ha rfl hlen hw hdd hkc hks hd kk
theorem A.callIa1 {va : Value} {o idx d1 kc1 ks1 kc2 ks2 : Nat} {y' : MI} {ls' : List (Option Value)} (hl : LkI (mcls y) idx y' 1) (hlen : (entl [.ref o, va]).length ≤ y'.2.2.1) (hw : (st.map fun v => v.category).sum ≤ 8) (hdd : d1 + 1 ≤ d) (hd : decode (mcode y) pc = .ok (.invokespecial idx, 3)) (hkc : kc1 + kc2 ≤ kc) (hks : ks1 + ks2 ≤ ks) (he : ent y'.2.2.1 [.ref o, va] = ls') (kk : A d1 y' 0 ls' [] G kc1 ks1 (fun v G' => A d y (pc + 3) ls (psh v st) G' kc2 ks2 Q)) : A d y pc ls (va :: .ref o :: st) G kc ks Q := by
  subst he
  exact A.callI (As := [va]) hl rfl hlen hw hdd hkc hks hd kk
theorem A.callS2 {va vb : Value} {idx d1 : Nat} {y' : MI} {ls' : List (Option Value)} (hl : LkS (mcls y) idx y' 2) (hlen : (entl [va, vb]).length ≤ y'.2.2.1) (hw : (st.map fun v => v.category).sum ≤ 8) (hdd : d1 + 1 ≤ d) (hd : decode (mcode y) pc = .ok (.invokestatic idx, 3)) (he : ent y'.2.2.1 [va, vb] = ls') (kk : A d1 y' 0 ls' [] G 0 0 (fun v G' => A d y (pc + 3) ls (psh v st) G' kc ks Q)) : A d y pc ls (vb :: va :: st) G kc ks Q := by
  subst he
  exact A.callS (As := [va, vb]) hl rfl hlen hw hdd (by omega) (by omega) hd kk
theorem A.callV2 {va vb : Value} {o idx ci d1 : Nat} {y' : MI} {ls' : List (Option Value)} (hl : LkV (mcls y) idx y' ci 2) (ha : ∃ fs, G o = some (oB ci fs)) (hlen : (entl [.ref o, va, vb]).length ≤ y'.2.2.1) (hw : (st.map fun v => v.category).sum ≤ 8) (hdd : d1 + 1 ≤ d) (hd : decode (mcode y) pc = .ok (.invokevirtual idx, 3)) (he : ent y'.2.2.1 [.ref o, va, vb] = ls') (kk : A d1 y' 0 ls' [] G 0 0 (fun v G' => A d y (pc + 3) ls (psh v st) G' kc ks Q)) : A d y pc ls (vb :: va :: .ref o :: st) G kc ks Q := by
  subst he
  obtain ⟨fs, ha⟩ := ha
  exact A.callV (As := [va, vb]) hl ha rfl hlen hw hdd (by omega) (by omega) hd kk
theorem A.callVa2 {va vb : Value} {o idx ci d1 kc1 ks1 kc2 ks2 : Nat} {y' : MI} {ls' : List (Option Value)} (hl : LkV (mcls y) idx y' ci 2) (ha : ∃ fs, G o = some (oB ci fs)) (hlen : (entl [.ref o, va, vb]).length ≤ y'.2.2.1) (hw : (st.map fun v => v.category).sum ≤ 8) (hdd : d1 + 1 ≤ d) (hd : decode (mcode y) pc = .ok (.invokevirtual idx, 3)) (hkc : kc1 + kc2 ≤ kc) (hks : ks1 + ks2 ≤ ks) (he : ent y'.2.2.1 [.ref o, va, vb] = ls') (kk : A d1 y' 0 ls' [] G kc1 ks1 (fun v G' => A d y (pc + 3) ls (psh v st) G' kc2 ks2 Q)) : A d y pc ls (vb :: va :: .ref o :: st) G kc ks Q := by
  subst he
  obtain ⟨fs, ha⟩ := ha
  exact A.callV (As := [va, vb]) hl ha rfl hlen hw hdd hkc hks hd kk
theorem A.callIa2 {va vb : Value} {o idx d1 kc1 ks1 kc2 ks2 : Nat} {y' : MI} {ls' : List (Option Value)} (hl : LkI (mcls y) idx y' 2) (hlen : (entl [.ref o, va, vb]).length ≤ y'.2.2.1) (hw : (st.map fun v => v.category).sum ≤ 8) (hdd : d1 + 1 ≤ d) (hd : decode (mcode y) pc = .ok (.invokespecial idx, 3)) (hkc : kc1 + kc2 ≤ kc) (hks : ks1 + ks2 ≤ ks) (he : ent y'.2.2.1 [.ref o, va, vb] = ls') (kk : A d1 y' 0 ls' [] G kc1 ks1 (fun v G' => A d y (pc + 3) ls (psh v st) G' kc2 ks2 Q)) : A d y pc ls (vb :: va :: .ref o :: st) G kc ks Q := by
  subst he
  exact A.callI (As := [va, vb]) hl rfl hlen hw hdd hkc hks hd kk
theorem A.callSa2 {va vb : Value} {idx d1 kc1 ks1 kc2 ks2 : Nat} {y' : MI} {ls' : List (Option Value)} (hl : LkS (mcls y) idx y' 2) (hlen : (entl [va, vb]).length ≤ y'.2.2.1) (hw : (st.map fun v => v.category).sum ≤ 8) (hdd : d1 + 1 ≤ d) (hd : decode (mcode y) pc = .ok (.invokestatic idx, 3)) (hkc : kc1 + kc2 ≤ kc) (hks : ks1 + ks2 ≤ ks) (he : ent y'.2.2.1 [va, vb] = ls') (kk : A d1 y' 0 ls' [] G kc1 ks1 (fun v G' => A d y (pc + 3) ls (psh v st) G' kc2 ks2 Q)) : A d y pc ls (vb :: va :: st) G kc ks Q := by
  subst he
  exact A.callS (As := [va, vb]) hl rfl hlen hw hdd hkc hks hd kk
theorem A.callS3 {va vb vc : Value} {idx d1 : Nat} {y' : MI} {ls' : List (Option Value)} (hl : LkS (mcls y) idx y' 3) (hlen : (entl [va, vb, vc]).length ≤ y'.2.2.1) (hw : (st.map fun v => v.category).sum ≤ 8) (hdd : d1 + 1 ≤ d) (hd : decode (mcode y) pc = .ok (.invokestatic idx, 3)) (he : ent y'.2.2.1 [va, vb, vc] = ls') (kk : A d1 y' 0 ls' [] G 0 0 (fun v G' => A d y (pc + 3) ls (psh v st) G' kc ks Q)) : A d y pc ls (vc :: vb :: va :: st) G kc ks Q := by
  subst he
  exact A.callS (As := [va, vb, vc]) hl rfl hlen hw hdd (by omega) (by omega) hd kk
theorem A.callV3 {va vb vc : Value} {o idx ci d1 : Nat} {y' : MI} {ls' : List (Option Value)} (hl : LkV (mcls y) idx y' ci 3) (ha : ∃ fs, G o = some (oB ci fs)) (hlen : (entl [.ref o, va, vb, vc]).length ≤ y'.2.2.1) (hw : (st.map fun v => v.category).sum ≤ 8) (hdd : d1 + 1 ≤ d) (hd : decode (mcode y) pc = .ok (.invokevirtual idx, 3)) (he : ent y'.2.2.1 [.ref o, va, vb, vc] = ls') (kk : A d1 y' 0 ls' [] G 0 0 (fun v G' => A d y (pc + 3) ls (psh v st) G' kc ks Q)) : A d y pc ls (vc :: vb :: va :: .ref o :: st) G kc ks Q := by
  subst he
  obtain ⟨fs, ha⟩ := ha
  exact A.callV (As := [va, vb, vc]) hl ha rfl hlen hw hdd (by omega) (by omega) hd kk
theorem A.callVa3 {va vb vc : Value} {o idx ci d1 kc1 ks1 kc2 ks2 : Nat} {y' : MI} {ls' : List (Option Value)} (hl : LkV (mcls y) idx y' ci 3) (ha : ∃ fs, G o = some (oB ci fs)) (hlen : (entl [.ref o, va, vb, vc]).length ≤ y'.2.2.1) (hw : (st.map fun v => v.category).sum ≤ 8) (hdd : d1 + 1 ≤ d) (hd : decode (mcode y) pc = .ok (.invokevirtual idx, 3)) (hkc : kc1 + kc2 ≤ kc) (hks : ks1 + ks2 ≤ ks) (he : ent y'.2.2.1 [.ref o, va, vb, vc] = ls') (kk : A d1 y' 0 ls' [] G kc1 ks1 (fun v G' => A d y (pc + 3) ls (psh v st) G' kc2 ks2 Q)) : A d y pc ls (vc :: vb :: va :: .ref o :: st) G kc ks Q := by
  subst he
  obtain ⟨fs, ha⟩ := ha
  exact A.callV (As := [va, vb, vc]) hl ha rfl hlen hw hdd hkc hks hd kk
theorem A.callIa3 {va vb vc : Value} {o idx d1 kc1 ks1 kc2 ks2 : Nat} {y' : MI} {ls' : List (Option Value)} (hl : LkI (mcls y) idx y' 3) (hlen : (entl [.ref o, va, vb, vc]).length ≤ y'.2.2.1) (hw : (st.map fun v => v.category).sum ≤ 8) (hdd : d1 + 1 ≤ d) (hd : decode (mcode y) pc = .ok (.invokespecial idx, 3)) (hkc : kc1 + kc2 ≤ kc) (hks : ks1 + ks2 ≤ ks) (he : ent y'.2.2.1 [.ref o, va, vb, vc] = ls') (kk : A d1 y' 0 ls' [] G kc1 ks1 (fun v G' => A d y (pc + 3) ls (psh v st) G' kc2 ks2 Q)) : A d y pc ls (vc :: vb :: va :: .ref o :: st) G kc ks Q := by
  subst he
  exact A.callI (As := [va, vb, vc]) hl rfl hlen hw hdd hkc hks hd kk
theorem A.callSa3 {va vb vc : Value} {idx d1 kc1 ks1 kc2 ks2 : Nat} {y' : MI} {ls' : List (Option Value)} (hl : LkS (mcls y) idx y' 3) (hlen : (entl [va, vb, vc]).length ≤ y'.2.2.1) (hw : (st.map fun v => v.category).sum ≤ 8) (hdd : d1 + 1 ≤ d) (hd : decode (mcode y) pc = .ok (.invokestatic idx, 3)) (hkc : kc1 + kc2 ≤ kc) (hks : ks1 + ks2 ≤ ks) (he : ent y'.2.2.1 [va, vb, vc] = ls') (kk : A d1 y' 0 ls' [] G kc1 ks1 (fun v G' => A d y (pc + 3) ls (psh v st) G' kc2 ks2 Q)) : A d y pc ls (vc :: vb :: va :: st) G kc ks Q := by
  subst he
  exact A.callS (As := [va, vb, vc]) hl rfl hlen hw hdd hkc hks hd kk
theorem A.callS4 {va vb vc vd : Value} {idx d1 : Nat} {y' : MI} {ls' : List (Option Value)} (hl : LkS (mcls y) idx y' 4) (hlen : (entl [va, vb, vc, vd]).length ≤ y'.2.2.1) (hw : (st.map fun v => v.category).sum ≤ 8) (hdd : d1 + 1 ≤ d) (hd : decode (mcode y) pc = .ok (.invokestatic idx, 3)) (he : ent y'.2.2.1 [va, vb, vc, vd] = ls') (kk : A d1 y' 0 ls' [] G 0 0 (fun v G' => A d y (pc + 3) ls (psh v st) G' kc ks Q)) : A d y pc ls (vd :: vc :: vb :: va :: st) G kc ks Q := by
  subst he
  exact A.callS (As := [va, vb, vc, vd]) hl rfl hlen hw hdd (by omega) (by omega) hd kk
theorem A.callV4 {va vb vc vd : Value} {o idx ci d1 : Nat} {y' : MI} {ls' : List (Option Value)} (hl : LkV (mcls y) idx y' ci 4) (ha : ∃ fs, G o = some (oB ci fs)) (hlen : (entl [.ref o, va, vb, vc, vd]).length ≤ y'.2.2.1) (hw : (st.map fun v => v.category).sum ≤ 8) (hdd : d1 + 1 ≤ d) (hd : decode (mcode y) pc = .ok (.invokevirtual idx, 3)) (he : ent y'.2.2.1 [.ref o, va, vb, vc, vd] = ls') (kk : A d1 y' 0 ls' [] G 0 0 (fun v G' => A d y (pc + 3) ls (psh v st) G' kc ks Q)) : A d y pc ls (vd :: vc :: vb :: va :: .ref o :: st) G kc ks Q := by
  subst he
  obtain ⟨fs, ha⟩ := ha
  exact A.callV (As := [va, vb, vc, vd]) hl ha rfl hlen hw hdd (by omega) (by omega) hd kk
theorem A.callVa4 {va vb vc vd : Value} {o idx ci d1 kc1 ks1 kc2 ks2 : Nat} {y' : MI} {ls' : List (Option Value)} (hl : LkV (mcls y) idx y' ci 4) (ha : ∃ fs, G o = some (oB ci fs)) (hlen : (entl [.ref o, va, vb, vc, vd]).length ≤ y'.2.2.1) (hw : (st.map fun v => v.category).sum ≤ 8) (hdd : d1 + 1 ≤ d) (hd : decode (mcode y) pc = .ok (.invokevirtual idx, 3)) (hkc : kc1 + kc2 ≤ kc) (hks : ks1 + ks2 ≤ ks) (he : ent y'.2.2.1 [.ref o, va, vb, vc, vd] = ls') (kk : A d1 y' 0 ls' [] G kc1 ks1 (fun v G' => A d y (pc + 3) ls (psh v st) G' kc2 ks2 Q)) : A d y pc ls (vd :: vc :: vb :: va :: .ref o :: st) G kc ks Q := by
  subst he
  obtain ⟨fs, ha⟩ := ha
  exact A.callV (As := [va, vb, vc, vd]) hl ha rfl hlen hw hdd hkc hks hd kk
theorem A.callIa4 {va vb vc vd : Value} {o idx d1 kc1 ks1 kc2 ks2 : Nat} {y' : MI} {ls' : List (Option Value)} (hl : LkI (mcls y) idx y' 4) (hlen : (entl [.ref o, va, vb, vc, vd]).length ≤ y'.2.2.1) (hw : (st.map fun v => v.category).sum ≤ 8) (hdd : d1 + 1 ≤ d) (hd : decode (mcode y) pc = .ok (.invokespecial idx, 3)) (hkc : kc1 + kc2 ≤ kc) (hks : ks1 + ks2 ≤ ks) (he : ent y'.2.2.1 [.ref o, va, vb, vc, vd] = ls') (kk : A d1 y' 0 ls' [] G kc1 ks1 (fun v G' => A d y (pc + 3) ls (psh v st) G' kc2 ks2 Q)) : A d y pc ls (vd :: vc :: vb :: va :: .ref o :: st) G kc ks Q := by
  subst he
  exact A.callI (As := [va, vb, vc, vd]) hl rfl hlen hw hdd hkc hks hd kk
theorem A.callS5 {va vb vc vd ve : Value} {idx d1 : Nat} {y' : MI} {ls' : List (Option Value)} (hl : LkS (mcls y) idx y' 5) (hlen : (entl [va, vb, vc, vd, ve]).length ≤ y'.2.2.1) (hw : (st.map fun v => v.category).sum ≤ 8) (hdd : d1 + 1 ≤ d) (hd : decode (mcode y) pc = .ok (.invokestatic idx, 3)) (he : ent y'.2.2.1 [va, vb, vc, vd, ve] = ls') (kk : A d1 y' 0 ls' [] G 0 0 (fun v G' => A d y (pc + 3) ls (psh v st) G' kc ks Q)) : A d y pc ls (ve :: vd :: vc :: vb :: va :: st) G kc ks Q := by
  subst he
  exact A.callS (As := [va, vb, vc, vd, ve]) hl rfl hlen hw hdd (by omega) (by omega) hd kk
theorem A.callV5 {va vb vc vd ve : Value} {o idx ci d1 : Nat} {y' : MI} {ls' : List (Option Value)} (hl : LkV (mcls y) idx y' ci 5) (ha : ∃ fs, G o = some (oB ci fs)) (hlen : (entl [.ref o, va, vb, vc, vd, ve]).length ≤ y'.2.2.1) (hw : (st.map fun v => v.category).sum ≤ 8) (hdd : d1 + 1 ≤ d) (hd : decode (mcode y) pc = .ok (.invokevirtual idx, 3)) (he : ent y'.2.2.1 [.ref o, va, vb, vc, vd, ve] = ls') (kk : A d1 y' 0 ls' [] G 0 0 (fun v G' => A d y (pc + 3) ls (psh v st) G' kc ks Q)) : A d y pc ls (ve :: vd :: vc :: vb :: va :: .ref o :: st) G kc ks Q := by
  subst he
  obtain ⟨fs, ha⟩ := ha
  exact A.callV (As := [va, vb, vc, vd, ve]) hl ha rfl hlen hw hdd (by omega) (by omega) hd kk
theorem A.callVa5 {va vb vc vd ve : Value} {o idx ci d1 kc1 ks1 kc2 ks2 : Nat} {y' : MI} {ls' : List (Option Value)} (hl : LkV (mcls y) idx y' ci 5) (ha : ∃ fs, G o = some (oB ci fs)) (hlen : (entl [.ref o, va, vb, vc, vd, ve]).length ≤ y'.2.2.1) (hw : (st.map fun v => v.category).sum ≤ 8) (hdd : d1 + 1 ≤ d) (hd : decode (mcode y) pc = .ok (.invokevirtual idx, 3)) (hkc : kc1 + kc2 ≤ kc) (hks : ks1 + ks2 ≤ ks) (he : ent y'.2.2.1 [.ref o, va, vb, vc, vd, ve] = ls') (kk : A d1 y' 0 ls' [] G kc1 ks1 (fun v G' => A d y (pc + 3) ls (psh v st) G' kc2 ks2 Q)) : A d y pc ls (ve :: vd :: vc :: vb :: va :: .ref o :: st) G kc ks Q := by
  subst he
  obtain ⟨fs, ha⟩ := ha
  exact A.callV (As := [va, vb, vc, vd, ve]) hl ha rfl hlen hw hdd hkc hks hd kk
theorem A.callIa5 {va vb vc vd ve : Value} {o idx d1 kc1 ks1 kc2 ks2 : Nat} {y' : MI} {ls' : List (Option Value)} (hl : LkI (mcls y) idx y' 5) (hlen : (entl [.ref o, va, vb, vc, vd, ve]).length ≤ y'.2.2.1) (hw : (st.map fun v => v.category).sum ≤ 8) (hdd : d1 + 1 ≤ d) (hd : decode (mcode y) pc = .ok (.invokespecial idx, 3)) (hkc : kc1 + kc2 ≤ kc) (hks : ks1 + ks2 ≤ ks) (he : ent y'.2.2.1 [.ref o, va, vb, vc, vd, ve] = ls') (kk : A d1 y' 0 ls' [] G kc1 ks1 (fun v G' => A d y (pc + 3) ls (psh v st) G' kc2 ks2 Q)) : A d y pc ls (ve :: vd :: vc :: vb :: va :: .ref o :: st) G kc ks Q := by
  subst he
  exact A.callI (As := [va, vb, vc, vd, ve]) hl rfl hlen hw hdd hkc hks hd kk
theorem A.cast1 {idx ci a N : Nat} {C : String} {T : u_T} (hd : decode (mcode y) pc = .ok (.checkcast idx, 3)) (hl : Cond.classLink (mcls y) idx C ∈ gt) (hc : classes[ci]? = some (C, T, N)) (ha : ∃ fs, G a = some (oB ci fs)) (kk : A d y (pc + 3) ls (.ref a :: st) G kc ks Q) : A d y pc ls (.ref a :: st) G kc ks Q := by
  obtain ⟨fs, ha⟩ := ha
  exact A.cast hd hl hc ha kk
/-- a switch from 0 on -/
theorem A.tsw {x : Int32} {dflt hi : Int} {offs : Array Int} {len : Nat} (tg : List Nat) (dt : Nat) (hd : decode (mcode y) pc = .ok (.tableswitch dflt 0 hi offs, len)) (ho : offs.toList.map (fun o => (pc : Int) + o) = tg.map (fun t : Nat => (t : Int))) (hdt : (pc : Int) + dflt = (dt : Int)) (hh : hi + 1 = (tg.length : Int))
    (k : ∀ (i t : Nat), tg[i]? = some t → x = nI i → A d y t ls st G kc ks Q) (k0 : (x < 0 ∨ nI tg.length ≤ x) → A d y dt ls st G kc ks Q) (hs : tg.length < 1000) : A d y pc ls (.int x :: st) G kc ks Q := by
  have hN : (nI tg.length).toInt = (tg.length : Int) := nI_toInt (by omega)
  by_cases h : x < 0 ∨ nI tg.length ≤ x
  · refine A.tableOut dt ?_ hdt hd (k0 h)
    rcases h with h | h
    · left; rw [Int32.lt_iff_toInt_lt] at h; exact h
    · right; rw [Int32.le_iff_toInt_le, hN] at h; omega
  · have h1 : ¬ x < 0 := fun z => h (Or.inl z)
    have h2 : ¬ nI tg.length ≤ x := fun z => h (Or.inr z)
    rw [Int32.lt_iff_toInt_lt] at h1
    rw [Int32.le_iff_toInt_le, hN] at h2
    have h1 : ¬ x.toInt < 0 := h1
    obtain ⟨t, ht⟩ : ∃ t, tg[x.toInt.toNat]? = some t := by
      have : x.toInt.toNat < tg.length := by omega
      exact ⟨tg[x.toInt.toNat], List.getElem?_eq_getElem this⟩
    have e1 := congrArg (fun l => l[x.toInt.toNat]?) ho
    simp only [List.getElem?_map, ht, Option.map_some] at e1
    cases hof : offs.toList[x.toInt.toNat]? with
    | none => rw [hof] at e1; cases e1
    | some off =>
      rw [hof] at e1
      refine A.tableIn (off := off) t h1 (by omega) ?_ (Option.some.inj e1) hd (k x.toInt.toNat t ht ?_)
      · rw [show x.toInt - 0 = x.toInt by omega, ← Array.getElem?_toList]; exact hof
      · have hx2 : x.toInt < 1000 := by omega
        apply Int32.toInt_inj.mp
        rw [nI_toInt (by omega)]
        omega
end RULES2
end
section
/-! numbers -/
theorem in_np {x : Int32} {n : Nat} (hn : n ≤ 1000000) (h1 : 0 ≤ x) (h2 : x ≤ nI n - 1) : ∃ q, q < n ∧ x = nI q := by
  have e : (nI n - 1).toInt = (n : Int) - 1 := by
    have := pk_sub_toInt (a := n) (b := 1) (by omega) (by omega)
    exact this
  rw [Int32.le_iff_toInt_le] at h1 h2
  rw [e] at h2
  have h1 : 0 ≤ x.toInt := h1
  refine ⟨x.toInt.toNat, by omega, ?_⟩
  apply Int32.toInt_inj.mp
  rw [nI_toInt (by omega)]
  omega
theorem nin_np {x : Int32} {n : Nat} (hn : n ≤ 1000000) (h : ¬ (0 ≤ x ∧ x ≤ nI n - 1)) : ∀ q, q < n → x ≠ nI q := by
  intro q hq e
  apply h
  subst e
  refine ⟨nI_pos' (by omega), ?_⟩
  have e : (nI n - 1).toInt = (n : Int) - 1 := by
    have := pk_sub_toInt (a := n) (b := 1) (by omega) (by omega)
    exact this
  rw [Int32.le_iff_toInt_le, e, nI_toInt (by omega)]
  omega
theorem in_lit {x hi : Int32} {n : Nat} (hh : hi.toInt = (n : Int)) (hn : n ≤ 1000000) (h1 : 0 ≤ x) (h2 : x ≤ hi) : ∃ q, q ≤ n ∧ x = nI q := by
  rw [Int32.le_iff_toInt_le] at h1 h2
  have h1 : 0 ≤ x.toInt := h1
  refine ⟨x.toInt.toNat, by omega, ?_⟩
  apply Int32.toInt_inj.mp
  rw [nI_toInt (by omega)]
  omega
theorem nI_bt {q n : Nat} {hi : Int32} (hh : hi.toInt = (n : Int)) (hq : q ≤ n) (hn : n ≤ 1000000) : 0 ≤ nI q ∧ nI q ≤ hi := by
  refine ⟨nI_pos' (by omega), ?_⟩
  rw [Int32.le_iff_toInt_le, nI_toInt (by omega)]
  omega
theorem ix4 {p l : Nat} (hp : p < 1000) (hl : l < 1000) : ((4 : Int32) * nI p + nI l).toInt = ((4 * p + l : Nat) : Int) := by
  rw [show (4 : Int32) = nI 4 from rfl, pk_mul, nI_add, nI_toInt (by omega)]
theorem ix4s {p l : Nat} (hp : p < 1000) (hl : l < 1000) : ((4 : Int32) * nI p + nI l + 1).toInt = ((4 * p + l + 1 : Nat) : Int) := by
  rw [show (4 : Int32) = nI 4 from rfl, pk_mul, nI_add, nI_1, nI_toInt (by omega)]
theorem ix4z {p : Nat} (hp : p < 1000) : ((4 : Int32) * nI p).toInt = ((4 * p : Nat) : Int) := by
  rw [show (4 : Int32) = nI 4 from rfl, pk_mul, nI_toInt (by omega)]
theorem ix8 {p l : Nat} (hp : p < 1000) (hl : l < 1000) : ((8 : Int32) * nI p + nI l).toInt = ((8 * p + l : Nat) : Int) := by
  rw [show (8 : Int32) = nI 8 from rfl, pk_mul, nI_add, nI_toInt (by omega)]
theorem ix301 {p l : Nat} (hp : p < 1000) (hl : l < 1000) : ((301 : Int32) * nI p + nI l).toInt = ((301 * p + l : Nat) : Int) := by
  rw [show (301 : Int32) = nI 301 from rfl, pk_mul, nI_add, nI_toInt (by omega)]
theorem ixn {p : Nat} (hp : p < 1000000) : (nI p).toInt = (p : Int) := nI_toInt (by omega)
theorem nI_inj {a b : Nat} (ha : a < 1000000) (hb : b < 1000000) (h : nI a = nI b) : a = b := (nI_eq (by omega) (by omega)).mp h
theorem A.iincp {d : Nat} {y : MI} {pc : Nat} {ls : List (Option Value)} {st : List Value} {G : AHp} {kc ks : Nat} {Q : Option Value → AHp → Prop} {n : Nat} {x : Int32} (hl : ls[n]? = some (some (.int x))) (hi : n < y.2.2.1) (hd : decode (mcode y) pc = .ok (.iinc n 1, 3)) (kk : A d y (pc + 3) (ls.set n (some (.int (x + 1)))) st G kc ks Q) : A d y pc ls st G kc ks Q := A.iinc hl (by rw [show Int32.ofInt 1 = 1 by decide]) hi hd kk
theorem A.iincm {d : Nat} {y : MI} {pc : Nat} {ls : List (Option Value)} {st : List Value} {G : AHp} {kc ks : Nat} {Q : Option Value → AHp → Prop} {n : Nat} {x : Int32} (hl : ls[n]? = some (some (.int x))) (hi : n < y.2.2.1) (hd : decode (mcode y) pc = .ok (.iinc n (-1), 3)) (kk : A d y (pc + 3) (ls.set n (some (.int (x - 1)))) st G kc ks Q) : A d y pc ls st G kc ks Q := A.iinc hl (by rw [show Int32.ofInt (-1) = -1 by decide, Int32.sub_eq_add_neg]) hi hd kk
theorem A.dropat {d : Nat} {y : MI} {pc : Nat} {ls : List (Option Value)} {st : List Value} {G : AHp} {kc ks : Nat} {Q : Option Value → AHp → Prop} (i : Nat) (k : A d y pc (ls.set i none) st G kc ks Q) : A d y pc ls st G kc ks Q := by
  refine A.drop (fun j v h => ?_) k
  by_cases e : i = j
  · subst e
    rw [List.getElem?_set] at h
    simp only [↓reduceIte] at h
    split at h <;> cases h
  · rw [List.getElem?_set_ne e] at h
    exact h
theorem nI_nm1 {n : Nat} (h : n < 1000000) : ¬ nI n = -1 := fun e => by
  have := congrArg Int32.toInt e
  rw [ixn h] at this
  have e2 : (-1 : Int32).toInt = -1 := by decide
  omega
end
section
/-! THE REFERENCE: its state is M, a row of ints for each field (a plain field at place 0); its object has the name 100, the array of the field k the name k + 200 -/
/-- the arrays of the lasting state -/
def mArr (k : Nat) : Bool := match k with
  | 1 => true | 3 => true | 4 => true | 5 => true | 6 => true | 7 => true | 8 => true | 9 => true | 10 => true | 11 => true | 12 => true | 13 => true | 14 => true | 15 => true | 20 => true | 24 => true
  | _ => false
/-- the arrays that a call uses for itself alone -/
def sArr (k : Nat) : Bool := match k with
  | 25 => true | 27 => true | 30 => true | 31 => true
  | _ => false
def mLen (k : Nat) : Nat := match k with
  | 1 => 20 | 8 => 96 | 9 => 96 | 10 => 96 | 20 => 20 | 24 => 48 | 25 => 4 | 27 => 12 | 30 => 8 | 31 => 2709
  | _ => 24
abbrev MS : Type := Nat → Nat → Int32
def mO (M S : MS) : ACell := oB 1 [.int (M 0 0), .ref 201, .int (M 2 0), .ref 203, .ref 204, .ref 205, .ref 206, .ref 207, .ref 208, .ref 209, .ref 210, .ref 211, .ref 212, .ref 213, .ref 214, .ref 215, .int (M 16 0), .int (M 17 0), .int (M 18 0), .int (M 19 0), .ref 220, .int (M 21 0), .int (M 22 0), .int (M 23 0), .ref 224, .ref 225, .ref 226, .ref 227, .int (S 28 0), .int (S 29 0), .ref 230, .ref 231]
/-- the heap holds the reference in the state M; S and C: what lies in its rows for use within a call -/
def MH (G : AHp) (M S : MS) (C : Nat → Int64) : Prop := G 100 = some (mO M S) ∧ (∀ k, mArr k = true → G (k + 200) = some (aI (mLen k) (M k))) ∧ (∀ k, sArr k = true → G (k + 200) = some (aI (mLen k) (S k))) ∧ G 226 = some (aL 4 C)
def FrM (G G' : AHp) : Prop := ∀ a, (a < 100 ∨ 300 ≤ a) → G' a = G a
theorem FrM.rf {G : AHp} : FrM G G := fun _ _ => rfl
theorem FrM.up {G G' : AHp} {b : Nat} {c : ACell} (h : FrM G G') (h1 : 100 ≤ b) (h2 : b < 300) : FrM G (up G' b c) := fun a ha => (up_n (by omega)).trans (h a ha)
theorem FrM.tr {G G' G'' : AHp} (h : FrM G G') (k : FrM G' G'') : FrM G G'' := fun a ha => (k a ha).trans (h a ha)
theorem m_disj {k : Nat} (h : mArr k = true) : sArr k = false := by
  unfold mArr at h
  split at h <;> first | rfl | cases h
theorem MH.arr {G : AHp} {M S : MS} {C : Nat → Int64} (h : MH G M S C) (k : Nat) (hk : mArr k = true) (f : Nat → Int32) : MH (up G (k + 200) (aI (mLen k) f)) (va_up M k f) S C := by
  have h26 : k ≠ 26 := fun e => by subst e; cases hk
  refine ⟨?_, fun j hj => ?_, fun j hj => ?_, ?_⟩
  · rw [up_n (by omega), h.1]
    have : mO (va_up M k f) S = mO M S := by
      have e : ∀ j, mArr j = false → va_up M k f j = M j := fun j hj => if_neg (fun z => by subst z; rw [hk] at hj; cases hj)
      unfold mO
      rw [e 0 rfl, e 2 rfl, e 16 rfl, e 17 rfl, e 18 rfl, e 19 rfl, e 21 rfl, e 22 rfl, e 23 rfl]
    rw [this]
  · by_cases e : j = k
    · subst e
      rw [up_s, show va_up M j f j = f from if_pos rfl]
    · rw [up_n (by omega), h.2.1 j hj, show va_up M k f j = M j from if_neg e]
  · rw [up_n (show j + 200 ≠ k + 200 from fun e => by
      have : j = k := by omega
      subst this
      rw [m_disj hk] at hj
      cases hj)]
    exact h.2.2.1 j hj
  · rw [up_n (by omega)]; exact h.2.2.2
theorem MH.arr2 {G : AHp} {M S : MS} {C : Nat → Int64} (h : MH G M S C) (k : Nat) (hk : mArr k = true) (c : ACell) (f : Nat → Int32) : MH (up (up G (k + 200) c) (k + 200) (aI (mLen k) f)) (va_up M k f) S C := by rw [up_up]; exact h.arr k hk f
theorem MH.scr {G : AHp} {M S : MS} {C : Nat → Int64} (h : MH G M S C) (k : Nat) (hk : sArr k = true) (f : Nat → Int32) : MH (up G (k + 200) (aI (mLen k) f)) M (va_up S k f) C := by
  have h26 : k ≠ 26 := fun e => by subst e; cases hk
  refine ⟨?_, fun j hj => ?_, fun j hj => ?_, ?_⟩
  · rw [up_n (by omega), h.1]
    have : mO M (va_up S k f) = mO M S := by
      have e : ∀ j, sArr j = false → va_up S k f j = S j := fun j hj => if_neg (fun z => by subst z; rw [hk] at hj; cases hj)
      unfold mO
      rw [e 28 rfl, e 29 rfl]
    rw [this]
  · rw [up_n (show j + 200 ≠ k + 200 from fun e => by
      have : j = k := by omega
      subst this
      rw [m_disj hj] at hk
      cases hk)]
    exact h.2.1 j hj
  · by_cases e : j = k
    · subst e
      rw [up_s, show va_up S j f j = f from if_pos rfl]
    · rw [up_n (by omega), h.2.2.1 j hj, show va_up S k f j = S j from if_neg e]
  · rw [up_n (by omega)]; exact h.2.2.2
theorem MH.cut {G : AHp} {M S : MS} {C : Nat → Int64} (h : MH G M S C) (ct : Nat → Int64) : MH (up G 226 (aL 4 ct)) M S ct := by
  refine ⟨by rw [up_n (by decide)]; exact h.1, fun j hj => ?_, fun j hj => ?_, up_s⟩
  · have : j ≠ 26 := fun e => by subst e; cases hj
    rw [up_n (by omega)]
    exact h.2.1 j hj
  · have : j ≠ 26 := fun e => by subst e; cases hj
    rw [up_n (by omega)]
    exact h.2.2.1 j hj
theorem MH.fld {G : AHp} {M S : MS} {C : Nat → Int64} (h : MH G M S C) (k : Nat) (hk : mArr k = false) (v : Int32) : MH (up G 100 (mO (va_up M k (fun _ => v)) S)) (va_up M k (fun _ => v)) S C := by
  refine ⟨up_s, fun j hj => ?_, fun j hj => ?_, ?_⟩
  · rw [up_n (by omega), h.2.1 j hj, show va_up M k (fun _ => v) j = M j from if_neg (fun z => by subst z; rw [hk] at hj; cases hj)]
  · rw [up_n (by omega)]; exact h.2.2.1 j hj
  · rw [up_n (by decide)]; exact h.2.2.2
theorem MH.sfl {G : AHp} {M S : MS} {C : Nat → Int64} (h : MH G M S C) (k : Nat) (hk : sArr k = false) (v : Int32) : MH (up G 100 (mO M (va_up S k (fun _ => v)))) M (va_up S k (fun _ => v)) C := by
  refine ⟨up_s, fun j hj => ?_, fun j hj => ?_, ?_⟩
  · rw [up_n (by omega)]; exact h.2.1 j hj
  · rw [up_n (by omega), h.2.2.1 j hj, show va_up S k (fun _ => v) j = S j from if_neg (fun z => by subst z; rw [hk] at hj; cases hj)]
  · rw [up_n (by decide)]; exact h.2.2.2
theorem c_md_in {n lo hi : Int32} {G : AHp} {kc ks : Nat} {Q : Option Value → AHp → Prop} (h1 : lo ≤ n → n ≤ hi → Q (some (.int 1)) G) (h0 : ¬ (lo ≤ n ∧ n ≤ hi) → Q (some (.int 0)) G) : A 0 M_md_in 0 [some (.int n), some (.int lo), some (.int hi)] [] G kc ks Q := by
  refine A.iload_k 0 rfl rfl d_md_in_0 ?_
  refine A.iload_k 1 rfl rfl d_md_in_1 ?_
  refine A.icmp_lt 14 (by decide) d_md_in_2 (fun c2 => ?_) (fun c2 => ?_)
  · refine A.iconst (v := 0) rfl d_md_in_14 ?_
    refine A.zret d_md_in_15 rfl (Or.inl rfl) ?_
    first | exact h1 (Int32.not_lt.mp c2) (Int32.not_lt.mp c7) | exact h0 (fun z => absurd z.1 (Int32.not_le.mpr c2)) | exact h0 (fun z => absurd z.2 (Int32.not_le.mpr c7))
  · refine A.iload_k 0 rfl rfl d_md_in_5 ?_
    refine A.iload_k 2 rfl rfl d_md_in_6 ?_
    refine A.icmp_gt 14 (by decide) d_md_in_7 (fun c7 => ?_) (fun c7 => ?_)
    · refine A.iconst (v := 0) rfl d_md_in_14 ?_
      refine A.zret d_md_in_15 rfl (Or.inl rfl) ?_
      first | exact h1 (Int32.not_lt.mp c2) (Int32.not_lt.mp c7) | exact h0 (fun z => absurd z.1 (Int32.not_le.mpr c2)) | exact h0 (fun z => absurd z.2 (Int32.not_le.mpr c7))
    · refine A.iconst (v := 1) rfl d_md_in_10 ?_
      refine A.goto 15 (by decide) d_md_in_11 ?_
      refine A.zret d_md_in_15 rfl (Or.inr rfl) ?_
      first | exact h1 (Int32.not_lt.mp c2) (Int32.not_lt.mp c7) | exact h0 (fun z => absurd z.1 (Int32.not_le.mpr c2)) | exact h0 (fun z => absurd z.2 (Int32.not_le.mpr c7))
def onS (M : MS) (s : Int32) : Nat → Int32
  | 0 => 0
  | n + 1 => onS M s n + (if M 3 n = s then 1 else 0)
theorem c_md_onStreet {M S : MS} {C : Nat → Int64} {s : Int32} {np : Nat} {G : AHp} {kc ks : Nat} {Q : Option Value → AHp → Prop} (hM : MH G M S C) (hn : M 2 0 = nI np) (hn2 : np ≤ 24) (h : Q (some (.int (onS M s np))) G) : A 0 M_md_onStreet 0 [some (.ref 100), some (.int s), none, none] [] G kc ks Q := by
  have loop : ∀ (k i : Nat), i ≤ np → np < i + k → A 0 M_md_onStreet 4 [some (.ref 100), some (.int s), some (.int (onS M s i)), some (.int (nI i))] [] G kc ks Q := by
    intro k
    induction k with
    | zero => intro i h1 h2; omega
    | succ k ih =>
      intro i h1 h2
      refine A.iload_k 3 rfl rfl d_md_onStreet_4 ?_
      refine A.aload_k 0 rfl rfl rfl d_md_onStreet_5 ?_
      apply A.getfield f_md_84 d_md_onStreet_6
      · first | exact hM.1 | exact hM.2.1 _ rfl
      · rfl
      refine A.icmp_ge 36 (by decide) d_md_onStreet_9 (fun c9 => ?_) (fun c9 => ?_)
      · refine A.iload_k 2 rfl rfl d_md_onStreet_36 ?_
        refine A.iret d_md_onStreet_37 rfl ?_
        rw [hn] at c9
        have e : i = np := by
          have := (nI_leI (by omega) (by omega)).mp c9
          omega
        subst e
        exact h
      · rw [hn] at c9
        have hlt : i < np := Nat.lt_of_not_le (fun z => c9 (nI_le z (by omega)))
        refine A.iload_k 2 rfl rfl d_md_onStreet_12 ?_
        refine A.aload_k 0 rfl rfl rfl d_md_onStreet_13 ?_
        apply A.getfield f_md_13 d_md_onStreet_14
        · first | exact hM.1 | exact hM.2.1 _ rfl
        · rfl
        refine A.iload_k 3 rfl rfl d_md_onStreet_17 ?_
        apply A.iaload (j := i) d_md_onStreet_18
        · first | exact hM.1 | exact hM.2.1 _ rfl
        · exact nI_toInt (by omega)
        · show i < 24; omega
        refine A.iload_k 1 rfl rfl d_md_onStreet_19 ?_
        refine A.icmp_ne 27 (by decide) d_md_onStreet_20 (fun c20 => ?_) (fun c20 => ?_)
        · refine A.iconst (v := 0) rfl d_md_onStreet_27 ?_
          refine A.iadd d_md_onStreet_28 ?_
          refine A.istore_k 2 rfl (Nat.le_of_ble_eq_true rfl) rfl d_md_onStreet_29 ?_
          dsimp only [List.set]
          refine A.iincp (n := 3) rfl (Nat.le_of_ble_eq_true rfl) d_md_onStreet_30 ?_
          dsimp only [List.set]
          refine A.goto 4 (by decide) d_md_onStreet_33 ?_
          rw [nI_1]
          have ih := ih (i + 1) (by omega) (by omega)
          unfold onS at ih
          first | rw [if_pos c20] at ih | rw [if_neg c20] at ih
          exact ih
        · refine A.iconst (v := 1) rfl d_md_onStreet_23 ?_
          refine A.goto 28 (by decide) d_md_onStreet_24 ?_
          refine A.iadd d_md_onStreet_28 ?_
          refine A.istore_k 2 rfl (Nat.le_of_ble_eq_true rfl) rfl d_md_onStreet_29 ?_
          dsimp only [List.set]
          refine A.iincp (n := 3) rfl (Nat.le_of_ble_eq_true rfl) d_md_onStreet_30 ?_
          dsimp only [List.set]
          refine A.goto 4 (by decide) d_md_onStreet_33 ?_
          rw [nI_1]
          have ih := ih (i + 1) (by omega) (by omega)
          unfold onS at ih
          first | rw [if_pos c20] at ih | rw [if_neg c20] at ih
          exact ih
  refine A.iconst (v := 0) rfl d_md_onStreet_0 ?_
  refine A.istore_k 2 rfl (Nat.le_of_ble_eq_true rfl) rfl d_md_onStreet_1 ?_
  dsimp only [List.set]
  refine A.iconst (v := 0) rfl d_md_onStreet_2 ?_
  refine A.istore_k 3 rfl (Nat.le_of_ble_eq_true rfl) rfl d_md_onStreet_3 ?_
  dsimp only [List.set]
  exact loop (np + 1) 0 (by omega) (by omega)

/-- what a state of the reference keeps -/
def WF (M : MS) (np : Nat) : Prop := M 2 0 = nI np ∧ np ≤ 24 ∧ (∀ p, ∃ l, l ≤ 3 ∧ M 7 p = nI l) ∧ (∀ q, ∃ h, h < 20 ∧ M 8 q = nI h) ∧ (∀ p, M 14 p = -1 ∨ ∃ h, h < 20 ∧ M 14 p = nI h) ∧ ∃ nw, nw ≤ 20 ∧ M 19 0 = nI nw
theorem c_md_isPlot {M S : MS} {C : Nat → Int64} {x : Int32} {np : Nat} {G : AHp} {kc ks : Nat} {Q : Option Value → AHp → Prop} (hM : MH G M S C) (hn : M 2 0 = nI np) (hn2 : np ≤ 24) (h1 : ∀ q, q < np → x = nI q → Q (some (.int 1)) G) (h0 : (∀ q, q < np → x ≠ nI q) → Q (some (.int 0)) G) : A 1 M_md_isPlot 0 [some (.ref 100), some (.int x)] [] G kc ks Q := by
  refine A.iload_k 1 rfl rfl d_md_isPlot_0 ?_
  refine A.iconst (v := 0) rfl d_md_isPlot_1 ?_
  refine A.aload_k 0 rfl rfl rfl d_md_isPlot_2 ?_
  apply A.getfield f_md_84 d_md_isPlot_3
  · exact hM.1
  · rfl
  rw [hn]
  refine A.iconst (v := 1) rfl d_md_isPlot_6 ?_
  refine A.isub d_md_isPlot_7 ?_
  refine A.callS3 s_md_87 (Nat.le_of_ble_eq_true rfl) (Nat.le_of_ble_eq_true rfl) (Nat.le_of_ble_eq_true rfl) d_md_isPlot_8 rfl (c_md_in (fun i1 i2 => ?_) (fun i3 => ?_))
  · dsimp only [psh]
    refine A.zret d_md_isPlot_11 rfl (Or.inr rfl) ?_
    first | (obtain ⟨q, e1, e2⟩ := in_np (by omega) i1 i2; exact h1 q e1 e2) | exact h0 (nin_np (by omega) i3)
  · dsimp only [psh]
    refine A.zret d_md_isPlot_11 rfl (Or.inl rfl) ?_
    first | (obtain ⟨q, e1, e2⟩ := in_np (by omega) i1 i2; exact h1 q e1 e2) | exact h0 (nin_np (by omega) i3)
theorem c_md_isStreet {x : Int32} {G : AHp} {kc ks : Nat} {Q : Option Value → AHp → Prop} (h1 : ∀ q, q < 6 → x = nI q → Q (some (.int 1)) G) (h0 : (∀ q, q < 6 → x ≠ nI q) → Q (some (.int 0)) G) : A 1 M_md_isStreet 0 [some (.int x)] [] G kc ks Q := by
  refine A.iload_k 0 rfl rfl d_md_isStreet_0 ?_
  refine A.iconst (v := 0) rfl d_md_isStreet_1 ?_
  refine A.iconst (v := 5) rfl d_md_isStreet_2 ?_
  refine A.callS3 s_md_87 (Nat.le_of_ble_eq_true rfl) (Nat.le_of_ble_eq_true rfl) (Nat.le_of_ble_eq_true rfl) d_md_isStreet_3 rfl (c_md_in (fun i1 i2 => ?_) (fun i3 => ?_))
  · dsimp only [psh]
    refine A.zret d_md_isStreet_6 rfl (Or.inr rfl) ?_
    first | (obtain ⟨q, e1, e2⟩ := in_lit (n := 5) (by decide) (by omega) i1 i2; exact h1 q (by omega) e2) | exact h0 (fun q hq e => i3 (by rw [e]; exact nI_bt (n := 5) (by decide) (by omega) (by omega)))
  · dsimp only [psh]
    refine A.zret d_md_isStreet_6 rfl (Or.inl rfl) ?_
    first | (obtain ⟨q, e1, e2⟩ := in_lit (n := 5) (by decide) (by omega) i1 i2; exact h1 q (by omega) e2) | exact h0 (fun q hq e => i3 (by rw [e]; exact nI_bt (n := 5) (by decide) (by omega) (by omega)))
theorem c_md_isGone {M S : MS} {C : Nat → Int64} {p : Nat} {G : AHp} {kc ks : Nat} {Q : Option Value → AHp → Prop} (hM : MH G M S C) (hp : p < 24) (h1 : (M 6 p = 2 ∨ M 6 p = 3) → Q (some (.int 1)) G) (h0 : ¬ (M 6 p = 2 ∨ M 6 p = 3) → Q (some (.int 0)) G) : A 0 M_md_isGone 0 [some (.ref 100), some (.int (nI p))] [] G kc ks Q := by
  refine A.aload_k 0 rfl rfl rfl d_md_isGone_0 ?_
  apply A.getfield f_md_22 d_md_isGone_1
  · first | exact hM.1 | exact hM.2.1 _ rfl
  · rfl
  refine A.iload_k 1 rfl rfl d_md_isGone_4 ?_
  apply A.iaload (j := p) d_md_isGone_5
  · first | exact hM.1 | exact hM.2.1 _ rfl
  · exact ixn (by omega)
  · exact hp
  refine A.iconst (v := 2) rfl d_md_isGone_6 ?_
  refine A.icmp_eq 20 (by decide) d_md_isGone_7 (fun c7 => ?_) (fun c7 => ?_)
  · refine A.iconst (v := 1) rfl d_md_isGone_20 ?_
    refine A.goto 25 (by decide) d_md_isGone_21 ?_
    refine A.zret d_md_isGone_25 rfl (Or.inr rfl) ?_
    first | exact h1 (Or.inl c7) | exact h1 (Or.inr c17) | exact h0 (fun z => z.elim c7 c17)
  · refine A.aload_k 0 rfl rfl rfl d_md_isGone_10 ?_
    apply A.getfield f_md_22 d_md_isGone_11
    · first | exact hM.1 | exact hM.2.1 _ rfl
    · rfl
    refine A.iload_k 1 rfl rfl d_md_isGone_14 ?_
    apply A.iaload (j := p) d_md_isGone_15
    · first | exact hM.1 | exact hM.2.1 _ rfl
    · exact ixn (by omega)
    · exact hp
    refine A.iconst (v := 3) rfl d_md_isGone_16 ?_
    refine A.icmp_ne 24 (by decide) d_md_isGone_17 (fun c17 => ?_) (fun c17 => ?_)
    · refine A.iconst (v := 0) rfl d_md_isGone_24 ?_
      refine A.zret d_md_isGone_25 rfl (Or.inl rfl) ?_
      first | exact h1 (Or.inl c7) | exact h1 (Or.inr c17) | exact h0 (fun z => z.elim c7 c17)
    · refine A.iconst (v := 1) rfl d_md_isGone_20 ?_
      refine A.goto 25 (by decide) d_md_isGone_21 ?_
      refine A.zret d_md_isGone_25 rfl (Or.inr rfl) ?_
      first | exact h1 (Or.inl c7) | exact h1 (Or.inr c17) | exact h0 (fun z => z.elim c7 c17)
theorem c_md_coins {M S : MS} {C : Nat → Int64} {x n : Int32} {G : AHp} {kc ks : Nat} {Q : Option Value → AHp → Prop} (hM : MH G M S C) (h0 : ¬ ((∃ q, q < 20 ∧ x = nI q) ∧ 1 ≤ n ∧ n ≤ 100000) → Q (some (.int (-2147483648))) G) (h1 : ∀ q, q < 20 → x = nI q → 1 ≤ n → n ≤ 100000 → ∀ G', MH G' (va_up M 1 (upd (M 1) q (M 1 q + n))) S C → FrM G G' → Q (some (.int (M 1 q + n))) G') : A 1 M_md_coins 0 [some (.ref 100), some (.int x), some (.int n)] [] G kc ks Q := by
  refine A.iload_k 1 rfl rfl d_md_coins_0 ?_
  refine A.iconst (v := 0) rfl d_md_coins_1 ?_
  refine A.bipush (v := 19) rfl d_md_coins_2 ?_
  refine A.callS3 s_md_87 (Nat.le_of_ble_eq_true rfl) (Nat.le_of_ble_eq_true rfl) (Nat.le_of_ble_eq_true rfl) d_md_coins_4 rfl (c_md_in (fun a1 a2 => ?_) (fun a3 => ?_))
  · dsimp only [psh]
    refine A.if_eq1 d_md_coins_7 (tgt := 20) (by decide) ?_
    refine A.iload_k 2 rfl rfl d_md_coins_10 ?_
    refine A.iconst (v := 1) rfl d_md_coins_11 ?_
    refine A.ldc d_md_coins_12 k_md_91 ?_
    refine A.callS3 s_md_87 (Nat.le_of_ble_eq_true rfl) (Nat.le_of_ble_eq_true rfl) (Nat.le_of_ble_eq_true rfl) d_md_coins_14 rfl (c_md_in (fun b1 b2 => ?_) (fun b3 => ?_))
    · dsimp only [psh]
      refine A.if_ne1 23 (by decide) d_md_coins_17 ?_
      obtain ⟨q, hq, rfl⟩ := in_lit (n := 19) (by decide) (by omega) a1 a2
      refine A.aload_k 0 rfl rfl rfl d_md_coins_23 ?_
      apply A.getfield f_md_9 d_md_coins_24
      · repeat first | exact up_s | refine up_e (by decide) ?_ | exact hM.1 | exact hM.2.1 _ rfl
      · rfl
      refine A.iload_k 1 rfl rfl d_md_coins_27 ?_
      refine A.dup2 rfl rfl d_md_coins_28 ?_
      apply A.iaload (j := q) d_md_coins_29
      · repeat first | exact up_s | refine up_e (by decide) ?_ | exact hM.1 | exact hM.2.1 _ rfl
      · exact ixn (by omega)
      · show q < 20; omega
      refine A.iload_k 2 rfl rfl d_md_coins_30 ?_
      refine A.iadd d_md_coins_31 ?_
      apply A.iastore (j := q) d_md_coins_32
      · repeat first | exact up_s | refine up_e (by decide) ?_ | exact hM.1 | exact hM.2.1 _ rfl
      · first | decide | omega
      · exact ixn (by omega)
      · show q < 20; omega
      refine A.aload_k 0 rfl rfl rfl d_md_coins_33 ?_
      apply A.getfield f_md_9 d_md_coins_34
      · repeat first | exact up_s | refine up_e (by decide) ?_ | exact hM.1 | exact hM.2.1 _ rfl
      · rfl
      refine A.iload_k 1 rfl rfl d_md_coins_37 ?_
      apply A.iaload (j := q) d_md_coins_38
      · repeat first | exact up_s | refine up_e (by decide) ?_ | exact hM.1 | exact hM.2.1 _ rfl
      · exact ixn (by omega)
      · show q < 20; omega
      refine A.iret d_md_coins_39 rfl ?_
      rw [pk_us]
      exact h1 q (by omega) rfl b1 b2 _ (hM.arr 1 rfl _) (FrM.rf.up (by decide) (by decide))
    · dsimp only [psh]
      refine A.if_ne0 d_md_coins_17 (tgt := 23) (by decide) ?_
      refine A.ldc d_md_coins_20 k_md_92 ?_
      refine A.iret d_md_coins_22 rfl ?_
      first | exact h0 (fun z => b3 z.2) | exact h0 (fun z => by obtain ⟨q, e1, e2⟩ := z.1; exact a3 (by rw [e2]; exact nI_bt (n := 19) (by decide) (by omega) (by omega)))
  · dsimp only [psh]
    refine A.if_eq0 20 (by decide) d_md_coins_7 ?_
    refine A.ldc d_md_coins_20 k_md_92 ?_
    refine A.iret d_md_coins_22 rfl ?_
    first | exact h0 (fun z => b3 z.2) | exact h0 (fun z => by obtain ⟨q, e1, e2⟩ := z.1; exact a3 (by rw [e2]; exact nI_bt (n := 19) (by decide) (by omega) (by omega)))
theorem c_md_has {M S : MS} {C : Nat → Int64} {x : Int32} {G : AHp} {kc ks : Nat} {Q : Option Value → AHp → Prop} (hM : MH G M S C) (h0 : (∀ q, q < 20 → x ≠ nI q) → Q (some (.int (-2147483648))) G) (h1 : ∀ q, q < 20 → x = nI q → Q (some (.int (M 1 q))) G) : A 1 M_md_has 0 [some (.ref 100), some (.int x)] [] G kc ks Q := by
  refine A.iload_k 1 rfl rfl d_md_has_0 ?_
  refine A.iconst (v := 0) rfl d_md_has_1 ?_
  refine A.bipush (v := 19) rfl d_md_has_2 ?_
  refine A.callS3 s_md_87 (Nat.le_of_ble_eq_true rfl) (Nat.le_of_ble_eq_true rfl) (Nat.le_of_ble_eq_true rfl) d_md_has_4 rfl (c_md_in (fun i1 i2 => ?_) (fun i3 => ?_))
  · dsimp only [psh]
    refine A.if_eq1 d_md_has_7 (tgt := 19) (by decide) ?_
    obtain ⟨q, hq, rfl⟩ := in_lit (n := 19) (by decide) (by omega) i1 i2
    refine A.aload_k 0 rfl rfl rfl d_md_has_10 ?_
    apply A.getfield f_md_9 d_md_has_11
    · first | exact hM.1 | exact hM.2.1 _ rfl
    · rfl
    refine A.iload_k 1 rfl rfl d_md_has_14 ?_
    apply A.iaload (j := q) d_md_has_15
    · first | exact hM.1 | exact hM.2.1 _ rfl
    · exact ixn (by omega)
    · show q < 20; omega
    refine A.goto 21 (by decide) d_md_has_16 ?_
    refine A.iret d_md_has_21 rfl ?_
    first | exact h1 q (by omega) rfl | exact h0 (fun q hq e => i3 (by rw [e]; exact nI_bt (n := 19) (by decide) (by omega) (by omega)))
  · dsimp only [psh]
    refine A.if_eq0 19 (by decide) d_md_has_7 ?_
    refine A.ldc d_md_has_19 k_md_92 ?_
    refine A.iret d_md_has_21 rfl ?_
    first | exact h1 q (by omega) rfl | exact h0 (fun q hq e => i3 (by rw [e]; exact nI_bt (n := 19) (by decide) (by omega) (by omega)))
def mPlot (M : MS) (np : Nat) (s fr de ow : Int32) : MS := va_up (va_up (va_up (va_up (va_up (va_up (va_up (va_up (va_up (va_up M 3 (upd (M 3) np s)) 4 (upd (M 4) np fr)) 5 (upd (M 5) np de)) 8 (upd (M 8) (4 * np) ow)) 9 (upd (M 9) (4 * np) 99)) 11 (upd (M 11) np (-1))) 12 (upd (M 12) np (-1))) 13 (upd (M 13) np (-1))) 14 (upd (M 14) np (-1))) 2 (fun _ => nI (np + 1))
theorem c_md_plot {M S : MS} {C : Nat → Int64} {s z w : Int32} {np : Nat} {G : AHp} {kc ks : Nat} {Q : Option Value → AHp → Prop} (hM : MH G M S C) (hn : M 2 0 = nI np) (hn2 : np ≤ 24)
    (h0 : ¬ ((∃ q, q < 6 ∧ s = nI q) ∧ (∃ q, q < 20 ∧ w = nI q) ∧ (10 ≤ z / 1000 ∧ z / 1000 ≤ 60) ∧ (20 ≤ z - z / 1000 * 1000 ∧ z - z / 1000 * 1000 ≤ 100) ∧ np ≠ 24 ∧ onS M s np ≠ 8) → Q (some (.int (-1))) G)
    (h1 : ∀ q o, q < 6 → s = nI q → o < 20 → w = nI o → (10 ≤ z / 1000 ∧ z / 1000 ≤ 60) → (20 ≤ z - z / 1000 * 1000 ∧ z - z / 1000 * 1000 ≤ 100) → np < 24 → onS M s np ≠ 8 → ∀ G', MH G' (mPlot M np s (z / 1000) (z - z / 1000 * 1000) w) S C → FrM G G' → Q (some (.int (nI np))) G') : A 2 M_md_plot 0 [some (.ref 100), some (.int s), some (.int z), some (.int w)] [] G kc ks Q := by
  refine A.iload_k 1 rfl rfl d_md_plot_0 ?_
  refine A.callS1 s_md_93 (Nat.le_of_ble_eq_true rfl) (Nat.le_of_ble_eq_true rfl) (Nat.le_of_ble_eq_true rfl) d_md_plot_1 rfl (c_md_isStreet (fun s j1 j2 => ?_) (fun j3 => ?_))
  · dsimp only [psh]
    refine A.if_eq1 d_md_plot_4 (tgt := 66) (by decide) ?_
    refine A.iload_k 3 rfl rfl d_md_plot_7 ?_
    refine A.iconst (v := 0) rfl d_md_plot_8 ?_
    refine A.bipush (v := 19) rfl d_md_plot_9 ?_
    refine A.callS3 s_md_87 (Nat.le_of_ble_eq_true rfl) (Nat.le_of_ble_eq_true rfl) (Nat.le_of_ble_eq_true rfl) d_md_plot_11 rfl (c_md_in (fun a1 a2 => ?_) (fun a3 => ?_))
    · dsimp only [psh]
      refine A.if_eq1 d_md_plot_14 (tgt := 66) (by decide) ?_
      refine A.iload_k 2 rfl rfl d_md_plot_17 ?_
      refine A.sipush (v := 1000) rfl d_md_plot_18 ?_
      refine A.idiv (by decide) d_md_plot_21 ?_
      refine A.bipush (v := 10) rfl d_md_plot_22 ?_
      refine A.bipush (v := 60) rfl d_md_plot_24 ?_
      refine A.callS3 s_md_87 (Nat.le_of_ble_eq_true rfl) (Nat.le_of_ble_eq_true rfl) (Nat.le_of_ble_eq_true rfl) d_md_plot_26 rfl (c_md_in (fun b1 b2 => ?_) (fun b3 => ?_))
      · dsimp only [psh]
        refine A.if_eq1 d_md_plot_29 (tgt := 66) (by decide) ?_
        refine A.iload_k 2 rfl rfl d_md_plot_32 ?_
        refine A.sipush (v := 1000) rfl d_md_plot_33 ?_
        refine A.irem (by decide) d_md_plot_36 ?_
        refine A.bipush (v := 20) rfl d_md_plot_37 ?_
        refine A.bipush (v := 100) rfl d_md_plot_39 ?_
        refine A.callS3 s_md_87 (Nat.le_of_ble_eq_true rfl) (Nat.le_of_ble_eq_true rfl) (Nat.le_of_ble_eq_true rfl) d_md_plot_41 rfl (c_md_in (fun e1 e2 => ?_) (fun e3 => ?_))
        · dsimp only [psh]
          refine A.if_eq1 d_md_plot_44 (tgt := 66) (by decide) ?_
          refine A.aload_k 0 rfl rfl rfl d_md_plot_47 ?_
          apply A.getfield f_md_84 d_md_plot_48
          · repeat first | exact up_s | refine up_e (by decide) ?_ | exact hM.1 | exact hM.2.1 _ rfl
          · rfl
          rw [hn]
          refine A.bipush (v := 24) rfl d_md_plot_51 ?_
          refine A.icmp_eq 66 (by decide) d_md_plot_53 (fun c53 => ?_) (fun c53 => ?_)
          · refine A.iconst (v := -1) rfl d_md_plot_66 ?_
            refine A.iret d_md_plot_67 rfl ?_
            first | exact h0 (fun z => by obtain ⟨q, y1, y2⟩ := z.1; exact j3 q y1 y2) | exact h0 (fun z => by obtain ⟨q, y1, y2⟩ := z.2.1; exact a3 (by rw [y2]; exact nI_bt (n := 19) (by decide) (by omega) (by omega))) | exact h0 (fun z => b3 z.2.2.1) | exact h0 (fun z => e3 z.2.2.2.1) | exact h0 (fun z => z.2.2.2.2.1 (nI_inj (by omega) (by omega) c53)) | exact h0 (fun z => z.2.2.2.2.2 c63)
          · refine A.aload_k 0 rfl rfl rfl d_md_plot_56 ?_
            refine A.iload_k 1 rfl rfl d_md_plot_57 ?_
            refine A.callV1 s_md_97 ?_ (Nat.le_of_ble_eq_true rfl) (Nat.le_of_ble_eq_true rfl) (Nat.le_of_ble_eq_true rfl) d_md_plot_58 rfl (c_md_onStreet hM hn hn2 ?_)
            · apply Exists.intro
              repeat first | exact up_s | refine up_e (by decide) ?_ | exact hM.1 | exact hM.2.1 _ rfl
            dsimp only [psh]
            refine A.bipush (v := 8) rfl d_md_plot_61 ?_
            refine A.icmp_ne 68 (by decide) d_md_plot_63 (fun c63 => ?_) (fun c63 => ?_)
            · have hlt : np < 24 := by
                rcases Nat.lt_or_ge np 24 with y | y
                · exact y
                · have : np = 24 := by omega
                  subst this
                  exact absurd rfl c53
              refine A.aload_k 0 rfl rfl rfl d_md_plot_68 ?_
              apply A.getfield f_md_13 d_md_plot_69
              · repeat first | exact up_s | refine up_e (by decide) ?_ | exact hM.1 | exact hM.2.1 _ rfl
              · rfl
              refine A.aload_k 0 rfl rfl rfl d_md_plot_72 ?_
              apply A.getfield f_md_84 d_md_plot_73
              · repeat first | exact up_s | refine up_e (by decide) ?_ | exact hM.1 | exact hM.2.1 _ rfl
              · rfl
              (try rw [hn])
              refine A.iload_k 1 rfl rfl d_md_plot_76 ?_
              apply A.iastore (j := np) d_md_plot_77
              · repeat first | exact up_s | refine up_e (by decide) ?_ | exact hM.1 | exact hM.2.1 _ rfl
              · first | decide | omega
              · exact ixn (by omega)
              · show np < 24; omega
              refine A.aload_k 0 rfl rfl rfl d_md_plot_78 ?_
              apply A.getfield f_md_16 d_md_plot_79
              · repeat first | exact up_s | refine up_e (by decide) ?_ | exact hM.1 | exact hM.2.1 _ rfl
              · rfl
              refine A.aload_k 0 rfl rfl rfl d_md_plot_82 ?_
              apply A.getfield f_md_84 d_md_plot_83
              · repeat first | exact up_s | refine up_e (by decide) ?_ | exact hM.1 | exact hM.2.1 _ rfl
              · rfl
              (try rw [hn])
              refine A.iload_k 2 rfl rfl d_md_plot_86 ?_
              refine A.sipush (v := 1000) rfl d_md_plot_87 ?_
              refine A.idiv (by decide) d_md_plot_90 ?_
              apply A.iastore (j := np) d_md_plot_91
              · repeat first | exact up_s | refine up_e (by decide) ?_ | exact hM.1 | exact hM.2.1 _ rfl
              · first | decide | omega
              · exact ixn (by omega)
              · show np < 24; omega
              refine A.aload_k 0 rfl rfl rfl d_md_plot_92 ?_
              apply A.getfield f_md_19 d_md_plot_93
              · repeat first | exact up_s | refine up_e (by decide) ?_ | exact hM.1 | exact hM.2.1 _ rfl
              · rfl
              refine A.aload_k 0 rfl rfl rfl d_md_plot_96 ?_
              apply A.getfield f_md_84 d_md_plot_97
              · repeat first | exact up_s | refine up_e (by decide) ?_ | exact hM.1 | exact hM.2.1 _ rfl
              · rfl
              (try rw [hn])
              refine A.iload_k 2 rfl rfl d_md_plot_100 ?_
              refine A.sipush (v := 1000) rfl d_md_plot_101 ?_
              refine A.irem (by decide) d_md_plot_104 ?_
              apply A.iastore (j := np) d_md_plot_105
              · repeat first | exact up_s | refine up_e (by decide) ?_ | exact hM.1 | exact hM.2.1 _ rfl
              · first | decide | omega
              · exact ixn (by omega)
              · show np < 24; omega
              refine A.aload_k 0 rfl rfl rfl d_md_plot_106 ?_
              apply A.getfield f_md_28 d_md_plot_107
              · repeat first | exact up_s | refine up_e (by decide) ?_ | exact hM.1 | exact hM.2.1 _ rfl
              · rfl
              refine A.iconst (v := 4) rfl d_md_plot_110 ?_
              refine A.aload_k 0 rfl rfl rfl d_md_plot_111 ?_
              apply A.getfield f_md_84 d_md_plot_112
              · repeat first | exact up_s | refine up_e (by decide) ?_ | exact hM.1 | exact hM.2.1 _ rfl
              · rfl
              (try rw [hn])
              refine A.imul d_md_plot_115 ?_
              refine A.iload_k 3 rfl rfl d_md_plot_116 ?_
              apply A.iastore (j := 4 * np) d_md_plot_117
              · repeat first | exact up_s | refine up_e (by decide) ?_ | exact hM.1 | exact hM.2.1 _ rfl
              · first | decide | omega
              · exact ix4z (by omega)
              · show 4 * np < 96; omega
              refine A.aload_k 0 rfl rfl rfl d_md_plot_118 ?_
              apply A.getfield f_md_31 d_md_plot_119
              · repeat first | exact up_s | refine up_e (by decide) ?_ | exact hM.1 | exact hM.2.1 _ rfl
              · rfl
              refine A.iconst (v := 4) rfl d_md_plot_122 ?_
              refine A.aload_k 0 rfl rfl rfl d_md_plot_123 ?_
              apply A.getfield f_md_84 d_md_plot_124
              · repeat first | exact up_s | refine up_e (by decide) ?_ | exact hM.1 | exact hM.2.1 _ rfl
              · rfl
              (try rw [hn])
              refine A.imul d_md_plot_127 ?_
              refine A.bipush (v := 99) rfl d_md_plot_128 ?_
              apply A.iastore (j := 4 * np) d_md_plot_130
              · repeat first | exact up_s | refine up_e (by decide) ?_ | exact hM.1 | exact hM.2.1 _ rfl
              · first | decide | omega
              · exact ix4z (by omega)
              · show 4 * np < 96; omega
              refine A.aload_k 0 rfl rfl rfl d_md_plot_131 ?_
              apply A.getfield f_md_37 d_md_plot_132
              · repeat first | exact up_s | refine up_e (by decide) ?_ | exact hM.1 | exact hM.2.1 _ rfl
              · rfl
              refine A.aload_k 0 rfl rfl rfl d_md_plot_135 ?_
              apply A.getfield f_md_84 d_md_plot_136
              · repeat first | exact up_s | refine up_e (by decide) ?_ | exact hM.1 | exact hM.2.1 _ rfl
              · rfl
              (try rw [hn])
              refine A.iconst (v := -1) rfl d_md_plot_139 ?_
              apply A.iastore (j := np) d_md_plot_140
              · repeat first | exact up_s | refine up_e (by decide) ?_ | exact hM.1 | exact hM.2.1 _ rfl
              · first | decide | omega
              · exact ixn (by omega)
              · show np < 24; omega
              refine A.aload_k 0 rfl rfl rfl d_md_plot_141 ?_
              apply A.getfield f_md_40 d_md_plot_142
              · repeat first | exact up_s | refine up_e (by decide) ?_ | exact hM.1 | exact hM.2.1 _ rfl
              · rfl
              refine A.aload_k 0 rfl rfl rfl d_md_plot_145 ?_
              apply A.getfield f_md_84 d_md_plot_146
              · repeat first | exact up_s | refine up_e (by decide) ?_ | exact hM.1 | exact hM.2.1 _ rfl
              · rfl
              (try rw [hn])
              refine A.iconst (v := -1) rfl d_md_plot_149 ?_
              apply A.iastore (j := np) d_md_plot_150
              · repeat first | exact up_s | refine up_e (by decide) ?_ | exact hM.1 | exact hM.2.1 _ rfl
              · first | decide | omega
              · exact ixn (by omega)
              · show np < 24; omega
              refine A.aload_k 0 rfl rfl rfl d_md_plot_151 ?_
              apply A.getfield f_md_43 d_md_plot_152
              · repeat first | exact up_s | refine up_e (by decide) ?_ | exact hM.1 | exact hM.2.1 _ rfl
              · rfl
              refine A.aload_k 0 rfl rfl rfl d_md_plot_155 ?_
              apply A.getfield f_md_84 d_md_plot_156
              · repeat first | exact up_s | refine up_e (by decide) ?_ | exact hM.1 | exact hM.2.1 _ rfl
              · rfl
              (try rw [hn])
              refine A.iconst (v := -1) rfl d_md_plot_159 ?_
              apply A.iastore (j := np) d_md_plot_160
              · repeat first | exact up_s | refine up_e (by decide) ?_ | exact hM.1 | exact hM.2.1 _ rfl
              · first | decide | omega
              · exact ixn (by omega)
              · show np < 24; omega
              refine A.aload_k 0 rfl rfl rfl d_md_plot_161 ?_
              apply A.getfield f_md_46 d_md_plot_162
              · repeat first | exact up_s | refine up_e (by decide) ?_ | exact hM.1 | exact hM.2.1 _ rfl
              · rfl
              refine A.aload_k 0 rfl rfl rfl d_md_plot_165 ?_
              apply A.getfield f_md_84 d_md_plot_166
              · repeat first | exact up_s | refine up_e (by decide) ?_ | exact hM.1 | exact hM.2.1 _ rfl
              · rfl
              (try rw [hn])
              refine A.iconst (v := -1) rfl d_md_plot_169 ?_
              apply A.iastore (j := np) d_md_plot_170
              · repeat first | exact up_s | refine up_e (by decide) ?_ | exact hM.1 | exact hM.2.1 _ rfl
              · first | decide | omega
              · exact ixn (by omega)
              · show np < 24; omega
              refine A.aload_k 0 rfl rfl rfl d_md_plot_171 ?_
              refine A.dup rfl d_md_plot_172 ?_
              apply A.getfield f_md_84 d_md_plot_173
              · repeat first | exact up_s | refine up_e (by decide) ?_ | exact hM.1 | exact hM.2.1 _ rfl
              · rfl
              (try rw [hn])
              refine A.iconst (v := 1) rfl d_md_plot_176 ?_
              refine A.iadd d_md_plot_177 ?_
              apply A.putfield p_md_84 d_md_plot_178
              · repeat first | exact up_s | refine up_e (by decide) ?_ | exact hM.1 | exact hM.2.1 _ rfl
              · exact (Nat.le_of_ble_eq_true rfl)
              · rfl
              dsimp only [List.set]
              refine A.aload_k 0 rfl rfl rfl d_md_plot_181 ?_
              apply A.getfield f_md_84 d_md_plot_182
              · repeat first | exact up_s | refine up_e (by decide) ?_ | exact hM.1 | exact hM.2.1 _ rfl
              · rfl
              (try rw [hn])
              refine A.iconst (v := 1) rfl d_md_plot_185 ?_
              refine A.isub d_md_plot_186 ?_
              refine A.iret d_md_plot_187 rfl ?_
              rw [nI_1, nI_pred]
              obtain ⟨o, y1, y2⟩ := in_lit (n := 19) (by decide) (by omega) a1 a2
              exact h1 _ o j1 j2 (by omega) y2 ⟨b1, b2⟩ ⟨e1, e2⟩ hlt c63 _ ((((((((((hM.arr 3 rfl _).arr 4 rfl _).arr 5 rfl _).arr 8 rfl _).arr 9 rfl _).arr 11 rfl _).arr 12 rfl _).arr 13 rfl _).arr 14 rfl _).fld 2 rfl _) (by repeat (first | exact FrM.rf | refine FrM.up ?_ (by decide) (by decide)))
            · refine A.iconst (v := -1) rfl d_md_plot_66 ?_
              refine A.iret d_md_plot_67 rfl ?_
              first | exact h0 (fun z => by obtain ⟨q, y1, y2⟩ := z.1; exact j3 q y1 y2) | exact h0 (fun z => by obtain ⟨q, y1, y2⟩ := z.2.1; exact a3 (by rw [y2]; exact nI_bt (n := 19) (by decide) (by omega) (by omega))) | exact h0 (fun z => b3 z.2.2.1) | exact h0 (fun z => e3 z.2.2.2.1) | exact h0 (fun z => z.2.2.2.2.1 (nI_inj (by omega) (by omega) c53)) | exact h0 (fun z => z.2.2.2.2.2 c63)
        · dsimp only [psh]
          refine A.if_eq0 66 (by decide) d_md_plot_44 ?_
          refine A.iconst (v := -1) rfl d_md_plot_66 ?_
          refine A.iret d_md_plot_67 rfl ?_
          first | exact h0 (fun z => by obtain ⟨q, y1, y2⟩ := z.1; exact j3 q y1 y2) | exact h0 (fun z => by obtain ⟨q, y1, y2⟩ := z.2.1; exact a3 (by rw [y2]; exact nI_bt (n := 19) (by decide) (by omega) (by omega))) | exact h0 (fun z => b3 z.2.2.1) | exact h0 (fun z => e3 z.2.2.2.1) | exact h0 (fun z => z.2.2.2.2.1 (nI_inj (by omega) (by omega) c53)) | exact h0 (fun z => z.2.2.2.2.2 c63)
      · dsimp only [psh]
        refine A.if_eq0 66 (by decide) d_md_plot_29 ?_
        refine A.iconst (v := -1) rfl d_md_plot_66 ?_
        refine A.iret d_md_plot_67 rfl ?_
        first | exact h0 (fun z => by obtain ⟨q, y1, y2⟩ := z.1; exact j3 q y1 y2) | exact h0 (fun z => by obtain ⟨q, y1, y2⟩ := z.2.1; exact a3 (by rw [y2]; exact nI_bt (n := 19) (by decide) (by omega) (by omega))) | exact h0 (fun z => b3 z.2.2.1) | exact h0 (fun z => e3 z.2.2.2.1) | exact h0 (fun z => z.2.2.2.2.1 (nI_inj (by omega) (by omega) c53)) | exact h0 (fun z => z.2.2.2.2.2 c63)
    · dsimp only [psh]
      refine A.if_eq0 66 (by decide) d_md_plot_14 ?_
      refine A.iconst (v := -1) rfl d_md_plot_66 ?_
      refine A.iret d_md_plot_67 rfl ?_
      first | exact h0 (fun z => by obtain ⟨q, y1, y2⟩ := z.1; exact j3 q y1 y2) | exact h0 (fun z => by obtain ⟨q, y1, y2⟩ := z.2.1; exact a3 (by rw [y2]; exact nI_bt (n := 19) (by decide) (by omega) (by omega))) | exact h0 (fun z => b3 z.2.2.1) | exact h0 (fun z => e3 z.2.2.2.1) | exact h0 (fun z => z.2.2.2.2.1 (nI_inj (by omega) (by omega) c53)) | exact h0 (fun z => z.2.2.2.2.2 c63)
  · dsimp only [psh]
    refine A.if_eq0 66 (by decide) d_md_plot_4 ?_
    refine A.iconst (v := -1) rfl d_md_plot_66 ?_
    refine A.iret d_md_plot_67 rfl ?_
    first | exact h0 (fun z => by obtain ⟨q, y1, y2⟩ := z.1; exact j3 q y1 y2) | exact h0 (fun z => by obtain ⟨q, y1, y2⟩ := z.2.1; exact a3 (by rw [y2]; exact nI_bt (n := 19) (by decide) (by omega) (by omega))) | exact h0 (fun z => b3 z.2.2.1) | exact h0 (fun z => e3 z.2.2.2.1) | exact h0 (fun z => z.2.2.2.2.1 (nI_inj (by omega) (by omega) c53)) | exact h0 (fun z => z.2.2.2.2.2 c63)
end
section
/-! the reference, on: leases, worths, interests, builders, walls -/
section MODEL2
variable {M S : MS} {C : Nat → Int64} {G : AHp} {kc ks np : Nat} {Q : Option Value → AHp → Prop}
def mLease (M : MS) (p l : Nat) (h y r : Int32) : MS := va_up (va_up (va_up (va_up M 7 (upd (M 7) p (nI (l + 1)))) 8 (upd (M 8) (4 * p + l + 1) h)) 9 (upd (M 9) (4 * p + l + 1) y)) 10 (upd (M 10) (4 * p + l + 1) r)
theorem c_md_lease {x h y r : Int32} (hM : MH G M S C) (hw : WF M np)
    (h0 : ¬ (∃ p l, p < np ∧ x = nI p ∧ M 7 p = nI l ∧ l < 3 ∧ M 6 p = 0 ∧ (∃ q, q < 20 ∧ h = nI q) ∧ (1 ≤ y ∧ y ≤ M 9 (4 * p + l)) ∧ (0 ≤ r ∧ r ≤ 999)) → Q (some (.int (-1))) G)
    (h1 : ∀ p l o, p < np → x = nI p → M 7 p = nI l → l < 3 → M 6 p = 0 → o < 20 → h = nI o → (1 ≤ y ∧ y ≤ M 9 (4 * p + l)) → (0 ≤ r ∧ r ≤ 999) → ∀ G', MH G' (mLease M p l h y r) S C → FrM G G' → Q (some (.int (nI (l + 1)))) G') : A 2 M_md_lease 0 [some (.ref 100), some (.int x), some (.int h), some (.int y), some (.int r), none] [] G kc ks Q := by
  obtain ⟨hn, hn2, hl, -⟩ := hw
  refine A.aload_k 0 rfl rfl rfl d_md_lease_0 ?_
  refine A.iload_k 1 rfl rfl d_md_lease_1 ?_
  refine A.callV1 s_md_101 ?_ (Nat.le_of_ble_eq_true rfl) (Nat.le_of_ble_eq_true rfl) (Nat.le_of_ble_eq_true rfl) d_md_lease_2 rfl (c_md_isPlot hM hn hn2 (fun p j1 j2 => ?_) (fun j3 => ?_))
  · apply Exists.intro
    repeat first | exact up_s | refine up_e (by decide) ?_ | exact hM.1 | exact hM.2.1 _ rfl
  · dsimp only [psh]
    refine A.if_eq1 d_md_lease_5 (tgt := 37) (by decide) ?_
    subst j2
    obtain ⟨l, hl3, el⟩ := hl p
    refine A.aload_k 0 rfl rfl rfl d_md_lease_8 ?_
    apply A.getfield f_md_22 d_md_lease_9
    · repeat first | exact up_s | refine up_e (by decide) ?_ | exact hM.1 | exact hM.2.1 _ rfl
    · rfl
    refine A.iload_k 1 rfl rfl d_md_lease_12 ?_
    apply A.iaload (j := p) d_md_lease_13
    · repeat first | exact up_s | refine up_e (by decide) ?_ | exact hM.1 | exact hM.2.1 _ rfl
    · exact ixn (by omega)
    · show p < 24; omega
    refine A.if_ne 37 (by decide) d_md_lease_14 (fun c14 => ?_) (fun c14 => ?_)
    · refine A.iconst (v := -1) rfl d_md_lease_37 ?_
      refine A.iret d_md_lease_38 rfl ?_
      first | exact h0 (fun z => by obtain ⟨p, l, y1, y2, -⟩ := z; exact j3 p y1 y2) | (refine h0 (fun z => ?_); obtain ⟨p', l', y1, y2, y3, y4, y5, ⟨q, y6, y7⟩, y8, y9⟩ := z; have := nI_inj (by omega) (by omega) y2; subst this; first | exact c14 y5 | exact a3 (by rw [y7]; exact nI_bt (n := 19) (by decide) (by omega) (by omega)) | (have := nI_inj (b := 3) (by omega) (by omega) c34; have := nI_inj (by omega) (by omega) (el.symm.trans y3); omega))
    · refine A.iload_k 2 rfl rfl d_md_lease_17 ?_
      refine A.iconst (v := 0) rfl d_md_lease_18 ?_
      refine A.bipush (v := 19) rfl d_md_lease_19 ?_
      refine A.callS3 s_md_87 (Nat.le_of_ble_eq_true rfl) (Nat.le_of_ble_eq_true rfl) (Nat.le_of_ble_eq_true rfl) d_md_lease_21 rfl (c_md_in (fun a1 a2 => ?_) (fun a3 => ?_))
      · dsimp only [psh]
        refine A.if_eq1 d_md_lease_24 (tgt := 37) (by decide) ?_
        refine A.aload_k 0 rfl rfl rfl d_md_lease_27 ?_
        apply A.getfield f_md_25 d_md_lease_28
        · repeat first | exact up_s | refine up_e (by decide) ?_ | exact hM.1 | exact hM.2.1 _ rfl
        · rfl
        refine A.iload_k 1 rfl rfl d_md_lease_31 ?_
        apply A.iaload (j := p) d_md_lease_32
        · repeat first | exact up_s | refine up_e (by decide) ?_ | exact hM.1 | exact hM.2.1 _ rfl
        · exact ixn (by omega)
        · show p < 24; omega
        rw [el]
        refine A.iconst (v := 3) rfl d_md_lease_33 ?_
        refine A.icmp_ne 39 (by decide) d_md_lease_34 (fun c34 => ?_) (fun c34 => ?_)
        · have hl4 : l < 3 := by
            rcases Nat.lt_or_ge l 3 with y | y
            · exact y
            · have : l = 3 := by omega
              subst this
              exact absurd rfl c34
          refine A.iconst (v := 4) rfl d_md_lease_39 ?_
          refine A.iload_k 1 rfl rfl d_md_lease_40 ?_
          refine A.imul d_md_lease_41 ?_
          refine A.aload_k 0 rfl rfl rfl d_md_lease_42 ?_
          apply A.getfield f_md_25 d_md_lease_43
          · repeat first | exact up_s | refine up_e (by decide) ?_ | exact hM.1 | exact hM.2.1 _ rfl
          · rfl
          refine A.iload_k 1 rfl rfl d_md_lease_46 ?_
          apply A.iaload (j := p) d_md_lease_47
          · repeat first | exact up_s | refine up_e (by decide) ?_ | exact hM.1 | exact hM.2.1 _ rfl
          · exact ixn (by omega)
          · show p < 24; omega
          rw [el]
          refine A.iadd d_md_lease_48 ?_
          refine A.istore (Nat.le_of_ble_eq_true rfl) rfl d_md_lease_49 ?_
          dsimp only [List.set]
          refine A.iload_k 3 rfl rfl d_md_lease_51 ?_
          refine A.iconst (v := 1) rfl d_md_lease_52 ?_
          refine A.aload_k 0 rfl rfl rfl d_md_lease_53 ?_
          apply A.getfield f_md_31 d_md_lease_54
          · repeat first | exact up_s | refine up_e (by decide) ?_ | exact hM.1 | exact hM.2.1 _ rfl
          · rfl
          refine A.iload rfl d_md_lease_57 ?_
          apply A.iaload (j := 4 * p + l) d_md_lease_59
          · repeat first | exact up_s | refine up_e (by decide) ?_ | exact hM.1 | exact hM.2.1 _ rfl
          · exact ix4 (by omega) (by omega)
          · show 4 * p + l < 96; omega
          refine A.callS3 s_md_87 (Nat.le_of_ble_eq_true rfl) (Nat.le_of_ble_eq_true rfl) (Nat.le_of_ble_eq_true rfl) d_md_lease_60 rfl (c_md_in (fun b1 b2 => ?_) (fun b3 => ?_))
          · dsimp only [psh]
            refine A.if_eq1 d_md_lease_63 (tgt := 78) (by decide) ?_
            refine A.iload rfl d_md_lease_66 ?_
            refine A.iconst (v := 0) rfl d_md_lease_68 ?_
            refine A.sipush (v := 999) rfl d_md_lease_69 ?_
            refine A.callS3 s_md_87 (Nat.le_of_ble_eq_true rfl) (Nat.le_of_ble_eq_true rfl) (Nat.le_of_ble_eq_true rfl) d_md_lease_72 rfl (c_md_in (fun e1 e2 => ?_) (fun e3 => ?_))
            · dsimp only [psh]
              refine A.if_ne1 80 (by decide) d_md_lease_75 ?_
              refine A.aload_k 0 rfl rfl rfl d_md_lease_80 ?_
              apply A.getfield f_md_25 d_md_lease_81
              · repeat first | exact up_s | refine up_e (by decide) ?_ | exact hM.1 | exact hM.2.1 _ rfl
              · rfl
              refine A.iload_k 1 rfl rfl d_md_lease_84 ?_
              refine A.dup2 rfl rfl d_md_lease_85 ?_
              apply A.iaload (j := p) d_md_lease_86
              · repeat first | exact up_s | refine up_e (by decide) ?_ | exact hM.1 | exact hM.2.1 _ rfl
              · exact ixn (by omega)
              · show p < 24; omega
              rw [el]
              refine A.iconst (v := 1) rfl d_md_lease_87 ?_
              refine A.iadd d_md_lease_88 ?_
              apply A.iastore (j := p) d_md_lease_89
              · repeat first | exact up_s | refine up_e (by decide) ?_ | exact hM.1 | exact hM.2.1 _ rfl
              · first | decide | omega
              · exact ixn (by omega)
              · show p < 24; omega
              refine A.aload_k 0 rfl rfl rfl d_md_lease_90 ?_
              apply A.getfield f_md_28 d_md_lease_91
              · repeat first | exact up_s | refine up_e (by decide) ?_ | exact hM.1 | exact hM.2.1 _ rfl
              · rfl
              refine A.iload rfl d_md_lease_94 ?_
              refine A.iconst (v := 1) rfl d_md_lease_96 ?_
              refine A.iadd d_md_lease_97 ?_
              refine A.iload_k 2 rfl rfl d_md_lease_98 ?_
              apply A.iastore (j := 4 * p + l + 1) d_md_lease_99
              · repeat first | exact up_s | refine up_e (by decide) ?_ | exact hM.1 | exact hM.2.1 _ rfl
              · first | decide | omega
              · exact ix4s (by omega) (by omega)
              · show 4 * p + l + 1 < 96; omega
              refine A.aload_k 0 rfl rfl rfl d_md_lease_100 ?_
              apply A.getfield f_md_31 d_md_lease_101
              · repeat first | exact up_s | refine up_e (by decide) ?_ | exact hM.1 | exact hM.2.1 _ rfl
              · rfl
              refine A.iload rfl d_md_lease_104 ?_
              refine A.iconst (v := 1) rfl d_md_lease_106 ?_
              refine A.iadd d_md_lease_107 ?_
              refine A.iload_k 3 rfl rfl d_md_lease_108 ?_
              apply A.iastore (j := 4 * p + l + 1) d_md_lease_109
              · repeat first | exact up_s | refine up_e (by decide) ?_ | exact hM.1 | exact hM.2.1 _ rfl
              · first | decide | omega
              · exact ix4s (by omega) (by omega)
              · show 4 * p + l + 1 < 96; omega
              refine A.aload_k 0 rfl rfl rfl d_md_lease_110 ?_
              apply A.getfield f_md_34 d_md_lease_111
              · repeat first | exact up_s | refine up_e (by decide) ?_ | exact hM.1 | exact hM.2.1 _ rfl
              · rfl
              refine A.iload rfl d_md_lease_114 ?_
              refine A.iconst (v := 1) rfl d_md_lease_116 ?_
              refine A.iadd d_md_lease_117 ?_
              refine A.iload rfl d_md_lease_118 ?_
              apply A.iastore (j := 4 * p + l + 1) d_md_lease_120
              · repeat first | exact up_s | refine up_e (by decide) ?_ | exact hM.1 | exact hM.2.1 _ rfl
              · first | decide | omega
              · exact ix4s (by omega) (by omega)
              · show 4 * p + l + 1 < 96; omega
              refine A.aload_k 0 rfl rfl rfl d_md_lease_121 ?_
              apply A.getfield f_md_25 d_md_lease_122
              · repeat first | exact up_s | refine up_e (by decide) ?_ | exact hM.1 | exact hM.2.1 _ rfl
              · rfl
              refine A.iload_k 1 rfl rfl d_md_lease_125 ?_
              apply A.iaload (j := p) d_md_lease_126
              · repeat first | exact up_s | refine up_e (by decide) ?_ | exact hM.1 | exact hM.2.1 _ rfl
              · exact ixn (by omega)
              · show p < 24; omega
              refine A.iret d_md_lease_127 rfl ?_
              rw [pk_us]
              obtain ⟨o, y1, y2⟩ := in_lit (n := 19) (by decide) (by omega) a1 a2
              rw [nI_1]
              exact h1 p l o j1 rfl el hl4 c14 (by omega) y2 ⟨b1, b2⟩ ⟨e1, e2⟩ _ ((((hM.arr 7 rfl _).arr 8 rfl _).arr 9 rfl _).arr 10 rfl _) (by repeat (first | exact FrM.rf | refine FrM.up ?_ (by decide) (by decide)))
            · dsimp only [psh]
              refine A.if_ne0 d_md_lease_75 (tgt := 80) (by decide) ?_
              refine A.iconst (v := -1) rfl d_md_lease_78 ?_
              refine A.iret d_md_lease_79 rfl ?_
              (refine h0 (fun z => ?_); obtain ⟨p', l', y1, y2, y3, y4, y5, ⟨q, y6, y7⟩, y8, y9⟩ := z; have := nI_inj (by omega) (by omega) y2; subst this; have := nI_inj (by omega) (by omega) (el.symm.trans y3); subst this; first | exact b3 y8 | exact e3 y9)
          · dsimp only [psh]
            refine A.if_eq0 78 (by decide) d_md_lease_63 ?_
            refine A.iconst (v := -1) rfl d_md_lease_78 ?_
            refine A.iret d_md_lease_79 rfl ?_
            (refine h0 (fun z => ?_); obtain ⟨p', l', y1, y2, y3, y4, y5, ⟨q, y6, y7⟩, y8, y9⟩ := z; have := nI_inj (by omega) (by omega) y2; subst this; have := nI_inj (by omega) (by omega) (el.symm.trans y3); subst this; first | exact b3 y8 | exact e3 y9)
        · refine A.iconst (v := -1) rfl d_md_lease_37 ?_
          refine A.iret d_md_lease_38 rfl ?_
          first | exact h0 (fun z => by obtain ⟨p, l, y1, y2, -⟩ := z; exact j3 p y1 y2) | (refine h0 (fun z => ?_); obtain ⟨p', l', y1, y2, y3, y4, y5, ⟨q, y6, y7⟩, y8, y9⟩ := z; have := nI_inj (by omega) (by omega) y2; subst this; first | exact c14 y5 | exact a3 (by rw [y7]; exact nI_bt (n := 19) (by decide) (by omega) (by omega)) | (have := nI_inj (b := 3) (by omega) (by omega) c34; have := nI_inj (by omega) (by omega) (el.symm.trans y3); omega))
      · dsimp only [psh]
        refine A.if_eq0 37 (by decide) d_md_lease_24 ?_
        refine A.iconst (v := -1) rfl d_md_lease_37 ?_
        refine A.iret d_md_lease_38 rfl ?_
        first | exact h0 (fun z => by obtain ⟨p, l, y1, y2, -⟩ := z; exact j3 p y1 y2) | (refine h0 (fun z => ?_); obtain ⟨p', l', y1, y2, y3, y4, y5, ⟨q, y6, y7⟩, y8, y9⟩ := z; have := nI_inj (by omega) (by omega) y2; subst this; first | exact c14 y5 | exact a3 (by rw [y7]; exact nI_bt (n := 19) (by decide) (by omega) (by omega)) | (have := nI_inj (b := 3) (by omega) (by omega) c34; have := nI_inj (by omega) (by omega) (el.symm.trans y3); omega))
  · dsimp only [psh]
    refine A.if_eq0 37 (by decide) d_md_lease_5 ?_
    refine A.iconst (v := -1) rfl d_md_lease_37 ?_
    refine A.iret d_md_lease_38 rfl ?_
    first | exact h0 (fun z => by obtain ⟨p, l, y1, y2, -⟩ := z; exact j3 p y1 y2) | (refine h0 (fun z => ?_); obtain ⟨p', l', y1, y2, y3, y4, y5, ⟨q, y6, y7⟩, y8, y9⟩ := z; have := nI_inj (by omega) (by omega) y2; subst this; first | exact c14 y5 | exact a3 (by rw [y7]; exact nI_bt (n := 19) (by decide) (by omega) (by omega)) | (have := nI_inj (b := 3) (by omega) (by omega) c34; have := nI_inj (by omega) (by omega) (el.symm.trans y3); omega))
def mRates (M : MS) (a b c : Int32) : MS := va_up (va_up (va_up M 16 (fun _ => a)) 17 (fun _ => b)) 18 (fun _ => c)
theorem c_md_rates {a b c : Int32} (hM : MH G M S C) (h0 : ¬ ((1 ≤ a ∧ a ≤ 9) ∧ (1 ≤ b ∧ b ≤ 9) ∧ (0 ≤ c ∧ c ≤ 60)) → Q (some (.int 0)) G) (h1 : (1 ≤ a ∧ a ≤ 9) → (1 ≤ b ∧ b ≤ 9) → (0 ≤ c ∧ c ≤ 60) → ∀ G', MH G' (mRates M a b c) S C → FrM G G' → Q (some (.int 1)) G') : A 1 M_md_rates 0 [some (.ref 100), some (.int a), some (.int b), some (.int c)] [] G kc ks Q := by
  refine A.iload_k 1 rfl rfl d_md_rates_0 ?_
  refine A.iconst (v := 1) rfl d_md_rates_1 ?_
  refine A.bipush (v := 9) rfl d_md_rates_2 ?_
  refine A.callS3 s_md_87 (Nat.le_of_ble_eq_true rfl) (Nat.le_of_ble_eq_true rfl) (Nat.le_of_ble_eq_true rfl) d_md_rates_4 rfl (c_md_in (fun a1 a2 => ?_) (fun a3 => ?_))
  · dsimp only [psh]
    refine A.if_eq1 d_md_rates_7 (tgt := 30) (by decide) ?_
    refine A.iload_k 2 rfl rfl d_md_rates_10 ?_
    refine A.iconst (v := 1) rfl d_md_rates_11 ?_
    refine A.bipush (v := 9) rfl d_md_rates_12 ?_
    refine A.callS3 s_md_87 (Nat.le_of_ble_eq_true rfl) (Nat.le_of_ble_eq_true rfl) (Nat.le_of_ble_eq_true rfl) d_md_rates_14 rfl (c_md_in (fun b1 b2 => ?_) (fun b3 => ?_))
    · dsimp only [psh]
      refine A.if_eq1 d_md_rates_17 (tgt := 30) (by decide) ?_
      refine A.iload_k 3 rfl rfl d_md_rates_20 ?_
      refine A.iconst (v := 0) rfl d_md_rates_21 ?_
      refine A.bipush (v := 60) rfl d_md_rates_22 ?_
      refine A.callS3 s_md_87 (Nat.le_of_ble_eq_true rfl) (Nat.le_of_ble_eq_true rfl) (Nat.le_of_ble_eq_true rfl) d_md_rates_24 rfl (c_md_in (fun e1 e2 => ?_) (fun e3 => ?_))
      · dsimp only [psh]
        refine A.if_ne1 32 (by decide) d_md_rates_27 ?_
        refine A.aload_k 0 rfl rfl rfl d_md_rates_32 ?_
        refine A.iload_k 1 rfl rfl d_md_rates_33 ?_
        apply A.putfield p_md_52 d_md_rates_34
        · repeat first | exact up_s | refine up_e (by decide) ?_ | exact hM.1 | exact hM.2.1 _ rfl
        · exact (Nat.le_of_ble_eq_true rfl)
        · rfl
        dsimp only [List.set]
        refine A.aload_k 0 rfl rfl rfl d_md_rates_37 ?_
        refine A.iload_k 2 rfl rfl d_md_rates_38 ?_
        apply A.putfield p_md_56 d_md_rates_39
        · repeat first | exact up_s | refine up_e (by decide) ?_ | exact hM.1 | exact hM.2.1 _ rfl
        · exact (Nat.le_of_ble_eq_true rfl)
        · rfl
        dsimp only [List.set]
        refine A.aload_k 0 rfl rfl rfl d_md_rates_42 ?_
        refine A.iload_k 3 rfl rfl d_md_rates_43 ?_
        apply A.putfield p_md_59 d_md_rates_44
        · repeat first | exact up_s | refine up_e (by decide) ?_ | exact hM.1 | exact hM.2.1 _ rfl
        · exact (Nat.le_of_ble_eq_true rfl)
        · rfl
        dsimp only [List.set]
        refine A.iconst (v := 1) rfl d_md_rates_47 ?_
        refine A.zret d_md_rates_48 rfl (Or.inr rfl) ?_
        exact h1 ⟨a1, a2⟩ ⟨b1, b2⟩ ⟨e1, e2⟩ _ (((hM.fld 16 rfl a).fld 17 rfl b).fld 18 rfl c) (by repeat (first | exact FrM.rf | refine FrM.up ?_ (by decide) (by decide)))
      · dsimp only [psh]
        refine A.if_ne0 d_md_rates_27 (tgt := 32) (by decide) ?_
        refine A.iconst (v := 0) rfl d_md_rates_30 ?_
        refine A.zret d_md_rates_31 rfl (Or.inl rfl) ?_
        first | exact h0 (fun z => e3 z.2.2) | exact h0 (fun z => b3 z.2.1) | exact h0 (fun z => a3 z.1)
    · dsimp only [psh]
      refine A.if_eq0 30 (by decide) d_md_rates_17 ?_
      refine A.iconst (v := 0) rfl d_md_rates_30 ?_
      refine A.zret d_md_rates_31 rfl (Or.inl rfl) ?_
      first | exact h0 (fun z => e3 z.2.2) | exact h0 (fun z => b3 z.2.1) | exact h0 (fun z => a3 z.1)
  · dsimp only [psh]
    refine A.if_eq0 30 (by decide) d_md_rates_7 ?_
    refine A.iconst (v := 0) rfl d_md_rates_30 ?_
    refine A.zret d_md_rates_31 rfl (Or.inl rfl) ?_
    first | exact h0 (fun z => e3 z.2.2) | exact h0 (fun z => b3 z.2.1) | exact h0 (fun z => a3 z.1)
def wthM (M : MS) (p : Nat) : Int32 := M 4 p * M 5 p / 20
theorem c_md_worth {x : Int32} (hM : MH G M S C) (hn : M 2 0 = nI np) (hn2 : np ≤ 24) (h1 : ∀ p, p < np → x = nI p → Q (some (.int (wthM M p))) G) (h0 : (∀ q, q < np → x ≠ nI q) → Q (some (.int (-1))) G) : A 2 M_md_worth 0 [some (.ref 100), some (.int x)] [] G kc ks Q := by
  refine A.aload_k 0 rfl rfl rfl d_md_worth_0 ?_
  refine A.iload_k 1 rfl rfl d_md_worth_1 ?_
  refine A.callV1 s_md_101 ?_ (Nat.le_of_ble_eq_true rfl) (Nat.le_of_ble_eq_true rfl) (Nat.le_of_ble_eq_true rfl) d_md_worth_2 rfl (c_md_isPlot hM hn hn2 (fun q j1 j2 => ?_) (fun j3 => ?_))
  · apply Exists.intro
    first | exact hM.1 | exact hM.2.1 _ rfl
  · dsimp only [psh]
    refine A.if_eq1 d_md_worth_5 (tgt := 27) (by decide) ?_
    subst j2
    refine A.aload_k 0 rfl rfl rfl d_md_worth_8 ?_
    apply A.getfield f_md_16 d_md_worth_9
    · first | exact hM.1 | exact hM.2.1 _ rfl
    · rfl
    refine A.iload_k 1 rfl rfl d_md_worth_12 ?_
    apply A.iaload (j := q) d_md_worth_13
    · first | exact hM.1 | exact hM.2.1 _ rfl
    · exact ixn (by omega)
    · show q < 24; omega
    refine A.aload_k 0 rfl rfl rfl d_md_worth_14 ?_
    apply A.getfield f_md_19 d_md_worth_15
    · first | exact hM.1 | exact hM.2.1 _ rfl
    · rfl
    refine A.iload_k 1 rfl rfl d_md_worth_18 ?_
    apply A.iaload (j := q) d_md_worth_19
    · first | exact hM.1 | exact hM.2.1 _ rfl
    · exact ixn (by omega)
    · show q < 24; omega
    refine A.imul d_md_worth_20 ?_
    refine A.bipush (v := 20) rfl d_md_worth_21 ?_
    refine A.idiv (by decide) d_md_worth_23 ?_
    refine A.goto 28 (by decide) d_md_worth_24 ?_
    refine A.iret d_md_worth_28 rfl ?_
    first | exact h1 q j1 rfl | exact h0 j3
  · dsimp only [psh]
    refine A.if_eq0 27 (by decide) d_md_worth_5 ?_
    refine A.iconst (v := -1) rfl d_md_worth_27 ?_
    refine A.iret d_md_worth_28 rfl ?_
    first | exact h1 q j1 rfl | exact h0 j3
theorem c_md_isPlace {x k : Int32} (hM : MH G M S C) (hw : WF M np) (h1 : ∀ p j l, p < np → x = nI p → M 7 p = nI l → l ≤ 3 → j ≤ l → k = nI j → ¬ (M 6 p = 2 ∨ M 6 p = 3) → Q (some (.int 1)) G)
    (h0 : (∀ p j l, p < np → x = nI p → M 7 p = nI l → l ≤ 3 → j ≤ l → k = nI j → (M 6 p = 2 ∨ M 6 p = 3)) → Q (some (.int 0)) G) : A 2 M_md_isPlace 0 [some (.ref 100), some (.int x), some (.int k)] [] G kc ks Q := by
  obtain ⟨hn, hn2, hl, -⟩ := hw
  refine A.aload_k 0 rfl rfl rfl d_md_isPlace_0 ?_
  refine A.iload_k 1 rfl rfl d_md_isPlace_1 ?_
  refine A.callV1 s_md_101 ?_ (Nat.le_of_ble_eq_true rfl) (Nat.le_of_ble_eq_true rfl) (Nat.le_of_ble_eq_true rfl) d_md_isPlace_2 rfl (c_md_isPlot hM hn hn2 (fun p j1 j2 => ?_) (fun j3 => ?_))
  · apply Exists.intro
    first | exact hM.1 | exact hM.2.1 _ rfl
  · dsimp only [psh]
    refine A.if_eq1 d_md_isPlace_5 (tgt := 34) (by decide) ?_
    subst j2
    obtain ⟨l, hl3, el⟩ := hl p
    refine A.aload_k 0 rfl rfl rfl d_md_isPlace_8 ?_
    refine A.iload_k 1 rfl rfl d_md_isPlace_9 ?_
    refine A.callV1 s_md_104 ?_ (Nat.le_of_ble_eq_true rfl) (Nat.le_of_ble_eq_true rfl) (Nat.le_of_ble_eq_true rfl) d_md_isPlace_10 rfl (c_md_isGone hM (by omega) (fun g1 => ?_) (fun g2 => ?_))
    · apply Exists.intro
      first | exact hM.1 | exact hM.2.1 _ rfl
    · dsimp only [psh]
      refine A.if_ne1 34 (by decide) d_md_isPlace_13 ?_
      refine A.iconst (v := 0) rfl d_md_isPlace_34 ?_
      refine A.zret d_md_isPlace_35 rfl (Or.inl rfl) ?_
      first | (obtain ⟨j, y1, y2⟩ := in_lit (n := l) (ixn (by omega)) (by omega) i1 i2; exact h1 p j l j1 rfl el hl3 y1 y2 g2) | exact h0 (fun p j l y1 y2 _ _ _ _ => absurd y2 (j3 p y1)) | (refine h0 (fun p' j' l' y1 y2 y3 y33 y4 y5 => ?_); have := nI_inj (by omega) (by omega) y2; subst this; first | exact g1 | (have := nI_inj (by omega) (by omega) (el.symm.trans y3); subst this; exact absurd (by rw [y5]; exact nI_bt (ixn (by omega)) y4 (by omega)) i3))
    · dsimp only [psh]
      refine A.if_ne0 d_md_isPlace_13 (tgt := 34) (by decide) ?_
      refine A.iload_k 2 rfl rfl d_md_isPlace_16 ?_
      refine A.iconst (v := 0) rfl d_md_isPlace_17 ?_
      refine A.aload_k 0 rfl rfl rfl d_md_isPlace_18 ?_
      apply A.getfield f_md_25 d_md_isPlace_19
      · first | exact hM.1 | exact hM.2.1 _ rfl
      · rfl
      refine A.iload_k 1 rfl rfl d_md_isPlace_22 ?_
      apply A.iaload (j := p) d_md_isPlace_23
      · first | exact hM.1 | exact hM.2.1 _ rfl
      · exact ixn (by omega)
      · show p < 24; omega
      rw [el]
      refine A.callS3 s_md_87 (Nat.le_of_ble_eq_true rfl) (Nat.le_of_ble_eq_true rfl) (Nat.le_of_ble_eq_true rfl) d_md_isPlace_24 rfl (c_md_in (fun i1 i2 => ?_) (fun i3 => ?_))
      · dsimp only [psh]
        refine A.if_eq1 d_md_isPlace_27 (tgt := 34) (by decide) ?_
        refine A.iconst (v := 1) rfl d_md_isPlace_30 ?_
        refine A.goto 35 (by decide) d_md_isPlace_31 ?_
        refine A.zret d_md_isPlace_35 rfl (Or.inr rfl) ?_
        first | (obtain ⟨j, y1, y2⟩ := in_lit (n := l) (ixn (by omega)) (by omega) i1 i2; exact h1 p j l j1 rfl el hl3 y1 y2 g2) | exact h0 (fun p j l y1 y2 _ _ _ _ => absurd y2 (j3 p y1)) | (refine h0 (fun p' j' l' y1 y2 y3 y33 y4 y5 => ?_); have := nI_inj (by omega) (by omega) y2; subst this; first | exact g1 | (have := nI_inj (by omega) (by omega) (el.symm.trans y3); subst this; exact absurd (by rw [y5]; exact nI_bt (ixn (by omega)) y4 (by omega)) i3))
      · dsimp only [psh]
        refine A.if_eq0 34 (by decide) d_md_isPlace_27 ?_
        refine A.iconst (v := 0) rfl d_md_isPlace_34 ?_
        refine A.zret d_md_isPlace_35 rfl (Or.inl rfl) ?_
        first | (obtain ⟨j, y1, y2⟩ := in_lit (n := l) (ixn (by omega)) (by omega) i1 i2; exact h1 p j l j1 rfl el hl3 y1 y2 g2) | exact h0 (fun p j l y1 y2 _ _ _ _ => absurd y2 (j3 p y1)) | (refine h0 (fun p' j' l' y1 y2 y3 y33 y4 y5 => ?_); have := nI_inj (by omega) (by omega) y2; subst this; first | exact g1 | (have := nI_inj (by omega) (by omega) (el.symm.trans y3); subst this; exact absurd (by rw [y5]; exact nI_bt (ixn (by omega)) y4 (by omega)) i3))
  · dsimp only [psh]
    refine A.if_eq0 34 (by decide) d_md_isPlace_5 ?_
    refine A.iconst (v := 0) rfl d_md_isPlace_34 ?_
    refine A.zret d_md_isPlace_35 rfl (Or.inl rfl) ?_
    first | (obtain ⟨j, y1, y2⟩ := in_lit (n := l) (ixn (by omega)) (by omega) i1 i2; exact h1 p j l j1 rfl el hl3 y1 y2 g2) | exact h0 (fun p j l y1 y2 _ _ _ _ => absurd y2 (j3 p y1)) | (refine h0 (fun p' j' l' y1 y2 y3 y33 y4 y5 => ?_); have := nI_inj (by omega) (by omega) y2; subst this; first | exact g1 | (have := nI_inj (by omega) (by omega) (el.symm.trans y3); subst this; exact absurd (by rw [y5]; exact nI_bt (ixn (by omega)) y4 (by omega)) i3))
def intM (M : MS) (p j : Nat) : Int32 := if 0 < (if M 7 p ≤ nI j then wthM M p else M 10 (4 * p + j + 1)) - (if nI j ≤ 0 then 0 else M 10 (4 * p + j)) then ((if M 7 p ≤ nI j then wthM M p else M 10 (4 * p + j + 1)) - (if nI j ≤ 0 then 0 else M 10 (4 * p + j))) * (if nI j = 0 then 40 else M 9 (4 * p + j)) else 0
theorem c_md_interestOf {p j l : Nat} (hM : MH G M S C) (hn : M 2 0 = nI np) (hn2 : np ≤ 24) (hp : p < np) (hl : M 7 p = nI l) (hl3 : l ≤ 3) (hj : j ≤ 3) (h : Q (some (.int (intM M p j))) G) : A 3 M_md_interestOf 0 [some (.ref 100), some (.int (nI p)), some (.int (nI j)), none, none] [] G kc ks Q := by
  refine A.iconst (v := 4) rfl d_md_interestOf_0 ?_
  refine A.iload_k 1 rfl rfl d_md_interestOf_1 ?_
  refine A.imul d_md_interestOf_2 ?_
  refine A.iload_k 2 rfl rfl d_md_interestOf_3 ?_
  refine A.iadd d_md_interestOf_4 ?_
  refine A.istore_k 3 rfl (Nat.le_of_ble_eq_true rfl) rfl d_md_interestOf_5 ?_
  dsimp only [List.set]
  refine A.iload_k 2 rfl rfl d_md_interestOf_6 ?_
  refine A.aload_k 0 rfl rfl rfl d_md_interestOf_7 ?_
  apply A.getfield f_md_25 d_md_interestOf_8
  · first | exact hM.1 | exact hM.2.1 _ rfl
  · rfl
  refine A.iload_k 1 rfl rfl d_md_interestOf_11 ?_
  apply A.iaload (j := p) d_md_interestOf_12
  · first | exact hM.1 | exact hM.2.1 _ rfl
  · exact ixn (by omega)
  · show p < 24; omega
  refine A.icmp_ge 27 (by decide) d_md_interestOf_13 (fun c13 => ?_) (fun c13 => ?_)
  · refine A.aload_k 0 rfl rfl rfl d_md_interestOf_27 ?_
    refine A.iload_k 1 rfl rfl d_md_interestOf_28 ?_
    refine A.callV1 s_md_107 ?_ (Nat.le_of_ble_eq_true rfl) (Nat.le_of_ble_eq_true rfl) (Nat.le_of_ble_eq_true rfl) d_md_interestOf_29 rfl (c_md_worth hM hn hn2 (fun p' w1 w2 => ?_) (fun w3 => absurd rfl (w3 p hp)))
    · apply Exists.intro
      first | exact hM.1 | exact hM.2.1 _ rfl
    have w2 := nI_inj (by omega) (by omega) w2
    subst w2
    dsimp only [psh]
    refine A.iload_k 2 rfl rfl d_md_interestOf_32 ?_
    refine A.if_le 45 (by decide) d_md_interestOf_33 (fun c33 => ?_) (fun c33 => ?_)
    · refine A.iconst (v := 0) rfl d_md_interestOf_45 ?_
      refine A.isub d_md_interestOf_46 ?_
      refine A.istore (Nat.le_of_ble_eq_true rfl) rfl d_md_interestOf_47 ?_
      dsimp only [List.set]
      refine A.iload rfl d_md_interestOf_49 ?_
      refine A.if_gt 58 (by decide) d_md_interestOf_51 (fun c51 => ?_) (fun c51 => ?_)
      · refine A.iload rfl d_md_interestOf_58 ?_
        refine A.iload_k 2 rfl rfl d_md_interestOf_60 ?_
        refine A.if_ne 69 (by decide) d_md_interestOf_61 (fun c61 => ?_) (fun c61 => ?_)
        · refine A.aload_k 0 rfl rfl rfl d_md_interestOf_69 ?_
          apply A.getfield f_md_31 d_md_interestOf_70
          · first | exact hM.1 | exact hM.2.1 _ rfl
          · rfl
          refine A.iload_k 3 rfl rfl d_md_interestOf_73 ?_
          apply A.iaload (j := 4 * p + j) d_md_interestOf_74
          · first | exact hM.1 | exact hM.2.1 _ rfl
          · exact ix4 (by omega) (by omega)
          · show 4 * p + j < 96; omega
          refine A.imul d_md_interestOf_75 ?_
          refine A.iret d_md_interestOf_76 rfl ?_
          unfold intM at h
          first | (simp only [c13, c33, c51, ↓reduceIte] at h; rw [if_pos c61] at h; exact h) | (simp only [c13, c33, c51, ↓reduceIte] at h; rw [if_neg c61] at h; exact h) | (simp only [c13, c33, c51, ↓reduceIte] at h; exact h)
        · refine A.bipush (v := 40) rfl d_md_interestOf_64 ?_
          refine A.goto 75 (by decide) d_md_interestOf_66 ?_
          refine A.imul d_md_interestOf_75 ?_
          refine A.iret d_md_interestOf_76 rfl ?_
          unfold intM at h
          first | (simp only [c13, c33, c51, ↓reduceIte] at h; rw [if_pos c61] at h; exact h) | (simp only [c13, c33, c51, ↓reduceIte] at h; rw [if_neg c61] at h; exact h) | (simp only [c13, c33, c51, ↓reduceIte] at h; exact h)
      · refine A.iconst (v := 0) rfl d_md_interestOf_54 ?_
        refine A.goto 76 (by decide) d_md_interestOf_55 ?_
        refine A.iret d_md_interestOf_76 rfl ?_
        unfold intM at h
        first | (simp only [c13, c33, c51, ↓reduceIte] at h; rw [if_pos c61] at h; exact h) | (simp only [c13, c33, c51, ↓reduceIte] at h; rw [if_neg c61] at h; exact h) | (simp only [c13, c33, c51, ↓reduceIte] at h; exact h)
    · refine A.aload_k 0 rfl rfl rfl d_md_interestOf_36 ?_
      apply A.getfield f_md_34 d_md_interestOf_37
      · first | exact hM.1 | exact hM.2.1 _ rfl
      · rfl
      refine A.iload_k 3 rfl rfl d_md_interestOf_40 ?_
      apply A.iaload (j := 4 * p + j) d_md_interestOf_41
      · first | exact hM.1 | exact hM.2.1 _ rfl
      · exact ix4 (by omega) (by omega)
      · show 4 * p + j < 96; omega
      refine A.goto 46 (by decide) d_md_interestOf_42 ?_
      refine A.isub d_md_interestOf_46 ?_
      refine A.istore (Nat.le_of_ble_eq_true rfl) rfl d_md_interestOf_47 ?_
      dsimp only [List.set]
      refine A.iload rfl d_md_interestOf_49 ?_
      refine A.if_gt 58 (by decide) d_md_interestOf_51 (fun c51 => ?_) (fun c51 => ?_)
      · refine A.iload rfl d_md_interestOf_58 ?_
        refine A.iload_k 2 rfl rfl d_md_interestOf_60 ?_
        refine A.if_ne 69 (by decide) d_md_interestOf_61 (fun c61 => ?_) (fun c61 => ?_)
        · refine A.aload_k 0 rfl rfl rfl d_md_interestOf_69 ?_
          apply A.getfield f_md_31 d_md_interestOf_70
          · first | exact hM.1 | exact hM.2.1 _ rfl
          · rfl
          refine A.iload_k 3 rfl rfl d_md_interestOf_73 ?_
          apply A.iaload (j := 4 * p + j) d_md_interestOf_74
          · first | exact hM.1 | exact hM.2.1 _ rfl
          · exact ix4 (by omega) (by omega)
          · show 4 * p + j < 96; omega
          refine A.imul d_md_interestOf_75 ?_
          refine A.iret d_md_interestOf_76 rfl ?_
          unfold intM at h
          first | (simp only [c13, c33, c51, ↓reduceIte] at h; rw [if_pos c61] at h; exact h) | (simp only [c13, c33, c51, ↓reduceIte] at h; rw [if_neg c61] at h; exact h) | (simp only [c13, c33, c51, ↓reduceIte] at h; exact h)
        · refine A.bipush (v := 40) rfl d_md_interestOf_64 ?_
          refine A.goto 75 (by decide) d_md_interestOf_66 ?_
          refine A.imul d_md_interestOf_75 ?_
          refine A.iret d_md_interestOf_76 rfl ?_
          unfold intM at h
          first | (simp only [c13, c33, c51, ↓reduceIte] at h; rw [if_pos c61] at h; exact h) | (simp only [c13, c33, c51, ↓reduceIte] at h; rw [if_neg c61] at h; exact h) | (simp only [c13, c33, c51, ↓reduceIte] at h; exact h)
      · refine A.iconst (v := 0) rfl d_md_interestOf_54 ?_
        refine A.goto 76 (by decide) d_md_interestOf_55 ?_
        refine A.iret d_md_interestOf_76 rfl ?_
        unfold intM at h
        first | (simp only [c13, c33, c51, ↓reduceIte] at h; rw [if_pos c61] at h; exact h) | (simp only [c13, c33, c51, ↓reduceIte] at h; rw [if_neg c61] at h; exact h) | (simp only [c13, c33, c51, ↓reduceIte] at h; exact h)
  · have hj3 : j < 3 := Nat.lt_of_not_le (fun z => c13 (by rw [hl]; exact nI_le (by omega) (by omega)))
    refine A.aload_k 0 rfl rfl rfl d_md_interestOf_16 ?_
    apply A.getfield f_md_34 d_md_interestOf_17
    · first | exact hM.1 | exact hM.2.1 _ rfl
    · rfl
    refine A.iload_k 3 rfl rfl d_md_interestOf_20 ?_
    refine A.iconst (v := 1) rfl d_md_interestOf_21 ?_
    refine A.iadd d_md_interestOf_22 ?_
    apply A.iaload (j := 4 * p + j + 1) d_md_interestOf_23
    · first | exact hM.1 | exact hM.2.1 _ rfl
    · exact ix4s (by omega) (by omega)
    · show 4 * p + j + 1 < 96; omega
    refine A.goto 32 (by decide) d_md_interestOf_24 ?_
    refine A.iload_k 2 rfl rfl d_md_interestOf_32 ?_
    refine A.if_le 45 (by decide) d_md_interestOf_33 (fun c33 => ?_) (fun c33 => ?_)
    · refine A.iconst (v := 0) rfl d_md_interestOf_45 ?_
      refine A.isub d_md_interestOf_46 ?_
      refine A.istore (Nat.le_of_ble_eq_true rfl) rfl d_md_interestOf_47 ?_
      dsimp only [List.set]
      refine A.iload rfl d_md_interestOf_49 ?_
      refine A.if_gt 58 (by decide) d_md_interestOf_51 (fun c51 => ?_) (fun c51 => ?_)
      · refine A.iload rfl d_md_interestOf_58 ?_
        refine A.iload_k 2 rfl rfl d_md_interestOf_60 ?_
        refine A.if_ne 69 (by decide) d_md_interestOf_61 (fun c61 => ?_) (fun c61 => ?_)
        · refine A.aload_k 0 rfl rfl rfl d_md_interestOf_69 ?_
          apply A.getfield f_md_31 d_md_interestOf_70
          · first | exact hM.1 | exact hM.2.1 _ rfl
          · rfl
          refine A.iload_k 3 rfl rfl d_md_interestOf_73 ?_
          apply A.iaload (j := 4 * p + j) d_md_interestOf_74
          · first | exact hM.1 | exact hM.2.1 _ rfl
          · exact ix4 (by omega) (by omega)
          · show 4 * p + j < 96; omega
          refine A.imul d_md_interestOf_75 ?_
          refine A.iret d_md_interestOf_76 rfl ?_
          unfold intM at h
          first | (simp only [c13, c33, c51, ↓reduceIte] at h; rw [if_pos c61] at h; exact h) | (simp only [c13, c33, c51, ↓reduceIte] at h; rw [if_neg c61] at h; exact h) | (simp only [c13, c33, c51, ↓reduceIte] at h; exact h)
        · refine A.bipush (v := 40) rfl d_md_interestOf_64 ?_
          refine A.goto 75 (by decide) d_md_interestOf_66 ?_
          refine A.imul d_md_interestOf_75 ?_
          refine A.iret d_md_interestOf_76 rfl ?_
          unfold intM at h
          first | (simp only [c13, c33, c51, ↓reduceIte] at h; rw [if_pos c61] at h; exact h) | (simp only [c13, c33, c51, ↓reduceIte] at h; rw [if_neg c61] at h; exact h) | (simp only [c13, c33, c51, ↓reduceIte] at h; exact h)
      · refine A.iconst (v := 0) rfl d_md_interestOf_54 ?_
        refine A.goto 76 (by decide) d_md_interestOf_55 ?_
        refine A.iret d_md_interestOf_76 rfl ?_
        unfold intM at h
        first | (simp only [c13, c33, c51, ↓reduceIte] at h; rw [if_pos c61] at h; exact h) | (simp only [c13, c33, c51, ↓reduceIte] at h; rw [if_neg c61] at h; exact h) | (simp only [c13, c33, c51, ↓reduceIte] at h; exact h)
    · refine A.aload_k 0 rfl rfl rfl d_md_interestOf_36 ?_
      apply A.getfield f_md_34 d_md_interestOf_37
      · first | exact hM.1 | exact hM.2.1 _ rfl
      · rfl
      refine A.iload_k 3 rfl rfl d_md_interestOf_40 ?_
      apply A.iaload (j := 4 * p + j) d_md_interestOf_41
      · first | exact hM.1 | exact hM.2.1 _ rfl
      · exact ix4 (by omega) (by omega)
      · show 4 * p + j < 96; omega
      refine A.goto 46 (by decide) d_md_interestOf_42 ?_
      refine A.isub d_md_interestOf_46 ?_
      refine A.istore (Nat.le_of_ble_eq_true rfl) rfl d_md_interestOf_47 ?_
      dsimp only [List.set]
      refine A.iload rfl d_md_interestOf_49 ?_
      refine A.if_gt 58 (by decide) d_md_interestOf_51 (fun c51 => ?_) (fun c51 => ?_)
      · refine A.iload rfl d_md_interestOf_58 ?_
        refine A.iload_k 2 rfl rfl d_md_interestOf_60 ?_
        refine A.if_ne 69 (by decide) d_md_interestOf_61 (fun c61 => ?_) (fun c61 => ?_)
        · refine A.aload_k 0 rfl rfl rfl d_md_interestOf_69 ?_
          apply A.getfield f_md_31 d_md_interestOf_70
          · first | exact hM.1 | exact hM.2.1 _ rfl
          · rfl
          refine A.iload_k 3 rfl rfl d_md_interestOf_73 ?_
          apply A.iaload (j := 4 * p + j) d_md_interestOf_74
          · first | exact hM.1 | exact hM.2.1 _ rfl
          · exact ix4 (by omega) (by omega)
          · show 4 * p + j < 96; omega
          refine A.imul d_md_interestOf_75 ?_
          refine A.iret d_md_interestOf_76 rfl ?_
          unfold intM at h
          first | (simp only [c13, c33, c51, ↓reduceIte] at h; rw [if_pos c61] at h; exact h) | (simp only [c13, c33, c51, ↓reduceIte] at h; rw [if_neg c61] at h; exact h) | (simp only [c13, c33, c51, ↓reduceIte] at h; exact h)
        · refine A.bipush (v := 40) rfl d_md_interestOf_64 ?_
          refine A.goto 75 (by decide) d_md_interestOf_66 ?_
          refine A.imul d_md_interestOf_75 ?_
          refine A.iret d_md_interestOf_76 rfl ?_
          unfold intM at h
          first | (simp only [c13, c33, c51, ↓reduceIte] at h; rw [if_pos c61] at h; exact h) | (simp only [c13, c33, c51, ↓reduceIte] at h; rw [if_neg c61] at h; exact h) | (simp only [c13, c33, c51, ↓reduceIte] at h; exact h)
      · refine A.iconst (v := 0) rfl d_md_interestOf_54 ?_
        refine A.goto 76 (by decide) d_md_interestOf_55 ?_
        refine A.iret d_md_interestOf_76 rfl ?_
        unfold intM at h
        first | (simp only [c13, c33, c51, ↓reduceIte] at h; rw [if_pos c61] at h; exact h) | (simp only [c13, c33, c51, ↓reduceIte] at h; rw [if_neg c61] at h; exact h) | (simp only [c13, c33, c51, ↓reduceIte] at h; exact h)
theorem c_md_interest {x k : Int32} (hM : MH G M S C) (hw : WF M np) (h1 : ∀ p j l, p < np → x = nI p → M 7 p = nI l → l ≤ 3 → j ≤ l → k = nI j → ¬ (M 6 p = 2 ∨ M 6 p = 3) → Q (some (.int (intM M p j))) G)
    (h0 : (∀ p j l, p < np → x = nI p → M 7 p = nI l → l ≤ 3 → j ≤ l → k = nI j → (M 6 p = 2 ∨ M 6 p = 3)) → Q (some (.int (-1))) G) : A 4 M_md_interest 0 [some (.ref 100), some (.int x), some (.int k)] [] G kc ks Q := by
  have hw' := hw
  obtain ⟨hn, hn2, hl, -⟩ := hw
  refine A.aload_k 0 rfl rfl rfl d_md_interest_0 ?_
  refine A.iload_k 1 rfl rfl d_md_interest_1 ?_
  refine A.iload_k 2 rfl rfl d_md_interest_2 ?_
  refine A.callV2 s_md_110 ?_ (Nat.le_of_ble_eq_true rfl) (Nat.le_of_ble_eq_true rfl) (Nat.le_of_ble_eq_true rfl) d_md_interest_3 rfl (c_md_isPlace hM hw' (fun p j l q1 q2 q3 q33 q4 q5 q6 => ?_) (fun q7 => ?_))
  · apply Exists.intro
    first | exact hM.1 | exact hM.2.1 _ rfl
  · dsimp only [psh]
    refine A.if_eq1 d_md_interest_6 (tgt := 18) (by decide) ?_
    subst q2
    subst q5
    refine A.aload_k 0 rfl rfl rfl d_md_interest_9 ?_
    refine A.iload_k 1 rfl rfl d_md_interest_10 ?_
    refine A.iload_k 2 rfl rfl d_md_interest_11 ?_
    refine A.callV2 s_md_114 ?_ (Nat.le_of_ble_eq_true rfl) (Nat.le_of_ble_eq_true rfl) (Nat.le_of_ble_eq_true rfl) d_md_interest_12 rfl (c_md_interestOf hM hn hn2 q1 q3 q33 (by omega) ?_)
    · apply Exists.intro
      first | exact hM.1 | exact hM.2.1 _ rfl
    dsimp only [psh]
    refine A.goto 19 (by decide) d_md_interest_15 ?_
    refine A.iret d_md_interest_19 rfl ?_
    first | exact h1 p j l q1 rfl q3 q33 q4 rfl q6 | exact h0 q7
  · dsimp only [psh]
    refine A.if_eq0 18 (by decide) d_md_interest_6 ?_
    refine A.iconst (v := -1) rfl d_md_interest_18 ?_
    refine A.iret d_md_interest_19 rfl ?_
    first | exact h1 p j l q1 rfl q3 q33 q4 rfl q6 | exact h0 q7
def cstM (M : MS) (p : Nat) : Int32 := M 4 p * M 5 p * M 16 0
theorem c_md_costOf {p : Nat} (hM : MH G M S C) (hp : p < 24) (h : Q (some (.int (cstM M p))) G) : A 0 M_md_costOf 0 [some (.ref 100), some (.int (nI p))] [] G kc ks Q := by
  refine A.aload_k 0 rfl rfl rfl d_md_costOf_0 ?_
  apply A.getfield f_md_16 d_md_costOf_1
  · first | exact hM.1 | exact hM.2.1 _ rfl
  · rfl
  refine A.iload_k 1 rfl rfl d_md_costOf_4 ?_
  apply A.iaload (j := p) d_md_costOf_5
  · first | exact hM.1 | exact hM.2.1 _ rfl
  · exact ixn (by omega)
  · exact hp
  refine A.aload_k 0 rfl rfl rfl d_md_costOf_6 ?_
  apply A.getfield f_md_19 d_md_costOf_7
  · first | exact hM.1 | exact hM.2.1 _ rfl
  · rfl
  refine A.iload_k 1 rfl rfl d_md_costOf_10 ?_
  apply A.iaload (j := p) d_md_costOf_11
  · first | exact hM.1 | exact hM.2.1 _ rfl
  · exact ixn (by omega)
  · exact hp
  refine A.imul d_md_costOf_12 ?_
  refine A.aload_k 0 rfl rfl rfl d_md_costOf_13 ?_
  apply A.getfield f_md_52 d_md_costOf_14
  · first | exact hM.1 | exact hM.2.1 _ rfl
  · rfl
  refine A.imul d_md_costOf_17 ?_
  refine A.iret d_md_costOf_18 rfl ?_
  exact h
def hN (x : Int32) : Nat := x.toInt.toNat
theorem hN_nI {n : Nat} (h : n < 1000000) : hN (nI n) = n := by unfold hN; rw [ixn h]; omega
def bldM (M : MS) (p : Nat) : Nat → Int32
  | 0 => -1
  | k + 1 => if cstM M p ≤ M 1 (hN (M 8 (4 * p + k))) then nI k else bldM M p k
theorem bldM_cases (M : MS) (p : Nat) : ∀ n, bldM M p n = -1 ∨ ∃ b, b < n ∧ bldM M p n = nI b
  | 0 => Or.inl rfl
  | k + 1 => by
    unfold bldM
    by_cases h : cstM M p ≤ M 1 (hN (M 8 (4 * p + k)))
    · rw [if_pos h]; exact Or.inr ⟨k, by omega, rfl⟩
    · rw [if_neg h]
      rcases bldM_cases M p k with e | ⟨b, h1, h2⟩
      · exact Or.inl e
      · exact Or.inr ⟨b, by omega, h2⟩
theorem c_md_builder {p l : Nat} (hM : MH G M S C) (hw : WF M np) (hp : p < np) (hl : M 7 p = nI l) (hl3 : l ≤ 3) (h : Q (some (.int (bldM M p (l + 1)))) G) : A 1 M_md_builder 0 [some (.ref 100), some (.int (nI p)), none] [] G kc ks Q := by
  obtain ⟨hn, hn2, -, hh, -⟩ := hw
  have loop : ∀ k : Nat, k ≤ 4 → bldM M p k = bldM M p (l + 1) → A 1 M_md_builder 7 [some (.ref 100), some (.int (nI p)), some (.int (nI k - 1))] [] G kc ks Q := by
    intro k
    induction k with
    | zero =>
      intro h1 h2
      refine A.iload_k 2 rfl rfl d_md_builder_7 ?_
      refine A.if_lt 40 (by decide) d_md_builder_8 (fun c8 => ?_) (fun c8 => ?_)
      · refine A.iload_k 2 rfl rfl d_md_builder_40 ?_
        refine A.iret d_md_builder_41 rfl ?_
        rw [show nI 0 - 1 = (-1 : Int32) by decide]
        rw [← h2] at h
        exact h
      · exact absurd (by decide) c8
    | succ k ih =>
      intro h1 h2
      rw [nI_pred]
      obtain ⟨o, ho1, ho2⟩ := hh (4 * p + k)
      refine A.iload_k 2 rfl rfl d_md_builder_7 ?_
      refine A.if_lt 40 (by decide) d_md_builder_8 (fun c8 => ?_) (fun c8 => ?_)
      · exact absurd c8 (nI_pos (by omega))
      refine A.aload_k 0 rfl rfl rfl d_md_builder_11 ?_
      apply A.getfield f_md_9 d_md_builder_12
      · first | exact hM.1 | exact hM.2.1 _ rfl
      · rfl
      refine A.aload_k 0 rfl rfl rfl d_md_builder_15 ?_
      apply A.getfield f_md_28 d_md_builder_16
      · first | exact hM.1 | exact hM.2.1 _ rfl
      · rfl
      refine A.iconst (v := 4) rfl d_md_builder_19 ?_
      refine A.iload_k 1 rfl rfl d_md_builder_20 ?_
      refine A.imul d_md_builder_21 ?_
      refine A.iload_k 2 rfl rfl d_md_builder_22 ?_
      refine A.iadd d_md_builder_23 ?_
      apply A.iaload (j := 4 * p + k) d_md_builder_24
      · first | exact hM.1 | exact hM.2.1 _ rfl
      · exact ix4 (by omega) (by omega)
      · show 4 * p + k < 96; omega
      apply A.iaload (j := hN (M 8 (4 * p + k))) d_md_builder_25
      · first | exact hM.1 | exact hM.2.1 _ rfl
      · rw [ho2, hN_nI (by omega)]; exact ixn (by omega)
      · rw [ho2, hN_nI (by omega)]; exact ho1
      refine A.aload_k 0 rfl rfl rfl d_md_builder_26 ?_
      refine A.iload_k 1 rfl rfl d_md_builder_27 ?_
      refine A.callV1 s_md_118 ?_ (Nat.le_of_ble_eq_true rfl) (Nat.le_of_ble_eq_true rfl) (Nat.le_of_ble_eq_true rfl) d_md_builder_28 rfl (c_md_costOf hM (by omega) ?_)
      · apply Exists.intro
        first | exact hM.1 | exact hM.2.1 _ rfl
      dsimp only [psh]
      refine A.icmp_ge 40 (by decide) d_md_builder_31 (fun c31 => ?_) (fun c31 => ?_)
      · refine A.iload_k 2 rfl rfl d_md_builder_40 ?_
        refine A.iret d_md_builder_41 rfl ?_
        rw [← h2] at h
        unfold bldM at h
        rw [if_pos c31] at h
        exact h
      · refine A.iincm (n := 2) rfl (Nat.le_of_ble_eq_true rfl) d_md_builder_34 ?_
        dsimp only [List.set]
        refine A.goto 7 (by decide) d_md_builder_37 ?_
        refine ih (by omega) ?_
        unfold bldM at h2
        rw [if_neg c31] at h2
        exact h2
  refine A.aload_k 0 rfl rfl rfl d_md_builder_0 ?_
  apply A.getfield f_md_25 d_md_builder_1
  · first | exact hM.1 | exact hM.2.1 _ rfl
  · rfl
  refine A.iload_k 1 rfl rfl d_md_builder_4 ?_
  apply A.iaload (j := p) d_md_builder_5
  · first | exact hM.1 | exact hM.2.1 _ rfl
  · exact ixn (by omega)
  · show p < 24; omega
  rw [hl]
  refine A.istore_k 2 rfl (Nat.le_of_ble_eq_true rfl) rfl d_md_builder_6 ?_
  dsimp only [List.set]
  rw [← nI_pred l]
  exact loop (l + 1) (by omega) rfl
def befM (M : MS) (p : Nat) : Nat → Int32
  | 0 => -1
  | k + 1 => if M 3 k = M 3 p then nI k else befM M p k
theorem c_md_before {p : Nat} (hM : MH G M S C) (hp : p < 24) (h : Q (some (.int (befM M p p))) G) : A 0 M_md_before 0 [some (.ref 100), some (.int (nI p)), none, none] [] G kc ks Q := by
  have loop : ∀ (k i : Nat), i ≤ p → p < i + k → A 0 M_md_before 4 [some (.ref 100), some (.int (nI p)), some (.int (befM M p i)), some (.int (nI i))] [] G kc ks Q := by
    intro k
    induction k with
    | zero => intro i h1 h2; omega
    | succ k ih =>
      intro i h1 h2
      refine A.iload_k 3 rfl rfl d_md_before_4 ?_
      refine A.iload_k 1 rfl rfl d_md_before_5 ?_
      refine A.icmp_ge 32 (by decide) d_md_before_6 (fun c6 => ?_) (fun c6 => ?_)
      · refine A.iload_k 2 rfl rfl d_md_before_32 ?_
        refine A.iret d_md_before_33 rfl ?_
        have e : i = p := by
          have := (nI_leI (by omega) (by omega)).mp c6
          omega
        subst e
        exact h
      · have hlt : i < p := Nat.lt_of_not_le (fun z => c6 (nI_le z (by omega)))
        refine A.aload_k 0 rfl rfl rfl d_md_before_9 ?_
        apply A.getfield f_md_13 d_md_before_10
        · first | exact hM.1 | exact hM.2.1 _ rfl
        · rfl
        refine A.iload_k 3 rfl rfl d_md_before_13 ?_
        apply A.iaload (j := i) d_md_before_14
        · first | exact hM.1 | exact hM.2.1 _ rfl
        · exact ixn (by omega)
        · show i < 24; omega
        refine A.aload_k 0 rfl rfl rfl d_md_before_15 ?_
        apply A.getfield f_md_13 d_md_before_16
        · first | exact hM.1 | exact hM.2.1 _ rfl
        · rfl
        refine A.iload_k 1 rfl rfl d_md_before_19 ?_
        apply A.iaload (j := p) d_md_before_20
        · first | exact hM.1 | exact hM.2.1 _ rfl
        · exact ixn (by omega)
        · show p < 24; omega
        refine A.icmp_ne 26 (by decide) d_md_before_21 (fun c21 => ?_) (fun c21 => ?_)
        · refine A.iincp (n := 3) rfl (Nat.le_of_ble_eq_true rfl) d_md_before_26 ?_
          dsimp only [List.set]
          refine A.goto 4 (by decide) d_md_before_29 ?_
          rw [nI_1]
          have ih := ih (i + 1) (by omega) (by omega)
          unfold befM at ih
          first | rw [if_pos c21] at ih | rw [if_neg c21] at ih
          exact ih
        · refine A.iload_k 3 rfl rfl d_md_before_24 ?_
          refine A.istore_k 2 rfl (Nat.le_of_ble_eq_true rfl) rfl d_md_before_25 ?_
          dsimp only [List.set]
          refine A.iincp (n := 3) rfl (Nat.le_of_ble_eq_true rfl) d_md_before_26 ?_
          dsimp only [List.set]
          refine A.goto 4 (by decide) d_md_before_29 ?_
          rw [nI_1]
          have ih := ih (i + 1) (by omega) (by omega)
          unfold befM at ih
          first | rw [if_pos c21] at ih | rw [if_neg c21] at ih
          exact ih
  refine A.iconst (v := -1) rfl d_md_before_0 ?_
  refine A.istore_k 2 rfl (Nat.le_of_ble_eq_true rfl) rfl d_md_before_1 ?_
  dsimp only [List.set]
  refine A.iconst (v := 0) rfl d_md_before_2 ?_
  refine A.istore_k 3 rfl (Nat.le_of_ble_eq_true rfl) rfl d_md_before_3 ?_
  dsimp only [List.set]
  exact loop (p + 1) 0 (by omega) (by omega)
/-- from i on, k steps -/
def behM (M : MS) (p : Nat) : Nat → Nat → Int32
  | 0, _ => -1
  | k + 1, i => if M 3 i = M 3 p then nI i else behM M p k (i + 1)
theorem c_md_behind {p : Nat} (hM : MH G M S C) (hn : M 2 0 = nI np) (hn2 : np ≤ 24) (hp : p < np) (h : Q (some (.int (behM M p (np - (p + 1)) (p + 1)))) G) : A 0 M_md_behind 0 [some (.ref 100), some (.int (nI p)), none] [] G kc ks Q := by
  have loop : ∀ (k i : Nat), i + k = np → behM M p k i = behM M p (np - (p + 1)) (p + 1) → A 0 M_md_behind 4 [some (.ref 100), some (.int (nI p)), some (.int (nI i))] [] G kc ks Q := by
    intro k
    induction k with
    | zero =>
      intro i h1 h2
      refine A.iload_k 2 rfl rfl d_md_behind_4 ?_
      refine A.aload_k 0 rfl rfl rfl d_md_behind_5 ?_
      apply A.getfield f_md_84 d_md_behind_6
      · first | exact hM.1 | exact hM.2.1 _ rfl
      · rfl
      rw [hn]
      refine A.icmp_ge 35 (by decide) d_md_behind_9 (fun c9 => ?_) (fun c9 => ?_)
      · refine A.iconst (v := -1) rfl d_md_behind_35 ?_
        refine A.iret d_md_behind_36 rfl ?_
        rw [← h2] at h
        exact h
      · exact absurd (nI_le (by omega) (by omega)) c9
    | succ k ih =>
      intro i h1 h2
      refine A.iload_k 2 rfl rfl d_md_behind_4 ?_
      refine A.aload_k 0 rfl rfl rfl d_md_behind_5 ?_
      apply A.getfield f_md_84 d_md_behind_6
      · first | exact hM.1 | exact hM.2.1 _ rfl
      · rfl
      rw [hn]
      refine A.icmp_ge 35 (by decide) d_md_behind_9 (fun c9 => ?_) (fun c9 => ?_)
      · exact absurd c9 (nI_ge (by omega) (by omega))
      refine A.aload_k 0 rfl rfl rfl d_md_behind_12 ?_
      apply A.getfield f_md_13 d_md_behind_13
      · first | exact hM.1 | exact hM.2.1 _ rfl
      · rfl
      refine A.iload_k 2 rfl rfl d_md_behind_16 ?_
      apply A.iaload (j := i) d_md_behind_17
      · first | exact hM.1 | exact hM.2.1 _ rfl
      · exact ixn (by omega)
      · show i < 24; omega
      refine A.aload_k 0 rfl rfl rfl d_md_behind_18 ?_
      apply A.getfield f_md_13 d_md_behind_19
      · first | exact hM.1 | exact hM.2.1 _ rfl
      · rfl
      refine A.iload_k 1 rfl rfl d_md_behind_22 ?_
      apply A.iaload (j := p) d_md_behind_23
      · first | exact hM.1 | exact hM.2.1 _ rfl
      · exact ixn (by omega)
      · show p < 24; omega
      refine A.icmp_ne 29 (by decide) d_md_behind_24 (fun c24 => ?_) (fun c24 => ?_)
      · refine A.iincp (n := 2) rfl (Nat.le_of_ble_eq_true rfl) d_md_behind_29 ?_
        dsimp only [List.set]
        refine A.goto 4 (by decide) d_md_behind_32 ?_
        rw [nI_1]
        refine ih (i + 1) (by omega) ?_
        rw [show behM M p (k + 1) i = behM M p k (i + 1) from if_neg c24] at h2
        exact h2
      · refine A.iload_k 2 rfl rfl d_md_behind_27 ?_
        refine A.iret d_md_behind_28 rfl ?_
        rw [← h2, show behM M p (k + 1) i = nI i from if_pos c24] at h
        exact h
  refine A.iload_k 1 rfl rfl d_md_behind_0 ?_
  refine A.iconst (v := 1) rfl d_md_behind_1 ?_
  refine A.iadd d_md_behind_2 ?_
  refine A.istore_k 2 rfl (Nat.le_of_ble_eq_true rfl) rfl d_md_behind_3 ?_
  dsimp only [List.set]
  rw [nI_1]
  exact loop (np - (p + 1)) (p + 1) (by omega) rfl
end MODEL2
end
section
/-! the reference, on: walls, parts, decrees -/
theorem lgc0 {x y : Int64} : lg_cmp x y = 0 ↔ x = y := by
  unfold lg_cmp
  by_cases h : x > y
  · rw [if_pos h]
    exact ⟨fun e => absurd e (by decide), fun e => by subst e; exact absurd h Int64.lt_irrefl⟩
  · rw [if_neg h]
    by_cases e : x = y
    · simp [e]
    · simp [e]
theorem lgcle {x y : Int64} : lg_cmp x y ≤ 0 ↔ ¬ y < x := by
  unfold lg_cmp
  by_cases h : x > y
  · rw [if_pos h]
    exact ⟨fun e => absurd e (by decide), fun e => absurd h e⟩
  · rw [if_neg h]
    refine ⟨fun _ => h, fun _ => ?_⟩
    by_cases e : x = y
    · rw [if_pos e]; decide
    · rw [if_neg e]; decide
theorem nI_hN {x : Int32} (h : 0 ≤ x) : nI (hN x) = x := by
  rw [Int32.le_iff_toInt_le] at h
  have h : 0 ≤ x.toInt := h
  have h2 := Int32.toInt_lt x
  apply Int32.toInt_inj.mp
  unfold hN
  rw [nI_toInt (by omega)]
  omega
theorem hN_lt (x : Int32) : hN x < 2147483648 := by
  have h2 := Int32.toInt_lt x
  unfold hN
  omega
theorem hN_le {x : Int32} (h : x ≤ 0) : hN x = 0 := by
  rw [Int32.le_iff_toInt_le] at h
  have h : x.toInt ≤ 0 := h
  unfold hN
  omega
section MODEL3
variable {M S : MS} {C : Nat → Int64} {G : AHp} {kc ks np : Nat} {Q : Option Value → AHp → Prop}
def minD (M : MS) (a b : Nat) : Int32 := if M 5 b ≤ M 5 a then M 5 b else M 5 a
def mWall (M : MS) (a b o : Nat) : MS := if M 14 a = -1 then va_up (va_up (va_up M 14 (upd (M 14) a (nI o))) 15 (upd (M 15) a (3 * minD M a b))) 1 (upd (M 1) o (M 1 o - 3 * minD M a b))
  else va_up M 1 (upd (upd (M 1) o (M 1 o - M 15 a / 2)) (hN (M 14 a)) (upd (M 1) o (M 1 o - M 15 a / 2) (hN (M 14 a)) + M 15 a / 2))
theorem c_md_wall {x z : Int32} {o : Nat} (hM : MH G M S C) (hw : WF M np) (ho : o < 20) (hx : x = -1 ∨ ∃ a, a < np ∧ x = nI a) (hz : z = -1 ∨ ∃ b, b < np ∧ z = nI b)
    (h0 : (x = -1 ∨ z = -1 ∨ (∃ a, a < np ∧ x = nI a ∧ (M 6 a = 2 ∨ M 6 a = 3)) ∨ ∃ b, b < np ∧ z = nI b ∧ (M 6 b = 2 ∨ M 6 b = 3)) → Q none G)
    (h1 : ∀ a b, a < np → b < np → x = nI a → z = nI b → ¬ (M 6 a = 2 ∨ M 6 a = 3) → ¬ (M 6 b = 2 ∨ M 6 b = 3) → ∀ G', MH G' (mWall M a b o) S C → FrM G G' → Q none G') : A 1 M_md_wall 0 [some (.ref 100), some (.int x), some (.int z), some (.int (nI o))] [] G kc ks Q := by
  obtain ⟨hn, hn2, -, -, hwl, -⟩ := hw
  refine A.iload_k 1 rfl rfl d_md_wall_0 ?_
  refine A.iconst (v := -1) rfl d_md_wall_1 ?_
  refine A.icmp_eq 26 (by decide) d_md_wall_2 (fun c2 => ?_) (fun c2 => ?_)
  · refine A.vret d_md_wall_26 rfl ?_
    first | exact h0 (Or.inl c2) | exact h0 (Or.inr (Or.inl c7)) | exact h0 (Or.inr (Or.inr (Or.inl ⟨a, ha, rfl, g1⟩))) | exact h0 (Or.inr (Or.inr (Or.inr ⟨b, hb, rfl, g3⟩)))
  · refine A.iload_k 2 rfl rfl d_md_wall_5 ?_
    refine A.iconst (v := -1) rfl d_md_wall_6 ?_
    refine A.icmp_eq 26 (by decide) d_md_wall_7 (fun c7 => ?_) (fun c7 => ?_)
    · refine A.vret d_md_wall_26 rfl ?_
      first | exact h0 (Or.inl c2) | exact h0 (Or.inr (Or.inl c7)) | exact h0 (Or.inr (Or.inr (Or.inl ⟨a, ha, rfl, g1⟩))) | exact h0 (Or.inr (Or.inr (Or.inr ⟨b, hb, rfl, g3⟩)))
    · rcases hx with hx | ⟨a, ha, hx⟩
      · exact absurd hx c2
      rcases hz with hz | ⟨b, hb, hz⟩
      · exact absurd hz c7
      subst hx
      subst hz
      refine A.aload_k 0 rfl rfl rfl d_md_wall_10 ?_
      refine A.iload_k 1 rfl rfl d_md_wall_11 ?_
      refine A.callV1 s_md_104 ?_ (Nat.le_of_ble_eq_true rfl) (Nat.le_of_ble_eq_true rfl) (Nat.le_of_ble_eq_true rfl) d_md_wall_12 rfl (c_md_isGone hM (by omega) (fun g1 => ?_) (fun g2 => ?_))
      · apply Exists.intro
        repeat first | exact up_s | refine up_e (by decide) ?_ | exact hM.1 | exact hM.2.1 _ rfl
      · dsimp only [psh]
        refine A.if_ne1 26 (by decide) d_md_wall_15 ?_
        refine A.vret d_md_wall_26 rfl ?_
        first | exact h0 (Or.inl c2) | exact h0 (Or.inr (Or.inl c7)) | exact h0 (Or.inr (Or.inr (Or.inl ⟨a, ha, rfl, g1⟩))) | exact h0 (Or.inr (Or.inr (Or.inr ⟨b, hb, rfl, g3⟩)))
      · dsimp only [psh]
        refine A.if_ne0 d_md_wall_15 (tgt := 26) (by decide) ?_
        refine A.aload_k 0 rfl rfl rfl d_md_wall_18 ?_
        refine A.iload_k 2 rfl rfl d_md_wall_19 ?_
        refine A.callV1 s_md_104 ?_ (Nat.le_of_ble_eq_true rfl) (Nat.le_of_ble_eq_true rfl) (Nat.le_of_ble_eq_true rfl) d_md_wall_20 rfl (c_md_isGone hM (by omega) (fun g3 => ?_) (fun g4 => ?_))
        · apply Exists.intro
          repeat first | exact up_s | refine up_e (by decide) ?_ | exact hM.1 | exact hM.2.1 _ rfl
        · dsimp only [psh]
          refine A.if_eq1 d_md_wall_23 (tgt := 27) (by decide) ?_
          refine A.vret d_md_wall_26 rfl ?_
          first | exact h0 (Or.inl c2) | exact h0 (Or.inr (Or.inl c7)) | exact h0 (Or.inr (Or.inr (Or.inl ⟨a, ha, rfl, g1⟩))) | exact h0 (Or.inr (Or.inr (Or.inr ⟨b, hb, rfl, g3⟩)))
        · dsimp only [psh]
          refine A.if_eq0 27 (by decide) d_md_wall_23 ?_
          refine A.aload_k 0 rfl rfl rfl d_md_wall_27 ?_
          apply A.getfield f_md_46 d_md_wall_28
          · repeat first | exact up_s | refine up_e (by decide) ?_ | exact hM.1 | exact hM.2.1 _ rfl
          · rfl
          refine A.iload_k 1 rfl rfl d_md_wall_31 ?_
          apply A.iaload (j := a) d_md_wall_32
          · repeat first | exact up_s | refine up_e (by decide) ?_ | exact hM.1 | exact hM.2.1 _ rfl
          · exact ixn (by omega)
          · show a < 24; omega
          refine A.iconst (v := -1) rfl d_md_wall_33 ?_
          refine A.icmp_ne 100 (by decide) d_md_wall_34 (fun c34 => ?_) (fun c34 => ?_)
          · have hwa : ∃ w, w < 20 ∧ M 14 a = nI w := (hwl a).resolve_left c34
            obtain ⟨w, hw1, hw2⟩ := hwa
            refine A.aload_k 0 rfl rfl rfl d_md_wall_100 ?_
            apply A.getfield f_md_9 d_md_wall_101
            · repeat first | exact up_s | refine up_e (by decide) ?_ | exact hM.1 | exact hM.2.1 _ rfl
            · rfl
            refine A.iload_k 3 rfl rfl d_md_wall_104 ?_
            refine A.dup2 rfl rfl d_md_wall_105 ?_
            apply A.iaload (j := o) d_md_wall_106
            · repeat first | exact up_s | refine up_e (by decide) ?_ | exact hM.1 | exact hM.2.1 _ rfl
            · exact ixn (by omega)
            · show o < 20; omega
            refine A.aload_k 0 rfl rfl rfl d_md_wall_107 ?_
            apply A.getfield f_md_49 d_md_wall_108
            · repeat first | exact up_s | refine up_e (by decide) ?_ | exact hM.1 | exact hM.2.1 _ rfl
            · rfl
            refine A.iload_k 1 rfl rfl d_md_wall_111 ?_
            apply A.iaload (j := a) d_md_wall_112
            · repeat first | exact up_s | refine up_e (by decide) ?_ | exact hM.1 | exact hM.2.1 _ rfl
            · exact ixn (by omega)
            · show a < 24; omega
            refine A.iconst (v := 2) rfl d_md_wall_113 ?_
            refine A.idiv (by decide) d_md_wall_114 ?_
            refine A.isub d_md_wall_115 ?_
            apply A.iastore (j := o) d_md_wall_116
            · repeat first | exact up_s | refine up_e (by decide) ?_ | exact hM.1 | exact hM.2.1 _ rfl
            · first | decide | omega
            · exact ixn (by omega)
            · show o < 20; omega
            refine A.aload_k 0 rfl rfl rfl d_md_wall_117 ?_
            apply A.getfield f_md_9 d_md_wall_118
            · repeat first | exact up_s | refine up_e (by decide) ?_ | exact hM.1 | exact hM.2.1 _ rfl
            · rfl
            refine A.aload_k 0 rfl rfl rfl d_md_wall_121 ?_
            apply A.getfield f_md_46 d_md_wall_122
            · repeat first | exact up_s | refine up_e (by decide) ?_ | exact hM.1 | exact hM.2.1 _ rfl
            · rfl
            refine A.iload_k 1 rfl rfl d_md_wall_125 ?_
            apply A.iaload (j := a) d_md_wall_126
            · repeat first | exact up_s | refine up_e (by decide) ?_ | exact hM.1 | exact hM.2.1 _ rfl
            · exact ixn (by omega)
            · show a < 24; omega
            refine A.dup2 rfl rfl d_md_wall_127 ?_
            apply A.iaload (j := hN (M 14 a)) d_md_wall_128
            · repeat first | exact up_s | refine up_e (by decide) ?_ | exact hM.1 | exact hM.2.1 _ rfl
            · rw [hw2, hN_nI (by omega)]; exact ixn (by omega)
            · rw [hw2, hN_nI (by omega)]; exact hw1
            refine A.aload_k 0 rfl rfl rfl d_md_wall_129 ?_
            apply A.getfield f_md_49 d_md_wall_130
            · repeat first | exact up_s | refine up_e (by decide) ?_ | exact hM.1 | exact hM.2.1 _ rfl
            · rfl
            refine A.iload_k 1 rfl rfl d_md_wall_133 ?_
            apply A.iaload (j := a) d_md_wall_134
            · repeat first | exact up_s | refine up_e (by decide) ?_ | exact hM.1 | exact hM.2.1 _ rfl
            · exact ixn (by omega)
            · show a < 24; omega
            refine A.iconst (v := 2) rfl d_md_wall_135 ?_
            refine A.idiv (by decide) d_md_wall_136 ?_
            refine A.iadd d_md_wall_137 ?_
            apply A.iastore (j := hN (M 14 a)) d_md_wall_138
            · repeat first | exact up_s | refine up_e (by decide) ?_ | exact hM.1 | exact hM.2.1 _ rfl
            · first | decide | omega
            · rw [hw2, hN_nI (by omega)]; exact ixn (by omega)
            · rw [hw2, hN_nI (by omega)]; exact hw1
            refine A.vret d_md_wall_139 rfl ?_
            have h1 := h1 a b ha hb rfl rfl g2 g4
            unfold mWall at h1
            first | (rw [if_neg c34] at h1; exact h1 _ (hM.arr2 1 rfl _ _) (by repeat (first | exact FrM.rf | refine FrM.up ?_ (by decide) (by decide)))) | (rw [if_pos c34] at h1; unfold minD at h1; rw [if_pos c62] at h1; exact h1 _ (((hM.arr 14 rfl _).arr 15 rfl _).arr 1 rfl _) (by repeat (first | exact FrM.rf | refine FrM.up ?_ (by decide) (by decide)))) | (rw [if_pos c34] at h1; unfold minD at h1; rw [if_neg c62] at h1; exact h1 _ (((hM.arr 14 rfl _).arr 15 rfl _).arr 1 rfl _) (by repeat (first | exact FrM.rf | refine FrM.up ?_ (by decide) (by decide))))
          · refine A.aload_k 0 rfl rfl rfl d_md_wall_37 ?_
            apply A.getfield f_md_46 d_md_wall_38
            · repeat first | exact up_s | refine up_e (by decide) ?_ | exact hM.1 | exact hM.2.1 _ rfl
            · rfl
            refine A.iload_k 1 rfl rfl d_md_wall_41 ?_
            refine A.iload_k 3 rfl rfl d_md_wall_42 ?_
            apply A.iastore (j := a) d_md_wall_43
            · repeat first | exact up_s | refine up_e (by decide) ?_ | exact hM.1 | exact hM.2.1 _ rfl
            · first | decide | omega
            · exact ixn (by omega)
            · show a < 24; omega
            refine A.aload_k 0 rfl rfl rfl d_md_wall_44 ?_
            apply A.getfield f_md_49 d_md_wall_45
            · repeat first | exact up_s | refine up_e (by decide) ?_ | exact hM.1 | exact hM.2.1 _ rfl
            · rfl
            refine A.iload_k 1 rfl rfl d_md_wall_48 ?_
            refine A.iconst (v := 3) rfl d_md_wall_49 ?_
            refine A.aload_k 0 rfl rfl rfl d_md_wall_50 ?_
            apply A.getfield f_md_19 d_md_wall_51
            · repeat first | exact up_s | refine up_e (by decide) ?_ | exact hM.1 | exact hM.2.1 _ rfl
            · rfl
            refine A.iload_k 1 rfl rfl d_md_wall_54 ?_
            apply A.iaload (j := a) d_md_wall_55
            · repeat first | exact up_s | refine up_e (by decide) ?_ | exact hM.1 | exact hM.2.1 _ rfl
            · exact ixn (by omega)
            · show a < 24; omega
            refine A.aload_k 0 rfl rfl rfl d_md_wall_56 ?_
            apply A.getfield f_md_19 d_md_wall_57
            · repeat first | exact up_s | refine up_e (by decide) ?_ | exact hM.1 | exact hM.2.1 _ rfl
            · rfl
            refine A.iload_k 2 rfl rfl d_md_wall_60 ?_
            apply A.iaload (j := b) d_md_wall_61
            · repeat first | exact up_s | refine up_e (by decide) ?_ | exact hM.1 | exact hM.2.1 _ rfl
            · exact ixn (by omega)
            · show b < 24; omega
            refine A.icmp_ge 74 (by decide) d_md_wall_62 (fun c62 => ?_) (fun c62 => ?_)
            · refine A.aload_k 0 rfl rfl rfl d_md_wall_74 ?_
              apply A.getfield f_md_19 d_md_wall_75
              · repeat first | exact up_s | refine up_e (by decide) ?_ | exact hM.1 | exact hM.2.1 _ rfl
              · rfl
              refine A.iload_k 2 rfl rfl d_md_wall_78 ?_
              apply A.iaload (j := b) d_md_wall_79
              · repeat first | exact up_s | refine up_e (by decide) ?_ | exact hM.1 | exact hM.2.1 _ rfl
              · exact ixn (by omega)
              · show b < 24; omega
              refine A.imul d_md_wall_80 ?_
              apply A.iastore (j := a) d_md_wall_81
              · repeat first | exact up_s | refine up_e (by decide) ?_ | exact hM.1 | exact hM.2.1 _ rfl
              · first | decide | omega
              · exact ixn (by omega)
              · show a < 24; omega
              refine A.aload_k 0 rfl rfl rfl d_md_wall_82 ?_
              apply A.getfield f_md_9 d_md_wall_83
              · repeat first | exact up_s | refine up_e (by decide) ?_ | exact hM.1 | exact hM.2.1 _ rfl
              · rfl
              refine A.iload_k 3 rfl rfl d_md_wall_86 ?_
              refine A.dup2 rfl rfl d_md_wall_87 ?_
              apply A.iaload (j := o) d_md_wall_88
              · repeat first | exact up_s | refine up_e (by decide) ?_ | exact hM.1 | exact hM.2.1 _ rfl
              · exact ixn (by omega)
              · show o < 20; omega
              refine A.aload_k 0 rfl rfl rfl d_md_wall_89 ?_
              apply A.getfield f_md_49 d_md_wall_90
              · repeat first | exact up_s | refine up_e (by decide) ?_ | exact hM.1 | exact hM.2.1 _ rfl
              · rfl
              refine A.iload_k 1 rfl rfl d_md_wall_93 ?_
              apply A.iaload (j := a) d_md_wall_94
              · repeat first | exact up_s | refine up_e (by decide) ?_ | exact hM.1 | exact hM.2.1 _ rfl
              · exact ixn (by omega)
              · show a < 24; omega
              rw [pk_us]
              refine A.isub d_md_wall_95 ?_
              apply A.iastore (j := o) d_md_wall_96
              · repeat first | exact up_s | refine up_e (by decide) ?_ | exact hM.1 | exact hM.2.1 _ rfl
              · first | decide | omega
              · exact ixn (by omega)
              · show o < 20; omega
              refine A.goto 139 (by decide) d_md_wall_97 ?_
              refine A.vret d_md_wall_139 rfl ?_
              have h1 := h1 a b ha hb rfl rfl g2 g4
              unfold mWall at h1
              first | (rw [if_neg c34] at h1; exact h1 _ (hM.arr2 1 rfl _ _) (by repeat (first | exact FrM.rf | refine FrM.up ?_ (by decide) (by decide)))) | (rw [if_pos c34] at h1; unfold minD at h1; rw [if_pos c62] at h1; exact h1 _ (((hM.arr 14 rfl _).arr 15 rfl _).arr 1 rfl _) (by repeat (first | exact FrM.rf | refine FrM.up ?_ (by decide) (by decide)))) | (rw [if_pos c34] at h1; unfold minD at h1; rw [if_neg c62] at h1; exact h1 _ (((hM.arr 14 rfl _).arr 15 rfl _).arr 1 rfl _) (by repeat (first | exact FrM.rf | refine FrM.up ?_ (by decide) (by decide))))
            · refine A.aload_k 0 rfl rfl rfl d_md_wall_65 ?_
              apply A.getfield f_md_19 d_md_wall_66
              · repeat first | exact up_s | refine up_e (by decide) ?_ | exact hM.1 | exact hM.2.1 _ rfl
              · rfl
              refine A.iload_k 1 rfl rfl d_md_wall_69 ?_
              apply A.iaload (j := a) d_md_wall_70
              · repeat first | exact up_s | refine up_e (by decide) ?_ | exact hM.1 | exact hM.2.1 _ rfl
              · exact ixn (by omega)
              · show a < 24; omega
              refine A.goto 80 (by decide) d_md_wall_71 ?_
              refine A.imul d_md_wall_80 ?_
              apply A.iastore (j := a) d_md_wall_81
              · repeat first | exact up_s | refine up_e (by decide) ?_ | exact hM.1 | exact hM.2.1 _ rfl
              · first | decide | omega
              · exact ixn (by omega)
              · show a < 24; omega
              refine A.aload_k 0 rfl rfl rfl d_md_wall_82 ?_
              apply A.getfield f_md_9 d_md_wall_83
              · repeat first | exact up_s | refine up_e (by decide) ?_ | exact hM.1 | exact hM.2.1 _ rfl
              · rfl
              refine A.iload_k 3 rfl rfl d_md_wall_86 ?_
              refine A.dup2 rfl rfl d_md_wall_87 ?_
              apply A.iaload (j := o) d_md_wall_88
              · repeat first | exact up_s | refine up_e (by decide) ?_ | exact hM.1 | exact hM.2.1 _ rfl
              · exact ixn (by omega)
              · show o < 20; omega
              refine A.aload_k 0 rfl rfl rfl d_md_wall_89 ?_
              apply A.getfield f_md_49 d_md_wall_90
              · repeat first | exact up_s | refine up_e (by decide) ?_ | exact hM.1 | exact hM.2.1 _ rfl
              · rfl
              refine A.iload_k 1 rfl rfl d_md_wall_93 ?_
              apply A.iaload (j := a) d_md_wall_94
              · repeat first | exact up_s | refine up_e (by decide) ?_ | exact hM.1 | exact hM.2.1 _ rfl
              · exact ixn (by omega)
              · show a < 24; omega
              rw [pk_us]
              refine A.isub d_md_wall_95 ?_
              apply A.iastore (j := o) d_md_wall_96
              · repeat first | exact up_s | refine up_e (by decide) ?_ | exact hM.1 | exact hM.2.1 _ rfl
              · first | decide | omega
              · exact ixn (by omega)
              · show o < 20; omega
              refine A.goto 139 (by decide) d_md_wall_97 ?_
              refine A.vret d_md_wall_139 rfl ?_
              have h1 := h1 a b ha hb rfl rfl g2 g4
              unfold mWall at h1
              first | (rw [if_neg c34] at h1; exact h1 _ (hM.arr2 1 rfl _ _) (by repeat (first | exact FrM.rf | refine FrM.up ?_ (by decide) (by decide)))) | (rw [if_pos c34] at h1; unfold minD at h1; rw [if_pos c62] at h1; exact h1 _ (((hM.arr 14 rfl _).arr 15 rfl _).arr 1 rfl _) (by repeat (first | exact FrM.rf | refine FrM.up ?_ (by decide) (by decide)))) | (rw [if_pos c34] at h1; unfold minD at h1; rw [if_neg c62] at h1; exact h1 _ (((hM.arr 14 rfl _).arr 15 rfl _).arr 1 rfl _) (by repeat (first | exact FrM.rf | refine FrM.up ?_ (by decide) (by decide))))
def sumI (M : MS) (p : Nat) : Nat → Int64
  | 0 => 0
  | n + 1 => sumI M p n + (intM M p n).toInt64
def vlM (M : MS) (p k : Nat) : Int64 := (cstM M p).toInt64 * (intM M p k).toInt64
def prt0 (M : MS) (p l : Nat) (b : Int32) (k : Nat) : Int32 := if sumI M p (l + 1) = 0 then (if nI k = b then cstM M p else 0) else (vlM M p k / sumI M p (l + 1)).toInt32
def cut0 (M : MS) (p l k : Nat) : Int64 := if sumI M p (l + 1) = 0 then 0 else vlM M p k - vlM M p k / sumI M p (l + 1) * sumI M p (l + 1)
def prF (M : MS) (p l : Nat) (b : Int32) (P : Nat → Int32) : Nat → Nat → Int32
  | 0 => P
  | k + 1 => upd (prF M p l b P k) k (prt0 M p l b k)
def ctF (M : MS) (p l : Nat) (C : Nat → Int64) : Nat → Nat → Int64
  | 0 => C
  | k + 1 => vp_updL (ctF M p l C k) k (cut0 M p l k)
def rsF (c : Int32) (P : Nat → Int32) : Nat → Int32
  | 0 => c
  | k + 1 => rsF c P k - P k
def bst (C : Nat → Int64) : Nat → Nat
  | 0 => 0
  | k + 1 => if C (bst C k) < C (k + 1) then k + 1 else bst C k
theorem bst_le (C : Nat → Int64) : ∀ n, bst C n ≤ n
  | 0 => Nat.le_refl _
  | k + 1 => by
    unfold bst
    by_cases h : C (bst C k) < C (k + 1)
    · rw [if_pos h]; exact Nat.le_refl _
    · rw [if_neg h]; have := bst_le C k; omega
def giv (l : Nat) : Nat → (Nat → Int32) → (Nat → Int64) → Nat → Int32
  | 0, P, _ => P
  | r + 1, P, C => giv l r (upd P (bst C l) (P (bst C l) + 1)) (vp_updL C (bst C l) (-1))
def parP (M : MS) (p l : Nat) (b : Int32) (P : Nat → Int32) (C : Nat → Int64) : Nat → Int32 := giv l (hN (rsF (cstM M p) (prF M p l b P (l + 1)) (l + 1))) (prF M p l b P (l + 1)) (ctF M p l C (l + 1))
theorem c_md_parted {p l : Nat} (hM : MH G M S C) (hw : WF M np) (hp : p < np) (hl : M 7 p = nI l) (hl3 : l ≤ 3) (h0 : bldM M p (l + 1) = -1 → Q (some (.int (-1))) G)
    (h1 : ∀ b, b ≤ l → bldM M p (l + 1) = nI b → ∀ G' S' C', MH G' M S' C' → S' 25 = parP M p l (nI b) (S 25) C → FrM G G' → Q (some (.int (nI b))) G') : A 4 M_md_parted 0 [some (.ref 100), some (.int (nI p)), none, none, none, none, none, none, none] [] G kc ks Q := by
  have hw' := hw
  obtain ⟨hn, hn2, -⟩ := hw
  have ep : (nI p).toInt = (p : Int) := ixn (by omega)
  refine A.aload_k 0 rfl rfl rfl d_md_parted_0 ?_
  refine A.iload_k 1 rfl rfl d_md_parted_1 ?_
  refine A.callV1 s_md_121 ?_ (Nat.le_of_ble_eq_true rfl) (Nat.le_of_ble_eq_true rfl) (Nat.le_of_ble_eq_true rfl) d_md_parted_2 rfl (c_md_builder hM hw' hp hl hl3 ?_)
  · apply Exists.intro
    exact hM.1
  dsimp only [psh]
  refine A.istore_k 2 rfl (Nat.le_of_ble_eq_true rfl) rfl d_md_parted_5 ?_
  dsimp only [List.set]
  refine A.iload_k 2 rfl rfl d_md_parted_6 ?_
  refine A.iconst (v := -1) rfl d_md_parted_7 ?_
  refine A.icmp_ne 13 (by decide) d_md_parted_8 (fun c8 => ?_) (fun c8 => ?_)
  rotate_left
  · refine A.iconst (v := -1) rfl d_md_parted_11 ?_
    refine A.iret d_md_parted_12 rfl ?_
    exact h0 c8
  skip
  rcases bldM_cases M p (l + 1) with e | ⟨b, hb, e⟩
  · exact absurd e c8
  rw [e] at c8 ⊢
  have h1 := h1 b (by omega) e
  clear h0 e c8
  -- the last loop: one more to the one of whom most was cut off
  have loop4 : ∀ (r : Nat) (G' : AHp) (S' : MS) (C' : Nat → Int64) (v6 v7 : Option Value), r < 2147483648 → MH G' M S' C' → giv l r (S' 25) C' = parP M p l (nI b) (S 25) C → FrM G G' → A 4 M_md_parted 176 [some (.ref 100), some (.int (nI p)), some (.int (nI b)), none, none, some (.int (nI r)), v6, v7, none] [] G' kc ks Q := by
    intro r
    induction r with
    | zero =>
      intro G' S' C' v6 v7 hr hM' hg hF
      refine A.iload rfl d_md_parted_176 ?_
      refine A.if_le 253 (by decide) d_md_parted_178 (fun c178 => ?_) (fun c178 => ?_)
      · refine A.iload_k 2 rfl rfl d_md_parted_253 ?_
        refine A.iret d_md_parted_254 rfl ?_
        exact h1 G' S' C' hM' hg hF
      · exact absurd (by decide) c178
    | succ r ih =>
      intro G' S' C' v6 v7 hr hM' hg hF
      have inner : ∀ (k i : Nat), i ≤ l → l < i + k → A 4 M_md_parted 187 [some (.ref 100), some (.int (nI p)), some (.int (nI b)), none, none, some (.int (nI (r + 1))), some (.int (nI (bst C' i))), some (.int (nI (i + 1))), none] [] G' kc ks Q := by
        intro k
        induction k with
        | zero => intro i y1 y2; omega
        | succ k ih2 =>
          intro i y1 y2
          have hb3 := bst_le C' i
          refine A.iload rfl d_md_parted_187 ?_
          refine A.aload_k 0 rfl rfl rfl d_md_parted_189 ?_
          apply A.getfield f_md_25 d_md_parted_190
          · repeat first | exact up_s | refine up_e (by decide) ?_ | exact hM'.1 | exact hM'.2.1 _ rfl | exact hM'.2.2.1 _ rfl | exact hM'.2.2.2
          · rfl
          refine A.iload_k 1 rfl rfl d_md_parted_193 ?_
          apply A.iaload (j := p) d_md_parted_194
          · repeat first | exact up_s | refine up_e (by decide) ?_ | exact hM'.1 | exact hM'.2.1 _ rfl | exact hM'.2.2.1 _ rfl | exact hM'.2.2.2
          · exact ep
          · show p < 24; omega
          rw [hl]
          refine A.icmp_gt 226 (by decide) d_md_parted_195 (fun c195 => ?_) (fun c195 => ?_)
          · have y3 : i = l := by
              have := (nI_ltI (by omega) (by omega)).mp c195
              omega
            subst y3
            refine A.aload_k 0 rfl rfl rfl d_md_parted_226 ?_
            apply A.getfield f_md_68 d_md_parted_227
            · repeat first | exact up_s | refine up_e (by decide) ?_ | exact hM'.1 | exact hM'.2.1 _ rfl | exact hM'.2.2.1 _ rfl | exact hM'.2.2.2
            · rfl
            refine A.iload rfl d_md_parted_230 ?_
            refine A.dup2 rfl rfl d_md_parted_232 ?_
            apply A.iaload (j := bst C' i) d_md_parted_233
            · repeat first | exact up_s | refine up_e (by decide) ?_ | exact hM'.1 | exact hM'.2.1 _ rfl | exact hM'.2.2.1 _ rfl | exact hM'.2.2.2
            · exact ixn (by omega)
            · show bst C' i < 4; omega
            refine A.iconst (v := 1) rfl d_md_parted_234 ?_
            refine A.iadd d_md_parted_235 ?_
            apply A.iastore (j := bst C' i) d_md_parted_236
            · repeat first | exact up_s | refine up_e (by decide) ?_ | exact hM'.1 | exact hM'.2.1 _ rfl | exact hM'.2.2.1 _ rfl | exact hM'.2.2.2
            · first | decide | omega
            · exact ixn (by omega)
            · show bst C' i < 4; omega
            refine A.aload_k 0 rfl rfl rfl d_md_parted_237 ?_
            apply A.getfield f_md_71 d_md_parted_238
            · repeat first | exact up_s | refine up_e (by decide) ?_ | exact hM'.1 | exact hM'.2.1 _ rfl | exact hM'.2.2.1 _ rfl | exact hM'.2.2.2
            · rfl
            refine A.iload rfl d_md_parted_241 ?_
            refine A.ldc2 d_md_parted_243 k_md_124 ?_
            apply A.lastore (j := bst C' i) d_md_parted_246
            · repeat first | exact up_s | refine up_e (by decide) ?_ | exact hM'.1 | exact hM'.2.1 _ rfl | exact hM'.2.2.1 _ rfl | exact hM'.2.2.2
            · exact ixn (by omega)
            · omega
            refine A.iincm (n := 5) rfl (Nat.le_of_ble_eq_true rfl) d_md_parted_247 ?_
            dsimp only [List.set]
            refine A.goto 176 (by decide) d_md_parted_250 ?_
            rw [nI_pred]
            exact ih _ _ _ _ _ (by omega) ((hM'.scr 25 rfl _).cut _) hg ((hF.up (by decide) (by decide)).up (by decide) (by decide))
          · have y3 : i < l := Nat.lt_of_not_le (fun z => c195 (nI_lt (by omega) (by omega)))
            refine A.aload_k 0 rfl rfl rfl d_md_parted_198 ?_
            apply A.getfield f_md_71 d_md_parted_199
            · repeat first | exact up_s | refine up_e (by decide) ?_ | exact hM'.1 | exact hM'.2.1 _ rfl | exact hM'.2.2.1 _ rfl | exact hM'.2.2.2
            · rfl
            refine A.iload rfl d_md_parted_202 ?_
            apply A.laload (j := i + 1) d_md_parted_204
            · repeat first | exact up_s | refine up_e (by decide) ?_ | exact hM'.1 | exact hM'.2.1 _ rfl | exact hM'.2.2.1 _ rfl | exact hM'.2.2.2
            · exact ixn (by omega)
            · omega
            refine A.aload_k 0 rfl rfl rfl d_md_parted_205 ?_
            apply A.getfield f_md_71 d_md_parted_206
            · repeat first | exact up_s | refine up_e (by decide) ?_ | exact hM'.1 | exact hM'.2.1 _ rfl | exact hM'.2.2.1 _ rfl | exact hM'.2.2.2
            · rfl
            refine A.iload rfl d_md_parted_209 ?_
            apply A.laload (j := bst C' i) d_md_parted_211
            · repeat first | exact up_s | refine up_e (by decide) ?_ | exact hM'.1 | exact hM'.2.1 _ rfl | exact hM'.2.2.1 _ rfl | exact hM'.2.2.2
            · exact ixn (by omega)
            · omega
            refine A.lcmp d_md_parted_212 ?_
            refine A.if_le 220 (by decide) d_md_parted_213 (fun c213 => ?_) (fun c213 => ?_)
            · refine A.iincp (n := 7) rfl (Nat.le_of_ble_eq_true rfl) d_md_parted_220 ?_
              dsimp only [List.set]
              refine A.goto 187 (by decide) d_md_parted_223 ?_
              rw [nI_1]
              have ih2 := ih2 (i + 1) (by omega) (by omega)
              unfold bst at ih2
              first | (rw [if_neg (lgcle.mp c213)] at ih2; exact ih2) | (rw [if_pos (Decidable.not_not.mp (fun z => c213 (lgcle.mpr z)))] at ih2; exact ih2)
            · refine A.iload rfl d_md_parted_216 ?_
              refine A.istore (Nat.le_of_ble_eq_true rfl) rfl d_md_parted_218 ?_
              dsimp only [List.set]
              refine A.iincp (n := 7) rfl (Nat.le_of_ble_eq_true rfl) d_md_parted_220 ?_
              dsimp only [List.set]
              refine A.goto 187 (by decide) d_md_parted_223 ?_
              rw [nI_1]
              have ih2 := ih2 (i + 1) (by omega) (by omega)
              unfold bst at ih2
              first | (rw [if_neg (lgcle.mp c213)] at ih2; exact ih2) | (rw [if_pos (Decidable.not_not.mp (fun z => c213 (lgcle.mpr z)))] at ih2; exact ih2)
      refine A.iload rfl d_md_parted_176 ?_
      refine A.if_le 253 (by decide) d_md_parted_178 (fun c178 => ?_) (fun c178 => ?_)
      · exact absurd c178 (nI_nle (by omega) (by omega))
      refine A.iconst (v := 0) rfl d_md_parted_181 ?_
      refine A.istore (Nat.le_of_ble_eq_true rfl) rfl d_md_parted_182 ?_
      dsimp only [List.set]
      refine A.iconst (v := 1) rfl d_md_parted_184 ?_
      refine A.istore (Nat.le_of_ble_eq_true rfl) rfl d_md_parted_185 ?_
      dsimp only [List.set]
      exact inner (l + 1) 0 (by omega) (by omega)
  have loop3 : ∀ (k i : Nat) (G' : AHp) (S' : MS) (C' : Nat → Int64) (v7 : Option Value), MH G' M S' C' → S' 25 = prF M p l (nI b) (S 25) (l + 1) → C' = ctF M p l C (l + 1) → FrM G G' → i ≤ l + 1 → l + 1 < i + k → A 4 M_md_parted 147 [some (.ref 100), some (.int (nI p)), some (.int (nI b)), none, none, some (.int (rsF (cstM M p) (prF M p l (nI b) (S 25) (l + 1)) i)), some (.int (nI i)), v7, none] [] G' kc ks Q := by
    intro k
    induction k with
    | zero => intro i G' S' C' v7 _ _ _ _ y1 y2; omega
    | succ k ih =>
      intro i G' S' C' v7 hM' hS hC hF y1 y2
      refine A.iload rfl d_md_parted_147 ?_
      refine A.aload_k 0 rfl rfl rfl d_md_parted_149 ?_
      apply A.getfield f_md_25 d_md_parted_150
      · first | exact hM'.1 | exact hM'.2.1 _ rfl | exact hM'.2.2.1 _ rfl
      · rfl
      refine A.iload_k 1 rfl rfl d_md_parted_153 ?_
      apply A.iaload (j := p) d_md_parted_154
      · first | exact hM'.1 | exact hM'.2.1 _ rfl | exact hM'.2.2.1 _ rfl
      · exact ep
      · show p < 24; omega
      rw [hl]
      refine A.icmp_gt 176 (by decide) d_md_parted_155 (fun c155 => ?_) (fun c155 => ?_)
      · have y3 : i = l + 1 := by
          have := (nI_ltI (by omega) (by omega)).mp c155
          omega
        subst y3
        generalize hr : rsF (cstM M p) (prF M p l (nI b) (S 25) (l + 1)) (l + 1) = rs
        by_cases hrs : rs ≤ 0
        · refine A.iload rfl d_md_parted_176 ?_
          refine A.if_le 253 (by decide) d_md_parted_178 (fun _ => ?_) (fun z => absurd hrs z)
          refine A.iload_k 2 rfl rfl d_md_parted_253 ?_
          refine A.iret d_md_parted_254 rfl ?_
          exact h1 G' S' C' hM' (by unfold parP; rw [hr, hN_le hrs, hS]; rfl) hF
        · have e1 : nI (hN rs) = rs := nI_hN (Int32.le_of_lt (Int32.not_le.mp hrs))
          rw [← e1]
          exact loop4 (hN rs) G' S' C' _ _ (hN_lt rs) hM' (by unfold parP; rw [hr, hS, hC]) hF
      · have y3 : i ≤ l := Nat.le_of_not_lt (fun z => c155 (nI_lt z (by omega)))
        refine A.iload rfl d_md_parted_158 ?_
        refine A.aload_k 0 rfl rfl rfl d_md_parted_160 ?_
        apply A.getfield f_md_68 d_md_parted_161
        · first | exact hM'.1 | exact hM'.2.1 _ rfl | exact hM'.2.2.1 _ rfl
        · rfl
        refine A.iload rfl d_md_parted_164 ?_
        apply A.iaload (j := i) d_md_parted_166
        · first | exact hM'.1 | exact hM'.2.1 _ rfl | exact hM'.2.2.1 _ rfl
        · exact ixn (by omega)
        · show i < 4; omega
        refine A.isub d_md_parted_167 ?_
        refine A.istore (Nat.le_of_ble_eq_true rfl) rfl d_md_parted_168 ?_
        dsimp only [List.set]
        refine A.iincp (n := 6) rfl (Nat.le_of_ble_eq_true rfl) d_md_parted_170 ?_
        dsimp only [List.set]
        refine A.goto 147 (by decide) d_md_parted_173 ?_
        rw [nI_1, hS]
        exact ih (i + 1) G' S' C' v7 hM' hS hC hF (by omega) (by omega)
  have loop2 : ∀ (k i : Nat) (G' : AHp) (S' : MS) (C' : Nat → Int64) (v7 : Option Value), MH G' M S' C' → S' 25 = prF M p l (nI b) (S 25) i → C' = ctF M p l C i → FrM G G' → i ≤ l + 1 → l + 1 < i + k → A 4 M_md_parted 56 [some (.ref 100), some (.int (nI p)), some (.int (nI b)), some (.long (sumI M p (l + 1))), none, some (.int (cstM M p)), some (.int (nI i)), v7, none] [] G' kc ks Q := by
    intro k
    induction k with
    | zero => intro i G' S' C' v7 _ _ _ _ y1 y2; omega
    | succ k ih =>
      intro i G' S' C' v7 hM' hS hC hF y1 y2
      have J : ∀ val : Int32, i ≤ l → val = prt0 M p l (nI b) i → A 4 M_md_parted 116 [some (.ref 100), some (.int (nI p)), some (.int (nI b)), some (.long (sumI M p (l + 1))), none, some (.int (cstM M p)), some (.int (nI i)), some (.long (vlM M p i)), none] [.int val, .int (nI i), .ref 225] G' kc ks Q := by
        intro val y3 hval
        apply A.iastore (j := i) d_md_parted_116
        · repeat first | exact up_s | refine up_e (by decide) ?_ | exact hM'.1 | exact hM'.2.1 _ rfl | exact hM'.2.2.1 _ rfl | exact hM'.2.2.2
        · first | decide | omega
        · exact ixn (by omega)
        · first | (show i < 4; omega) | omega
        refine A.aload_k 0 rfl rfl rfl d_md_parted_117 ?_
        apply A.getfield f_md_71 d_md_parted_118
        · repeat first | exact up_s | refine up_e (by decide) ?_ | exact hM'.1 | exact hM'.2.1 _ rfl | exact hM'.2.2.1 _ rfl | exact hM'.2.2.2
        · rfl
        refine A.iload rfl d_md_parted_121 ?_
        refine A.lload_k 3 rfl rfl d_md_parted_123 ?_
        refine A.lconst (v := 0) rfl d_md_parted_124 ?_
        refine A.lcmp d_md_parted_125 ?_
        refine A.if_ne 133 (by decide) d_md_parted_126 (fun c126 => ?_) (fun c126 => ?_)
        · refine A.lload rfl d_md_parted_133 ?_
          refine A.lload_k 3 rfl rfl d_md_parted_135 ?_
          refine A.lrem (fun z => c126 (lgc0.mpr z)) d_md_parted_136 ?_
          apply A.lastore (j := i) d_md_parted_137
          · repeat first | exact up_s | refine up_e (by decide) ?_ | exact hM'.1 | exact hM'.2.1 _ rfl | exact hM'.2.2.1 _ rfl | exact hM'.2.2.2
          · exact ixn (by omega)
          · first | (show i < 4; omega) | omega
          refine A.iincp (n := 6) rfl (Nat.le_of_ble_eq_true rfl) d_md_parted_138 ?_
          dsimp only [List.set]
          refine A.goto 56 (by decide) d_md_parted_141 ?_
          rw [nI_1]
          refine ih (i + 1) _ _ _ _ ((hM'.scr 25 rfl _).cut _) (by show upd (S' 25) i val = _; rw [hS, hval]; rfl) ?_ ((hF.up (by decide) (by decide)).up (by decide) (by decide)) (by omega) (by omega)
          show vp_updL C' i _ = vp_updL (ctF M p l C i) i (cut0 M p l i)
          rw [hC]
          unfold cut0
          first | rw [if_pos (lgc0.mp c126)] | rw [if_neg (fun z => c126 (lgc0.mpr z))]
        · refine A.lconst (v := 0) rfl d_md_parted_129 ?_
          refine A.goto 137 (by decide) d_md_parted_130 ?_
          apply A.lastore (j := i) d_md_parted_137
          · repeat first | exact up_s | refine up_e (by decide) ?_ | exact hM'.1 | exact hM'.2.1 _ rfl | exact hM'.2.2.1 _ rfl | exact hM'.2.2.2
          · exact ixn (by omega)
          · first | (show i < 4; omega) | omega
          refine A.iincp (n := 6) rfl (Nat.le_of_ble_eq_true rfl) d_md_parted_138 ?_
          dsimp only [List.set]
          refine A.goto 56 (by decide) d_md_parted_141 ?_
          rw [nI_1]
          refine ih (i + 1) _ _ _ _ ((hM'.scr 25 rfl _).cut _) (by show upd (S' 25) i val = _; rw [hS, hval]; rfl) ?_ ((hF.up (by decide) (by decide)).up (by decide) (by decide)) (by omega) (by omega)
          show vp_updL C' i _ = vp_updL (ctF M p l C i) i (cut0 M p l i)
          rw [hC]
          unfold cut0
          first | rw [if_pos (lgc0.mp c126)] | rw [if_neg (fun z => c126 (lgc0.mpr z))]
      refine A.iload rfl d_md_parted_56 ?_
      refine A.aload_k 0 rfl rfl rfl d_md_parted_58 ?_
      apply A.getfield f_md_25 d_md_parted_59
      · first | exact hM'.1 | exact hM'.2.1 _ rfl | exact hM'.2.2.1 _ rfl
      · rfl
      refine A.iload_k 1 rfl rfl d_md_parted_62 ?_
      apply A.iaload (j := p) d_md_parted_63
      · first | exact hM'.1 | exact hM'.2.1 _ rfl | exact hM'.2.2.1 _ rfl
      · exact ep
      · show p < 24; omega
      rw [hl]
      refine A.icmp_gt 144 (by decide) d_md_parted_64 (fun c64 => ?_) (fun c64 => ?_)
      · refine A.iconst (v := 0) rfl d_md_parted_144 ?_
        refine A.istore (Nat.le_of_ble_eq_true rfl) rfl d_md_parted_145 ?_
        dsimp only [List.set]
        have y3 : i = l + 1 := by
          have := (nI_ltI (by omega) (by omega)).mp c64
          omega
        subst y3
        refine A.dropat 3 ?_
        dsimp only [List.set]
        exact loop3 (l + 2) 0 G' S' C' v7 hM' hS hC hF (by omega) (by omega)
      · have y3 : i ≤ l := Nat.le_of_not_lt (fun z => c64 (nI_lt z (by omega)))
        refine A.aload_k 0 rfl rfl rfl d_md_parted_67 ?_
        refine A.iload_k 1 rfl rfl d_md_parted_68 ?_
        refine A.callV1 s_md_118 ?_ (Nat.le_of_ble_eq_true rfl) (Nat.le_of_ble_eq_true rfl) (Nat.le_of_ble_eq_true rfl) d_md_parted_69 rfl (c_md_costOf hM' (by omega) ?_)
        · apply Exists.intro
          first | exact hM'.1 | exact hM'.2.1 _ rfl | exact hM'.2.2.1 _ rfl
        dsimp only [psh]
        refine A.i2l d_md_parted_72 ?_
        refine A.aload_k 0 rfl rfl rfl d_md_parted_73 ?_
        refine A.iload_k 1 rfl rfl d_md_parted_74 ?_
        refine A.iload rfl d_md_parted_75 ?_
        refine A.callV2 s_md_114 ?_ (Nat.le_of_ble_eq_true rfl) (Nat.le_of_ble_eq_true rfl) (Nat.le_of_ble_eq_true rfl) d_md_parted_77 rfl (c_md_interestOf hM' hn hn2 hp hl hl3 (by omega) ?_)
        · apply Exists.intro
          first | exact hM'.1 | exact hM'.2.1 _ rfl | exact hM'.2.2.1 _ rfl
        dsimp only [psh]
        refine A.i2l d_md_parted_80 ?_
        refine A.lmul d_md_parted_81 ?_
        refine A.lstore (Nat.le_of_ble_eq_true rfl) rfl d_md_parted_82 ?_
        dsimp only [List.set]
        refine A.aload_k 0 rfl rfl rfl d_md_parted_84 ?_
        apply A.getfield f_md_68 d_md_parted_85
        · first | exact hM'.1 | exact hM'.2.1 _ rfl | exact hM'.2.2.1 _ rfl
        · rfl
        refine A.iload rfl d_md_parted_88 ?_
        refine A.lload_k 3 rfl rfl d_md_parted_90 ?_
        refine A.lconst (v := 0) rfl d_md_parted_91 ?_
        refine A.lcmp d_md_parted_92 ?_
        refine A.if_ne 111 (by decide) d_md_parted_93 (fun c93 => ?_) (fun c93 => ?_)
        · refine A.lload rfl d_md_parted_111 ?_
          refine A.lload_k 3 rfl rfl d_md_parted_113 ?_
          refine A.ldiv (fun z => c93 (lgc0.mpr z)) d_md_parted_114 ?_
          refine A.l2i d_md_parted_115 ?_
          refine J _ y3 ?_
          unfold prt0
          first | rw [if_neg (fun z => c93 (lgc0.mpr z))]; rfl | rw [if_pos (lgc0.mp c93), if_pos c99] | rw [if_pos (lgc0.mp c93), if_neg c99]
        · refine A.iload rfl d_md_parted_96 ?_
          refine A.iload_k 2 rfl rfl d_md_parted_98 ?_
          refine A.icmp_ne 107 (by decide) d_md_parted_99 (fun c99 => ?_) (fun c99 => ?_)
          · refine A.iconst (v := 0) rfl d_md_parted_107 ?_
            refine A.goto 116 (by decide) d_md_parted_108 ?_
            refine J _ y3 ?_
            unfold prt0
            first | rw [if_neg (fun z => c93 (lgc0.mpr z))]; rfl | rw [if_pos (lgc0.mp c93), if_pos c99] | rw [if_pos (lgc0.mp c93), if_neg c99]
          · refine A.iload rfl d_md_parted_102 ?_
            refine A.goto 116 (by decide) d_md_parted_104 ?_
            refine J _ y3 ?_
            unfold prt0
            first | rw [if_neg (fun z => c93 (lgc0.mpr z))]; rfl | rw [if_pos (lgc0.mp c93), if_pos c99] | rw [if_pos (lgc0.mp c93), if_neg c99]
  have loop1 : ∀ (k i : Nat), i ≤ l + 1 → l + 1 < i + k → A 4 M_md_parted 25 [some (.ref 100), some (.int (nI p)), some (.int (nI b)), some (.long (sumI M p i)), none, some (.int (cstM M p)), some (.int (nI i)), none, none] [] G kc ks Q := by
    intro k
    induction k with
    | zero => intro i y1 y2; omega
    | succ k ih =>
      intro i y1 y2
      refine A.iload rfl d_md_parted_25 ?_
      refine A.aload_k 0 rfl rfl rfl d_md_parted_27 ?_
      apply A.getfield f_md_25 d_md_parted_28
      · first | exact hM.1 | exact hM.2.1 _ rfl
      · rfl
      refine A.iload_k 1 rfl rfl d_md_parted_31 ?_
      apply A.iaload (j := p) d_md_parted_32
      · first | exact hM.1 | exact hM.2.1 _ rfl
      · exact ep
      · show p < 24; omega
      rw [hl]
      refine A.icmp_gt 53 (by decide) d_md_parted_33 (fun c33 => ?_) (fun c33 => ?_)
      · refine A.iconst (v := 0) rfl d_md_parted_53 ?_
        refine A.istore (Nat.le_of_ble_eq_true rfl) rfl d_md_parted_54 ?_
        dsimp only [List.set]
        have y3 : i = l + 1 := by
          have := (nI_ltI (by omega) (by omega)).mp c33
          omega
        subst y3
        exact loop2 (l + 2) 0 G S C none hM rfl rfl FrM.rf (by omega) (by omega)
      · have y3 : i ≤ l := Nat.le_of_not_lt (fun z => c33 (nI_lt z (by omega)))
        refine A.lload_k 3 rfl rfl d_md_parted_36 ?_
        refine A.aload_k 0 rfl rfl rfl d_md_parted_37 ?_
        refine A.iload_k 1 rfl rfl d_md_parted_38 ?_
        refine A.iload rfl d_md_parted_39 ?_
        refine A.callV2 s_md_114 ?_ (Nat.le_of_ble_eq_true rfl) (Nat.le_of_ble_eq_true rfl) (Nat.le_of_ble_eq_true rfl) d_md_parted_41 rfl (c_md_interestOf hM hn hn2 hp hl hl3 (by omega) ?_)
        · apply Exists.intro
          first | exact hM.1 | exact hM.2.1 _ rfl
        dsimp only [psh]
        refine A.i2l d_md_parted_44 ?_
        refine A.ladd d_md_parted_45 ?_
        refine A.lstore_k 3 rfl (Nat.le_of_ble_eq_true rfl) rfl d_md_parted_46 ?_
        dsimp only [List.set]
        refine A.iincp (n := 6) rfl (Nat.le_of_ble_eq_true rfl) d_md_parted_47 ?_
        dsimp only [List.set]
        refine A.goto 25 (by decide) d_md_parted_50 ?_
        rw [nI_1]
        exact ih (i + 1) (by omega) (by omega)
  refine A.lconst (v := 0) rfl d_md_parted_13 ?_
  refine A.lstore_k 3 rfl (Nat.le_of_ble_eq_true rfl) rfl d_md_parted_14 ?_
  dsimp only [List.set]
  refine A.aload_k 0 rfl rfl rfl d_md_parted_15 ?_
  refine A.iload_k 1 rfl rfl d_md_parted_16 ?_
  refine A.callV1 s_md_118 ?_ (Nat.le_of_ble_eq_true rfl) (Nat.le_of_ble_eq_true rfl) (Nat.le_of_ble_eq_true rfl) d_md_parted_17 rfl (c_md_costOf hM (by omega) ?_)
  · apply Exists.intro
    exact hM.1
  dsimp only [psh]
  refine A.istore (Nat.le_of_ble_eq_true rfl) rfl d_md_parted_20 ?_
  dsimp only [List.set]
  refine A.iconst (v := 0) rfl d_md_parted_22 ?_
  refine A.istore (Nat.le_of_ble_eq_true rfl) rfl d_md_parted_23 ?_
  dsimp only [List.set]
  exact loop1 (l + 2) 0 (by omega) (by omega)
end MODEL3
end
section
/-! the reference, on: bears, decree -/
section MODEL4
variable {M S : MS} {C : Nat → Int64} {G : AHp} {kc ks np : Nat} {Q : Option Value → AHp → Prop}
theorem c_md_bears {x k : Int32} (hM : MH G M S C) (hw : WF M np) (h1 : ∀ p j l b, p < np → x = nI p → M 7 p = nI l → l ≤ 3 → j ≤ l → k = nI j → ¬ (M 6 p = 2 ∨ M 6 p = 3) → b ≤ l → bldM M p (l + 1) = nI b → ∀ G' S' C', MH G' M S' C' → FrM G G' → Q (some (.int (parP M p l (nI b) (S 25) C j))) G')
    (h2 : ∀ p j l, p < np → x = nI p → M 7 p = nI l → l ≤ 3 → j ≤ l → k = nI j → ¬ (M 6 p = 2 ∨ M 6 p = 3) → bldM M p (l + 1) = -1 → Q (some (.int (-1))) G)
    (h0 : (∀ p j l, p < np → x = nI p → M 7 p = nI l → l ≤ 3 → j ≤ l → k = nI j → (M 6 p = 2 ∨ M 6 p = 3)) → Q (some (.int (-1))) G) : A 5 M_md_bears 0 [some (.ref 100), some (.int x), some (.int k)] [] G kc ks Q := by
  have hw' := hw
  obtain ⟨hn, hn2, hl, -⟩ := hw
  refine A.aload_k 0 rfl rfl rfl d_md_bears_0 ?_
  refine A.iload_k 1 rfl rfl d_md_bears_1 ?_
  refine A.iload_k 2 rfl rfl d_md_bears_2 ?_
  refine A.callV2 s_md_110 ?_ (Nat.le_of_ble_eq_true rfl) (Nat.le_of_ble_eq_true rfl) (Nat.le_of_ble_eq_true rfl) d_md_bears_3 rfl (c_md_isPlace hM hw' (fun p j l q1 q2 q3 q33 q4 q5 q6 => ?_) (fun q7 => ?_))
  · apply Exists.intro
    first | exact hM.1 | exact hM.2.1 _ rfl
  · dsimp only [psh]
    refine A.if_eq1 d_md_bears_6 (tgt := 27) (by decide) ?_
    subst q2
    subst q5
    refine A.aload_k 0 rfl rfl rfl d_md_bears_9 ?_
    refine A.iload_k 1 rfl rfl d_md_bears_10 ?_
    refine A.callV1 s_md_126 ?_ (Nat.le_of_ble_eq_true rfl) (Nat.le_of_ble_eq_true rfl) (Nat.le_of_ble_eq_true rfl) d_md_bears_11 rfl (c_md_parted hM hw' q1 q3 q33 (fun z => ?_) (fun b b1 b2 G' S' C' hM' hS hF => ?_))
    · apply Exists.intro
      first | exact hM.1 | exact hM.2.1 _ rfl
    · dsimp only [psh]
      refine A.iconst (v := -1) rfl d_md_bears_14 ?_
      refine A.icmp_eq 27 (by decide) d_md_bears_15 (fun c => ?_) (fun c => absurd (by decide) c)
      refine A.iconst (v := -1) rfl d_md_bears_27 ?_
      refine A.iret d_md_bears_28 rfl ?_
      first | exact h0 q7 | exact h1 p j l b q1 rfl q3 q33 q4 rfl q6 b1 b2 _ _ _ hM' hF | exact h2 p j l q1 rfl q3 q33 q4 rfl q6 z | exact absurd c15 (nI_nm1 (by omega))
    · dsimp only [psh]
      refine A.iconst (v := -1) rfl d_md_bears_14 ?_
      refine A.icmp_eq 27 (by decide) d_md_bears_15 (fun c15 => ?_) (fun c15 => ?_)
      · refine A.iconst (v := -1) rfl d_md_bears_27 ?_
        refine A.iret d_md_bears_28 rfl ?_
        first | exact h0 q7 | exact h1 p j l b q1 rfl q3 q33 q4 rfl q6 b1 b2 _ _ _ hM' hF | exact h2 p j l q1 rfl q3 q33 q4 rfl q6 z | exact absurd c15 (nI_nm1 (by omega))
      · refine A.aload_k 0 rfl rfl rfl d_md_bears_18 ?_
        apply A.getfield f_md_68 d_md_bears_19
        · exact hM'.1
        · rfl
        refine A.iload_k 2 rfl rfl d_md_bears_22 ?_
        apply A.iaload (j := j) d_md_bears_23
        · exact hM'.2.2.1 _ rfl
        · exact ixn (by omega)
        · show j < 4; omega
        rw [hS]
        refine A.goto 28 (by decide) d_md_bears_24 ?_
        refine A.iret d_md_bears_28 rfl ?_
        first | exact h0 q7 | exact h1 p j l b q1 rfl q3 q33 q4 rfl q6 b1 b2 _ _ _ hM' hF | exact h2 p j l q1 rfl q3 q33 q4 rfl q6 z | exact absurd c15 (nI_nm1 (by omega))
  · dsimp only [psh]
    refine A.if_eq0 27 (by decide) d_md_bears_6 ?_
    refine A.iconst (v := -1) rfl d_md_bears_27 ?_
    refine A.iret d_md_bears_28 rfl ?_
    first | exact h0 q7 | exact h1 p j l b q1 rfl q3 q33 q4 rfl q6 b1 b2 _ _ _ hM' hF | exact h2 p j l q1 rfl q3 q33 q4 rfl q6 z | exact absurd c15 (nI_nm1 (by omega))
def payC (M : MS) (p b o : Nat) (P : Nat → Int32) (c : Nat → Int32) : Nat → Nat → Int32
  | 0 => c
  | k + 1 => if nI k = nI b then payC M p b o P c k else
      upd (upd (payC M p b o P c k) (hN (M 8 (4 * p + k))) (payC M p b o P c k (hN (M 8 (4 * p + k))) - P k)) o (upd (payC M p b o P c k) (hN (M 8 (4 * p + k))) (payC M p b o P c k (hN (M 8 (4 * p + k))) - P k) o + P k)
theorem payC_s (M : MS) (p b o : Nat) (P c : Nat → Int32) (k : Nat) : payC M p b o P c (k + 1) = if nI k = nI b then payC M p b o P c k else
      upd (upd (payC M p b o P c k) (hN (M 8 (4 * p + k))) (payC M p b o P c k (hN (M 8 (4 * p + k))) - P k)) o (upd (payC M p b o P c k) (hN (M 8 (4 * p + k))) (payC M p b o P c k (hN (M 8 (4 * p + k))) - P k) o + P k) := rfl
def lstY (Y : Nat → Int32) (p b k : Nat) : Int32 := if nI k = nI b then 40 else Y (4 * p + k + 1)
def yrD (Y : Nat → Int32) (p b : Nat) : Nat → Nat → Int32
  | 0 => Y
  | j + 1 => if lstY (yrD Y p b j) p b (b - j) ≤ yrD Y p b j (4 * p + (b - j)) then yrD Y p b j else upd (yrD Y p b j) (4 * p + (b - j)) (lstY (yrD Y p b j) p b (b - j))
theorem yrD_s (Y : Nat → Int32) (p b j : Nat) : yrD Y p b (j + 1) = if lstY (yrD Y p b j) p b (b - j) ≤ yrD Y p b j (4 * p + (b - j)) then yrD Y p b j else upd (yrD Y p b j) (4 * p + (b - j)) (lstY (yrD Y p b j) p b (b - j)) := rfl
def mDec1 (M : MS) (p l b o : Nat) (P : Nat → Int32) : MS := va_up (va_up (va_up (va_up (va_up M 1 (payC M p b o P (upd (M 1) o (M 1 o - cstM M p)) (l + 1))) 9 (yrD (M 9) p b b)) 6 (upd (M 6) p 1)) 11 (upd (M 11) p (nI o))) 12 (upd (M 12) p (M 0 0))
def wallI (M : MS) (x z : Int32) (o : Nat) : MS := if x = -1 ∨ z = -1 ∨ (M 6 (hN x) = 2 ∨ M 6 (hN x) = 3) ∨ (M 6 (hN z) = 2 ∨ M 6 (hN z) = 3) then M else mWall M (hN x) (hN z) o
theorem c_md_wallI {x z : Int32} {o : Nat} (hM : MH G M S C) (hw : WF M np) (ho : o < 20) (hx : x = -1 ∨ ∃ a, a < np ∧ x = nI a) (hz : z = -1 ∨ ∃ b, b < np ∧ z = nI b) (h : ∀ G', MH G' (wallI M x z o) S C → FrM G G' → Q none G') : A 1 M_md_wall 0 [some (.ref 100), some (.int x), some (.int z), some (.int (nI o))] [] G kc ks Q := by
  have hn2 := hw.2.1
  refine c_md_wall hM hw ho hx hz (fun y => ?_) (fun a b ha hb e1 e2 g1 g2 G' hM' hF => ?_)
  · refine h G ?_ FrM.rf
    unfold wallI
    rw [if_pos]
    · exact hM
    · rcases y with y | y | ⟨a, ha, e, g⟩ | ⟨b, hb, e, g⟩
      · exact Or.inl y
      · exact Or.inr (Or.inl y)
      · rw [e, hN_nI (by omega)]; exact Or.inr (Or.inr (Or.inl g))
      · rw [e, hN_nI (by omega)]; exact Or.inr (Or.inr (Or.inr g))
  · refine h G' ?_ hF
    unfold wallI
    rw [e1, e2, hN_nI (by omega), hN_nI (by omega), if_neg]
    · exact hM'
    · rintro (y | y | y | y)
      · exact nI_nm1 (by omega) y
      · exact nI_nm1 (by omega) y
      · exact g1 y
      · exact g2 y
theorem WF.up {k : Nat} (h : WF M np) (f : Nat → Int32) (h2 : k ≠ 2) (h7 : k ≠ 7) (h8 : k ≠ 8) (h14 : k ≠ 14) (h19 : k ≠ 19) : WF (va_up M k f) np := by
  have e : ∀ j, j ≠ k → va_up M k f j = M j := fun j hj => if_neg hj
  unfold WF
  rw [e 2 (Ne.symm h2), e 7 (Ne.symm h7), e 8 (Ne.symm h8), e 14 (Ne.symm h14), e 19 (Ne.symm h19)]
  exact h
theorem WF.wall {x z : Int32} {o : Nat} (h : WF M np) (ho : o < 20) : WF (wallI M x z o) np := by
  unfold wallI
  by_cases c : x = -1 ∨ z = -1 ∨ (M 6 (hN x) = 2 ∨ M 6 (hN x) = 3) ∨ (M 6 (hN z) = 2 ∨ M 6 (hN z) = 3)
  · rw [if_pos c]; exact h
  · rw [if_neg c]
    unfold mWall
    by_cases c2 : M 14 (hN x) = -1
    · rw [if_pos c2]
      refine WF.up (WF.up ?_ _ (by decide) (by decide) (by decide) (by decide) (by decide)) _ (by decide) (by decide) (by decide) (by decide) (by decide)
      obtain ⟨y1, y2, y3, y4, y5, y6⟩ := h
      refine ⟨y1, y2, y3, y4, fun p => ?_, y6⟩
      show upd (M 14) (hN x) (nI o) p = -1 ∨ ∃ h, h < 20 ∧ upd (M 14) (hN x) (nI o) p = nI h
      by_cases e : p = hN x
      · subst e; rw [pk_us]; exact Or.inr ⟨o, ho, rfl⟩
      · rw [pk_un e]; exact y5 p
    · rw [if_neg c2]
      exact WF.up h _ (by decide) (by decide) (by decide) (by decide) (by decide)
theorem befM_congr {M' : MS} (h : M' 3 = M 3) (p : Nat) : ∀ n, befM M' p n = befM M p n
  | 0 => rfl
  | n + 1 => by unfold befM; rw [h, befM_congr h p n]
theorem behM_congr {M' : MS} (h : M' 3 = M 3) (p : Nat) : ∀ n i, behM M' p n i = behM M p n i
  | 0, _ => rfl
  | n + 1, i => by unfold behM; rw [h, behM_congr h p n]
theorem befM_in (M : MS) (p : Nat) : ∀ n, befM M p n = -1 ∨ ∃ a, a < n ∧ befM M p n = nI a
  | 0 => Or.inl rfl
  | n + 1 => by
    unfold befM
    by_cases h : M 3 n = M 3 p
    · rw [if_pos h]; exact Or.inr ⟨n, by omega, rfl⟩
    · rw [if_neg h]
      rcases befM_in M p n with e | ⟨a, h1, h2⟩
      · exact Or.inl e
      · exact Or.inr ⟨a, by omega, h2⟩
theorem behM_in (M : MS) (p : Nat) : ∀ n i, behM M p n i = -1 ∨ ∃ a, i ≤ a ∧ a < i + n ∧ behM M p n i = nI a
  | 0, _ => Or.inl rfl
  | n + 1, i => by
    unfold behM
    by_cases h : M 3 i = M 3 p
    · rw [if_pos h]; exact Or.inr ⟨i, by omega, by omega, rfl⟩
    · rw [if_neg h]
      rcases behM_in M p n (i + 1) with e | ⟨a, h1, h2, h3⟩
      · exact Or.inl e
      · exact Or.inr ⟨a, by omega, by omega, h3⟩
theorem wallI_3 (x z : Int32) (o : Nat) : wallI M x z o 3 = M 3 := by
  unfold wallI
  by_cases c : x = -1 ∨ z = -1 ∨ (M 6 (hN x) = 2 ∨ M 6 (hN x) = 3) ∨ (M 6 (hN z) = 2 ∨ M 6 (hN z) = 3)
  · rw [if_pos c]
  · rw [if_neg c]
    unfold mWall
    by_cases c2 : M 14 (hN x) = -1
    · rw [if_pos c2]; rfl
    · rw [if_neg c2]; rfl
def mDec (M : MS) (np p l b o : Nat) (P : Nat → Int32) : MS := wallI (wallI (mDec1 M p l b o P) (befM M p p) (nI p) o) (nI p) (behM M p (np - (p + 1)) (p + 1)) o
theorem c_md_decree {x : Int32} (hM : MH G M S C) (hw : WF M np)
    (h0 : ¬ (∃ p, p < np ∧ x = nI p ∧ M 6 p = 0) → Q (some (.int (-1))) G)
    (h2 : ∀ p l, p < np → x = nI p → M 6 p = 0 → M 7 p = nI l → l ≤ 3 → bldM M p (l + 1) = -1 → Q (some (.int (-1))) G)
    (h1 : ∀ p l b o, p < np → x = nI p → M 6 p = 0 → M 7 p = nI l → l ≤ 3 → b ≤ l → bldM M p (l + 1) = nI b → o < 20 → M 8 (4 * p + b) = nI o → ∀ G' S' C', MH G' (mDec M np p l b o (parP M p l (nI b) (S 25) C)) S' C' → FrM G G' → Q (some (.int (nI b))) G') : A 5 M_md_decree 0 [some (.ref 100), some (.int x), none, none, none, none] [] G kc ks Q := by
  have hw' := hw
  obtain ⟨hn, hn2, hl, hh, -⟩ := hw
  have dec2 : ∀ (p l b : Nat) (G' : AHp) (S' : MS) (C' : Nat → Int64), p < np → x = nI p → M 6 p = 0 → M 7 p = nI l → l ≤ 3 → b ≤ l → bldM M p (l + 1) = nI b → MH G' M S' C' → S' 25 = parP M p l (nI b) (S 25) C → FrM G G' → A 5 M_md_decree 32 [some (.ref 100), some (.int (nI p)), some (.int (nI b)), none, none, none] [] G' kc ks Q := by
    intro p l b G1 S1 C1 hp ex hst el hl3 hb hbld hM1 hS1 hF1
    obtain ⟨o, ho, eo⟩ := hh (4 * p + b)
    have h1 := h1 p l b o hp ex hst el hl3 hb hbld ho eo
    generalize hP : parP M p l (nI b) (S 25) C = P at h1 hS1
    clear h0 h2 hbld hst ex
    have ep : (nI p).toInt = (p : Int) := ixn (by omega)
    -- the years of the builder's lease and of those above
    have loopY : ∀ (k j : Nat) (G2 : AHp) (S2 : MS) (C2 : Nat → Int64) (v5 : Option Value) (co : Nat → Int32), k + j = b → MH G2 (va_up (va_up M 1 co) 9 (yrD (M 9) p b j)) S2 C2 → FrM G G2 → co = payC M p b o P (upd (M 1) o (M 1 o - cstM M p)) (l + 1) → A 5 M_md_decree 131 [some (.ref 100), some (.int (nI p)), some (.int (nI b)), some (.int (nI o)), some (.int (nI k)), v5] [] G2 kc ks Q := by
      intro k
      induction k with
      | zero =>
        intro j G2 S2 C2 v5 co hk hM2 hF2 hco
        have ej : j = b := by omega
        subst ej
        have wf2 : WF (va_up (va_up M 1 co) 9 (yrD (M 9) p j j)) np := (hw'.up _ (by decide) (by decide) (by decide) (by decide) (by decide)).up _ (by decide) (by decide) (by decide) (by decide) (by decide)
        have wf3 : WF (mDec1 M p l j o P) np := by
          unfold mDec1
          rw [← hco]
          exact ((wf2.up _ (by decide) (by decide) (by decide) (by decide) (by decide)).up _ (by decide) (by decide) (by decide) (by decide) (by decide)).up _ (by decide) (by decide) (by decide) (by decide) (by decide)
        have hM3 : ∀ G3, MH G3 (va_up (va_up (va_up (va_up (va_up M 1 co) 9 (yrD (M 9) p j j)) 6 (upd (M 6) p 1)) 11 (upd (M 11) p (nI o))) 12 (upd (M 12) p (M 0 0))) S2 C2 → MH G3 (mDec1 M p l j o P) S2 C2 := fun G3 h3 => by
          unfold mDec1
          rw [← hco]
          exact h3
        refine A.iload rfl d_md_decree_131 ?_
        refine A.if_le 197 (by decide) d_md_decree_133 (fun c133 => ?_) (fun c133 => ?_)
        · refine A.aload_k 0 rfl rfl rfl d_md_decree_197 ?_
          apply A.getfield f_md_22 d_md_decree_198
          · repeat first | exact up_s | refine up_e (by decide) ?_ | exact hM2.1 | exact hM2.2.1 _ rfl
          · rfl
          refine A.iload_k 1 rfl rfl d_md_decree_201 ?_
          refine A.iconst (v := 1) rfl d_md_decree_202 ?_
          apply A.iastore (j := p) d_md_decree_203
          · repeat first | exact up_s | refine up_e (by decide) ?_ | exact hM2.1 | exact hM2.2.1 _ rfl
          · first | decide | omega
          · exact ep
          · show p < 24; omega
          refine A.aload_k 0 rfl rfl rfl d_md_decree_204 ?_
          apply A.getfield f_md_37 d_md_decree_205
          · repeat first | exact up_s | refine up_e (by decide) ?_ | exact hM2.1 | exact hM2.2.1 _ rfl
          · rfl
          refine A.iload_k 1 rfl rfl d_md_decree_208 ?_
          refine A.iload_k 3 rfl rfl d_md_decree_209 ?_
          apply A.iastore (j := p) d_md_decree_210
          · repeat first | exact up_s | refine up_e (by decide) ?_ | exact hM2.1 | exact hM2.2.1 _ rfl
          · first | decide | omega
          · exact ep
          · show p < 24; omega
          refine A.aload_k 0 rfl rfl rfl d_md_decree_211 ?_
          apply A.getfield f_md_40 d_md_decree_212
          · repeat first | exact up_s | refine up_e (by decide) ?_ | exact hM2.1 | exact hM2.2.1 _ rfl
          · rfl
          refine A.iload_k 1 rfl rfl d_md_decree_215 ?_
          refine A.aload_k 0 rfl rfl rfl d_md_decree_216 ?_
          apply A.getfield f_md_129 d_md_decree_217
          · repeat first | exact up_s | refine up_e (by decide) ?_ | exact hM2.1 | exact hM2.2.1 _ rfl
          · rfl
          apply A.iastore (j := p) d_md_decree_220
          · repeat first | exact up_s | refine up_e (by decide) ?_ | exact hM2.1 | exact hM2.2.1 _ rfl
          · first | decide | omega
          · exact ep
          · show p < 24; omega
          have hM4 := hM3 _ (((hM2.arr 6 rfl (upd (M 6) p 1)).arr 11 rfl (upd (M 11) p (nI o))).arr 12 rfl (upd (M 12) p (M 0 0)))
          have hF4 : FrM G _ := ((hF2.up (b := 206) (c := aI 24 (upd (M 6) p 1)) (by decide) (by decide)).up (b := 211) (c := aI 24 (upd (M 11) p (nI o))) (by decide) (by decide)).up (b := 212) (c := aI 24 (upd (M 12) p (M 0 0))) (by decide) (by decide)
          have e3 : mDec1 M p l j o P 3 = M 3 := rfl
          refine A.aload_k 0 rfl rfl rfl d_md_decree_221 ?_
          refine A.aload_k 0 rfl rfl rfl d_md_decree_222 ?_
          refine A.iload_k 1 rfl rfl d_md_decree_223 ?_
          refine A.callV1 s_md_132 ?_ (Nat.le_of_ble_eq_true rfl) (Nat.le_of_ble_eq_true rfl) (Nat.le_of_ble_eq_true rfl) d_md_decree_224 rfl (c_md_before hM4 (by omega) ?_)
          · apply Exists.intro
            exact hM4.1
          dsimp only [psh]
          rw [befM_congr e3]
          refine A.iload_k 1 rfl rfl d_md_decree_227 ?_
          refine A.iload_k 3 rfl rfl d_md_decree_228 ?_
          refine A.callV3 s_md_135 ?_ (Nat.le_of_ble_eq_true rfl) (Nat.le_of_ble_eq_true rfl) (Nat.le_of_ble_eq_true rfl) d_md_decree_229 rfl (c_md_wallI hM4 wf3 ho ((befM_in M p p).imp_right (fun z => by obtain ⟨a, y1, y2⟩ := z; exact ⟨a, by omega, y2⟩)) (Or.inr ⟨p, hp, rfl⟩) (fun G5 hM5 hF5 => ?_))
          · apply Exists.intro
            exact hM4.1
          dsimp only [psh]
          refine A.aload_k 0 rfl rfl rfl d_md_decree_232 ?_
          refine A.iload_k 1 rfl rfl d_md_decree_233 ?_
          refine A.aload_k 0 rfl rfl rfl d_md_decree_234 ?_
          refine A.iload_k 1 rfl rfl d_md_decree_235 ?_
          refine A.callV1 s_md_139 ?_ (Nat.le_of_ble_eq_true rfl) (Nat.le_of_ble_eq_true rfl) (Nat.le_of_ble_eq_true rfl) d_md_decree_236 rfl (c_md_behind hM5 (wf3.wall ho).1 hn2 hp ?_)
          · apply Exists.intro
            exact hM5.1
          dsimp only [psh]
          rw [behM_congr ((wallI_3 _ _ _).trans e3)]
          refine A.iload_k 3 rfl rfl d_md_decree_239 ?_
          refine A.callV3 s_md_135 ?_ (Nat.le_of_ble_eq_true rfl) (Nat.le_of_ble_eq_true rfl) (Nat.le_of_ble_eq_true rfl) d_md_decree_240 rfl (c_md_wallI hM5 (wf3.wall ho) ho (Or.inr ⟨p, hp, rfl⟩) ((behM_in M p _ _).imp_right (fun z => by obtain ⟨a, y1, y2, y3⟩ := z; exact ⟨a, by omega, y3⟩)) (fun G6 hM6 hF6 => ?_))
          · apply Exists.intro
            exact hM5.1
          dsimp only [psh]
          refine A.iload_k 2 rfl rfl d_md_decree_243 ?_
          refine A.iret d_md_decree_244 rfl ?_
          exact h1 G6 S2 C2 hM6 ((hF4.tr hF5).tr hF6)
        · exact absurd (by decide) c133
      | succ k ih =>
        intro j G2 S2 C2 v5 co hk hM2 hF2 hco
        have ej : b - j = k + 1 := by omega
        have J : ∀ v : Int32, v = lstY (yrD (M 9) p b j) p b (k + 1) → A 5 M_md_decree 160 [some (.ref 100), some (.int (nI p)), some (.int (nI b)), some (.int (nI o)), some (.int (nI (k + 1))), v5] [.int v] G2 kc ks Q := by
          intro v hv
          refine A.istore (Nat.le_of_ble_eq_true rfl) rfl d_md_decree_160 ?_
          dsimp only [List.set]
          refine A.aload_k 0 rfl rfl rfl d_md_decree_162 ?_
          apply A.getfield f_md_31 d_md_decree_163
          · repeat first | exact up_s | refine up_e (by decide) ?_ | exact hM2.1 | exact hM2.2.1 _ rfl
          · rfl
          refine A.iconst (v := 4) rfl d_md_decree_166 ?_
          refine A.iload_k 1 rfl rfl d_md_decree_167 ?_
          refine A.imul d_md_decree_168 ?_
          refine A.iload rfl d_md_decree_169 ?_
          refine A.iadd d_md_decree_171 ?_
          apply A.iaload (j := 4 * p + (k + 1)) d_md_decree_172
          · repeat first | exact up_s | refine up_e (by decide) ?_ | exact hM2.1 | exact hM2.2.1 _ rfl
          · exact ix4 (by omega) (by omega)
          · show 4 * p + (k + 1) < 96; omega
          refine A.iload rfl d_md_decree_173 ?_
          refine A.icmp_ge 191 (by decide) d_md_decree_175 (fun c175 => ?_) (fun c175 => ?_)
          · refine A.iincm (n := 4) rfl (Nat.le_of_ble_eq_true rfl) d_md_decree_191 ?_
            dsimp only [List.set]
            refine A.goto 131 (by decide) d_md_decree_194 ?_
            rw [nI_pred]
            refine ih (j + 1) _ S2 C2 _ co (by omega) ?_ (by first | exact hF2 | exact hF2.up (by decide) (by decide)) hco
            rw [yrD_s, ej]
            subst hv
            first | (rw [if_pos (show lstY (yrD (M 9) p b j) p b (k + 1) ≤ yrD (M 9) p b j (4 * p + (k + 1)) from c175)]; exact hM2) | (rw [if_neg (show ¬ lstY (yrD (M 9) p b j) p b (k + 1) ≤ yrD (M 9) p b j (4 * p + (k + 1)) from c175)]; have z := hM2.arr 9 rfl (upd (yrD (M 9) p b j) (4 * p + (k + 1)) (lstY (yrD (M 9) p b j) p b (k + 1))); rw [bx_uu] at z; exact z)
          · refine A.aload_k 0 rfl rfl rfl d_md_decree_178 ?_
            apply A.getfield f_md_31 d_md_decree_179
            · repeat first | exact up_s | refine up_e (by decide) ?_ | exact hM2.1 | exact hM2.2.1 _ rfl
            · rfl
            refine A.iconst (v := 4) rfl d_md_decree_182 ?_
            refine A.iload_k 1 rfl rfl d_md_decree_183 ?_
            refine A.imul d_md_decree_184 ?_
            refine A.iload rfl d_md_decree_185 ?_
            refine A.iadd d_md_decree_187 ?_
            refine A.iload rfl d_md_decree_188 ?_
            apply A.iastore (j := 4 * p + (k + 1)) d_md_decree_190
            · repeat first | exact up_s | refine up_e (by decide) ?_ | exact hM2.1 | exact hM2.2.1 _ rfl
            · first | decide | omega
            · exact ix4 (by omega) (by omega)
            · show 4 * p + (k + 1) < 96; omega
            refine A.iincm (n := 4) rfl (Nat.le_of_ble_eq_true rfl) d_md_decree_191 ?_
            dsimp only [List.set]
            refine A.goto 131 (by decide) d_md_decree_194 ?_
            rw [nI_pred]
            refine ih (j + 1) _ S2 C2 _ co (by omega) ?_ (by first | exact hF2 | exact hF2.up (by decide) (by decide)) hco
            rw [yrD_s, ej]
            subst hv
            first | (rw [if_pos (show lstY (yrD (M 9) p b j) p b (k + 1) ≤ yrD (M 9) p b j (4 * p + (k + 1)) from c175)]; exact hM2) | (rw [if_neg (show ¬ lstY (yrD (M 9) p b j) p b (k + 1) ≤ yrD (M 9) p b j (4 * p + (k + 1)) from c175)]; have z := hM2.arr 9 rfl (upd (yrD (M 9) p b j) (4 * p + (k + 1)) (lstY (yrD (M 9) p b j) p b (k + 1))); rw [bx_uu] at z; exact z)
        refine A.iload rfl d_md_decree_131 ?_
        refine A.if_le 197 (by decide) d_md_decree_133 (fun c133 => ?_) (fun c133 => ?_)
        · exact absurd c133 (nI_nle (by omega) (by omega))
        refine A.iload rfl d_md_decree_136 ?_
        refine A.iload_k 2 rfl rfl d_md_decree_138 ?_
        refine A.icmp_ne 147 (by decide) d_md_decree_139 (fun c139 => ?_) (fun c139 => ?_)
        · have hk3 : k + 1 < b := by
            rcases Nat.lt_or_ge (k + 1) b with y | y
            · exact y
            · have : k + 1 = b := by omega
              exact absurd (by rw [this]) c139
          refine A.aload_k 0 rfl rfl rfl d_md_decree_147 ?_
          apply A.getfield f_md_31 d_md_decree_148
          · repeat first | exact up_s | refine up_e (by decide) ?_ | exact hM2.1 | exact hM2.2.1 _ rfl
          · rfl
          refine A.iconst (v := 4) rfl d_md_decree_151 ?_
          refine A.iload_k 1 rfl rfl d_md_decree_152 ?_
          refine A.imul d_md_decree_153 ?_
          refine A.iload rfl d_md_decree_154 ?_
          refine A.iadd d_md_decree_156 ?_
          refine A.iconst (v := 1) rfl d_md_decree_157 ?_
          refine A.iadd d_md_decree_158 ?_
          apply A.iaload (j := 4 * p + (k + 1) + 1) d_md_decree_159
          · repeat first | exact up_s | refine up_e (by decide) ?_ | exact hM2.1 | exact hM2.2.1 _ rfl
          · exact ix4s (by omega) (by omega)
          · show 4 * p + (k + 1) + 1 < 96; omega
          refine J _ ?_
          unfold lstY
          first | (rw [if_pos c139]) | (rw [if_neg c139]; rfl)
        · refine A.bipush (v := 40) rfl d_md_decree_142 ?_
          refine A.goto 160 (by decide) d_md_decree_144 ?_
          refine J _ ?_
          unfold lstY
          first | (rw [if_pos c139]) | (rw [if_neg c139]; rfl)
    -- each other one pays to the builder
    have loopP : ∀ (k i : Nat) (G2 : AHp) (S2 : MS) (C2 : Nat → Int64), i + k = l + 2 → 1 ≤ k → MH G2 (va_up M 1 (payC M p b o P (upd (M 1) o (M 1 o - cstM M p)) i)) S2 C2 → S2 25 = P → FrM G G2 → A 5 M_md_decree 60 [some (.ref 100), some (.int (nI p)), some (.int (nI b)), some (.int (nI o)), some (.int (nI i)), none] [] G2 kc ks Q := by
      intro k
      induction k with
      | zero => intro i G2 S2 C2 _ y2; omega
      | succ k ih =>
        intro i G2 S2 C2 hk _ hM2 hS2 hF2
        refine A.iload rfl d_md_decree_60 ?_
        refine A.aload_k 0 rfl rfl rfl d_md_decree_62 ?_
        apply A.getfield f_md_25 d_md_decree_63
        · repeat first | exact up_s | refine up_e (by decide) ?_ | exact hM2.1 | exact hM2.2.1 _ rfl | exact hM2.2.2.1 _ rfl
        · rfl
        refine A.iload_k 1 rfl rfl d_md_decree_66 ?_
        apply A.iaload (j := p) d_md_decree_67
        · repeat first | exact up_s | refine up_e (by decide) ?_ | exact hM2.1 | exact hM2.2.1 _ rfl | exact hM2.2.2.1 _ rfl
        · exact ep
        · show p < 24; omega
        rw [show va_up M 1 (payC M p b o P (upd (M 1) o (M 1 o - cstM M p)) i) 7 p = nI l from el]
        refine A.icmp_gt 128 (by decide) d_md_decree_68 (fun c68 => ?_) (fun c68 => ?_)
        · refine A.iload_k 2 rfl rfl d_md_decree_128 ?_
          refine A.istore (Nat.le_of_ble_eq_true rfl) rfl d_md_decree_129 ?_
          dsimp only [List.set]
          have y3 : i = l + 1 := by
            have := (nI_ltI (by omega) (by omega)).mp c68
            omega
          subst y3
          refine loopY b 0 G2 S2 C2 none _ (by omega) ?_ hF2 rfl
          have e9 : va_up (va_up M 1 (payC M p b o P (upd (M 1) o (M 1 o - cstM M p)) (l + 1))) 9 (yrD (M 9) p b 0) = va_up M 1 (payC M p b o P (upd (M 1) o (M 1 o - cstM M p)) (l + 1)) := by
            funext q
            show (if q = 9 then M 9 else _) = _
            by_cases e : q = 9
            · rw [if_pos e, e]; rfl
            · rw [if_neg e]
          rw [e9]
          exact hM2
        · have y3 : i ≤ l := Nat.le_of_not_lt (fun z => c68 (nI_lt z (by omega)))
          refine A.iload rfl d_md_decree_71 ?_
          refine A.iload_k 2 rfl rfl d_md_decree_73 ?_
          refine A.icmp_ne 80 (by decide) d_md_decree_74 (fun c74 => ?_) (fun c74 => ?_)
          · obtain ⟨w, hw1, hw2⟩ := hh (4 * p + i)
            refine A.aload_k 0 rfl rfl rfl d_md_decree_80 ?_
            apply A.getfield f_md_9 d_md_decree_81
            · repeat first | exact up_s | refine up_e (by decide) ?_ | exact hM2.1 | exact hM2.2.1 _ rfl | exact hM2.2.2.1 _ rfl
            · rfl
            refine A.aload_k 0 rfl rfl rfl d_md_decree_84 ?_
            apply A.getfield f_md_28 d_md_decree_85
            · repeat first | exact up_s | refine up_e (by decide) ?_ | exact hM2.1 | exact hM2.2.1 _ rfl | exact hM2.2.2.1 _ rfl
            · rfl
            refine A.iconst (v := 4) rfl d_md_decree_88 ?_
            refine A.iload_k 1 rfl rfl d_md_decree_89 ?_
            refine A.imul d_md_decree_90 ?_
            refine A.iload rfl d_md_decree_91 ?_
            refine A.iadd d_md_decree_93 ?_
            apply A.iaload (j := 4 * p + i) d_md_decree_94
            · repeat first | exact up_s | refine up_e (by decide) ?_ | exact hM2.1 | exact hM2.2.1 _ rfl | exact hM2.2.2.1 _ rfl
            · exact ix4 (by omega) (by omega)
            · show 4 * p + i < 96; omega
            refine A.dup2 rfl rfl d_md_decree_95 ?_
            apply A.iaload (j := hN (M 8 (4 * p + i))) d_md_decree_96
            · repeat first | exact up_s | refine up_e (by decide) ?_ | exact hM2.1 | exact hM2.2.1 _ rfl | exact hM2.2.2.1 _ rfl
            · show (M 8 (4 * p + i)).toInt = _; rw [hw2, hN_nI (by omega)]; exact ixn (by omega)
            · rw [hw2, hN_nI (by omega)]; exact hw1
            refine A.aload_k 0 rfl rfl rfl d_md_decree_97 ?_
            apply A.getfield f_md_68 d_md_decree_98
            · repeat first | exact up_s | refine up_e (by decide) ?_ | exact hM2.1 | exact hM2.2.1 _ rfl | exact hM2.2.2.1 _ rfl
            · rfl
            refine A.iload rfl d_md_decree_101 ?_
            apply A.iaload (j := i) d_md_decree_103
            · repeat first | exact up_s | refine up_e (by decide) ?_ | exact hM2.1 | exact hM2.2.1 _ rfl | exact hM2.2.2.1 _ rfl
            · exact ixn (by omega)
            · show i < 4; omega
            rw [hS2]
            refine A.isub d_md_decree_104 ?_
            apply A.iastore (j := hN (M 8 (4 * p + i))) d_md_decree_105
            · repeat first | exact up_s | refine up_e (by decide) ?_ | exact hM2.1 | exact hM2.2.1 _ rfl | exact hM2.2.2.1 _ rfl
            · first | decide | omega
            · show (M 8 (4 * p + i)).toInt = _; rw [hw2, hN_nI (by omega)]; exact ixn (by omega)
            · rw [hw2, hN_nI (by omega)]; exact hw1
            refine A.aload_k 0 rfl rfl rfl d_md_decree_106 ?_
            apply A.getfield f_md_9 d_md_decree_107
            · repeat first | exact up_s | refine up_e (by decide) ?_ | exact hM2.1 | exact hM2.2.1 _ rfl | exact hM2.2.2.1 _ rfl
            · rfl
            refine A.iload_k 3 rfl rfl d_md_decree_110 ?_
            refine A.dup2 rfl rfl d_md_decree_111 ?_
            apply A.iaload (j := o) d_md_decree_112
            · repeat first | exact up_s | refine up_e (by decide) ?_ | exact hM2.1 | exact hM2.2.1 _ rfl | exact hM2.2.2.1 _ rfl
            · exact ixn (by omega)
            · exact ho
            refine A.aload_k 0 rfl rfl rfl d_md_decree_113 ?_
            apply A.getfield f_md_68 d_md_decree_114
            · repeat first | exact up_s | refine up_e (by decide) ?_ | exact hM2.1 | exact hM2.2.1 _ rfl | exact hM2.2.2.1 _ rfl
            · rfl
            refine A.iload rfl d_md_decree_117 ?_
            apply A.iaload (j := i) d_md_decree_119
            · repeat first | exact up_s | refine up_e (by decide) ?_ | exact hM2.1 | exact hM2.2.1 _ rfl | exact hM2.2.2.1 _ rfl
            · exact ixn (by omega)
            · show i < 4; omega
            rw [hS2]
            refine A.iadd d_md_decree_120 ?_
            apply A.iastore (j := o) d_md_decree_121
            · repeat first | exact up_s | refine up_e (by decide) ?_ | exact hM2.1 | exact hM2.2.1 _ rfl | exact hM2.2.2.1 _ rfl
            · first | decide | omega
            · exact ixn (by omega)
            · exact ho
            refine A.iincp (n := 4) rfl (Nat.le_of_ble_eq_true rfl) d_md_decree_122 ?_
            dsimp only [List.set]
            refine A.goto 60 (by decide) d_md_decree_125 ?_
            rw [nI_1]
            refine ih (i + 1) _ S2 C2 (by omega) (by omega) ?_ hS2 (by first | exact hF2 | exact (hF2.up (by decide) (by decide)).up (by decide) (by decide))
            rw [payC_s]
            first | (rw [if_pos c74]; exact hM2) | (rw [if_neg c74]; have z := hM2.arr2 1 rfl (aI 20 (upd (payC M p b o P (upd (M 1) o (M 1 o - cstM M p)) i) (hN (M 8 (4 * p + i))) (payC M p b o P (upd (M 1) o (M 1 o - cstM M p)) i (hN (M 8 (4 * p + i))) - P i))) (upd (upd (payC M p b o P (upd (M 1) o (M 1 o - cstM M p)) i) (hN (M 8 (4 * p + i))) (payC M p b o P (upd (M 1) o (M 1 o - cstM M p)) i (hN (M 8 (4 * p + i))) - P i)) o (upd (payC M p b o P (upd (M 1) o (M 1 o - cstM M p)) i) (hN (M 8 (4 * p + i))) (payC M p b o P (upd (M 1) o (M 1 o - cstM M p)) i (hN (M 8 (4 * p + i))) - P i) o + P i)); rw [bx_uu] at z; exact z)
          · refine A.goto 122 (by decide) d_md_decree_77 ?_
            refine A.iincp (n := 4) rfl (Nat.le_of_ble_eq_true rfl) d_md_decree_122 ?_
            dsimp only [List.set]
            refine A.goto 60 (by decide) d_md_decree_125 ?_
            rw [nI_1]
            refine ih (i + 1) _ S2 C2 (by omega) (by omega) ?_ hS2 (by first | exact hF2 | exact (hF2.up (by decide) (by decide)).up (by decide) (by decide))
            rw [payC_s]
            first | (rw [if_pos c74]; exact hM2) | (rw [if_neg c74]; have z := hM2.arr2 1 rfl (aI 20 (upd (payC M p b o P (upd (M 1) o (M 1 o - cstM M p)) i) (hN (M 8 (4 * p + i))) (payC M p b o P (upd (M 1) o (M 1 o - cstM M p)) i (hN (M 8 (4 * p + i))) - P i))) (upd (upd (payC M p b o P (upd (M 1) o (M 1 o - cstM M p)) i) (hN (M 8 (4 * p + i))) (payC M p b o P (upd (M 1) o (M 1 o - cstM M p)) i (hN (M 8 (4 * p + i))) - P i)) o (upd (payC M p b o P (upd (M 1) o (M 1 o - cstM M p)) i) (hN (M 8 (4 * p + i))) (payC M p b o P (upd (M 1) o (M 1 o - cstM M p)) i (hN (M 8 (4 * p + i))) - P i) o + P i)); rw [bx_uu] at z; exact z)
    refine A.aload_k 0 rfl rfl rfl d_md_decree_32 ?_
    apply A.getfield f_md_28 d_md_decree_33
    · repeat first | exact up_s | refine up_e (by decide) ?_ | exact hM1.1 | exact hM1.2.1 _ rfl
    · rfl
    refine A.iconst (v := 4) rfl d_md_decree_36 ?_
    refine A.iload_k 1 rfl rfl d_md_decree_37 ?_
    refine A.imul d_md_decree_38 ?_
    refine A.iload_k 2 rfl rfl d_md_decree_39 ?_
    refine A.iadd d_md_decree_40 ?_
    apply A.iaload (j := 4 * p + b) d_md_decree_41
    · repeat first | exact up_s | refine up_e (by decide) ?_ | exact hM1.1 | exact hM1.2.1 _ rfl
    · exact ix4 (by omega) (by omega)
    · show 4 * p + b < 96; omega
    rw [eo]
    refine A.istore_k 3 rfl (Nat.le_of_ble_eq_true rfl) rfl d_md_decree_42 ?_
    dsimp only [List.set]
    refine A.aload_k 0 rfl rfl rfl d_md_decree_43 ?_
    apply A.getfield f_md_9 d_md_decree_44
    · repeat first | exact up_s | refine up_e (by decide) ?_ | exact hM1.1 | exact hM1.2.1 _ rfl
    · rfl
    refine A.iload_k 3 rfl rfl d_md_decree_47 ?_
    refine A.dup2 rfl rfl d_md_decree_48 ?_
    apply A.iaload (j := o) d_md_decree_49
    · repeat first | exact up_s | refine up_e (by decide) ?_ | exact hM1.1 | exact hM1.2.1 _ rfl
    · exact ixn (by omega)
    · exact ho
    refine A.aload_k 0 rfl rfl rfl d_md_decree_50 ?_
    refine A.iload_k 1 rfl rfl d_md_decree_51 ?_
    refine A.callV1 s_md_118 ?_ (Nat.le_of_ble_eq_true rfl) (Nat.le_of_ble_eq_true rfl) (Nat.le_of_ble_eq_true rfl) d_md_decree_52 rfl (c_md_costOf hM1 (by omega) ?_)
    · apply Exists.intro
      repeat first | exact up_s | refine up_e (by decide) ?_ | exact hM1.1 | exact hM1.2.1 _ rfl
    dsimp only [psh]
    refine A.isub d_md_decree_55 ?_
    apply A.iastore (j := o) d_md_decree_56
    · repeat first | exact up_s | refine up_e (by decide) ?_ | exact hM1.1 | exact hM1.2.1 _ rfl
    · first | decide | omega
    · exact ixn (by omega)
    · exact ho
    refine A.iconst (v := 0) rfl d_md_decree_57 ?_
    refine A.istore (Nat.le_of_ble_eq_true rfl) rfl d_md_decree_58 ?_
    dsimp only [List.set]
    exact loopP (l + 2) 0 _ S1 C1 (by omega) (by omega) (hM1.arr 1 rfl _) hS1 (hF1.up (by decide) (by decide))
  refine A.aload_k 0 rfl rfl rfl d_md_decree_0 ?_
  refine A.iload_k 1 rfl rfl d_md_decree_1 ?_
  refine A.callV1 s_md_101 ?_ (Nat.le_of_ble_eq_true rfl) (Nat.le_of_ble_eq_true rfl) (Nat.le_of_ble_eq_true rfl) d_md_decree_2 rfl (c_md_isPlot hM hn hn2 (fun p j1 j2 => ?_) (fun j3 => ?_))
  · apply Exists.intro
    first | exact hM.1 | exact hM.2.1 _ rfl
  · dsimp only [psh]
    refine A.if_eq1 d_md_decree_5 (tgt := 17) (by decide) ?_
    subst j2
    refine A.aload_k 0 rfl rfl rfl d_md_decree_8 ?_
    apply A.getfield f_md_22 d_md_decree_9
    · first | exact hM.1 | exact hM.2.1 _ rfl
    · rfl
    refine A.iload_k 1 rfl rfl d_md_decree_12 ?_
    apply A.iaload (j := p) d_md_decree_13
    · first | exact hM.1 | exact hM.2.1 _ rfl
    · exact ixn (by omega)
    · show p < 24; omega
    refine A.if_eq 19 (by decide) d_md_decree_14 (fun c14 => ?_) (fun c14 => ?_)
    · obtain ⟨l, hl3, el⟩ := hl p
      refine A.aload_k 0 rfl rfl rfl d_md_decree_19 ?_
      refine A.iload_k 1 rfl rfl d_md_decree_20 ?_
      refine A.callV1 s_md_126 ?_ (Nat.le_of_ble_eq_true rfl) (Nat.le_of_ble_eq_true rfl) (Nat.le_of_ble_eq_true rfl) d_md_decree_21 rfl (c_md_parted hM hw' j1 el hl3 (fun z => ?_) (fun b b1 b2 G' S' C' hM' hS hF => ?_))
      · apply Exists.intro
        first | exact hM.1 | exact hM.2.1 _ rfl
      · dsimp only [psh]
        refine A.istore_k 2 rfl (Nat.le_of_ble_eq_true rfl) rfl d_md_decree_24 ?_
        dsimp only [List.set]
        refine A.iload_k 2 rfl rfl d_md_decree_25 ?_
        refine A.iconst (v := -1) rfl d_md_decree_26 ?_
        refine A.icmp_ne 32 (by decide) d_md_decree_27 (fun c27 => ?_) (fun c27 => ?_)
        · first | exact absurd rfl c27 | exact dec2 p l b G' S' C' j1 rfl c14 el hl3 b1 b2 hM' hS hF
        · refine A.iconst (v := -1) rfl d_md_decree_30 ?_
          refine A.iret d_md_decree_31 rfl ?_
          first | exact h2 p l j1 rfl c14 el hl3 z | exact absurd c27 (nI_nm1 (by omega))
      · dsimp only [psh]
        refine A.istore_k 2 rfl (Nat.le_of_ble_eq_true rfl) rfl d_md_decree_24 ?_
        dsimp only [List.set]
        refine A.iload_k 2 rfl rfl d_md_decree_25 ?_
        refine A.iconst (v := -1) rfl d_md_decree_26 ?_
        refine A.icmp_ne 32 (by decide) d_md_decree_27 (fun c27 => ?_) (fun c27 => ?_)
        · first | exact absurd rfl c27 | exact dec2 p l b G' S' C' j1 rfl c14 el hl3 b1 b2 hM' hS hF
        · refine A.iconst (v := -1) rfl d_md_decree_30 ?_
          refine A.iret d_md_decree_31 rfl ?_
          first | exact h2 p l j1 rfl c14 el hl3 z | exact absurd c27 (nI_nm1 (by omega))
    · refine A.iconst (v := -1) rfl d_md_decree_17 ?_
      refine A.iret d_md_decree_18 rfl ?_
      first | exact h0 (fun z => by obtain ⟨p, y1, y2, y3⟩ := z; exact j3 p y1 y2) | exact h0 (fun z => by obtain ⟨p', y1, y2, y3⟩ := z; have := nI_inj (by omega) (by omega) y2; subst this; exact c14 y3)
  · dsimp only [psh]
    refine A.if_eq0 17 (by decide) d_md_decree_5 ?_
    refine A.iconst (v := -1) rfl d_md_decree_17 ?_
    refine A.iret d_md_decree_18 rfl ?_
    first | exact h0 (fun z => by obtain ⟨p, y1, y2, y3⟩ := z; exact j3 p y1 y2) | exact h0 (fun z => by obtain ⟨p', y1, y2, y3⟩ := z; have := nI_inj (by omega) (by omega) y2; subst this; exact c14 y3)
end MODEL4
end
