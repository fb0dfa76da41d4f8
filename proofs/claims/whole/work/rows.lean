section
-- ===== PART A: goes FIRST, ahead of the names: the tables' words, and 'selects' of the private methods out of them =====
/-- a private method of a class that the tables say can be made, by its rows of tables_1 -/
def lw_okq (q : MethodName × Nat) : Prop := (q.1.cls ≠ "java/lang/invoke/MethodHandle" ∧ q.1.cls ≠ "java/lang/invoke/VarHandle") ∧ Cond.instantiable q.1.cls q.2 ∈ tables_1 ∧ Cond.privateMethod q.1 ∈ tables_1 ∧ Cond.instanceMethod q.1 ∈ tables_1
theorem lw_p0 : lw_okq (⟨"AfterFire", "give", "(II)V"⟩, 12) := ⟨⟨by decide +kernel, by decide +kernel⟩, List.mem_of_getElem? (i := 21) (by decide +kernel), List.mem_of_getElem? (i := 208) (by decide +kernel), List.mem_of_getElem? (i := 209) (by decide +kernel)⟩
theorem lw_p1 : lw_okq (⟨"AfterFire", "streetAt", "(I)LAfterFire$Street;"⟩, 12) := ⟨⟨by decide +kernel, by decide +kernel⟩, List.mem_of_getElem? (i := 21) (by decide +kernel), List.mem_of_getElem? (i := 216) (by decide +kernel), List.mem_of_getElem? (i := 217) (by decide +kernel)⟩
theorem lw_p2 : lw_okq (⟨"AfterFire$Street", "append", "(LAfterFire$Plot;)Z"⟩, 2) := ⟨⟨by decide +kernel, by decide +kernel⟩, List.mem_of_getElem? (i := 141) (by decide +kernel), List.mem_of_getElem? (i := 295) (by decide +kernel), List.mem_of_getElem? (i := 296) (by decide +kernel)⟩
theorem lw_p3 : lw_okq (⟨"java/util/ArrayList", "add", "(Ljava/lang/Object;[Ljava/lang/Object;I)V"⟩, 3) := ⟨⟨by decide +kernel, by decide +kernel⟩, List.mem_of_getElem? (i := 29) (by decide +kernel), List.mem_of_getElem? (i := 344) (by decide +kernel), List.mem_of_getElem? (i := 345) (by decide +kernel)⟩
theorem lw_p4 : lw_okq (⟨"java/util/ArrayList", "grow", "()[Ljava/lang/Object;"⟩, 3) := ⟨⟨by decide +kernel, by decide +kernel⟩, List.mem_of_getElem? (i := 29) (by decide +kernel), List.mem_of_getElem? (i := 348) (by decide +kernel), List.mem_of_getElem? (i := 349) (by decide +kernel)⟩
theorem lw_p5 : lw_okq (⟨"java/util/ArrayList", "grow", "(I)[Ljava/lang/Object;"⟩, 3) := ⟨⟨by decide +kernel, by decide +kernel⟩, List.mem_of_getElem? (i := 29) (by decide +kernel), List.mem_of_getElem? (i := 352) (by decide +kernel), List.mem_of_getElem? (i := 353) (by decide +kernel)⟩
theorem lw_p6 : lw_okq (⟨"AfterFire", "plotAt", "(I)LAfterFire$Plot;"⟩, 12) := ⟨⟨by decide +kernel, by decide +kernel⟩, List.mem_of_getElem? (i := 21) (by decide +kernel), List.mem_of_getElem? (i := 403) (by decide +kernel), List.mem_of_getElem? (i := 404) (by decide +kernel)⟩
theorem lw_p7 : lw_okq (⟨"AfterFire$Chain", "append", "(III)Z"⟩, 4) := ⟨⟨by decide +kernel, by decide +kernel⟩, List.mem_of_getElem? (i := 230) (by decide +kernel), List.mem_of_getElem? (i := 408) (by decide +kernel), List.mem_of_getElem? (i := 409) (by decide +kernel)⟩
theorem lw_p8 : lw_okq (⟨"AfterFire$Chain", "yearsAt", "(I)I"⟩, 4) := ⟨⟨by decide +kernel, by decide +kernel⟩, List.mem_of_getElem? (i := 230) (by decide +kernel), List.mem_of_getElem? (i := 412) (by decide +kernel), List.mem_of_getElem? (i := 413) (by decide +kernel)⟩
theorem lw_p9 : lw_okq (⟨"AfterFire$Chain", "reaches", "(I)Z"⟩, 4) := ⟨⟨by decide +kernel, by decide +kernel⟩, List.mem_of_getElem? (i := 230) (by decide +kernel), List.mem_of_getElem? (i := 416) (by decide +kernel), List.mem_of_getElem? (i := 417) (by decide +kernel)⟩
theorem lw_p10 : lw_okq (⟨"AfterFire$Chain", "leases", "()I"⟩, 4) := ⟨⟨by decide +kernel, by decide +kernel⟩, List.mem_of_getElem? (i := 230) (by decide +kernel), List.mem_of_getElem? (i := 421) (by decide +kernel), List.mem_of_getElem? (i := 422) (by decide +kernel)⟩
theorem lw_p11 : lw_okq (⟨"AfterFire$Plot", "yearlyWorth", "()I"⟩, 9) := ⟨⟨by decide +kernel, by decide +kernel⟩, List.mem_of_getElem? (i := 224) (by decide +kernel), List.mem_of_getElem? (i := 437) (by decide +kernel), List.mem_of_getElem? (i := 438) (by decide +kernel)⟩
theorem lw_p12 : lw_okq (⟨"AfterFire$Chain", "interestOf", "(II)I"⟩, 4) := ⟨⟨by decide +kernel, by decide +kernel⟩, List.mem_of_getElem? (i := 230) (by decide +kernel), List.mem_of_getElem? (i := 446) (by decide +kernel), List.mem_of_getElem? (i := 447) (by decide +kernel)⟩
theorem lw_p13 : lw_okq (⟨"AfterFire", "findBuilder", "(LAfterFire$Plot;)I"⟩, 12) := ⟨⟨by decide +kernel, by decide +kernel⟩, List.mem_of_getElem? (i := 21) (by decide +kernel), List.mem_of_getElem? (i := 454) (by decide +kernel), List.mem_of_getElem? (i := 455) (by decide +kernel)⟩
theorem lw_p14 : lw_okq (⟨"AfterFire", "costOf", "(LAfterFire$Plot;)I"⟩, 12) := ⟨⟨by decide +kernel, by decide +kernel⟩, List.mem_of_getElem? (i := 21) (by decide +kernel), List.mem_of_getElem? (i := 458) (by decide +kernel), List.mem_of_getElem? (i := 459) (by decide +kernel)⟩
theorem lw_p15 : lw_okq (⟨"AfterFire$Chain", "personAt", "(I)I"⟩, 4) := ⟨⟨by decide +kernel, by decide +kernel⟩, List.mem_of_getElem? (i := 230) (by decide +kernel), List.mem_of_getElem? (i := 462) (by decide +kernel), List.mem_of_getElem? (i := 463) (by decide +kernel)⟩
def lw_privs_1 : List (MethodName × Nat) := [(⟨"AfterFire", "give", "(II)V"⟩, 12), (⟨"AfterFire", "streetAt", "(I)LAfterFire$Street;"⟩, 12), (⟨"AfterFire$Street", "append", "(LAfterFire$Plot;)Z"⟩, 2), (⟨"java/util/ArrayList", "add", "(Ljava/lang/Object;[Ljava/lang/Object;I)V"⟩, 3), (⟨"java/util/ArrayList", "grow", "()[Ljava/lang/Object;"⟩, 3), (⟨"java/util/ArrayList", "grow", "(I)[Ljava/lang/Object;"⟩, 3), (⟨"AfterFire", "plotAt", "(I)LAfterFire$Plot;"⟩, 12), (⟨"AfterFire$Chain", "append", "(III)Z"⟩, 4), (⟨"AfterFire$Chain", "yearsAt", "(I)I"⟩, 4), (⟨"AfterFire$Chain", "reaches", "(I)Z"⟩, 4), (⟨"AfterFire$Chain", "leases", "()I"⟩, 4), (⟨"AfterFire$Plot", "yearlyWorth", "()I"⟩, 9), (⟨"AfterFire$Chain", "interestOf", "(II)I"⟩, 4), (⟨"AfterFire", "findBuilder", "(LAfterFire$Plot;)I"⟩, 12), (⟨"AfterFire", "costOf", "(LAfterFire$Plot;)I"⟩, 12), (⟨"AfterFire$Chain", "personAt", "(I)I"⟩, 4)]
theorem lw_r1 : ∀ q ∈ lw_privs_1, lw_okq q := List.forall_mem_cons.mpr ⟨lw_p0, List.forall_mem_cons.mpr ⟨lw_p1, List.forall_mem_cons.mpr ⟨lw_p2, List.forall_mem_cons.mpr ⟨lw_p3, List.forall_mem_cons.mpr ⟨lw_p4, List.forall_mem_cons.mpr ⟨lw_p5, List.forall_mem_cons.mpr ⟨lw_p6, List.forall_mem_cons.mpr ⟨lw_p7, List.forall_mem_cons.mpr ⟨lw_p8, List.forall_mem_cons.mpr ⟨lw_p9, List.forall_mem_cons.mpr ⟨lw_p10, List.forall_mem_cons.mpr ⟨lw_p11, List.forall_mem_cons.mpr ⟨lw_p12, List.forall_mem_cons.mpr ⟨lw_p13, List.forall_mem_cons.mpr ⟨lw_p14, List.forall_mem_cons.mpr ⟨lw_p15, fun _ h => absurd h List.not_mem_nil⟩⟩⟩⟩⟩⟩⟩⟩⟩⟩⟩⟩⟩⟩⟩⟩
theorem lw_p16 : lw_okq (⟨"AfterFire$Shares", "divide", "(LAfterFire$Plot;II)V"⟩, 2) := ⟨⟨by decide +kernel, by decide +kernel⟩, List.mem_of_getElem? (i := 58) (by decide +kernel), List.mem_of_getElem? (i := 466) (by decide +kernel), List.mem_of_getElem? (i := 467) (by decide +kernel)⟩
theorem lw_p17 : lw_okq (⟨"AfterFire$Shares", "divideByInterest", "(LAfterFire$Plot;IJ)V"⟩, 2) := ⟨⟨by decide +kernel, by decide +kernel⟩, List.mem_of_getElem? (i := 58) (by decide +kernel), List.mem_of_getElem? (i := 472) (by decide +kernel), List.mem_of_getElem? (i := 473) (by decide +kernel)⟩
theorem lw_p18 : lw_okq (⟨"AfterFire$Shares", "placeOfMostCutOff", "()I"⟩, 2) := ⟨⟨by decide +kernel, by decide +kernel⟩, List.mem_of_getElem? (i := 58) (by decide +kernel), List.mem_of_getElem? (i := 476) (by decide +kernel), List.mem_of_getElem? (i := 477) (by decide +kernel)⟩
theorem lw_p19 : lw_okq (⟨"AfterFire$Shares", "partOf", "(I)I"⟩, 2) := ⟨⟨by decide +kernel, by decide +kernel⟩, List.mem_of_getElem? (i := 58) (by decide +kernel), List.mem_of_getElem? (i := 481) (by decide +kernel), List.mem_of_getElem? (i := 482) (by decide +kernel)⟩
theorem lw_p20 : lw_okq (⟨"AfterFire", "payForBuilding", "(LAfterFire$Plot;I)V"⟩, 12) := ⟨⟨by decide +kernel, by decide +kernel⟩, List.mem_of_getElem? (i := 21) (by decide +kernel), List.mem_of_getElem? (i := 490) (by decide +kernel), List.mem_of_getElem? (i := 491) (by decide +kernel)⟩
theorem lw_p21 : lw_okq (⟨"AfterFire", "move", "(III)V"⟩, 12) := ⟨⟨by decide +kernel, by decide +kernel⟩, List.mem_of_getElem? (i := 21) (by decide +kernel), List.mem_of_getElem? (i := 494) (by decide +kernel), List.mem_of_getElem? (i := 495) (by decide +kernel)⟩
theorem lw_p22 : lw_okq (⟨"AfterFire$Chain", "prolong", "(II)V"⟩, 4) := ⟨⟨by decide +kernel, by decide +kernel⟩, List.mem_of_getElem? (i := 230) (by decide +kernel), List.mem_of_getElem? (i := 498) (by decide +kernel), List.mem_of_getElem? (i := 499) (by decide +kernel)⟩
theorem lw_p23 : lw_okq (⟨"AfterFire$Plot", "raise", "(II)V"⟩, 9) := ⟨⟨by decide +kernel, by decide +kernel⟩, List.mem_of_getElem? (i := 224) (by decide +kernel), List.mem_of_getElem? (i := 502) (by decide +kernel), List.mem_of_getElem? (i := 503) (by decide +kernel)⟩
theorem lw_p24 : lw_okq (⟨"AfterFire", "settleWall", "(LAfterFire$Wall;I)V"⟩, 12) := ⟨⟨by decide +kernel, by decide +kernel⟩, List.mem_of_getElem? (i := 21) (by decide +kernel), List.mem_of_getElem? (i := 506) (by decide +kernel), List.mem_of_getElem? (i := 507) (by decide +kernel)⟩
theorem lw_p25 : lw_okq (⟨"AfterFire$Wall", "hasBothSides", "()Z"⟩, 4) := ⟨⟨by decide +kernel, by decide +kernel⟩, List.mem_of_getElem? (i := 319) (by decide +kernel), List.mem_of_getElem? (i := 510) (by decide +kernel), List.mem_of_getElem? (i := 511) (by decide +kernel)⟩
theorem lw_p26 : lw_okq (⟨"AfterFire$Plot", "isThere", "()Z"⟩, 9) := ⟨⟨by decide +kernel, by decide +kernel⟩, List.mem_of_getElem? (i := 224) (by decide +kernel), List.mem_of_getElem? (i := 514) (by decide +kernel), List.mem_of_getElem? (i := 515) (by decide +kernel)⟩
theorem lw_p27 : lw_okq (⟨"AfterFire$Wall", "isPaid", "()Z"⟩, 4) := ⟨⟨by decide +kernel, by decide +kernel⟩, List.mem_of_getElem? (i := 319) (by decide +kernel), List.mem_of_getElem? (i := 518) (by decide +kernel), List.mem_of_getElem? (i := 519) (by decide +kernel)⟩
theorem lw_p28 : lw_okq (⟨"AfterFire$Wall", "lesserDepth", "()I"⟩, 4) := ⟨⟨by decide +kernel, by decide +kernel⟩, List.mem_of_getElem? (i := 319) (by decide +kernel), List.mem_of_getElem? (i := 522) (by decide +kernel), List.mem_of_getElem? (i := 523) (by decide +kernel)⟩
theorem lw_p29 : lw_okq (⟨"AfterFire", "widenInto", "(LAfterFire$Plot;I)I"⟩, 12) := ⟨⟨by decide +kernel, by decide +kernel⟩, List.mem_of_getElem? (i := 21) (by decide +kernel), List.mem_of_getElem? (i := 531) (by decide +kernel), List.mem_of_getElem? (i := 532) (by decide +kernel)⟩
theorem lw_p30 : lw_okq (⟨"AfterFire$Plot", "lose", "(I)V"⟩, 9) := ⟨⟨by decide +kernel, by decide +kernel⟩, List.mem_of_getElem? (i := 224) (by decide +kernel), List.mem_of_getElem? (i := 535) (by decide +kernel), List.mem_of_getElem? (i := 536) (by decide +kernel)⟩
theorem lw_p31 : lw_okq (⟨"AfterFire$Chain", "end", "()V"⟩, 4) := ⟨⟨by decide +kernel, by decide +kernel⟩, List.mem_of_getElem? (i := 230) (by decide +kernel), List.mem_of_getElem? (i := 539) (by decide +kernel), List.mem_of_getElem? (i := 540) (by decide +kernel)⟩
def lw_privs_2 : List (MethodName × Nat) := [(⟨"AfterFire$Shares", "divide", "(LAfterFire$Plot;II)V"⟩, 2), (⟨"AfterFire$Shares", "divideByInterest", "(LAfterFire$Plot;IJ)V"⟩, 2), (⟨"AfterFire$Shares", "placeOfMostCutOff", "()I"⟩, 2), (⟨"AfterFire$Shares", "partOf", "(I)I"⟩, 2), (⟨"AfterFire", "payForBuilding", "(LAfterFire$Plot;I)V"⟩, 12), (⟨"AfterFire", "move", "(III)V"⟩, 12), (⟨"AfterFire$Chain", "prolong", "(II)V"⟩, 4), (⟨"AfterFire$Plot", "raise", "(II)V"⟩, 9), (⟨"AfterFire", "settleWall", "(LAfterFire$Wall;I)V"⟩, 12), (⟨"AfterFire$Wall", "hasBothSides", "()Z"⟩, 4), (⟨"AfterFire$Plot", "isThere", "()Z"⟩, 9), (⟨"AfterFire$Wall", "isPaid", "()Z"⟩, 4), (⟨"AfterFire$Wall", "lesserDepth", "()I"⟩, 4), (⟨"AfterFire", "widenInto", "(LAfterFire$Plot;I)I"⟩, 12), (⟨"AfterFire$Plot", "lose", "(I)V"⟩, 9), (⟨"AfterFire$Chain", "end", "()V"⟩, 4)]
theorem lw_r2 : ∀ q ∈ lw_privs_2, lw_okq q := List.forall_mem_cons.mpr ⟨lw_p16, List.forall_mem_cons.mpr ⟨lw_p17, List.forall_mem_cons.mpr ⟨lw_p18, List.forall_mem_cons.mpr ⟨lw_p19, List.forall_mem_cons.mpr ⟨lw_p20, List.forall_mem_cons.mpr ⟨lw_p21, List.forall_mem_cons.mpr ⟨lw_p22, List.forall_mem_cons.mpr ⟨lw_p23, List.forall_mem_cons.mpr ⟨lw_p24, List.forall_mem_cons.mpr ⟨lw_p25, List.forall_mem_cons.mpr ⟨lw_p26, List.forall_mem_cons.mpr ⟨lw_p27, List.forall_mem_cons.mpr ⟨lw_p28, List.forall_mem_cons.mpr ⟨lw_p29, List.forall_mem_cons.mpr ⟨lw_p30, List.forall_mem_cons.mpr ⟨lw_p31, fun _ h => absurd h List.not_mem_nil⟩⟩⟩⟩⟩⟩⟩⟩⟩⟩⟩⟩⟩⟩⟩⟩
theorem lw_p32 : lw_okq (⟨"AfterFire", "forfeitBurned", "()I"⟩, 12) := ⟨⟨by decide +kernel, by decide +kernel⟩, List.mem_of_getElem? (i := 21) (by decide +kernel), List.mem_of_getElem? (i := 547) (by decide +kernel), List.mem_of_getElem? (i := 548) (by decide +kernel)⟩
theorem lw_p33 : lw_okq (⟨"AfterFire$Chain", "passYear", "()V"⟩, 4) := ⟨⟨by decide +kernel, by decide +kernel⟩, List.mem_of_getElem? (i := 230) (by decide +kernel), List.mem_of_getElem? (i := 551) (by decide +kernel), List.mem_of_getElem? (i := 552) (by decide +kernel)⟩
theorem lw_p34 : lw_okq (⟨"AfterFire$Chest", "endYear", "()V"⟩, 5) := ⟨⟨by decide +kernel, by decide +kernel⟩, List.mem_of_getElem? (i := 105) (by decide +kernel), List.mem_of_getElem? (i := 555) (by decide +kernel), List.mem_of_getElem? (i := 556) (by decide +kernel)⟩
theorem lw_p35 : lw_okq (⟨"AfterFire", "planBricks", "(I)Z"⟩, 12) := ⟨⟨by decide +kernel, by decide +kernel⟩, List.mem_of_getElem? (i := 21) (by decide +kernel), List.mem_of_getElem? (i := 567) (by decide +kernel), List.mem_of_getElem? (i := 568) (by decide +kernel)⟩
theorem lw_p36 : lw_okq (⟨"AfterFire$BrickPlan", "clear", "()V"⟩, 8) := ⟨⟨by decide +kernel, by decide +kernel⟩, List.mem_of_getElem? (i := 72) (by decide +kernel), List.mem_of_getElem? (i := 571) (by decide +kernel), List.mem_of_getElem? (i := 572) (by decide +kernel)⟩
theorem lw_p37 : lw_okq (⟨"AfterFire$BrickPlan", "add", "(ILAfterFire$Plot;I)Z"⟩, 8) := ⟨⟨by decide +kernel, by decide +kernel⟩, List.mem_of_getElem? (i := 72) (by decide +kernel), List.mem_of_getElem? (i := 575) (by decide +kernel), List.mem_of_getElem? (i := 576) (by decide +kernel)⟩
theorem lw_p38 : lw_okq (⟨"AfterFire$BrickPlan", "choose", "()V"⟩, 8) := ⟨⟨by decide +kernel, by decide +kernel⟩, List.mem_of_getElem? (i := 72) (by decide +kernel), List.mem_of_getElem? (i := 580) (by decide +kernel), List.mem_of_getElem? (i := 581) (by decide +kernel)⟩
theorem lw_p39 : lw_okq (⟨"AfterFire$BrickPlan", "keepIfBetter", "(II)V"⟩, 8) := ⟨⟨by decide +kernel, by decide +kernel⟩, List.mem_of_getElem? (i := 72) (by decide +kernel), List.mem_of_getElem? (i := 587) (by decide +kernel), List.mem_of_getElem? (i := 588) (by decide +kernel)⟩
theorem lw_p40 : lw_okq (⟨"AfterFire$Chest", "addWork", "(I)I"⟩, 5) := ⟨⟨by decide +kernel, by decide +kernel⟩, List.mem_of_getElem? (i := 105) (by decide +kernel), List.mem_of_getElem? (i := 599) (by decide +kernel), List.mem_of_getElem? (i := 600) (by decide +kernel)⟩
theorem lw_p41 : lw_okq (⟨"AfterFire$Street", "canMeasure", "(I)Z"⟩, 2) := ⟨⟨by decide +kernel, by decide +kernel⟩, List.mem_of_getElem? (i := 141) (by decide +kernel), List.mem_of_getElem? (i := 615) (by decide +kernel), List.mem_of_getElem? (i := 616) (by decide +kernel)⟩
theorem lw_p42 : lw_okq (⟨"AfterFire$Survey", "measure", "(LAfterFire$Street;I)V"⟩, 1) := ⟨⟨by decide +kernel, by decide +kernel⟩, List.mem_of_getElem? (i := 130) (by decide +kernel), List.mem_of_getElem? (i := 621) (by decide +kernel), List.mem_of_getElem? (i := 622) (by decide +kernel)⟩
theorem lw_p43 : lw_okq (⟨"AfterFire$Survey", "fillRow", "(LAfterFire$Street;II)V"⟩, 1) := ⟨⟨by decide +kernel, by decide +kernel⟩, List.mem_of_getElem? (i := 130) (by decide +kernel), List.mem_of_getElem? (i := 627) (by decide +kernel), List.mem_of_getElem? (i := 628) (by decide +kernel)⟩
theorem lw_p44 : lw_okq (⟨"AfterFire$Street", "frontOf", "(I)I"⟩, 2) := ⟨⟨by decide +kernel, by decide +kernel⟩, List.mem_of_getElem? (i := 141) (by decide +kernel), List.mem_of_getElem? (i := 631) (by decide +kernel), List.mem_of_getElem? (i := 632) (by decide +kernel)⟩
theorem lw_p45 : lw_okq (⟨"AfterFire$Street", "stakeGap", "(II)I"⟩, 2) := ⟨⟨by decide +kernel, by decide +kernel⟩, List.mem_of_getElem? (i := 141) (by decide +kernel), List.mem_of_getElem? (i := 645) (by decide +kernel), List.mem_of_getElem? (i := 646) (by decide +kernel)⟩
theorem lw_p46 : lw_okq (⟨"AfterFire$Survey", "leastQuarrel", "(LAfterFire$Street;I)I"⟩, 1) := ⟨⟨by decide +kernel, by decide +kernel⟩, List.mem_of_getElem? (i := 130) (by decide +kernel), List.mem_of_getElem? (i := 650) (by decide +kernel), List.mem_of_getElem? (i := 651) (by decide +kernel)⟩
theorem lw_p47 : lw_okq (⟨"AfterFire$Survey", "endOf", "(LAfterFire$Street;III)I"⟩, 1) := ⟨⟨by decide +kernel, by decide +kernel⟩, List.mem_of_getElem? (i := 130) (by decide +kernel), List.mem_of_getElem? (i := 654) (by decide +kernel), List.mem_of_getElem? (i := 655) (by decide +kernel)⟩
def lw_privs_3 : List (MethodName × Nat) := [(⟨"AfterFire", "forfeitBurned", "()I"⟩, 12), (⟨"AfterFire$Chain", "passYear", "()V"⟩, 4), (⟨"AfterFire$Chest", "endYear", "()V"⟩, 5), (⟨"AfterFire", "planBricks", "(I)Z"⟩, 12), (⟨"AfterFire$BrickPlan", "clear", "()V"⟩, 8), (⟨"AfterFire$BrickPlan", "add", "(ILAfterFire$Plot;I)Z"⟩, 8), (⟨"AfterFire$BrickPlan", "choose", "()V"⟩, 8), (⟨"AfterFire$BrickPlan", "keepIfBetter", "(II)V"⟩, 8), (⟨"AfterFire$Chest", "addWork", "(I)I"⟩, 5), (⟨"AfterFire$Street", "canMeasure", "(I)Z"⟩, 2), (⟨"AfterFire$Survey", "measure", "(LAfterFire$Street;I)V"⟩, 1), (⟨"AfterFire$Survey", "fillRow", "(LAfterFire$Street;II)V"⟩, 1), (⟨"AfterFire$Street", "frontOf", "(I)I"⟩, 2), (⟨"AfterFire$Street", "stakeGap", "(II)I"⟩, 2), (⟨"AfterFire$Survey", "leastQuarrel", "(LAfterFire$Street;I)I"⟩, 1), (⟨"AfterFire$Survey", "endOf", "(LAfterFire$Street;III)I"⟩, 1)]
theorem lw_r3 : ∀ q ∈ lw_privs_3, lw_okq q := List.forall_mem_cons.mpr ⟨lw_p32, List.forall_mem_cons.mpr ⟨lw_p33, List.forall_mem_cons.mpr ⟨lw_p34, List.forall_mem_cons.mpr ⟨lw_p35, List.forall_mem_cons.mpr ⟨lw_p36, List.forall_mem_cons.mpr ⟨lw_p37, List.forall_mem_cons.mpr ⟨lw_p38, List.forall_mem_cons.mpr ⟨lw_p39, List.forall_mem_cons.mpr ⟨lw_p40, List.forall_mem_cons.mpr ⟨lw_p41, List.forall_mem_cons.mpr ⟨lw_p42, List.forall_mem_cons.mpr ⟨lw_p43, List.forall_mem_cons.mpr ⟨lw_p44, List.forall_mem_cons.mpr ⟨lw_p45, List.forall_mem_cons.mpr ⟨lw_p46, List.forall_mem_cons.mpr ⟨lw_p47, fun _ h => absurd h List.not_mem_nil⟩⟩⟩⟩⟩⟩⟩⟩⟩⟩⟩⟩⟩⟩⟩⟩
theorem lw_p48 : lw_okq (⟨"AfterFire$Survey", "borderBehind", "(LAfterFire$Street;II)I"⟩, 1) := ⟨⟨by decide +kernel, by decide +kernel⟩, List.mem_of_getElem? (i := 130) (by decide +kernel), List.mem_of_getElem? (i := 662) (by decide +kernel), List.mem_of_getElem? (i := 663) (by decide +kernel)⟩
theorem lw_p49 : lw_okq (⟨"AfterFire$Plot", "paidWalls", "()I"⟩, 9) := ⟨⟨by decide +kernel, by decide +kernel⟩, List.mem_of_getElem? (i := 224) (by decide +kernel), List.mem_of_getElem? (i := 670) (by decide +kernel), List.mem_of_getElem? (i := 671) (by decide +kernel)⟩
theorem lw_p50 : lw_okq (⟨"AfterFire$Chain", "rentAt", "(I)I"⟩, 4) := ⟨⟨by decide +kernel, by decide +kernel⟩, List.mem_of_getElem? (i := 230) (by decide +kernel), List.mem_of_getElem? (i := 680) (by decide +kernel), List.mem_of_getElem? (i := 681) (by decide +kernel)⟩
theorem lw_p51 : lw_okq (⟨"AfterFire", "countIn", "(I)I"⟩, 12) := ⟨⟨by decide +kernel, by decide +kernel⟩, List.mem_of_getElem? (i := 21) (by decide +kernel), List.mem_of_getElem? (i := 692) (by decide +kernel), List.mem_of_getElem? (i := 693) (by decide +kernel)⟩
theorem lw_p52 : lw_okq (⟨"AfterFireModel", "onStreet", "(I)I"⟩, 32) := ⟨⟨by decide +kernel, by decide +kernel⟩, List.mem_of_getElem? (i := 696) (by decide +kernel), List.mem_of_getElem? (i := 815) (by decide +kernel), List.mem_of_getElem? (i := 816) (by decide +kernel)⟩
theorem lw_p53 : lw_okq (⟨"AfterFireModel", "isPlot", "(I)Z"⟩, 32) := ⟨⟨by decide +kernel, by decide +kernel⟩, List.mem_of_getElem? (i := 696) (by decide +kernel), List.mem_of_getElem? (i := 823) (by decide +kernel), List.mem_of_getElem? (i := 824) (by decide +kernel)⟩
theorem lw_p54 : lw_okq (⟨"AfterFireModel", "isPlace", "(II)Z"⟩, 32) := ⟨⟨by decide +kernel, by decide +kernel⟩, List.mem_of_getElem? (i := 696) (by decide +kernel), List.mem_of_getElem? (i := 839) (by decide +kernel), List.mem_of_getElem? (i := 840) (by decide +kernel)⟩
theorem lw_p55 : lw_okq (⟨"AfterFireModel", "isGone", "(I)Z"⟩, 32) := ⟨⟨by decide +kernel, by decide +kernel⟩, List.mem_of_getElem? (i := 696) (by decide +kernel), List.mem_of_getElem? (i := 843) (by decide +kernel), List.mem_of_getElem? (i := 844) (by decide +kernel)⟩
theorem lw_p56 : lw_okq (⟨"AfterFireModel", "interestOf", "(II)I"⟩, 32) := ⟨⟨by decide +kernel, by decide +kernel⟩, List.mem_of_getElem? (i := 696) (by decide +kernel), List.mem_of_getElem? (i := 847) (by decide +kernel), List.mem_of_getElem? (i := 848) (by decide +kernel)⟩
theorem lw_p57 : lw_okq (⟨"AfterFireModel", "parted", "(I)I"⟩, 32) := ⟨⟨by decide +kernel, by decide +kernel⟩, List.mem_of_getElem? (i := 696) (by decide +kernel), List.mem_of_getElem? (i := 856) (by decide +kernel), List.mem_of_getElem? (i := 857) (by decide +kernel)⟩
theorem lw_p58 : lw_okq (⟨"AfterFireModel", "builder", "(I)I"⟩, 32) := ⟨⟨by decide +kernel, by decide +kernel⟩, List.mem_of_getElem? (i := 696) (by decide +kernel), List.mem_of_getElem? (i := 860) (by decide +kernel), List.mem_of_getElem? (i := 861) (by decide +kernel)⟩
theorem lw_p59 : lw_okq (⟨"AfterFireModel", "costOf", "(I)I"⟩, 32) := ⟨⟨by decide +kernel, by decide +kernel⟩, List.mem_of_getElem? (i := 696) (by decide +kernel), List.mem_of_getElem? (i := 864) (by decide +kernel), List.mem_of_getElem? (i := 865) (by decide +kernel)⟩
theorem lw_p60 : lw_okq (⟨"AfterFireModel", "before", "(I)I"⟩, 32) := ⟨⟨by decide +kernel, by decide +kernel⟩, List.mem_of_getElem? (i := 696) (by decide +kernel), List.mem_of_getElem? (i := 873) (by decide +kernel), List.mem_of_getElem? (i := 874) (by decide +kernel)⟩
theorem lw_p61 : lw_okq (⟨"AfterFireModel", "wall", "(III)V"⟩, 32) := ⟨⟨by decide +kernel, by decide +kernel⟩, List.mem_of_getElem? (i := 696) (by decide +kernel), List.mem_of_getElem? (i := 877) (by decide +kernel), List.mem_of_getElem? (i := 878) (by decide +kernel)⟩
theorem lw_p62 : lw_okq (⟨"AfterFireModel", "behind", "(I)I"⟩, 32) := ⟨⟨by decide +kernel, by decide +kernel⟩, List.mem_of_getElem? (i := 696) (by decide +kernel), List.mem_of_getElem? (i := 881) (by decide +kernel), List.mem_of_getElem? (i := 882) (by decide +kernel)⟩
theorem lw_p63 : lw_okq (⟨"AfterFireModel", "ends", "(II)V"⟩, 32) := ⟨⟨by decide +kernel, by decide +kernel⟩, List.mem_of_getElem? (i := 696) (by decide +kernel), List.mem_of_getElem? (i := 889) (by decide +kernel), List.mem_of_getElem? (i := 890) (by decide +kernel)⟩
def lw_privs_4 : List (MethodName × Nat) := [(⟨"AfterFire$Survey", "borderBehind", "(LAfterFire$Street;II)I"⟩, 1), (⟨"AfterFire$Plot", "paidWalls", "()I"⟩, 9), (⟨"AfterFire$Chain", "rentAt", "(I)I"⟩, 4), (⟨"AfterFire", "countIn", "(I)I"⟩, 12), (⟨"AfterFireModel", "onStreet", "(I)I"⟩, 32), (⟨"AfterFireModel", "isPlot", "(I)Z"⟩, 32), (⟨"AfterFireModel", "isPlace", "(II)Z"⟩, 32), (⟨"AfterFireModel", "isGone", "(I)Z"⟩, 32), (⟨"AfterFireModel", "interestOf", "(II)I"⟩, 32), (⟨"AfterFireModel", "parted", "(I)I"⟩, 32), (⟨"AfterFireModel", "builder", "(I)I"⟩, 32), (⟨"AfterFireModel", "costOf", "(I)I"⟩, 32), (⟨"AfterFireModel", "before", "(I)I"⟩, 32), (⟨"AfterFireModel", "wall", "(III)V"⟩, 32), (⟨"AfterFireModel", "behind", "(I)I"⟩, 32), (⟨"AfterFireModel", "ends", "(II)V"⟩, 32)]
theorem lw_r4 : ∀ q ∈ lw_privs_4, lw_okq q := List.forall_mem_cons.mpr ⟨lw_p48, List.forall_mem_cons.mpr ⟨lw_p49, List.forall_mem_cons.mpr ⟨lw_p50, List.forall_mem_cons.mpr ⟨lw_p51, List.forall_mem_cons.mpr ⟨lw_p52, List.forall_mem_cons.mpr ⟨lw_p53, List.forall_mem_cons.mpr ⟨lw_p54, List.forall_mem_cons.mpr ⟨lw_p55, List.forall_mem_cons.mpr ⟨lw_p56, List.forall_mem_cons.mpr ⟨lw_p57, List.forall_mem_cons.mpr ⟨lw_p58, List.forall_mem_cons.mpr ⟨lw_p59, List.forall_mem_cons.mpr ⟨lw_p60, List.forall_mem_cons.mpr ⟨lw_p61, List.forall_mem_cons.mpr ⟨lw_p62, List.forall_mem_cons.mpr ⟨lw_p63, fun _ h => absurd h List.not_mem_nil⟩⟩⟩⟩⟩⟩⟩⟩⟩⟩⟩⟩⟩⟩⟩⟩
theorem lw_p64 : lw_okq (⟨"AfterFireModel", "older", "(I)V"⟩, 32) := ⟨⟨by decide +kernel, by decide +kernel⟩, List.mem_of_getElem? (i := 696) (by decide +kernel), List.mem_of_getElem? (i := 897) (by decide +kernel), List.mem_of_getElem? (i := 898) (by decide +kernel)⟩
theorem lw_p65 : lw_okq (⟨"AfterFireModel", "saves", "(I)Z"⟩, 32) := ⟨⟨by decide +kernel, by decide +kernel⟩, List.mem_of_getElem? (i := 696) (by decide +kernel), List.mem_of_getElem? (i := 909) (by decide +kernel), List.mem_of_getElem? (i := 910) (by decide +kernel)⟩
theorem lw_p66 : lw_okq (⟨"AfterFireModel", "canBe", "(III)Z"⟩, 32) := ⟨⟨by decide +kernel, by decide +kernel⟩, List.mem_of_getElem? (i := 696) (by decide +kernel), List.mem_of_getElem? (i := 913) (by decide +kernel), List.mem_of_getElem? (i := 914) (by decide +kernel)⟩
theorem lw_p67 : lw_okq (⟨"AfterFireModel", "dueOf", "(I)I"⟩, 32) := ⟨⟨by decide +kernel, by decide +kernel⟩, List.mem_of_getElem? (i := 696) (by decide +kernel), List.mem_of_getElem? (i := 917) (by decide +kernel), List.mem_of_getElem? (i := 918) (by decide +kernel)⟩
theorem lw_p68 : lw_okq (⟨"AfterFireModel", "quarrels", "(II)I"⟩, 32) := ⟨⟨by decide +kernel, by decide +kernel⟩, List.mem_of_getElem? (i := 696) (by decide +kernel), List.mem_of_getElem? (i := 941) (by decide +kernel), List.mem_of_getElem? (i := 942) (by decide +kernel)⟩
theorem lw_p69 : lw_okq (⟨"AfterFireModel", "from", "(IIII)I"⟩, 32) := ⟨⟨by decide +kernel, by decide +kernel⟩, List.mem_of_getElem? (i := 696) (by decide +kernel), List.mem_of_getElem? (i := 946) (by decide +kernel), List.mem_of_getElem? (i := 947) (by decide +kernel)⟩
theorem lw_p70 : lw_okq (⟨"AfterFireModel", "costs", "(IIIII)I"⟩, 32) := ⟨⟨by decide +kernel, by decide +kernel⟩, List.mem_of_getElem? (i := 696) (by decide +kernel), List.mem_of_getElem? (i := 950) (by decide +kernel), List.mem_of_getElem? (i := 951) (by decide +kernel)⟩
theorem lw_p71 : lw_okq (⟨"AfterFireModel", "wallsOf", "(I)I"⟩, 32) := ⟨⟨by decide +kernel, by decide +kernel⟩, List.mem_of_getElem? (i := 696) (by decide +kernel), List.mem_of_getElem? (i := 965) (by decide +kernel), List.mem_of_getElem? (i := 966) (by decide +kernel)⟩
theorem lw_p72 : lw_okq (⟨"AfterFireModel", "countOf", "(I)I"⟩, 32) := ⟨⟨by decide +kernel, by decide +kernel⟩, List.mem_of_getElem? (i := 696) (by decide +kernel), List.mem_of_getElem? (i := 981) (by decide +kernel), List.mem_of_getElem? (i := 982) (by decide +kernel)⟩
def lw_privs_5 : List (MethodName × Nat) := [(⟨"AfterFireModel", "older", "(I)V"⟩, 32), (⟨"AfterFireModel", "saves", "(I)Z"⟩, 32), (⟨"AfterFireModel", "canBe", "(III)Z"⟩, 32), (⟨"AfterFireModel", "dueOf", "(I)I"⟩, 32), (⟨"AfterFireModel", "quarrels", "(II)I"⟩, 32), (⟨"AfterFireModel", "from", "(IIII)I"⟩, 32), (⟨"AfterFireModel", "costs", "(IIIII)I"⟩, 32), (⟨"AfterFireModel", "wallsOf", "(I)I"⟩, 32), (⟨"AfterFireModel", "countOf", "(I)I"⟩, 32)]
theorem lw_r5 : ∀ q ∈ lw_privs_5, lw_okq q := List.forall_mem_cons.mpr ⟨lw_p64, List.forall_mem_cons.mpr ⟨lw_p65, List.forall_mem_cons.mpr ⟨lw_p66, List.forall_mem_cons.mpr ⟨lw_p67, List.forall_mem_cons.mpr ⟨lw_p68, List.forall_mem_cons.mpr ⟨lw_p69, List.forall_mem_cons.mpr ⟨lw_p70, List.forall_mem_cons.mpr ⟨lw_p71, List.forall_mem_cons.mpr ⟨lw_p72, fun _ h => absurd h List.not_mem_nil⟩⟩⟩⟩⟩⟩⟩⟩⟩
def lw_privs : List (MethodName × Nat) := lw_privs_1 ++ (lw_privs_2 ++ (lw_privs_3 ++ (lw_privs_4 ++ (lw_privs_5))))
def lw_tbl : List Cond := k2_sels lw_privs ++ tables_1
theorem lw_privs_ok : ∀ q ∈ lw_privs, lw_okq q := by
  show ∀ q ∈ lw_privs_1 ++ (lw_privs_2 ++ (lw_privs_3 ++ (lw_privs_4 ++ (lw_privs_5)))), lw_okq q
  exact List.forall_mem_append.mpr ⟨lw_r1, List.forall_mem_append.mpr ⟨lw_r2, List.forall_mem_append.mpr ⟨lw_r3, List.forall_mem_append.mpr ⟨lw_r4, lw_r5⟩⟩⟩⟩
end
section
/-! classes: names, fields, words (by program) -/
def R_af : String := "AfterFire"
def T_af : u_T := fun k => match k with
  | 0 => ("AfterFire", "purses", "[I", true)
  | 1 => ("AfterFire", "plots", "Ljava/util/ArrayList;", true)
  | 2 => ("AfterFire", "streets", "[LAfterFire$Street;", true)
  | 3 => ("AfterFire", "shares", "LAfterFire$Shares;", true)
  | 4 => ("AfterFire", "bricks", "LAfterFire$BrickPlan;", true)
  | 5 => ("AfterFire", "chest", "LAfterFire$Chest;", true)
  | 6 => ("AfterFire", "survey", "LAfterFire$Survey;", true)
  | 7 => ("AfterFire", "now", "I", false)
  | 8 => ("AfterFire", "rate", "I", false)
  | 9 => ("AfterFire", "pay", "I", false)
  | 10 => ("AfterFire", "limit", "I", false)
  | _ => ("AfterFire", "paidByActs", "I", false)
def ty_af : Nat → FieldType := fun k => match k with
  | 0 => .array .int
  | 1 => .object "java/util/ArrayList"
  | 2 => .array (.object "AfterFire$Street")
  | 3 => .object "AfterFire$Shares"
  | 4 => .object "AfterFire$BrickPlan"
  | 5 => .object "AfterFire$Chest"
  | 6 => .object "AfterFire$Survey"
  | 7 => .int
  | 8 => .int
  | 9 => .int
  | 10 => .int
  | _ => .int
theorem nm_af : ∀ a, a < 12 → ∀ b, b < 12 → a ≠ b → (T_af a).2.1 ≠ (T_af b).2.1 := by decide +kernel
theorem tyok_af : ∀ k, k < 12 → parseFieldDescriptor (T_af k).2.2.1 = some (ty_af k) := by decide +kernel
def R_md : String := "AfterFireModel"
def T_md : u_T := fun k => match k with
  | 0 => ("AfterFireModel", "now", "I", false)
  | 1 => ("AfterFireModel", "coins", "[I", true)
  | 2 => ("AfterFireModel", "plots", "I", false)
  | 3 => ("AfterFireModel", "street", "[I", true)
  | 4 => ("AfterFireModel", "front", "[I", true)
  | 5 => ("AfterFireModel", "depth", "[I", true)
  | 6 => ("AfterFireModel", "state", "[I", true)
  | 7 => ("AfterFireModel", "leases", "[I", true)
  | 8 => ("AfterFireModel", "holder", "[I", true)
  | 9 => ("AfterFireModel", "years", "[I", true)
  | 10 => ("AfterFireModel", "rent", "[I", true)
  | 11 => ("AfterFireModel", "builtBy", "[I", true)
  | 12 => ("AfterFireModel", "builtIn", "[I", true)
  | 13 => ("AfterFireModel", "dueIn", "[I", true)
  | 14 => ("AfterFireModel", "wallBy", "[I", true)
  | 15 => ("AfterFireModel", "wallPaid", "[I", true)
  | 16 => ("AfterFireModel", "rate", "I", false)
  | 17 => ("AfterFireModel", "pay", "I", false)
  | 18 => ("AfterFireModel", "limit", "I", false)
  | 19 => ("AfterFireModel", "works", "I", false)
  | 20 => ("AfterFireModel", "left", "[I", true)
  | 21 => ("AfterFireModel", "tax", "I", false)
  | 22 => ("AfterFireModel", "chest", "I", false)
  | 23 => ("AfterFireModel", "paid", "I", false)
  | 24 => ("AfterFireModel", "stakes", "[I", true)
  | 25 => ("AfterFireModel", "parts", "[I", true)
  | 26 => ("AfterFireModel", "cut", "[J", true)
  | 27 => ("AfterFireModel", "few", "[I", true)
  | 28 => ("AfterFireModel", "best", "I", false)
  | 29 => ("AfterFireModel", "bestHeap", "I", false)
  | 30 => ("AfterFireModel", "deeds", "[I", true)
  | _ => ("AfterFireModel", "least", "[I", true)
def ty_md : Nat → FieldType := fun k => match k with
  | 0 => .int
  | 1 => .array .int
  | 2 => .int
  | 3 => .array .int
  | 4 => .array .int
  | 5 => .array .int
  | 6 => .array .int
  | 7 => .array .int
  | 8 => .array .int
  | 9 => .array .int
  | 10 => .array .int
  | 11 => .array .int
  | 12 => .array .int
  | 13 => .array .int
  | 14 => .array .int
  | 15 => .array .int
  | 16 => .int
  | 17 => .int
  | 18 => .int
  | 19 => .int
  | 20 => .array .int
  | 21 => .int
  | 22 => .int
  | 23 => .int
  | 24 => .array .int
  | 25 => .array .int
  | 26 => .array .long
  | 27 => .array .int
  | 28 => .int
  | 29 => .int
  | 30 => .array .int
  | _ => .array .int
theorem nm_md : ∀ a, a < 32 → ∀ b, b < 32 → a ≠ b → (T_md a).2.1 ≠ (T_md b).2.1 := by decide +kernel
theorem tyok_md : ∀ k, k < 32 → parseFieldDescriptor (T_md k).2.2.1 = some (ty_md k) := by decide +kernel
def R_bp : String := "AfterFire$BrickPlan"
def T_bp : u_T := fun k => match k with
  | 0 => ("AfterFire$BrickPlan", "numbers", "[I", true)
  | 1 => ("AfterFire$BrickPlan", "needs", "[I", true)
  | 2 => ("AfterFire$BrickPlan", "worths", "[I", true)
  | 3 => ("AfterFire$BrickPlan", "rooms", "[I", true)
  | 4 => ("AfterFire$BrickPlan", "worthFrom", "[I", true)
  | 5 => ("AfterFire$BrickPlan", "size", "I", false)
  | 6 => ("AfterFire$BrickPlan", "bestWorth", "I", false)
  | _ => ("AfterFire$BrickPlan", "bestBits", "I", false)
def ty_bp : Nat → FieldType := fun k => match k with
  | 0 => .array .int
  | 1 => .array .int
  | 2 => .array .int
  | 3 => .array .int
  | 4 => .array .int
  | 5 => .int
  | 6 => .int
  | _ => .int
theorem nm_bp : ∀ a, a < 8 → ∀ b, b < 8 → a ≠ b → (T_bp a).2.1 ≠ (T_bp b).2.1 := by decide +kernel
theorem tyok_bp : ∀ k, k < 8 → parseFieldDescriptor (T_bp k).2.2.1 = some (ty_bp k) := by decide +kernel
def R_ch : String := "AfterFire$Chain"
def T_ch : u_T := fun k => match k with
  | 0 => ("AfterFire$Chain", "persons", "[I", true)
  | 1 => ("AfterFire$Chain", "years", "[I", true)
  | 2 => ("AfterFire$Chain", "rents", "[I", true)
  | _ => ("AfterFire$Chain", "size", "I", false)
def ty_ch : Nat → FieldType := fun k => match k with
  | 0 => .array .int
  | 1 => .array .int
  | 2 => .array .int
  | _ => .int
theorem nm_ch : ∀ a, a < 4 → ∀ b, b < 4 → a ≠ b → (T_ch a).2.1 ≠ (T_ch b).2.1 := by decide +kernel
theorem tyok_ch : ∀ k, k < 4 → parseFieldDescriptor (T_ch k).2.2.1 = some (ty_ch k) := by decide +kernel
def R_ct : String := "AfterFire$Chest"
def T_ct : u_T := fun k => match k with
  | 0 => ("AfterFire$Chest", "unpaid", "[I", true)
  | 1 => ("AfterFire$Chest", "size", "I", false)
  | 2 => ("AfterFire$Chest", "paidWhole", "I", false)
  | 3 => ("AfterFire$Chest", "money", "I", false)
  | _ => ("AfterFire$Chest", "yearlyTax", "I", false)
def ty_ct : Nat → FieldType := fun k => match k with
  | 0 => .array .int
  | 1 => .int
  | 2 => .int
  | 3 => .int
  | _ => .int
theorem nm_ct : ∀ a, a < 5 → ∀ b, b < 5 → a ≠ b → (T_ct a).2.1 ≠ (T_ct b).2.1 := by decide +kernel
theorem tyok_ct : ∀ k, k < 5 → parseFieldDescriptor (T_ct k).2.2.1 = some (ty_ct k) := by decide +kernel
def R_pl : String := "AfterFire$Plot"
def T_pl : u_T := fun k => match k with
  | 0 => ("AfterFire$Plot", "front", "I", true)
  | 1 => ("AfterFire$Plot", "depth", "I", false)
  | 2 => ("AfterFire$Plot", "state", "I", false)
  | 3 => ("AfterFire$Plot", "holders", "LAfterFire$Chain;", true)
  | 4 => ("AfterFire$Plot", "builder", "I", false)
  | 5 => ("AfterFire$Plot", "builtIn", "I", false)
  | 6 => ("AfterFire$Plot", "dueYear", "I", false)
  | 7 => ("AfterFire$Plot", "wallAhead", "LAfterFire$Wall;", false)
  | _ => ("AfterFire$Plot", "wallBehind", "LAfterFire$Wall;", false)
def ty_pl : Nat → FieldType := fun k => match k with
  | 0 => .int
  | 1 => .int
  | 2 => .int
  | 3 => .object "AfterFire$Chain"
  | 4 => .int
  | 5 => .int
  | 6 => .int
  | 7 => .object "AfterFire$Wall"
  | _ => .object "AfterFire$Wall"
theorem nm_pl : ∀ a, a < 9 → ∀ b, b < 9 → a ≠ b → (T_pl a).2.1 ≠ (T_pl b).2.1 := by decide +kernel
theorem tyok_pl : ∀ k, k < 9 → parseFieldDescriptor (T_pl k).2.2.1 = some (ty_pl k) := by decide +kernel
def R_sh : String := "AfterFire$Shares"
def T_sh : u_T := fun k => match k with
  | 0 => ("AfterFire$Shares", "parts", "[I", true)
  | _ => ("AfterFire$Shares", "cutOff", "[J", true)
def ty_sh : Nat → FieldType := fun k => match k with
  | 0 => .array .int
  | _ => .array .long
theorem nm_sh : ∀ a, a < 2 → ∀ b, b < 2 → a ≠ b → (T_sh a).2.1 ≠ (T_sh b).2.1 := by decide +kernel
theorem tyok_sh : ∀ k, k < 2 → parseFieldDescriptor (T_sh k).2.2.1 = some (ty_sh k) := by decide +kernel
def R_sr : String := "AfterFire$Street"
def T_sr : u_T := fun k => match k with
  | 0 => ("AfterFire$Street", "row", "Ljava/util/ArrayList;", true)
  | _ => ("AfterFire$Street", "stakes", "[I", true)
def ty_sr : Nat → FieldType := fun k => match k with
  | 0 => .object "java/util/ArrayList"
  | _ => .array .int
theorem nm_sr : ∀ a, a < 2 → ∀ b, b < 2 → a ≠ b → (T_sr a).2.1 ≠ (T_sr b).2.1 := by decide +kernel
theorem tyok_sr : ∀ k, k < 2 → parseFieldDescriptor (T_sr k).2.2.1 = some (ty_sr k) := by decide +kernel
def R_sv : String := "AfterFire$Survey"
def T_sv : u_T := fun k => match k with
  | _ => ("AfterFire$Survey", "beyond", "[[I", true)
def ty_sv : Nat → FieldType := fun k => match k with
  | _ => .array (.array .int)
theorem nm_sv : ∀ a, a < 1 → ∀ b, b < 1 → a ≠ b → (T_sv a).2.1 ≠ (T_sv b).2.1 := by decide +kernel
theorem tyok_sv : ∀ k, k < 1 → parseFieldDescriptor (T_sv k).2.2.1 = some (ty_sv k) := by decide +kernel
def R_wl : String := "AfterFire$Wall"
def T_wl : u_T := fun k => match k with
  | 0 => ("AfterFire$Wall", "ahead", "LAfterFire$Plot;", true)
  | 1 => ("AfterFire$Wall", "behind", "LAfterFire$Plot;", true)
  | 2 => ("AfterFire$Wall", "price", "I", false)
  | _ => ("AfterFire$Wall", "payer", "I", false)
def ty_wl : Nat → FieldType := fun k => match k with
  | 0 => .object "AfterFire$Plot"
  | 1 => .object "AfterFire$Plot"
  | 2 => .int
  | _ => .int
theorem nm_wl : ∀ a, a < 4 → ∀ b, b < 4 → a ≠ b → (T_wl a).2.1 ≠ (T_wl b).2.1 := by decide +kernel
theorem tyok_wl : ∀ k, k < 4 → parseFieldDescriptor (T_wl k).2.2.1 = some (ty_wl k) := by decide +kernel
def R_al : String := "java/util/ArrayList"
def T_al : u_T := fun k => match k with
  | 0 => ("java/util/AbstractList", "modCount", "I", false)
  | 1 => ("java/util/ArrayList", "elementData", "[Ljava/lang/Object;", false)
  | _ => ("java/util/ArrayList", "size", "I", false)
def ty_al : Nat → FieldType := fun k => match k with
  | 0 => .int
  | 1 => .array (.object "java/lang/Object")
  | _ => .int
theorem nm_al : ∀ a, a < 3 → ∀ b, b < 3 → a ≠ b → (T_al a).2.1 ≠ (T_al b).2.1 := by decide +kernel
theorem tyok_al : ∀ k, k < 3 → parseFieldDescriptor (T_al k).2.2.1 = some (ty_al k) := by decide +kernel
abbrev classes : List vw_C := [(R_af, T_af, 12), (R_md, T_md, 32), (R_bp, T_bp, 8), (R_ch, T_ch, 4), (R_ct, T_ct, 5), (R_pl, T_pl, 9), (R_sh, T_sh, 2), (R_sr, T_sr, 2), (R_sv, T_sv, 1), (R_wl, T_wl, 4), (R_al, T_al, 3)]
/-- a method: its name, its bytes, its locals, its answer's type -/
abbrev MI : Type := MethodName × ByteArray × Nat × Option FieldType
abbrev mcode (y : MI) : ByteArray := y.2.1
abbrev mcls (y : MI) : String := y.1.cls
def M_bp_init : MI := (⟨"AfterFire$BrickPlan", "<init>", "()V"⟩, prog_2_method_1_code, 1, none)
def M_bp_clear : MI := (⟨"AfterFire$BrickPlan", "clear", "()V"⟩, prog_2_method_2_code, 1, none)
def M_bp_add : MI := (⟨"AfterFire$BrickPlan", "add", "(ILAfterFire$Plot;I)Z"⟩, prog_2_method_3_code, 5, (some .boolean))
def M_bp_choose : MI := (⟨"AfterFire$BrickPlan", "choose", "()V"⟩, prog_2_method_4_code, 2, none)
def M_bp_keepIfBetter : MI := (⟨"AfterFire$BrickPlan", "keepIfBetter", "(II)V"⟩, prog_2_method_5_code, 3, none)
def M_bp_search : MI := (⟨"AfterFire$BrickPlan", "search", "(LAfterFire$BrickPlan;IIII)V"⟩, prog_2_method_6_code, 6, none)
def M_ch_init : MI := (⟨"AfterFire$Chain", "<init>", "(I)V"⟩, prog_3_method_1_code, 2, none)
def M_ch_reaches : MI := (⟨"AfterFire$Chain", "reaches", "(I)Z"⟩, prog_3_method_2_code, 2, (some .boolean))
def M_ch_personAt : MI := (⟨"AfterFire$Chain", "personAt", "(I)I"⟩, prog_3_method_3_code, 2, (some .int))
def M_ch_yearsAt : MI := (⟨"AfterFire$Chain", "yearsAt", "(I)I"⟩, prog_3_method_4_code, 2, (some .int))
def M_ch_rentAt : MI := (⟨"AfterFire$Chain", "rentAt", "(I)I"⟩, prog_3_method_5_code, 2, (some .int))
def M_ch_leases : MI := (⟨"AfterFire$Chain", "leases", "()I"⟩, prog_3_method_6_code, 1, (some .int))
def M_ch_append : MI := (⟨"AfterFire$Chain", "append", "(III)Z"⟩, prog_3_method_7_code, 4, (some .boolean))
def M_ch_interestOf : MI := (⟨"AfterFire$Chain", "interestOf", "(II)I"⟩, prog_3_method_8_code, 5, (some .int))
def M_ch_prolong : MI := (⟨"AfterFire$Chain", "prolong", "(II)V"⟩, prog_3_method_9_code, 4, none)
def M_ch_passYear : MI := (⟨"AfterFire$Chain", "passYear", "()V"⟩, prog_3_method_10_code, 2, none)
def M_ch_end : MI := (⟨"AfterFire$Chain", "end", "()V"⟩, prog_3_method_11_code, 1, none)
def M_ct_init : MI := (⟨"AfterFire$Chest", "<init>", "()V"⟩, prog_4_method_1_code, 1, none)
def M_ct_addWork : MI := (⟨"AfterFire$Chest", "addWork", "(I)I"⟩, prog_4_method_2_code, 2, (some .int))
def M_ct_endYear : MI := (⟨"AfterFire$Chest", "endYear", "()V"⟩, prog_4_method_3_code, 1, none)
def M_pl_init : MI := (⟨"AfterFire$Plot", "<init>", "(III)V"⟩, prog_5_method_1_code, 4, none)
def M_pl_yearlyWorth : MI := (⟨"AfterFire$Plot", "yearlyWorth", "()I"⟩, prog_5_method_2_code, 1, (some .int))
def M_pl_isThere : MI := (⟨"AfterFire$Plot", "isThere", "()Z"⟩, prog_5_method_3_code, 1, (some .boolean))
def M_pl_raise : MI := (⟨"AfterFire$Plot", "raise", "(II)V"⟩, prog_5_method_4_code, 3, none)
def M_pl_lose : MI := (⟨"AfterFire$Plot", "lose", "(I)V"⟩, prog_5_method_5_code, 2, none)
def M_pl_paidWalls : MI := (⟨"AfterFire$Plot", "paidWalls", "()I"⟩, prog_5_method_6_code, 2, (some .int))
def M_sh_init : MI := (⟨"AfterFire$Shares", "<init>", "()V"⟩, prog_6_method_1_code, 1, none)
def M_sh_partOf : MI := (⟨"AfterFire$Shares", "partOf", "(I)I"⟩, prog_6_method_2_code, 2, (some .int))
def M_sh_divide : MI := (⟨"AfterFire$Shares", "divide", "(LAfterFire$Plot;II)V"⟩, prog_6_method_3_code, 7, none)
def M_sh_divideByInterest : MI := (⟨"AfterFire$Shares", "divideByInterest", "(LAfterFire$Plot;IJ)V"⟩, prog_6_method_4_code, 9, none)
def M_sh_placeOfMostCutOff : MI := (⟨"AfterFire$Shares", "placeOfMostCutOff", "()I"⟩, prog_6_method_5_code, 3, (some .int))
def M_sr_init : MI := (⟨"AfterFire$Street", "<init>", "()V"⟩, prog_7_method_1_code, 2, none)
def M_sr_append : MI := (⟨"AfterFire$Street", "append", "(LAfterFire$Plot;)Z"⟩, prog_7_method_2_code, 4, (some .boolean))
def M_sr_canMeasure : MI := (⟨"AfterFire$Street", "canMeasure", "(I)Z"⟩, prog_7_method_3_code, 2, (some .boolean))
def M_sr_frontOf : MI := (⟨"AfterFire$Street", "frontOf", "(I)I"⟩, prog_7_method_4_code, 2, (some .int))
def M_sr_stakeGap : MI := (⟨"AfterFire$Street", "stakeGap", "(II)I"⟩, prog_7_method_5_code, 3, (some .int))
def M_sv_init : MI := (⟨"AfterFire$Survey", "<init>", "()V"⟩, prog_8_method_1_code, 1, none)
def M_sv_measure : MI := (⟨"AfterFire$Survey", "measure", "(LAfterFire$Street;I)V"⟩, prog_8_method_2_code, 5, none)
def M_sv_fillRow : MI := (⟨"AfterFire$Survey", "fillRow", "(LAfterFire$Street;II)V"⟩, prog_8_method_3_code, 8, none)
def M_sv_quarrelAt : MI := (⟨"AfterFire$Survey", "quarrelAt", "([III)I"⟩, prog_8_method_4_code, 3, (some .int))
def M_sv_firstBest : MI := (⟨"AfterFire$Survey", "firstBest", "([IIII)I"⟩, prog_8_method_5_code, 7, (some .int))
def M_sv_leastQuarrel : MI := (⟨"AfterFire$Survey", "leastQuarrel", "(LAfterFire$Street;I)I"⟩, prog_8_method_6_code, 3, (some .int))
def M_sv_borderBehind : MI := (⟨"AfterFire$Survey", "borderBehind", "(LAfterFire$Street;II)I"⟩, prog_8_method_7_code, 6, (some .int))
def M_sv_endOf : MI := (⟨"AfterFire$Survey", "endOf", "(LAfterFire$Street;III)I"⟩, prog_8_method_8_code, 6, (some .int))
def M_wl_init : MI := (⟨"AfterFire$Wall", "<init>", "(LAfterFire$Plot;LAfterFire$Plot;)V"⟩, prog_9_method_1_code, 3, none)
def M_wl_isPaid : MI := (⟨"AfterFire$Wall", "isPaid", "()Z"⟩, prog_9_method_2_code, 1, (some .boolean))
def M_wl_hasBothSides : MI := (⟨"AfterFire$Wall", "hasBothSides", "()Z"⟩, prog_9_method_3_code, 1, (some .boolean))
def M_wl_lesserDepth : MI := (⟨"AfterFire$Wall", "lesserDepth", "()I"⟩, prog_9_method_4_code, 1, (some .int))
def M_af_init : MI := (⟨"AfterFire", "<init>", "()V"⟩, prog_1_method_1_code, 2, none)
def M_af_coins : MI := (⟨"AfterFire", "coins", "(II)I"⟩, prog_1_method_2_code, 3, (some .int))
def M_af_plot : MI := (⟨"AfterFire", "plot", "(III)I"⟩, prog_1_method_3_code, 8, (some .int))
def M_af_lease : MI := (⟨"AfterFire", "lease", "(IIII)I"⟩, prog_1_method_4_code, 6, (some .int))
def M_af_rates : MI := (⟨"AfterFire", "rates", "(III)Z"⟩, prog_1_method_5_code, 4, (some .boolean))
def M_af_worth : MI := (⟨"AfterFire", "worth", "(I)I"⟩, prog_1_method_6_code, 3, (some .int))
def M_af_interest : MI := (⟨"AfterFire", "interest", "(II)I"⟩, prog_1_method_7_code, 4, (some .int))
def M_af_bears : MI := (⟨"AfterFire", "bears", "(II)I"⟩, prog_1_method_8_code, 5, (some .int))
def M_af_decree : MI := (⟨"AfterFire", "decree", "(I)I"⟩, prog_1_method_9_code, 5, (some .int))
def M_af_act : MI := (⟨"AfterFire", "act", "(II)I"⟩, prog_1_method_10_code, 6, (some .int))
def M_af_year : MI := (⟨"AfterFire", "year", "()I"⟩, prog_1_method_11_code, 3, (some .int))
def M_af_due : MI := (⟨"AfterFire", "due", "(II)Z"⟩, prog_1_method_12_code, 4, (some .boolean))
def M_af_saved : MI := (⟨"AfterFire", "saved", "(I)I"⟩, prog_1_method_13_code, 2, (some .int))
def M_af_heap : MI := (⟨"AfterFire", "heap", "(I)I"⟩, prog_1_method_14_code, 2, (some .int))
def M_af_works : MI := (⟨"AfterFire", "works", "(I)I"⟩, prog_1_method_15_code, 2, (some .int))
def M_af_tax : MI := (⟨"AfterFire", "tax", "(I)Z"⟩, prog_1_method_16_code, 2, (some .boolean))
def M_af_stake : MI := (⟨"AfterFire", "stake", "(III)Z"⟩, prog_1_method_17_code, 5, (some .boolean))
def M_af_quarrel : MI := (⟨"AfterFire", "quarrel", "(II)I"⟩, prog_1_method_18_code, 4, (some .int))
def M_af_border : MI := (⟨"AfterFire", "border", "(III)I"⟩, prog_1_method_19_code, 5, (some .int))
def M_af_told : MI := (⟨"AfterFire", "told", "(II)I"⟩, prog_1_method_20_code, 4, (some .int))
def M_af_chain : MI := (⟨"AfterFire", "chain", "(III)I"⟩, prog_1_method_21_code, 5, (some .int))
def M_af_has : MI := (⟨"AfterFire", "has", "(I)I"⟩, prog_1_method_22_code, 2, (some .int))
def M_af_count : MI := (⟨"AfterFire", "count", "(I)I"⟩, prog_1_method_23_code, 2, (some .int))
def M_af_within : MI := (⟨"AfterFire", "within", "(III)Z"⟩, prog_1_method_24_code, 3, (some .boolean))
def M_af_isPerson : MI := (⟨"AfterFire", "isPerson", "(I)Z"⟩, prog_1_method_25_code, 1, (some .boolean))
def M_af_isYear : MI := (⟨"AfterFire", "isYear", "(I)Z"⟩, prog_1_method_26_code, 1, (some .boolean))
def M_af_plotAt : MI := (⟨"AfterFire", "plotAt", "(I)LAfterFire$Plot;"⟩, prog_1_method_27_code, 2, (some (.object "AfterFire$Plot")))
def M_af_streetAt : MI := (⟨"AfterFire", "streetAt", "(I)LAfterFire$Street;"⟩, prog_1_method_28_code, 2, (some (.object "AfterFire$Street")))
def M_af_give : MI := (⟨"AfterFire", "give", "(II)V"⟩, prog_1_method_29_code, 3, none)
def M_af_move : MI := (⟨"AfterFire", "move", "(III)V"⟩, prog_1_method_30_code, 4, none)
def M_af_costOf : MI := (⟨"AfterFire", "costOf", "(LAfterFire$Plot;)I"⟩, prog_1_method_31_code, 2, (some .int))
def M_af_countIn : MI := (⟨"AfterFire", "countIn", "(I)I"⟩, prog_1_method_32_code, 4, (some .int))
def M_af_findBuilder : MI := (⟨"AfterFire", "findBuilder", "(LAfterFire$Plot;)I"⟩, prog_1_method_33_code, 5, (some .int))
def M_af_payForBuilding : MI := (⟨"AfterFire", "payForBuilding", "(LAfterFire$Plot;I)V"⟩, prog_1_method_34_code, 6, none)
def M_af_settleWall : MI := (⟨"AfterFire", "settleWall", "(LAfterFire$Wall;I)V"⟩, prog_1_method_35_code, 3, none)
def M_af_widenInto : MI := (⟨"AfterFire", "widenInto", "(LAfterFire$Plot;I)I"⟩, prog_1_method_36_code, 5, (some .int))
def M_af_forfeitBurned : MI := (⟨"AfterFire", "forfeitBurned", "()I"⟩, prog_1_method_37_code, 4, (some .int))
def M_af_planBricks : MI := (⟨"AfterFire", "planBricks", "(I)Z"⟩, prog_1_method_38_code, 5, (some .boolean))
def M_md_init : MI := (⟨"AfterFireModel", "<init>", "()V"⟩, prog_11_method_1_code, 2, none)
def M_md_in : MI := (⟨"AfterFireModel", "in", "(III)Z"⟩, prog_11_method_2_code, 3, (some .boolean))
def M_md_isPlot : MI := (⟨"AfterFireModel", "isPlot", "(I)Z"⟩, prog_11_method_3_code, 2, (some .boolean))
def M_md_isStreet : MI := (⟨"AfterFireModel", "isStreet", "(I)Z"⟩, prog_11_method_4_code, 1, (some .boolean))
def M_md_isGone : MI := (⟨"AfterFireModel", "isGone", "(I)Z"⟩, prog_11_method_5_code, 2, (some .boolean))
def M_md_coins : MI := (⟨"AfterFireModel", "coins", "(II)I"⟩, prog_11_method_6_code, 3, (some .int))
def M_md_onStreet : MI := (⟨"AfterFireModel", "onStreet", "(I)I"⟩, prog_11_method_7_code, 4, (some .int))
def M_md_plot : MI := (⟨"AfterFireModel", "plot", "(III)I"⟩, prog_11_method_8_code, 4, (some .int))
def M_md_lease : MI := (⟨"AfterFireModel", "lease", "(IIII)I"⟩, prog_11_method_9_code, 6, (some .int))
def M_md_rates : MI := (⟨"AfterFireModel", "rates", "(III)Z"⟩, prog_11_method_10_code, 4, (some .boolean))
def M_md_worth : MI := (⟨"AfterFireModel", "worth", "(I)I"⟩, prog_11_method_11_code, 2, (some .int))
def M_md_isPlace : MI := (⟨"AfterFireModel", "isPlace", "(II)Z"⟩, prog_11_method_12_code, 3, (some .boolean))
def M_md_interestOf : MI := (⟨"AfterFireModel", "interestOf", "(II)I"⟩, prog_11_method_13_code, 5, (some .int))
def M_md_interest : MI := (⟨"AfterFireModel", "interest", "(II)I"⟩, prog_11_method_14_code, 3, (some .int))
def M_md_costOf : MI := (⟨"AfterFireModel", "costOf", "(I)I"⟩, prog_11_method_15_code, 2, (some .int))
def M_md_builder : MI := (⟨"AfterFireModel", "builder", "(I)I"⟩, prog_11_method_16_code, 3, (some .int))
def M_md_parted : MI := (⟨"AfterFireModel", "parted", "(I)I"⟩, prog_11_method_17_code, 9, (some .int))
def M_md_bears : MI := (⟨"AfterFireModel", "bears", "(II)I"⟩, prog_11_method_18_code, 3, (some .int))
def M_md_decree : MI := (⟨"AfterFireModel", "decree", "(I)I"⟩, prog_11_method_19_code, 6, (some .int))
def M_md_before : MI := (⟨"AfterFireModel", "before", "(I)I"⟩, prog_11_method_20_code, 4, (some .int))
def M_md_behind : MI := (⟨"AfterFireModel", "behind", "(I)I"⟩, prog_11_method_21_code, 3, (some .int))
def M_md_wall : MI := (⟨"AfterFireModel", "wall", "(III)V"⟩, prog_11_method_22_code, 4, none)
def M_md_act : MI := (⟨"AfterFireModel", "act", "(II)I"⟩, prog_11_method_23_code, 7, (some .int))
def M_md_ends : MI := (⟨"AfterFireModel", "ends", "(II)V"⟩, prog_11_method_24_code, 3, none)
def M_md_year : MI := (⟨"AfterFireModel", "year", "()I"⟩, prog_11_method_25_code, 4, (some .int))
def M_md_older : MI := (⟨"AfterFireModel", "older", "(I)V"⟩, prog_11_method_26_code, 4, none)
def M_md_due : MI := (⟨"AfterFireModel", "due", "(II)Z"⟩, prog_11_method_27_code, 3, (some .boolean))
def M_md_dueOf : MI := (⟨"AfterFireModel", "dueOf", "(I)I"⟩, prog_11_method_28_code, 2, (some .int))
def M_md_canBe : MI := (⟨"AfterFireModel", "canBe", "(III)Z"⟩, prog_11_method_29_code, 8, (some .boolean))
def M_md_saves : MI := (⟨"AfterFireModel", "saves", "(I)Z"⟩, prog_11_method_30_code, 6, (some .boolean))
def M_md_saved : MI := (⟨"AfterFireModel", "saved", "(I)I"⟩, prog_11_method_31_code, 2, (some .int))
def M_md_heap : MI := (⟨"AfterFireModel", "heap", "(I)I"⟩, prog_11_method_32_code, 2, (some .int))
def M_md_works : MI := (⟨"AfterFireModel", "works", "(I)I"⟩, prog_11_method_33_code, 2, (some .int))
def M_md_tax : MI := (⟨"AfterFireModel", "tax", "(I)Z"⟩, prog_11_method_34_code, 2, (some .boolean))
def M_md_stake : MI := (⟨"AfterFireModel", "stake", "(III)Z"⟩, prog_11_method_35_code, 4, (some .boolean))
def M_md_apart : MI := (⟨"AfterFireModel", "apart", "(II)I"⟩, prog_11_method_36_code, 2, (some .int))
def M_md_quarrels : MI := (⟨"AfterFireModel", "quarrels", "(II)I"⟩, prog_11_method_37_code, 6, (some .int))
def M_md_from : MI := (⟨"AfterFireModel", "from", "(IIII)I"⟩, prog_11_method_38_code, 8, (some .int))
def M_md_costs : MI := (⟨"AfterFireModel", "costs", "(IIIII)I"⟩, prog_11_method_39_code, 8, (some .int))
def M_md_quarrel : MI := (⟨"AfterFireModel", "quarrel", "(II)I"⟩, prog_11_method_40_code, 3, (some .int))
def M_md_border : MI := (⟨"AfterFireModel", "border", "(III)I"⟩, prog_11_method_41_code, 8, (some .int))
def M_md_wallsOf : MI := (⟨"AfterFireModel", "wallsOf", "(I)I"⟩, prog_11_method_42_code, 3, (some .int))
def M_md_told : MI := (⟨"AfterFireModel", "told", "(II)I"⟩, prog_11_method_43_code, 3, (some .int))
def M_md_chain : MI := (⟨"AfterFireModel", "chain", "(III)I"⟩, prog_11_method_44_code, 4, (some .int))
def M_md_has : MI := (⟨"AfterFireModel", "has", "(I)I"⟩, prog_11_method_45_code, 2, (some .int))
def M_md_countOf : MI := (⟨"AfterFireModel", "countOf", "(I)I"⟩, prog_11_method_46_code, 4, (some .int))
def M_md_count : MI := (⟨"AfterFireModel", "count", "(I)I"⟩, prog_11_method_47_code, 4, (some .int))
def M_ac_init : MI := (⟨"java/util/AbstractCollection", "<init>", "()V"⟩, prog_17_method_1_code, 1, none)
def M_ab_init : MI := (⟨"java/util/AbstractList", "<init>", "()V"⟩, prog_18_method_1_code, 1, none)
def M_al_init : MI := (⟨"java/util/ArrayList", "<init>", "()V"⟩, prog_19_method_2_code, 1, none)
def M_al_grow : MI := (⟨"java/util/ArrayList", "grow", "(I)[Ljava/lang/Object;"⟩, prog_19_method_6_code, 4, (some (.array (.object "java/lang/Object"))))
def M_al_grow2 : MI := (⟨"java/util/ArrayList", "grow", "()[Ljava/lang/Object;"⟩, prog_19_method_7_code, 1, (some (.array (.object "java/lang/Object"))))
def M_al_size : MI := (⟨"java/util/ArrayList", "size", "()I"⟩, prog_19_method_8_code, 1, (some .int))
def M_al_isEmpty : MI := (⟨"java/util/ArrayList", "isEmpty", "()Z"⟩, prog_19_method_9_code, 1, (some .boolean))
def M_al_elementData : MI := (⟨"java/util/ArrayList", "elementData", "(I)Ljava/lang/Object;"⟩, prog_19_method_18_code, 2, (some (.object "java/lang/Object")))
def M_al_get : MI := (⟨"java/util/ArrayList", "get", "(I)Ljava/lang/Object;"⟩, prog_19_method_20_code, 2, (some (.object "java/lang/Object")))
def M_al_add : MI := (⟨"java/util/ArrayList", "add", "(Ljava/lang/Object;[Ljava/lang/Object;I)V"⟩, prog_19_method_24_code, 4, none)
def M_al_add2 : MI := (⟨"java/util/ArrayList", "add", "(Ljava/lang/Object;)Z"⟩, prog_19_method_25_code, 2, (some .boolean))
def M_ar_copyOf : MI := (⟨"java/util/Arrays", "copyOf", "([Ljava/lang/Object;I)[Ljava/lang/Object;"⟩, prog_20_method_119_code, 2, (some (.array (.object "java/lang/Object"))))
def M_ar_copyOf2 : MI := (⟨"java/util/Arrays", "copyOf", "([Ljava/lang/Object;ILjava/lang/Class;)[Ljava/lang/Object;"⟩, prog_20_method_120_code, 4, (some (.array (.object "java/lang/Object"))))
def M_ob_checkIndex : MI := (⟨"java/util/Objects", "checkIndex", "(II)I"⟩, prog_23_method_17_code, 2, (some .int))
def M_as_newLength : MI := (⟨"jdk/internal/util/ArraysSupport", "newLength", "(III)I"⟩, prog_26_method_27_code, 4, (some .int))
def M_as_hugeLength : MI := (⟨"jdk/internal/util/ArraysSupport", "hugeLength", "(II)I"⟩, prog_26_method_28_code, 3, (some .int))
def M_pr_checkIndex : MI := (⟨"jdk/internal/util/Preconditions", "checkIndex", "(IILjava/util/function/BiFunction;)I"⟩, prog_27_method_11_code, 3, (some .int))
def M_lw_law : MI := (x, code, maxLocals, ret)
end
section
/-! THE ABSTRACT MACHINE: cells have names (numbers), the heap is a function of names; one judgement A hides the machine. Names below 16 are kept for what was there before: 1 the JDK's shared empty array, 2 the script, 3 the mirror of Object[]. -/
def gt : List Cond := lw_tbl.filter goodWord
theorem gt_in {w : Cond} (h : w ∈ lw_tbl) (hg : goodWord w = true) : w ∈ gt := List.mem_filter.mpr ⟨h, hg⟩
theorem gt_good : GoodIn gt gt := fun w h => ⟨h, good_of_word (List.mem_filter.mp h).2⟩
def isNest : Cond → Bool
  | .fieldLinkNest .. => true
  | .methodLinkNest .. => true
  | .castable .. => true
  | _ => false
def nt : List Cond := lw_tbl.filter isNest
theorem nt_in {w : Cond} (h : w ∈ lw_tbl) (hg : isNest w = true) : w ∈ nt := List.mem_filter.mpr ⟨h, hg⟩
def AOI (U : State) : Prop := (Cond.arrayOver (.array .int)).before #[] U = true
theorem AOI.moved {u U : State} (hvm : u.vm.Alike U.vm) (h : AOI u) : AOI U := by
  unfold AOI Cond.before Cond.holds at h ⊢
  simp only [Cond.value] at h ⊢
  have hf : ∀ n, U.vm.findClass n = u.vm.findClass n := fun n => hvm.findClass n none
  simp only [hf]
  cases hc : u.vm.findClass (FieldType.array .int).toString with
  | none => rw [hc] at h; exact h
  | some comp =>
    rw [hc] at h
    simp only [Option.bind_some, beq_iff_eq] at h ⊢
    rw [Option.bind_eq_some_iff] at h ⊢
    obtain ⟨c, h1, h2⟩ := h
    have e1 := va_idx_bare U.vm comp
    have e2 := va_idx_bare u.vm comp
    have e3 : U.vm.bare = u.vm.bare := by first | exact hvm.bare_eq | exact hvm.bare_eq.symm
    rw [e3] at e1
    refine ⟨c, (e1.symm.trans e2).trans h1, ?_⟩
    rw [Option.map_eq_some_iff] at h2 ⊢
    obtain ⟨k, hk, h3⟩ := h2
    obtain ⟨k', hk', he⟩ := hvm.2.2 _ _ hk
    refine ⟨k', hk', ?_⟩
    rw [he]
    exact h3
/-- the words that no list keeps: links between nest mates, casts, arrays of references -/
def NX (s : State) : Prop := (∀ w ∈ nt, va_Nw w s) ∧ va_AO "AfterFire$Street" s ∧ va_AO "java/lang/Object" s ∧ AOI s ∧ va_Dc s
theorem NX.warm {s U : State} (hW : s.WarmedH U.vm) (h : NX s) : NX U := by
  refine ⟨fun w hw => ?_, h.2.1.moved hW.alike, h.2.2.1.moved hW.alike, h.2.2.2.1.moved hW.alike, h.2.2.2.2.moved hW.alike⟩
  have h1 := h.1 w hw
  have h2 := (List.mem_filter.mp hw).2
  cases w <;> first | (cases h2; done) | exact va_Nw.warmF hW h1 | exact va_Nw.warmM hW h1 | exact va_Nw.warmC hW h1
abbrev ACell : Type := (FieldType × vp_A) ⊕ (Nat × List Value)
abbrev AHp : Type := Nat → Option ACell
abbrev aI (n : Nat) (f : Nat → Int32) : ACell := .inl (.int, n, .inl f)
abbrev aL (n : Nat) (f : Nat → Int64) : ACell := .inl (.long, n, .inr (.inl f))
abbrev aR (ty : FieldType) (n : Nat) (f : Nat → Option Nat) : ACell := .inl (ty, n, .inr (.inr (.inr (.inr f))))
abbrev oB (ci : Nat) (fs : List Value) : ACell := .inr (ci, fs)
def tv (φ : Nat → Nat) : Value → Value
  | .ref a => .ref (φ a)
  | v => v
def ta (φ : Nat → Nat) : vp_A → vp_A
  | (n, .inr (.inr (.inr (.inr f)))) => (n, .inr (.inr (.inr (.inr (fun j => (f j).map φ)))))
  | x => x
def Cz (s : State) (φ : Nat → Nat) (c : ACell) (e : va_E) : Prop := match c with
  | .inl (ty, x) => ∃ cA : ClassId, e = .inl (cA, ta φ x) ∧ ArrOfT s cA ty ∧ va_RA s cA ty
  | .inr (ci, fs) => e = .inr (ci, fs.map (tv φ))
def okn (G : AHp) (a : Nat) : Prop := a < 16 ∨ G a ≠ none
def okv (G : AHp) (v : Value) : Prop := ∀ a, v = .ref a → okn G a
def okc (G : AHp) (c : ACell) : Prop := match c with
  | .inl (_, _, .inr (.inr (.inr (.inr f)))) => ∀ j b, f j = some b → okn G b
  | .inl _ => True
  | .inr (_, fs) => ∀ v ∈ fs, okv G v
def up (G : AHp) (a : Nat) (c : ACell) : AHp := fun b => if b = a then some c else G b
theorem up_s {G : AHp} {a : Nat} {c : ACell} : up G a c a = some c := if_pos rfl
theorem up_n {G : AHp} {a b : Nat} {c : ACell} (h : b ≠ a) : up G a c b = G b := if_neg h
theorem up_e {G : AHp} {a b : Nat} {c : ACell} {x : Option ACell} (h : b ≠ a) (e : G b = x) : up G a c b = x := (up_n h).trans e
theorem up_up {G : AHp} {a : Nat} {c c' : ACell} : up (up G a c) a c' = up G a c' := by
  funext b; unfold up; by_cases h : b = a <;> simp [h]
theorem up_ne {G : AHp} {a b : Nat} {c : ACell} (h : G b ≠ none) : up G a c b ≠ none := by
  by_cases e : b = a
  · subst e; rw [up_s]; simp
  · rw [up_n e]; exact h
def Wl (φ : Nat → Nat) (E : Nat → va_E) (L : List Nat) : va_W := L.map (fun a => (φ a, E a))
/-- the heap H holds the abstract heap G, by the map φ of names -/
def Rel (D : va_G) (N0 : Nat) (r : Nat → Nat) (s : State) (φ : Nat → Nat) (G : AHp) (H : Heap) : Prop :=
  ∃ (L : List Nat) (E : Nat → va_E), L.Nodup ∧ (∀ a, a ∈ L ↔ (16 ≤ a ∧ G a ≠ none)) ∧ (∀ a c, 16 ≤ a → G a = some c → Cz s φ c (E a) ∧ okc G c) ∧ va_P D classes (Wl φ E L) H ∧ va_D (fun q => N0 ≤ q) (Wl φ E L) ∧ (∀ a, a < 16 → φ a = r a) ∧
    (∀ a c, a < 16 → G a = some c → a = 2 ∧ ∃ (n : Nat) (f : Nat → Int32), c = aI n f ∧ va_X (r 2) n f s H ∧ r 2 < N0)
def Ext (φ0 : Nat → Nat) (G0 : AHp) (φ : Nat → Nat) (G : AHp) : Prop := (∀ a, G0 a ≠ none → G a ≠ none ∧ φ a = φ0 a) ∧ ∀ a, a < 16 → φ a = φ0 a
/-- what the machine had before: the shared empty array, the mirror -/
def Sta (N0 : Nat) (r : Nat → Nat) (s : State) (H : Heap) : Prop :=
  va_Z "java/util/ArrayList" "DEFAULTCAPACITY_EMPTY_ELEMENTDATA" "[Ljava/lang/Object;" (.ref (r 1)) (fun q => N0 ≤ q) s H ∧ (∃ f, va_T (.object "java/lang/Object") (r 1) 0 f (fun q => N0 ≤ q) s H) ∧ va_Mi "[Ljava/lang/Object;" (r 3) s ∧ r 1 < N0
def LH (la : Array Slot) (n : Nat) (φ : Nat → Nat) (ls : List (Option Value)) : Prop := la.size = n ∧ lv_wf la ∧ ∀ (i : Nat) (v : Value), ls[i]? = some (some v) → la[i]? = some (.val (tv φ v))
def okl (G : AHp) (st : List Value) : Prop := ∀ v ∈ st, okv G v
def oks (G : AHp) (ls : List (Option Value)) : Prop := ∀ v, some v ∈ ls → okv G v
def Env0 (d : Nat) (y : MI) (D : va_G) (N0 : Nat) (r : Nat → Nat) (p : Program) (R : Room) (s : State) (m : MethodId) (args : Array Value) (meth : Method) (c : Code) : Prop :=
  p.tables.exec = Jvm.exec ∧ c.code = mcode y ∧ meth.sig.returnType = y.2.2.2 ∧ c.maxLocals = y.2.2.1 ∧ s.vm.findClass (mcls y) = some m.cls ∧ (∀ w ∈ gt, w.before args s = true) ∧ meth.locks = false ∧ meth.name = y.1.name ∧ va_K D classes [] s ∧ Sta N0 r s s.heap ∧ d ≤ R.frames ∧ 40 * d ≤ R.locals ∧ N0 ≤ s.heap.size ∧ NX s
def AQ (D : va_G) (N0 : Nat) (r φ0 : Nat → Nat) (G0 : AHp) (Q : Option Value → AHp → Prop) : Array Value → State → Outcome → State → Prop := fun _ st o t =>
  ∃ (v : Option Value) (φ : Nat → Nat) (G : AHp), o = .returned (v.map (tv φ)) ∧ Q v G ∧ Ext φ0 G0 φ G ∧ (∀ u, v = some u → okv G u) ∧ Rel D N0 r t φ G t.heap ∧ va_F (fun q => N0 ≤ q) st t
/-- THE JUDGEMENT: at pc of the method y, with the locals ls, the stack st, the heap G, room for d frames, kc cells and ks slots, the method comes to its end, and there Q holds of its answer and of the heap -/
def A (d : Nat) (y : MI) (pc : Nat) (ls : List (Option Value)) (st : List Value) (G : AHp) (kc ks : Nat) (Q : Option Value → AHp → Prop) : Prop :=
  ∀ (l : Launch) (D : va_G) (N0 : Nat) (r φ0 : Nat → Nat) (G0 : AHp) (mc ms : Nat) (p : Program) (e : Env) (R : Room) (s : State) (m : MethodId) (args : Array Value) (below : List Frame) (meth : Method) (c : Code) (H : Heap) (locs : List Loc) (cells slots : Nat) (φ : Nat → Nat) (la : Array Slot),
    Env0 d y D N0 r p R s m args meth c → Rel D N0 r s φ G H → Ext φ0 G0 φ G → va_S (fun q => N0 ≤ q) s.heap H locs → (cells + kc ≤ mc ∧ slots + ks ≤ ms ∧ mc ≤ R.cells ∧ ms ≤ R.slots) → LH la y.2.2.1 φ ls → oks G ls → okl G st →
    W p l e R s m args below meth c H locs cells slots (MQ below (AQ D N0 r φ0 G0 Q) args s mc ms (fun q => N0 ≤ q)) (F0 m pc la (st.map (tv φ)))

theorem okv_i {G : AHp} {x : Int32} : okv G (.int x) := fun _ h => by cases h
theorem okv_l {G : AHp} {x : Int64} : okv G (.long x) := fun _ h => by cases h
theorem okv_0 {G : AHp} : okv G .null := fun _ h => by cases h
theorem okv_r {G : AHp} {a : Nat} (h : okn G a) : okv G (.ref a) := fun b e => by cases e; exact h
theorem okl_nil {G : AHp} : okl G [] := fun _ h => by cases h
theorem okl_cons {G : AHp} {v : Value} {st : List Value} (h1 : okv G v) (h2 : okl G st) : okl G (v :: st) := fun u hu => by
  rcases List.mem_cons.mp hu with h | h
  · rw [h]; exact h1
  · exact h2 u h
theorem okl_tail {G : AHp} {v : Value} {st : List Value} (h : okl G (v :: st)) : okl G st := fun u hu => h u (List.mem_cons_of_mem _ hu)
theorem okl_head {G : AHp} {v : Value} {st : List Value} (h : okl G (v :: st)) : okv G v := h v List.mem_cons_self
theorem okn_mono {G G' : AHp} (h : ∀ a, G a ≠ none → G' a ≠ none) {a : Nat} (k : okn G a) : okn G' a := k.elim Or.inl (fun q => Or.inr (h a q))
theorem okv_mono {G G' : AHp} (h : ∀ a, G a ≠ none → G' a ≠ none) {v : Value} (k : okv G v) : okv G' v := fun a e => okn_mono h (k a e)
theorem okl_mono {G G' : AHp} (h : ∀ a, G a ≠ none → G' a ≠ none) {st : List Value} (k : okl G st) : okl G' st := fun v hv => okv_mono h (k v hv)
theorem oks_mono {G G' : AHp} (h : ∀ a, G a ≠ none → G' a ≠ none) {ls : List (Option Value)} (k : oks G ls) : oks G' ls := fun v hv => okv_mono h (k v hv)
theorem okc_mono {G G' : AHp} (h : ∀ a, G a ≠ none → G' a ≠ none) {c : ACell} (k : okc G c) : okc G' c := by
  obtain ⟨ty, n, f | f | f | f | f⟩ | ⟨ci, fs⟩ := c
  · trivial
  · trivial
  · trivial
  · trivial
  · exact fun j b e => okn_mono h (k j b e)
  · exact fun v hv => okv_mono h (k v hv)
theorem tv_cat (φ : Nat → Nat) (v : Value) : (tv φ v).category = v.category := by cases v <;> rfl
theorem tv_eq {G : AHp} {φ φ' : Nat → Nat} (h : ∀ a, okn G a → φ' a = φ a) {v : Value} (k : okv G v) : tv φ' v = tv φ v := by
  cases v <;> first | rfl | (show Value.ref _ = Value.ref _; rw [h _ (k _ rfl)])
theorem tvl_eq {G : AHp} {φ φ' : Nat → Nat} (h : ∀ a, okn G a → φ' a = φ a) {st : List Value} (k : okl G st) : st.map (tv φ') = st.map (tv φ) := List.map_congr_left fun v hv => tv_eq h (k v hv)
theorem Cz_eq {s : State} {G : AHp} {φ φ' : Nat → Nat} (h : ∀ a, okn G a → φ' a = φ a) {c : ACell} {e : va_E} (k : okc G c) (hz : Cz s φ c e) : Cz s φ' c e := by
  obtain ⟨ty, n, f | f | f | f | f⟩ | ⟨ci, fs⟩ := c
  · exact hz
  · exact hz
  · exact hz
  · exact hz
  · obtain ⟨cA, h1, h2⟩ := hz
    refine ⟨cA, ?_, h2⟩
    rw [h1]
    show Sum.inl (cA, n, _) = Sum.inl (cA, n, _)
    have : (fun j => (f j).map φ) = (fun j => (f j).map φ') := by
      funext j
      cases hj : f j with
      | none => rfl
      | some b => show some _ = some _; rw [h b (k j b hj)]
    rw [this]
  · show e = _
    rw [show e = _ from hz]
    rw [tvl_eq h k]
theorem Cz_moved {u U : State} (hvm : u.vm.Alike U.vm) {φ : Nat → Nat} {c : ACell} {e : va_E} (hz : Cz u φ c e) : Cz U φ c e := by
  obtain ⟨ty, x⟩ | ⟨ci, fs⟩ := c
  · obtain ⟨cA, h1, h2, h3⟩ := hz
    exact ⟨cA, h1, arrOfT_moved hvm h2, h3.moved hvm⟩
  · exact hz
theorem Rel.moved {D : va_G} {N0 : Nat} {r φ : Nat → Nat} {u U : State} {G : AHp} {H : Heap} (hvm : u.vm.Alike U.vm) (h : Rel D N0 r u φ G H) : Rel D N0 r U φ G H := by
  obtain ⟨L, E, h1, h2, h3, h4, h5, h6, h7⟩ := h
  refine ⟨L, E, h1, h2, fun a c ha hc => ⟨Cz_moved hvm (h3 a c ha hc).1, (h3 a c ha hc).2⟩, h4, h5, h6, fun a c ha hc => ?_⟩
  obtain ⟨e0, n, f, e1, e2, e3⟩ := h7 a c ha hc
  exact ⟨e0, n, f, e1, e2.moved hvm, e3⟩
theorem Sta.moved {N0 : Nat} {r : Nat → Nat} {u U : State} {H : Heap} (hvm : u.vm.Alike U.vm) (h : Sta N0 r u H) : Sta N0 r U H := by
  obtain ⟨h1, ⟨f, h2⟩, h3, h4⟩ := h
  exact ⟨h1.moved hvm, ⟨f, h2.moved hvm⟩, h3.moved hvm, h4⟩
theorem Sta.kept {N0 : Nat} {r : Nat → Nat} {U : State} {H H1 : Heap} (h : Sta N0 r U H) (hq : ∀ a : Nat, a < H.size → ¬ N0 ≤ a → H1[a]? = H[a]?) : Sta N0 r U H1 := by
  obtain ⟨h1, ⟨f, h2⟩, h3, h4⟩ := h
  exact ⟨h1.kept hq, ⟨f, h2.kept hq⟩, h3, h4⟩
theorem Wl_get {φ : Nat → Nat} {E : Nat → va_E} {L : List Nat} {k a : Nat} (h : L[k]? = some a) : (Wl φ E L)[k]? = some (φ a, E a) := by
  unfold Wl; rw [List.getElem?_map, h]; rfl
/-- a cell of the abstract heap, at its place in the machine's -/
theorem Rel.at {D : va_G} {N0 : Nat} {r φ : Nat → Nat} {s : State} {G : AHp} {H : Heap} (h : Rel D N0 r s φ G H) {a : Nat} {c : ACell} (ha : 16 ≤ a) (hc : G a = some c) :
    ∃ e : va_E, va_P D classes [(φ a, e)] H ∧ Cz s φ c e ∧ okc G c ∧ N0 ≤ φ a := by
  obtain ⟨L, E, h1, h2, h3, h4, h5, h6, h7⟩ := h
  have hm : a ∈ L := (h2 a).mpr ⟨ha, by rw [hc]; simp⟩
  obtain ⟨k, hk⟩ := List.getElem?_of_mem hm
  refine ⟨E a, fun j q hq => ?_, (h3 a c ha hc).1, (h3 a c ha hc).2, h5.2 k _ (Wl_get hk)⟩
  have h0 : j < 1 := (List.getElem?_eq_some_iff.mp hq).1
  rw [show j = 0 by omega] at hq
  cases hq
  exact h4 k _ (Wl_get hk)
theorem Rel.inj {D : va_G} {N0 : Nat} {r φ : Nat → Nat} {s : State} {G : AHp} {H : Heap} (h : Rel D N0 r s φ G H) {a b : Nat} (ha : 16 ≤ a) (ga : G a ≠ none) (hb : 16 ≤ b) (gb : G b ≠ none) (e : φ a = φ b) : a = b := by
  obtain ⟨L, E, h1, h2, h3, h4, h5, h6, h7⟩ := h
  obtain ⟨i, hi⟩ := List.getElem?_of_mem ((h2 a).mpr ⟨ha, ga⟩)
  obtain ⟨j, hj⟩ := List.getElem?_of_mem ((h2 b).mpr ⟨hb, gb⟩)
  have := h5.1 i j _ _ (Wl_get hi) (Wl_get hj) e
  subst this
  rw [hi] at hj
  exact Option.some.inj hj
theorem up_dom {G : AHp} {a : Nat} {c : ACell} (ga : G a ≠ none) (b : Nat) : up G a c b ≠ none ↔ G b ≠ none := by
  by_cases e : b = a
  · subst e; rw [up_s]; simp [ga]
  · rw [up_n e]
theorem Wl_set {φ : Nat → Nat} {E : Nat → va_E} {L : List Nat} (hn : L.Nodup) {k a : Nat} {e' : va_E} (h : L[k]? = some a) : (Wl φ E L).set k (φ a, e') = Wl φ (fun b => if b = a then e' else E b) L := by
  apply List.ext_getElem?
  intro j
  unfold Wl
  rw [List.getElem?_set, List.getElem?_map, List.getElem?_map]
  by_cases e : k = j
  · subst e
    have hlt := (List.getElem?_eq_some_iff.mp h).1
    rw [if_pos rfl, if_pos (by simpa using hlt), h]
    show some (φ a, e') = some (φ a, if a = a then e' else E a)
    rw [if_pos rfl]
  · rw [if_neg e]
    cases hj : L[j]? with
    | none => rfl
    | some b =>
      have hb : ¬ b = a := fun eb => by
        subst eb
        have h1 := (List.getElem?_eq_some_iff.mp h)
        have h2 := (List.getElem?_eq_some_iff.mp hj)
        obtain ⟨l1, g1⟩ := h1
        obtain ⟨l2, g2⟩ := h2
        exact e ((List.getElem_inj hn).mp (g1.trans g2.symm))
      show some (φ b, E b) = some (φ b, if b = a then e' else E b)
      rw [if_neg hb]
/-- a cell, laid bare for a write: what the machine's rows ask, and the way back -/
theorem Rel.gap {D : va_G} {N0 : Nat} {r φ : Nat → Nat} {s : State} {G : AHp} {H : Heap} (h : Rel D N0 r s φ G H) {a : Nat} {c : ACell} (ha : 16 ≤ a) (hc : G a = some c) :
    ∃ (L : List Nat) (E : Nat → va_E) (k : Nat), (Wl φ E L)[k]? = some (φ a, E a) ∧ va_P D classes (Wl φ E L) H ∧ va_D (fun q => N0 ≤ q) (Wl φ E L) ∧ Cz s φ c (E a) ∧ okc G c ∧
      ∀ (c' : ACell) (e' : va_E) (H1 : Heap), Cz s φ c' e' → okc G c' → va_P D classes ((Wl φ E L).set k (φ a, e')) H1 → va_D (fun q => N0 ≤ q) ((Wl φ E L).set k (φ a, e')) → (∀ q : Nat, q < N0 → H1[q]? = H[q]?) → Rel D N0 r s φ (up G a c') H1 := by
  obtain ⟨L, E, h1, h2, h3, h4, h5, h6, h7⟩ := h
  have ga : G a ≠ none := by rw [hc]; simp
  obtain ⟨k, hk⟩ := List.getElem?_of_mem ((h2 a).mpr ⟨ha, ga⟩)
  refine ⟨L, E, k, Wl_get hk, h4, h5, (h3 a c ha hc).1, (h3 a c ha hc).2, fun c' e' H1 hz hok hP hD hX => ?_⟩
  have hdom : ∀ b, up G a c' b ≠ none ↔ G b ≠ none := up_dom ga
  rw [Wl_set h1 hk] at hP hD
  refine ⟨L, _, h1, fun b => by rw [hdom b]; exact h2 b, fun b x hb hx => ?_, hP, hD, h6, fun b x hb hx => ?_⟩
  · show Cz s _ x (if b = a then e' else E b) ∧ _
    by_cases e : b = a
    · subst e
      rw [up_s] at hx
      cases hx
      rw [if_pos rfl]
      exact ⟨hz, okc_mono (fun x hx => (hdom x).mpr hx) hok⟩
    · rw [up_n e] at hx
      rw [if_neg e]
      exact ⟨(h3 b x hb hx).1, okc_mono (fun x hx => (hdom x).mpr hx) (h3 b x hb hx).2⟩
  · rw [up_n (show b ≠ a by omega)] at hx
    obtain ⟨e0, n, f, e1, e2, e3⟩ := h7 b x hb hx
    exact ⟨e0, n, f, e1, e2.kept (hX _ e3), e3⟩
/-- the heap, laid bare for a new cell -/
theorem Rel.gapX {D : va_G} {N0 : Nat} {r φ : Nat → Nat} {s : State} {G : AHp} {H : Heap} (h : Rel D N0 r s φ G H) {a : Nat} (ha : 16 ≤ a) (ga : G a = none) :
    ∃ (L : List Nat) (E : Nat → va_E), (∀ (k : Nat) (x : Nat × va_E), (Wl φ E L)[k]? = some x → ∃ b, 16 ≤ b ∧ G b ≠ none ∧ x.1 = φ b) ∧ va_P D classes (Wl φ E L) H ∧ va_D (fun q => N0 ≤ q) (Wl φ E L) ∧ (∀ q b, okn G b → va_up φ a q b = φ b) ∧
      ∀ (q : Nat) (c' : ACell) (e' : va_E) (H1 : Heap), Cz s (va_up φ a q) c' e' → okc (up G a c') c' → va_P D classes (Wl φ E L ++ [(q, e')]) H1 → va_D (fun q => N0 ≤ q) (Wl φ E L ++ [(q, e')]) → (∀ q : Nat, q < N0 → H1[q]? = H[q]?) → Rel D N0 r s (va_up φ a q) (up G a c') H1 := by
  have hφ : ∀ q b, okn G b → va_up φ a q b = φ b := fun q b hb => by
    have : b ≠ a := fun e => by
      subst e
      rcases hb with hb | hb
      · omega
      · exact hb ga
    exact if_neg this
  obtain ⟨L, E, h1, h2, h3, h4, h5, h6, h7⟩ := h
  refine ⟨L, E, fun k x hx => ?_, h4, h5, hφ, fun q c' e' H1 hz hk hP hD hX => ?_⟩
  · unfold Wl at hx
    rw [List.getElem?_map] at hx
    cases hk : L[k]? with
    | none => rw [hk] at hx; cases hx
    | some b =>
      rw [hk] at hx
      cases hx
      exact ⟨b, ((h2 b).mp (List.mem_of_getElem? hk)).1, ((h2 b).mp (List.mem_of_getElem? hk)).2, rfl⟩
  have haL : a ∉ L := fun z => ((h2 a).mp z).2 ga
  have hone : ∀ b ∈ L, va_up φ a q b = φ b := fun b hb => hφ q b (Or.inr ((h2 b).mp hb).2)
  have hW : Wl (va_up φ a q) (fun b => if b = a then e' else E b) (L ++ [a]) = Wl φ E L ++ [(q, e')] := by
    unfold Wl
    rw [List.map_append]
    congr 1
    · apply List.map_congr_left
      intro b hb
      show (va_up φ a q b, if b = a then e' else E b) = (φ b, E b)
      rw [hone b hb, if_neg (show ¬ b = a from fun e => haL (e ▸ hb))]
    · show [(va_up φ a q a, if a = a then e' else E a)] = [(q, e')]
      rw [if_pos rfl, show va_up φ a q a = q from if_pos rfl]
  have hmono : ∀ b, G b ≠ none → up G a c' b ≠ none := fun b hb => up_ne hb
  refine ⟨L ++ [a], fun b => if b = a then e' else E b, ?_, fun b => ?_, fun b x hb hx => ?_, ?_, ?_, fun b hb => ?_, fun b x hb hx => ?_⟩
  · exact List.nodup_append.mpr ⟨h1, by simp, fun x hx y hy => by
      simp at hy; subst hy; exact fun e => haL (e ▸ hx)⟩
  · rw [List.mem_append, List.mem_singleton]
    by_cases e : b = a
    · subst e; rw [up_s]; simp [ha]
    · rw [up_n e, h2 b]; simp [e]
  · show Cz s _ x (if b = a then e' else E b) ∧ _
    by_cases e : b = a
    · subst e
      rw [up_s] at hx
      cases hx
      rw [if_pos rfl]
      exact ⟨hz, hk⟩
    · rw [up_n e] at hx
      rw [if_neg e]
      exact ⟨Cz_eq (hφ q) (h3 b x hb hx).2 (h3 b x hb hx).1, okc_mono hmono (h3 b x hb hx).2⟩
  · rw [hW]; exact hP
  · rw [hW]; exact hD
  · rw [show va_up φ a q b = φ b from if_neg (by omega)]
    exact h6 b hb
  · rw [up_n (show b ≠ a by omega)] at hx
    obtain ⟨e0, n, f, e1, e2, e3⟩ := h7 b x hb hx
    exact ⟨e0, n, f, e1, e2.kept (hX _ e3), e3⟩
theorem Rel.gapN {D : va_G} {N0 : Nat} {r φ : Nat → Nat} {s : State} {G : AHp} {H : Heap} (h : Rel D N0 r s φ G H) {a : Nat} (ha : 16 ≤ a) (ga : G a = none) :
    ∃ (L : List Nat) (E : Nat → va_E), va_P D classes (Wl φ E L) H ∧ va_D (fun q => N0 ≤ q) (Wl φ E L) ∧ (∀ q b, okn G b → va_up φ a q b = φ b) ∧
      ∀ (q : Nat) (c' : ACell) (e' : va_E) (H1 : Heap), Cz s (va_up φ a q) c' e' → okc (up G a c') c' → va_P D classes (Wl φ E L ++ [(q, e')]) H1 → va_D (fun q => N0 ≤ q) (Wl φ E L ++ [(q, e')]) → (∀ q : Nat, q < N0 → H1[q]? = H[q]?) → Rel D N0 r s (va_up φ a q) (up G a c') H1 := by
  obtain ⟨L, E, -, h1, h2, h3, h4⟩ := h.gapX ha ga
  exact ⟨L, E, h1, h2, h3, h4⟩
theorem Rel.hi {D : va_G} {N0 : Nat} {r φ : Nat → Nat} {s : State} {G : AHp} {H : Heap} (h : Rel D N0 r s φ G H) {a : Nat} {c : ACell} (hc : G a = some c) (hn : ∀ n f, c ≠ aI n f) : 16 ≤ a := by
  obtain ⟨L, E, h1, h2, h3, h4, h5, h6, h7⟩ := h
  rcases Nat.lt_or_ge a 16 with ha | ha
  · obtain ⟨-, n, f, e1, -⟩ := h7 a c ha hc
    exact absurd e1 (hn n f)
  · exact ha
theorem Rel.hi2 {D : va_G} {N0 : Nat} {r φ : Nat → Nat} {s : State} {G : AHp} {H : Heap} (h : Rel D N0 r s φ G H) {a : Nat} {c : ACell} (hc : G a = some c) (hn : a ≠ 2) : 16 ≤ a := by
  obtain ⟨L, E, h1, h2, h3, h4, h5, h6, h7⟩ := h
  rcases Nat.lt_or_ge a 16 with ha | ha
  · exact absurd (h7 a c ha hc).1 hn
  · exact ha
theorem low_kept {N0 : Nat} {H0 H H1 : Heap} {locs locs1 : List Loc} (hN : N0 ≤ H0.size) (h : va_S (fun q => N0 ≤ q) H0 H locs) (h1 : va_S (fun q => N0 ≤ q) H0 H1 locs1) : ∀ q : Nat, q < N0 → H1[q]? = H[q]? := fun q hq => (h1.2.1 q (by omega) (by omega)).trans (h.2.1 q (by omega) (by omega)).symm
theorem Ext.put {φ0 φ : Nat → Nat} {G0 G : AHp} {a : Nat} {c : ACell} (h : Ext φ0 G0 φ G) : Ext φ0 G0 φ (up G a c) := ⟨fun b hb => ⟨up_ne (h.1 b hb).1, (h.1 b hb).2⟩, h.2⟩
theorem Ext.new {φ0 φ φ' : Nat → Nat} {G0 G : AHp} {a : Nat} {c : ACell} (h : Ext φ0 G0 φ G) (hφ : ∀ b, okn G b → φ' b = φ b) : Ext φ0 G0 φ' (up G a c) := ⟨fun b hb => ⟨up_ne (h.1 b hb).1, (hφ b (Or.inr (h.1 b hb).1)).trans (h.1 b hb).2⟩, fun b hb => (hφ b (Or.inl hb)).trans (h.2 b hb)⟩
theorem Ext.rf {φ : Nat → Nat} {G : AHp} : Ext φ G φ G := ⟨fun _ h => ⟨h, rfl⟩, fun _ _ => rfl⟩
theorem Ext.tr {φ0 φ1 φ2 : Nat → Nat} {G0 G1 G2 : AHp} (h : Ext φ0 G0 φ1 G1) (k : Ext φ1 G1 φ2 G2) : Ext φ0 G0 φ2 G2 := ⟨fun a ha => ⟨(k.1 a (h.1 a ha).1).1, (k.1 a (h.1 a ha).1).2.trans (h.1 a ha).2⟩, fun a ha => (k.2 a ha).trans (h.2 a ha)⟩
theorem Ext.ok {φ0 φ : Nat → Nat} {G0 G : AHp} (h : Ext φ0 G0 φ G) : ∀ a, okn G0 a → φ a = φ0 a := fun a ha => ha.elim (h.2 a) (fun q => (h.1 a q).2)
theorem LH_eq {la : Array Slot} {n : Nat} {G : AHp} {φ φ' : Nat → Nat} {ls : List (Option Value)} (h : ∀ a, okn G a → φ' a = φ a) (k : oks G ls) (hl : LH la n φ ls) : LH la n φ' ls := ⟨hl.1, hl.2.1, fun i v hv => by rw [tv_eq h (k v (List.mem_of_getElem? hv))]; exact hl.2.2 i v hv⟩
end
section
section RULES
variable {d : Nat} {y : MI} {pc : Nat} {ls : List (Option Value)} {st : List Value} {G : AHp} {kc ks : Nat} {Q : Option Value → AHp → Prop}
theorem A.pure {pc' : Nat} {st' : List Value} (h : ∀ {p : Program} {l : Launch} {e : Env} {R : Room} {s : State} {m : MethodId} {args : Array Value} {below : List Frame} {meth : Method} {c : Code} {H : Heap} {locs : List Loc} {cells slots : Nat} {Z : State → Prop} {la : Array Slot} {φ : Nat → Nat}, p.tables.exec = Jvm.exec → c.code = mcode y → W p l e R s m args below meth c H locs cells slots Z (F0 m pc' la (st'.map (tv φ))) → W p l e R s m args below meth c H locs cells slots Z (F0 m pc la (st.map (tv φ))))
    (hok : ∀ G, okl G st → okl G st') (k : A d y pc' ls st' G kc ks Q) : A d y pc ls st G kc ks Q :=
  fun l D N0 r φ0 G0 mc ms p e R s m args below meth c H locs cells slots φ la h0 h1 h2 h3 h4 h5 h6 h7 => h h0.1 h0.2.1 (k l D N0 r φ0 G0 mc ms p e R s m args below meth c H locs cells slots φ la h0 h1 h2 h3 h4 h5 h6 (hok G h7))
/-- a branch: on which side, the machine says -/
theorem A.br {P : Prop} {pc1 pc2 : Nat} {st' : List Value} (h : ∀ {p : Program} {l : Launch} {e : Env} {R : Room} {s : State} {m : MethodId} {args : Array Value} {below : List Frame} {meth : Method} {c : Code} {H : Heap} {locs : List Loc} {cells slots : Nat} {Z : State → Prop} {la : Array Slot} {φ : Nat → Nat}, p.tables.exec = Jvm.exec → c.code = mcode y → (P → W p l e R s m args below meth c H locs cells slots Z (F0 m pc1 la (st'.map (tv φ)))) → (¬ P → W p l e R s m args below meth c H locs cells slots Z (F0 m pc2 la (st'.map (tv φ)))) → W p l e R s m args below meth c H locs cells slots Z (F0 m pc la (st.map (tv φ))))
    (hok : ∀ G, okl G st → okl G st') (k1 : P → A d y pc1 ls st' G kc ks Q) (k2 : ¬ P → A d y pc2 ls st' G kc ks Q) : A d y pc ls st G kc ks Q :=
  fun l D N0 r φ0 G0 mc ms p e R s m args below meth c H locs cells slots φ la h0 h1 h2 h3 h4 h5 h6 h7 => h h0.1 h0.2.1 (fun hP => k1 hP l D N0 r φ0 G0 mc ms p e R s m args below meth c H locs cells slots φ la h0 h1 h2 h3 h4 h5 h6 (hok G h7)) (fun hP => k2 hP l D N0 r φ0 G0 mc ms p e R s m args below meth c H locs cells slots φ la h0 h1 h2 h3 h4 h5 h6 (hok G h7))
/-- fewer locals known -/
theorem A.drop {ls' : List (Option Value)} (h : ∀ (i : Nat) (v : Value), ls'[i]? = some (some v) → ls[i]? = some (some v)) (k : A d y pc ls' st G kc ks Q) : A d y pc ls st G kc ks Q :=
  fun l D N0 r φ0 G0 mc ms p e R s m args below meth c H locs cells slots φ la h0 h1 h2 h3 h4 h5 h6 h7 => k l D N0 r φ0 G0 mc ms p e R s m args below meth c H locs cells slots φ la h0 h1 h2 h3 h4 ⟨h5.1, h5.2.1, fun i v hv => h5.2.2 i v (h i v hv)⟩ (fun v hv => by
    obtain ⟨i, hi⟩ := List.getElem?_of_mem hv
    exact h6 v (List.mem_of_getElem? (h i v hi))) h7
/-- less room, weaker end -/
theorem A.room {kc' ks' : Nat} (h1 : kc' ≤ kc) (h2 : ks' ≤ ks) (k : A d y pc ls st G kc' ks' Q) : A d y pc ls st G kc ks Q :=
  fun l D N0 r φ0 G0 mc ms p e R s m args below meth c H locs cells slots φ la a0 a1 a2 a3 a4 a5 a6 a7 => k l D N0 r φ0 G0 mc ms p e R s m args below meth c H locs cells slots φ la a0 a1 a2 a3 ⟨Nat.le_trans (Nat.add_le_add_left h1 _) a4.1, Nat.le_trans (Nat.add_le_add_left h2 _) a4.2.1, a4.2.2⟩ a5 a6 a7
theorem A.deep {d' : Nat} (h : d' ≤ d) (k : A d' y pc ls st G kc ks Q) : A d y pc ls st G kc ks Q :=
  fun l D N0 r φ0 G0 mc ms p e R s m args below meth c H locs cells slots φ la a0 a1 a2 a3 a4 a5 a6 a7 => by
    obtain ⟨b1, b2, b3, b4, b5, b6, b7, b8, b9, b10, b11, b12, b13, b14⟩ := a0
    exact k l D N0 r φ0 G0 mc ms p e R s m args below meth c H locs cells slots φ la ⟨b1, b2, b3, b4, b5, b6, b7, b8, b9, b10, by omega, by omega, b13, b14⟩ a1 a2 a3 a4 a5 a6 a7
theorem A.post {Q' : Option Value → AHp → Prop} (h : ∀ v G, Q' v G → Q v G) (k : A d y pc ls st G kc ks Q') : A d y pc ls st G kc ks Q :=
  fun l D N0 r φ0 G0 mc ms p e R s m args below meth c H locs cells slots φ la a0 a1 a2 a3 a4 a5 a6 a7 T hT X => by
    obtain ⟨t, b1, o, b2, b3, b4, b5⟩ := k l D N0 r φ0 G0 mc ms p e R s m args below meth c H locs cells slots φ la a0 a1 a2 a3 a4 a5 a6 a7 T hT X
    obtain ⟨v, φ1, G1, c1, c2, c3⟩ := b4
    exact ⟨t, b1, o, b2, b3, ⟨v, φ1, G1, c1, h v G1 c2, c3⟩, b5⟩

theorem A.iconst {n : Int} {v : Int32} (hv : Int32.ofInt n = v) (hd : decode (mcode y) pc = .ok (.iconst n, 1)) (k : A d y (pc + 1) ls (.int v :: st) G kc ks Q) : A d y pc ls st G kc ks Q := A.pure (fun hx hb k => lv_iconst hx hb hd hv k) (fun _ h => okl_cons okv_i h) k
theorem A.bipush {n : Int} {v : Int32} (hv : (Int8.ofInt n).toInt32 = v) (hd : decode (mcode y) pc = .ok (.bipush n, 2)) (k : A d y (pc + 2) ls (.int v :: st) G kc ks Q) : A d y pc ls st G kc ks Q := A.pure (fun hx hb k => lv_bipush hx hb hd hv k) (fun _ h => okl_cons okv_i h) k
theorem A.sipush {n : Int} {v : Int32} (hv : (Int16.ofInt n).toInt32 = v) (hd : decode (mcode y) pc = .ok (.sipush n, 3)) (k : A d y (pc + 3) ls (.int v :: st) G kc ks Q) : A d y pc ls st G kc ks Q := A.pure (fun hx hb k => lv_sipush hx hb hd hv k) (fun _ h => okl_cons okv_i h) k
theorem A.lconst {n : Fin 2} {v : Int64} (hv : Int64.ofNat (n : Nat) = v) (hd : decode (mcode y) pc = .ok (.lconst n, 1)) (k : A d y (pc + 1) ls (.long v :: st) G kc ks Q) : A d y pc ls st G kc ks Q := A.pure (fun hx hb k => lv_lconst hx hb hd hv k) (fun _ h => okl_cons okv_l h) k
theorem A.null  (hd : decode (mcode y) pc = .ok (.aconst_null, 1)) (k : A d y (pc + 1) ls (.null :: st) G kc ks Q) : A d y pc ls st G kc ks Q := A.pure (fun hx hb k => lv_null hx hb hd k) (fun _ h => okl_cons okv_0 h) k
theorem A.iadd {x z : Int32} (hd : decode (mcode y) pc = .ok (.iadd, 1)) (k : A d y (pc + 1) ls (.int (x + z) :: st) G kc ks Q) : A d y pc ls (.int z :: .int x :: st) G kc ks Q := A.pure (fun hx hb k => lv_iadd hx hb hd k) (fun _ h => okl_cons okv_i (okl_tail (okl_tail h))) k
theorem A.isub {x z : Int32} (hd : decode (mcode y) pc = .ok (.isub, 1)) (k : A d y (pc + 1) ls (.int (x - z) :: st) G kc ks Q) : A d y pc ls (.int z :: .int x :: st) G kc ks Q := A.pure (fun hx hb k => lv_isub hx hb hd k) (fun _ h => okl_cons okv_i (okl_tail (okl_tail h))) k
theorem A.imul {x z : Int32} (hd : decode (mcode y) pc = .ok (.imul, 1)) (k : A d y (pc + 1) ls (.int (x * z) :: st) G kc ks Q) : A d y pc ls (.int z :: .int x :: st) G kc ks Q := A.pure (fun hx hb k => lv_imul hx hb hd k) (fun _ h => okl_cons okv_i (okl_tail (okl_tail h))) k
theorem A.iand {x z : Int32} (hd : decode (mcode y) pc = .ok (.iand, 1)) (k : A d y (pc + 1) ls (.int (x &&& z) :: st) G kc ks Q) : A d y pc ls (.int z :: .int x :: st) G kc ks Q := A.pure (fun hx hb k => lv_iand hx hb hd k) (fun _ h => okl_cons okv_i (okl_tail (okl_tail h))) k
theorem A.ior {x z : Int32} (hd : decode (mcode y) pc = .ok (.ior, 1)) (k : A d y (pc + 1) ls (.int (x ||| z) :: st) G kc ks Q) : A d y pc ls (.int z :: .int x :: st) G kc ks Q := A.pure (fun hx hb k => lv_ior hx hb hd k) (fun _ h => okl_cons okv_i (okl_tail (okl_tail h))) k
theorem A.ishl {x z : Int32} (hd : decode (mcode y) pc = .ok (.ishl, 1)) (k : A d y (pc + 1) ls (.int (x <<< (z &&& 31)) :: st) G kc ks Q) : A d y pc ls (.int z :: .int x :: st) G kc ks Q := A.pure (fun hx hb k => lv_ishl hx hb hd k) (fun _ h => okl_cons okv_i (okl_tail (okl_tail h))) k
theorem A.ishr {x z : Int32} (hd : decode (mcode y) pc = .ok (.ishr, 1)) (k : A d y (pc + 1) ls (.int (x >>> (z &&& 31)) :: st) G kc ks Q) : A d y pc ls (.int z :: .int x :: st) G kc ks Q := A.pure (fun hx hb k => lv_ishr hx hb hd k) (fun _ h => okl_cons okv_i (okl_tail (okl_tail h))) k
theorem A.idiv {x z : Int32} (hne : ¬ z = 0) (hd : decode (mcode y) pc = .ok (.idiv, 1)) (k : A d y (pc + 1) ls (.int (x / z) :: st) G kc ks Q) : A d y pc ls (.int z :: .int x :: st) G kc ks Q := A.pure (fun hx hb k => lv_idiv hx hb hd hne k) (fun _ h => okl_cons okv_i (okl_tail (okl_tail h))) k
theorem A.irem {x z : Int32} (hne : ¬ z = 0) (hd : decode (mcode y) pc = .ok (.irem, 1)) (k : A d y (pc + 1) ls (.int (x - x / z * z) :: st) G kc ks Q) : A d y pc ls (.int z :: .int x :: st) G kc ks Q := A.pure (fun hx hb k => lv_irem hx hb hd hne k) (fun _ h => okl_cons okv_i (okl_tail (okl_tail h))) k
theorem A.ladd {x z : Int64} (hd : decode (mcode y) pc = .ok (.ladd, 1)) (k : A d y (pc + 1) ls (.long (x + z) :: st) G kc ks Q) : A d y pc ls (.long z :: .long x :: st) G kc ks Q := A.pure (fun hx hb k => lv_ladd hx hb hd k) (fun _ h => okl_cons okv_l (okl_tail (okl_tail h))) k
theorem A.lmul {x z : Int64} (hd : decode (mcode y) pc = .ok (.lmul, 1)) (k : A d y (pc + 1) ls (.long (x * z) :: st) G kc ks Q) : A d y pc ls (.long z :: .long x :: st) G kc ks Q := A.pure (fun hx hb k => lv_lmul hx hb hd k) (fun _ h => okl_cons okv_l (okl_tail (okl_tail h))) k
theorem A.ldiv {x z : Int64} (hne : ¬ z = 0) (hd : decode (mcode y) pc = .ok (.ldiv, 1)) (k : A d y (pc + 1) ls (.long (x / z) :: st) G kc ks Q) : A d y pc ls (.long z :: .long x :: st) G kc ks Q := A.pure (fun hx hb k => lv_ldiv hx hb hd hne k) (fun _ h => okl_cons okv_l (okl_tail (okl_tail h))) k
theorem A.lrem {x z : Int64} (hne : ¬ z = 0) (hd : decode (mcode y) pc = .ok (.lrem, 1)) (k : A d y (pc + 1) ls (.long (x - x / z * z) :: st) G kc ks Q) : A d y pc ls (.long z :: .long x :: st) G kc ks Q := A.pure (fun hx hb k => lv_lrem hx hb hd hne k) (fun _ h => okl_cons okv_l (okl_tail (okl_tail h))) k
theorem A.lcmp {x z : Int64} (hd : decode (mcode y) pc = .ok (.lcmp, 1)) (k : A d y (pc + 1) ls (.int (lg_cmp x z) :: st) G kc ks Q) : A d y pc ls (.long z :: .long x :: st) G kc ks Q := A.pure (fun hx hb k => W.lcmp hx hb hd k) (fun _ h => okl_cons okv_i (okl_tail (okl_tail h))) k
theorem A.ineg {x : Int32} (hd : decode (mcode y) pc = .ok (.ineg, 1)) (k : A d y (pc + 1) ls (.int (-x) :: st) G kc ks Q) : A d y pc ls (.int x :: st) G kc ks Q := A.pure (fun hx hb k => lv_ineg hx hb hd k) (fun _ h => okl_cons okv_i (okl_tail h)) k
theorem A.i2l {x : Int32} (hd : decode (mcode y) pc = .ok (.i2l, 1)) (k : A d y (pc + 1) ls (.long x.toInt64 :: st) G kc ks Q) : A d y pc ls (.int x :: st) G kc ks Q := A.pure (fun hx hb k => lv_i2l hx hb hd rfl k) (fun _ h => okl_cons okv_l (okl_tail h)) k
theorem A.l2i {x : Int64} (hd : decode (mcode y) pc = .ok (.l2i, 1)) (k : A d y (pc + 1) ls (.int x.toInt32 :: st) G kc ks Q) : A d y pc ls (.long x :: st) G kc ks Q := A.pure (fun hx hb k => lv_l2i hx hb hd rfl k) (fun _ h => okl_cons okv_i (okl_tail h)) k
theorem A.dup {v : Value} (hc : v.category = 1) (hd : decode (mcode y) pc = .ok (.dup, 1)) (k : A d y (pc + 1) ls (v :: v :: st) G kc ks Q) : A d y pc ls (v :: st) G kc ks Q := A.pure (fun hx hb k => lv_dup hx hb hd ((tv_cat _ v).trans hc) k) (fun _ h => okl_cons (okl_head h) h) k
theorem A.pop {v : Value} (hc : v.category = 1) (hd : decode (mcode y) pc = .ok (.pop, 1)) (k : A d y (pc + 1) ls st G kc ks Q) : A d y pc ls (v :: st) G kc ks Q := A.pure (fun hx hb k => lv_pop hx hb hd ((tv_cat _ v).trans hc) k) (fun _ h => okl_tail h) k
theorem A.dup_x1 {v w : Value} (hc : v.category = 1) (hc2 : w.category = 1) (hd : decode (mcode y) pc = .ok (.dup_x1, 1)) (k : A d y (pc + 1) ls (v :: w :: v :: st) G kc ks Q) : A d y pc ls (v :: w :: st) G kc ks Q := A.pure (fun hx hb k => lv_dup_x1 hx hb hd ((tv_cat _ v).trans hc) ((tv_cat _ w).trans hc2) k) (fun _ h => okl_cons (okl_head h) (okl_cons (okl_head (okl_tail h)) (okl_cons (okl_head h) (okl_tail (okl_tail h))))) k
theorem A.dup2 {v w : Value} (hc : v.category = 1) (hc2 : w.category = 1) (hd : decode (mcode y) pc = .ok (.dup2, 1)) (k : A d y (pc + 1) ls (v :: w :: v :: w :: st) G kc ks Q) : A d y pc ls (v :: w :: st) G kc ks Q := A.pure (fun hx hb k => lv_dup2_11 hx hb hd ((tv_cat _ v).trans hc) ((tv_cat _ w).trans hc2) k) (fun _ h => okl_cons (okl_head h) (okl_cons (okl_head (okl_tail h)) h)) k
theorem A.goto {off : Int} (tgt : Nat) (ht : (pc : Int) + off = (tgt : Int)) (hd : decode (mcode y) pc = .ok (.goto off, 3)) (k : A d y tgt ls st G kc ks Q) : A d y pc ls st G kc ks Q := A.pure (fun hx hb k => lv_goto hx hb hd ht k) (fun _ h => h) k
theorem A.if_eq {x : Int32} {off : Int} (tgt : Nat) (ht : (pc : Int) + off = (tgt : Int)) (hd : decode (mcode y) pc = .ok (.ifCond .eq off, 3)) (kt : x = 0 → A d y tgt ls st G kc ks Q) (kf : ¬ x = 0 → A d y (pc + 3) ls st G kc ks Q) : A d y pc ls (.int x :: st) G kc ks Q := A.br (P := x = 0) (fun hx hb k1 k2 => lv_if_eq hx hb hd ht k1 k2) (fun _ h => okl_tail h) kt kf
theorem A.if_ne {x : Int32} {off : Int} (tgt : Nat) (ht : (pc : Int) + off = (tgt : Int)) (hd : decode (mcode y) pc = .ok (.ifCond .ne off, 3)) (kt : ¬ x = 0 → A d y tgt ls st G kc ks Q) (kf : x = 0 → A d y (pc + 3) ls st G kc ks Q) : A d y pc ls (.int x :: st) G kc ks Q := A.br (P := x = 0) (fun hx hb k1 k2 => lv_if_ne hx hb hd ht k2 k1) (fun _ h => okl_tail h) kf kt
theorem A.if_lt {x : Int32} {off : Int} (tgt : Nat) (ht : (pc : Int) + off = (tgt : Int)) (hd : decode (mcode y) pc = .ok (.ifCond .lt off, 3)) (kt : x < 0 → A d y tgt ls st G kc ks Q) (kf : ¬ x < 0 → A d y (pc + 3) ls st G kc ks Q) : A d y pc ls (.int x :: st) G kc ks Q := A.br (P := x < 0) (fun hx hb k1 k2 => lv_if_lt hx hb hd ht k1 k2) (fun _ h => okl_tail h) kt kf
theorem A.if_ge {x : Int32} {off : Int} (tgt : Nat) (ht : (pc : Int) + off = (tgt : Int)) (hd : decode (mcode y) pc = .ok (.ifCond .ge off, 3)) (kt : 0 ≤ x → A d y tgt ls st G kc ks Q) (kf : ¬ 0 ≤ x → A d y (pc + 3) ls st G kc ks Q) : A d y pc ls (.int x :: st) G kc ks Q := A.br (P := 0 ≤ x) (fun hx hb k1 k2 => lv_if_ge hx hb hd ht k1 k2) (fun _ h => okl_tail h) kt kf
theorem A.if_gt {x : Int32} {off : Int} (tgt : Nat) (ht : (pc : Int) + off = (tgt : Int)) (hd : decode (mcode y) pc = .ok (.ifCond .gt off, 3)) (kt : 0 < x → A d y tgt ls st G kc ks Q) (kf : ¬ 0 < x → A d y (pc + 3) ls st G kc ks Q) : A d y pc ls (.int x :: st) G kc ks Q := A.br (P := 0 < x) (fun hx hb k1 k2 => lv_if_gt hx hb hd ht k1 k2) (fun _ h => okl_tail h) kt kf
theorem A.if_le {x : Int32} {off : Int} (tgt : Nat) (ht : (pc : Int) + off = (tgt : Int)) (hd : decode (mcode y) pc = .ok (.ifCond .le off, 3)) (kt : x ≤ 0 → A d y tgt ls st G kc ks Q) (kf : ¬ x ≤ 0 → A d y (pc + 3) ls st G kc ks Q) : A d y pc ls (.int x :: st) G kc ks Q := A.br (P := x ≤ 0) (fun hx hb k1 k2 => lv_if_le hx hb hd ht k1 k2) (fun _ h => okl_tail h) kt kf
theorem A.icmp_eq {x z : Int32} {off : Int} (tgt : Nat) (ht : (pc : Int) + off = (tgt : Int)) (hd : decode (mcode y) pc = .ok (.if_icmp .eq off, 3)) (kt : x = z → A d y tgt ls st G kc ks Q) (kf : ¬ x = z → A d y (pc + 3) ls st G kc ks Q) : A d y pc ls (.int z :: .int x :: st) G kc ks Q := A.br (P := x = z) (fun hx hb k1 k2 => lv_icmp_eq hx hb hd ht k1 k2) (fun _ h => okl_tail (okl_tail h)) kt kf
theorem A.icmp_ne {x z : Int32} {off : Int} (tgt : Nat) (ht : (pc : Int) + off = (tgt : Int)) (hd : decode (mcode y) pc = .ok (.if_icmp .ne off, 3)) (kt : ¬ x = z → A d y tgt ls st G kc ks Q) (kf : x = z → A d y (pc + 3) ls st G kc ks Q) : A d y pc ls (.int z :: .int x :: st) G kc ks Q := A.br (P := x = z) (fun hx hb k1 k2 => lv_icmp_ne hx hb hd ht k2 k1) (fun _ h => okl_tail (okl_tail h)) kf kt
theorem A.icmp_lt {x z : Int32} {off : Int} (tgt : Nat) (ht : (pc : Int) + off = (tgt : Int)) (hd : decode (mcode y) pc = .ok (.if_icmp .lt off, 3)) (kt : x < z → A d y tgt ls st G kc ks Q) (kf : ¬ x < z → A d y (pc + 3) ls st G kc ks Q) : A d y pc ls (.int z :: .int x :: st) G kc ks Q := A.br (P := x < z) (fun hx hb k1 k2 => lv_icmp_lt hx hb hd ht k1 k2) (fun _ h => okl_tail (okl_tail h)) kt kf
theorem A.icmp_ge {x z : Int32} {off : Int} (tgt : Nat) (ht : (pc : Int) + off = (tgt : Int)) (hd : decode (mcode y) pc = .ok (.if_icmp .ge off, 3)) (kt : z ≤ x → A d y tgt ls st G kc ks Q) (kf : ¬ z ≤ x → A d y (pc + 3) ls st G kc ks Q) : A d y pc ls (.int z :: .int x :: st) G kc ks Q := A.br (P := z ≤ x) (fun hx hb k1 k2 => lv_icmp_ge hx hb hd ht k1 k2) (fun _ h => okl_tail (okl_tail h)) kt kf
theorem A.icmp_gt {x z : Int32} {off : Int} (tgt : Nat) (ht : (pc : Int) + off = (tgt : Int)) (hd : decode (mcode y) pc = .ok (.if_icmp .gt off, 3)) (kt : z < x → A d y tgt ls st G kc ks Q) (kf : ¬ z < x → A d y (pc + 3) ls st G kc ks Q) : A d y pc ls (.int z :: .int x :: st) G kc ks Q := A.br (P := z < x) (fun hx hb k1 k2 => lv_icmp_gt hx hb hd ht k1 k2) (fun _ h => okl_tail (okl_tail h)) kt kf
theorem A.icmp_le {x z : Int32} {off : Int} (tgt : Nat) (ht : (pc : Int) + off = (tgt : Int)) (hd : decode (mcode y) pc = .ok (.if_icmp .le off, 3)) (kt : x ≤ z → A d y tgt ls st G kc ks Q) (kf : ¬ x ≤ z → A d y (pc + 3) ls st G kc ks Q) : A d y pc ls (.int z :: .int x :: st) G kc ks Q := A.br (P := x ≤ z) (fun hx hb k1 k2 => lv_icmp_le hx hb hd ht k1 k2) (fun _ h => okl_tail (okl_tail h)) kt kf
theorem A.ifnull_r {a : Nat} {off : Int} (hd : decode (mcode y) pc = .ok (.ifnull off, 3)) (k : A d y (pc + 3) ls st G kc ks Q) : A d y pc ls (.ref a :: st) G kc ks Q := A.pure (fun hx hb k => lv_ifnull hx hb hd k) (fun _ h => okl_tail h) k
theorem A.ifnull_0 {off : Int} (tgt : Nat) (ht : (pc : Int) + off = (tgt : Int)) (hd : decode (mcode y) pc = .ok (.ifnull off, 3)) (k : A d y tgt ls st G kc ks Q) : A d y pc ls (.null :: st) G kc ks Q := A.pure (fun hx hb k => lv_ifnullN hx hb hd ht k) (fun _ h => okl_tail h) k
theorem A.ifnonnull_r {a : Nat} {off : Int} (tgt : Nat) (ht : (pc : Int) + off = (tgt : Int)) (hd : decode (mcode y) pc = .ok (.ifnonnull off, 3)) (k : A d y tgt ls st G kc ks Q) : A d y pc ls (.ref a :: st) G kc ks Q := A.pure (fun hx hb k => lv_ifnonnull hx hb hd ht k) (fun _ h => okl_tail h) k
theorem A.ifnonnull_0 {off : Int} (hd : decode (mcode y) pc = .ok (.ifnonnull off, 3)) (k : A d y (pc + 3) ls st G kc ks Q) : A d y pc ls (.null :: st) G kc ks Q := A.pure (fun hx hb k => lv_ifnonnullN hx hb hd k) (fun _ h => okl_tail h) k
theorem A.tableIn {x : Int32} {dflt lo hi off : Int} {offs : Array Int} {len : Nat} (tgt : Nat) (h1 : ¬ x.toInt < lo) (h2 : ¬ hi < x.toInt) (ho : offs[(x.toInt - lo).toNat]? = some off) (ht : (pc : Int) + off = (tgt : Int)) (hd : decode (mcode y) pc = .ok (.tableswitch dflt lo hi offs, len)) (k : A d y tgt ls st G kc ks Q) : A d y pc ls (.int x :: st) G kc ks Q := A.pure (fun hx hb k => lv_tableIn hx hb hd h1 h2 ho ht k) (fun _ h => okl_tail h) k
theorem A.tableOut {x : Int32} {dflt lo hi : Int} {offs : Array Int} {len : Nat} (tgt : Nat) (h : x.toInt < lo ∨ hi < x.toInt) (ht : (pc : Int) + dflt = (tgt : Int)) (hd : decode (mcode y) pc = .ok (.tableswitch dflt lo hi offs, len)) (k : A d y tgt ls st G kc ks Q) : A d y pc ls (.int x :: st) G kc ks Q := A.pure (fun hx hb k => lv_tableOut hx hb hd h ht k) (fun _ h => okl_tail h) k
theorem A.load {pc' i : Nat} {v : Value} (hl : ls[i]? = some (some v)) (h : ∀ {p : Program} {l : Launch} {e : Env} {R : Room} {s : State} {m : MethodId} {args : Array Value} {below : List Frame} {meth : Method} {c : Code} {H : Heap} {locs : List Loc} {cells slots : Nat} {Z : State → Prop} {la : Array Slot} {φ : Nat → Nat}, p.tables.exec = Jvm.exec → c.code = mcode y → la[i]? = some (.val (tv φ v)) → W p l e R s m args below meth c H locs cells slots Z (F0 m pc' la ((v :: st).map (tv φ))) → W p l e R s m args below meth c H locs cells slots Z (F0 m pc la (st.map (tv φ))))
    (k : A d y pc' ls (v :: st) G kc ks Q) : A d y pc ls st G kc ks Q :=
  fun l D N0 r φ0 G0 mc ms p e R s m args below meth c H locs cells slots φ la h0 h1 h2 h3 h4 h5 h6 h7 => h h0.1 h0.2.1 (h5.2.2 i v hl) (k l D N0 r φ0 G0 mc ms p e R s m args below meth c H locs cells slots φ la h0 h1 h2 h3 h4 h5 h6 (okl_cons (h6 v (List.mem_of_getElem? hl)) h7))
theorem A.iload_n {n : Fin 4} {x : Int32} (hl : ls[(n : Nat)]? = some (some (.int x))) (hd : decode (mcode y) pc = .ok (.iload_n n, 1)) (k : A d y (pc + 1) ls (.int x :: st) G kc ks Q) : A d y pc ls st G kc ks Q := A.load hl (fun hx hb hl k => lv_iload_n hx hb hd rfl hl k) k
theorem A.iload {n : Nat} {x : Int32} (hl : ls[n]? = some (some (.int x))) (hd : decode (mcode y) pc = .ok (.iload n, 2)) (k : A d y (pc + 2) ls (.int x :: st) G kc ks Q) : A d y pc ls st G kc ks Q := A.load hl (fun hx hb hl k => lv_iload hx hb hd hl k) k
theorem A.lload_n {n : Fin 4} {x : Int64} (hl : ls[(n : Nat)]? = some (some (.long x))) (hd : decode (mcode y) pc = .ok (.lload_n n, 1)) (k : A d y (pc + 1) ls (.long x :: st) G kc ks Q) : A d y pc ls st G kc ks Q := A.load hl (fun hx hb hl k => lv_lload_n hx hb hd rfl hl k) k
theorem A.lload {n : Nat} {x : Int64} (hl : ls[n]? = some (some (.long x))) (hd : decode (mcode y) pc = .ok (.lload n, 2)) (k : A d y (pc + 2) ls (.long x :: st) G kc ks Q) : A d y pc ls st G kc ks Q := A.load hl (fun hx hb hl k => lv_lload hx hb hd hl k) k
def isrf (v : Value) : Bool := match v with
  | .ref _ => true
  | .null => true
  | _ => false
theorem A.aload_n {n : Fin 4} {v : Value} (hl : ls[(n : Nat)]? = some (some v)) (hr : isrf v = true) (hd : decode (mcode y) pc = .ok (.aload_n n, 1)) (k : A d y (pc + 1) ls (v :: st) G kc ks Q) : A d y pc ls st G kc ks Q := by
  cases v <;> first | (cases hr; done) | exact A.load hl (fun hx hb hl k => lv_aload_n hx hb hd rfl hl k) k | exact A.load hl (fun hx hb hl k => lv_aload_nN hx hb hd rfl hl k) k
theorem A.aload {n : Nat} {v : Value} (hl : ls[n]? = some (some v)) (hr : isrf v = true) (hd : decode (mcode y) pc = .ok (.aload n, 2)) (k : A d y (pc + 2) ls (v :: st) G kc ks Q) : A d y pc ls st G kc ks Q := by
  cases v <;> first | (cases hr; done) | exact A.load hl (fun hx hb hl k => lv_aload hx hb hd hl k) k | exact A.load hl (fun hx hb hl k => lv_aloadN hx hb hd hl k) k
/-- nothing of two words lies just below the place -/
def okst (ls : List (Option Value)) (i : Nat) : Bool := match i with
  | 0 => true
  | j + 1 => match ls[j]? with
    | some (some v) => v.category != 2
    | _ => true
theorem LH_set1 {la la' : Array Slot} {n i : Nat} {φ : Nat → Nat} {ls : List (Option Value)} {v : Value} (h : LH la n φ ls) (hi : i < n) (hc : v.category = 1) (hp : okst ls i = true) (hs : storeLocals la i (tv φ v) = some la') : LH la' n φ (ls.set i (some v)) := by
  have hc' : (tv φ v).category = 1 := (tv_cat φ v).trans hc
  have key : ∀ l : List (Nat × Value), lv_has la n l → lv_has la' n ((i, tv φ v) :: l.filter (fun q => !(q.1 == i) && !(q.1 + 1 == i && q.2.category == 2))) := fun l hl => by
    obtain ⟨la2, e, h2⟩ := lv_store1 (v := tv φ v) hl hi hc'
    rw [hs] at e
    cases e
    exact h2
  have h0 := key [] ⟨h.1, h.2.1, fun q hq => by cases hq⟩
  refine ⟨h0.1, h0.2.1, fun j w hw => ?_⟩
  by_cases e : j = i
  · subst e
    have hlt : j < ls.length := by
      have := (List.getElem?_eq_some_iff.mp hw).1
      simpa using this
    rw [List.getElem?_set_self hlt] at hw
    cases hw
    exact h0.2.2 (j, _) List.mem_cons_self
  · rw [List.getElem?_set_ne (Ne.symm e)] at hw
    have h1 := key [(j, tv φ w)] ⟨h.1, h.2.1, fun q hq => by
      rw [List.mem_singleton] at hq
      subst hq
      exact h.2.2 j w hw⟩
    refine h1.2.2 (j, tv φ w) (List.mem_cons_of_mem _ (List.mem_filter.mpr ⟨List.mem_singleton.mpr rfl, ?_⟩))
    have hcat : j + 1 = i → w.category ≠ 2 := fun ei => by
      subst ei
      unfold okst at hp
      simp only [hw] at hp
      simpa using hp
    simp only [tv_cat, Bool.and_eq_true, Bool.not_eq_true', Bool.and_eq_false_iff, beq_eq_false_iff_ne, ne_eq]
    refine ⟨e, ?_⟩
    by_cases ei : j + 1 = i
    · exact Or.inr (by simpa using hcat ei)
    · exact Or.inl ei
theorem LH_set2 {la la' : Array Slot} {n i : Nat} {φ : Nat → Nat} {ls : List (Option Value)} {v : Value} (h : LH la n φ ls) (hi : i + 1 < n) (hc : v.category = 2) (hp : okst ls i = true) (hs : storeLocals la i (tv φ v) = some la') : LH la' n φ ((ls.set i (some v)).set (i + 1) none) := by
  have hc' : (tv φ v).category = 2 := (tv_cat φ v).trans hc
  have key : ∀ l : List (Nat × Value), lv_has la n l → lv_has la' n ((i, tv φ v) :: l.filter (fun q => !(q.1 == i) && (!(q.1 == i + 1) && !(q.1 + 1 == i && q.2.category == 2)))) := fun l hl => by
    obtain ⟨la2, e, h2⟩ := lv_store2 (v := tv φ v) hl hi hc'
    rw [hs] at e
    cases e
    exact h2
  have h0 := key [] ⟨h.1, h.2.1, fun q hq => by cases hq⟩
  refine ⟨h0.1, h0.2.1, fun j w hw => ?_⟩
  by_cases e1 : j = i + 1
  · subst e1
    have hlt : i + 1 < (ls.set i (some v)).length := by
      have := (List.getElem?_eq_some_iff.mp hw).1
      simpa using this
    rw [List.getElem?_set_self hlt] at hw
    cases hw
  · rw [List.getElem?_set_ne (Ne.symm e1)] at hw
    by_cases e : j = i
    · subst e
      have hlt : j < ls.length := by
        have := (List.getElem?_eq_some_iff.mp hw).1
        simpa using this
      rw [List.getElem?_set_self hlt] at hw
      cases hw
      exact h0.2.2 (j, _) List.mem_cons_self
    · rw [List.getElem?_set_ne (Ne.symm e)] at hw
      have h1 := key [(j, tv φ w)] ⟨h.1, h.2.1, fun q hq => by
        rw [List.mem_singleton] at hq
        subst hq
        exact h.2.2 j w hw⟩
      refine h1.2.2 (j, tv φ w) (List.mem_cons_of_mem _ (List.mem_filter.mpr ⟨List.mem_singleton.mpr rfl, ?_⟩))
      have hcat : j + 1 = i → w.category ≠ 2 := fun ei => by
        subst ei
        unfold okst at hp
        simp only [hw] at hp
        simpa using hp
      simp only [tv_cat, Bool.and_eq_true, Bool.not_eq_true', Bool.and_eq_false_iff, beq_eq_false_iff_ne, ne_eq]
      refine ⟨e, e1, ?_⟩
      by_cases ei : j + 1 = i
      · exact Or.inr (by simpa using hcat ei)
      · exact Or.inl ei
theorem oks_set {G : AHp} {ls : List (Option Value)} {i : Nat} {v : Value} (h : oks G ls) (hv : okv G v) : oks G (ls.set i (some v)) := fun u hu => by
  rcases List.mem_or_eq_of_mem_set hu with h1 | h1
  · exact h u h1
  · cases h1; exact hv
theorem oks_set0 {G : AHp} {ls : List (Option Value)} {i : Nat} (h : oks G ls) : oks G (ls.set i none) := fun u hu => by
  rcases List.mem_or_eq_of_mem_set hu with h1 | h1
  · exact h u h1
  · cases h1
theorem A.store1 {pc' i : Nat} {v : Value} (hi : i < y.2.2.1) (hc : v.category = 1) (hp : okst ls i = true)
    (h : ∀ {p : Program} {l : Launch} {e : Env} {R : Room} {s : State} {m : MethodId} {args : Array Value} {below : List Frame} {meth : Method} {c : Code} {H : Heap} {locs : List Loc} {cells slots : Nat} {Z : State → Prop} {la : Array Slot} {φ : Nat → Nat}, p.tables.exec = Jvm.exec → c.code = mcode y → lv_has la y.2.2.1 [] → (∀ la' : Array Slot, storeLocals la i (tv φ v) = some la' → W p l e R s m args below meth c H locs cells slots Z (F0 m pc' la' (st.map (tv φ)))) → W p l e R s m args below meth c H locs cells slots Z (F0 m pc la ((v :: st).map (tv φ))))
    (k : A d y pc' (ls.set i (some v)) st G kc ks Q) : A d y pc ls (v :: st) G kc ks Q :=
  fun l D N0 r φ0 G0 mc ms p e R s m args below meth c H locs cells slots φ la h0 h1 h2 h3 h4 h5 h6 h7 => h h0.1 h0.2.1 ⟨h5.1, h5.2.1, fun q hq => by cases hq⟩ (fun la' hs => k l D N0 r φ0 G0 mc ms p e R s m args below meth c H locs cells slots φ la' h0 h1 h2 h3 h4 (LH_set1 h5 hi hc hp hs) (oks_set h6 (okl_head h7)) (okl_tail h7))
theorem A.store2 {pc' i : Nat} {v : Value} (hi : i + 1 < y.2.2.1) (hc : v.category = 2) (hp : okst ls i = true)
    (h : ∀ {p : Program} {l : Launch} {e : Env} {R : Room} {s : State} {m : MethodId} {args : Array Value} {below : List Frame} {meth : Method} {c : Code} {H : Heap} {locs : List Loc} {cells slots : Nat} {Z : State → Prop} {la : Array Slot} {φ : Nat → Nat}, p.tables.exec = Jvm.exec → c.code = mcode y → lv_has la y.2.2.1 [] → (∀ la' : Array Slot, storeLocals la i (tv φ v) = some la' → W p l e R s m args below meth c H locs cells slots Z (F0 m pc' la' (st.map (tv φ)))) → W p l e R s m args below meth c H locs cells slots Z (F0 m pc la ((v :: st).map (tv φ))))
    (k : A d y pc' ((ls.set i (some v)).set (i + 1) none) st G kc ks Q) : A d y pc ls (v :: st) G kc ks Q :=
  fun l D N0 r φ0 G0 mc ms p e R s m args below meth c H locs cells slots φ la h0 h1 h2 h3 h4 h5 h6 h7 => h h0.1 h0.2.1 ⟨h5.1, h5.2.1, fun q hq => by cases hq⟩ (fun la' hs => k l D N0 r φ0 G0 mc ms p e R s m args below meth c H locs cells slots φ la' h0 h1 h2 h3 h4 (LH_set2 h5 hi hc hp hs) (oks_set0 (oks_set h6 (okl_head h7))) (okl_tail h7))
theorem A.istore_n {n : Fin 4} {x : Int32} (hi : (n : Nat) < y.2.2.1) (hp : okst ls (n : Nat) = true) (hd : decode (mcode y) pc = .ok (.istore_n n, 1)) (k : A d y (pc + 1) (ls.set (n : Nat) (some (.int x))) st G kc ks Q) : A d y pc ls (.int x :: st) G kc ks Q := by
  refine A.store1 hi rfl hp ?_ k
  intro p l e R s m args below meth c H locs cells slots Z la φ hx hb hl kk
  obtain ⟨la', e', -⟩ := lv_store1 (v := tv φ (.int x)) hl hi rfl
  have kk := kk la' e'
  intro T hT X
  obtain ⟨t, a, b⟩ := kk T hT X
  refine ⟨t, ?_, b⟩
  have e' : storeLocals la (n : Nat) (tv φ (.int x)) = some la' := e'
  simp only [tv] at e'
  simp only [List.map_cons, tv]
  jvm_step X.here [X.here.top, ↓top_set X.here.top, hx, hb, hd, e']
  first | exact a | exact ⟨rfl, a⟩
theorem A.istore {n : Nat} {x : Int32} (hi : (n : Nat) < y.2.2.1) (hp : okst ls (n : Nat) = true) (hd : decode (mcode y) pc = .ok (.istore n, 2)) (k : A d y (pc + 2) (ls.set (n : Nat) (some (.int x))) st G kc ks Q) : A d y pc ls (.int x :: st) G kc ks Q := by
  refine A.store1 hi rfl hp ?_ k
  intro p l e R s m args below meth c H locs cells slots Z la φ hx hb hl kk
  obtain ⟨la', e', -⟩ := lv_store1 (v := tv φ (.int x)) hl hi rfl
  have kk := kk la' e'
  intro T hT X
  obtain ⟨t, a, b⟩ := kk T hT X
  refine ⟨t, ?_, b⟩
  have e' : storeLocals la (n : Nat) (tv φ (.int x)) = some la' := e'
  simp only [tv] at e'
  simp only [List.map_cons, tv]
  jvm_step X.here [X.here.top, ↓top_set X.here.top, hx, hb, hd, e']
  first | exact a | exact ⟨rfl, a⟩
theorem A.astore_nr {n : Fin 4} {x : Nat} (hi : (n : Nat) < y.2.2.1) (hp : okst ls (n : Nat) = true) (hd : decode (mcode y) pc = .ok (.astore_n n, 1)) (k : A d y (pc + 1) (ls.set (n : Nat) (some (.ref x))) st G kc ks Q) : A d y pc ls (.ref x :: st) G kc ks Q := by
  refine A.store1 hi rfl hp ?_ k
  intro p l e R s m args below meth c H locs cells slots Z la φ hx hb hl kk
  obtain ⟨la', e', -⟩ := lv_store1 (v := tv φ (.ref x)) hl hi rfl
  have kk := kk la' e'
  intro T hT X
  obtain ⟨t, a, b⟩ := kk T hT X
  refine ⟨t, ?_, b⟩
  have e' : storeLocals la (n : Nat) (tv φ (.ref x)) = some la' := e'
  simp only [tv] at e'
  simp only [List.map_cons, tv]
  jvm_step X.here [X.here.top, ↓top_set X.here.top, hx, hb, hd, e']
  first | exact a | exact ⟨rfl, a⟩
theorem A.astore_r {n : Nat} {x : Nat} (hi : (n : Nat) < y.2.2.1) (hp : okst ls (n : Nat) = true) (hd : decode (mcode y) pc = .ok (.astore n, 2)) (k : A d y (pc + 2) (ls.set (n : Nat) (some (.ref x))) st G kc ks Q) : A d y pc ls (.ref x :: st) G kc ks Q := by
  refine A.store1 hi rfl hp ?_ k
  intro p l e R s m args below meth c H locs cells slots Z la φ hx hb hl kk
  obtain ⟨la', e', -⟩ := lv_store1 (v := tv φ (.ref x)) hl hi rfl
  have kk := kk la' e'
  intro T hT X
  obtain ⟨t, a, b⟩ := kk T hT X
  refine ⟨t, ?_, b⟩
  have e' : storeLocals la (n : Nat) (tv φ (.ref x)) = some la' := e'
  simp only [tv] at e'
  simp only [List.map_cons, tv]
  jvm_step X.here [X.here.top, ↓top_set X.here.top, hx, hb, hd, e']
  first | exact a | exact ⟨rfl, a⟩
theorem A.astore_n0 {n : Fin 4} (hi : (n : Nat) < y.2.2.1) (hp : okst ls (n : Nat) = true) (hd : decode (mcode y) pc = .ok (.astore_n n, 1)) (k : A d y (pc + 1) (ls.set (n : Nat) (some .null)) st G kc ks Q) : A d y pc ls (.null :: st) G kc ks Q := by
  refine A.store1 hi rfl hp ?_ k
  intro p l e R s m args below meth c H locs cells slots Z la φ hx hb hl kk
  obtain ⟨la', e', -⟩ := lv_store1 (v := tv φ .null) hl hi rfl
  have kk := kk la' e'
  intro T hT X
  obtain ⟨t, a, b⟩ := kk T hT X
  refine ⟨t, ?_, b⟩
  simp only [tv] at e'
  simp only [List.map_cons, tv]
  jvm_step X.here [X.here.top, ↓top_set X.here.top, hx, hb, hd, e']
  first | exact a | exact ⟨rfl, a⟩
theorem A.astore_0 {n : Nat} (hi : (n : Nat) < y.2.2.1) (hp : okst ls (n : Nat) = true) (hd : decode (mcode y) pc = .ok (.astore n, 2)) (k : A d y (pc + 2) (ls.set (n : Nat) (some .null)) st G kc ks Q) : A d y pc ls (.null :: st) G kc ks Q := by
  refine A.store1 hi rfl hp ?_ k
  intro p l e R s m args below meth c H locs cells slots Z la φ hx hb hl kk
  obtain ⟨la', e', -⟩ := lv_store1 (v := tv φ .null) hl hi rfl
  have kk := kk la' e'
  intro T hT X
  obtain ⟨t, a, b⟩ := kk T hT X
  refine ⟨t, ?_, b⟩
  simp only [tv] at e'
  simp only [List.map_cons, tv]
  jvm_step X.here [X.here.top, ↓top_set X.here.top, hx, hb, hd, e']
  first | exact a | exact ⟨rfl, a⟩
theorem A.lstore_n {n : Fin 4} {x : Int64} (hi : (n : Nat) + 1 < y.2.2.1) (hp : okst ls (n : Nat) = true) (hd : decode (mcode y) pc = .ok (.lstore_n n, 1)) (k : A d y (pc + 1) ((ls.set (n : Nat) (some (.long x))).set ((n : Nat) + 1) none) st G kc ks Q) : A d y pc ls (.long x :: st) G kc ks Q := by
  refine A.store2 hi rfl hp ?_ k
  intro p l e R s m args below meth c H locs cells slots Z la φ hx hb hl kk
  obtain ⟨la', e', -⟩ := lv_store2 (v := tv φ (.long x)) hl hi rfl
  have kk := kk la' e'
  intro T hT X
  obtain ⟨t, a, b⟩ := kk T hT X
  refine ⟨t, ?_, b⟩
  simp only [tv] at e'
  simp only [List.map_cons, tv]
  jvm_step X.here [X.here.top, ↓top_set X.here.top, hx, hb, hd, e']
  first | exact a | exact ⟨rfl, a⟩
theorem A.lstore {n : Nat} {x : Int64} (hi : (n : Nat) + 1 < y.2.2.1) (hp : okst ls (n : Nat) = true) (hd : decode (mcode y) pc = .ok (.lstore n, 2)) (k : A d y (pc + 2) ((ls.set (n : Nat) (some (.long x))).set ((n : Nat) + 1) none) st G kc ks Q) : A d y pc ls (.long x :: st) G kc ks Q := by
  refine A.store2 hi rfl hp ?_ k
  intro p l e R s m args below meth c H locs cells slots Z la φ hx hb hl kk
  obtain ⟨la', e', -⟩ := lv_store2 (v := tv φ (.long x)) hl hi rfl
  have kk := kk la' e'
  intro T hT X
  obtain ⟨t, a, b⟩ := kk T hT X
  refine ⟨t, ?_, b⟩
  simp only [tv] at e'
  simp only [List.map_cons, tv]
  jvm_step X.here [X.here.top, ↓top_set X.here.top, hx, hb, hd, e']
  first | exact a | exact ⟨rfl, a⟩
theorem A.iinc {n : Nat} {k : Int} {x v : Int32} (hl : ls[n]? = some (some (.int x))) (hv : x + Int32.ofInt k = v) (hi : n < y.2.2.1) (hd : decode (mcode y) pc = .ok (.iinc n k, 3)) (kk : A d y (pc + 3) (ls.set n (some (.int v))) st G kc ks Q) : A d y pc ls st G kc ks Q :=
  fun l D N0 r φ0 G0 mc ms p e R s m args below meth c H locs cells slots φ la h0 h1 h2 h3 h4 h5 h6 h7 => by
    have hlx : la[n]? = some (.val (.int x)) := h5.2.2 n _ hl
    obtain ⟨la', e', -⟩ := lv_store1 (v := Value.int v) (l := []) ⟨h5.1, h5.2.1, fun q hq => by cases hq⟩ hi rfl
    have hokp : okst ls n = true := by
      unfold okst
      cases n with
      | zero => rfl
      | succ j =>
        cases hj : ls[j]? with
        | none => simp [hj]
        | some o =>
          cases o with
          | none => simp [hj]
          | some w =>
            simp only [hj]
            by_cases hw : w.category = 2
            · have h8 := h5.2.1.1 j (tv φ w) (h5.2.2 j w hj) ((tv_cat φ w).trans hw)
              rw [hlx] at h8
              cases h8
            · simpa using hw
    have kk2 := kk l D N0 r φ0 G0 mc ms p e R s m args below meth c H locs cells slots φ la' h0 h1 h2 h3 h4 (LH_set1 h5 hi rfl hokp e') (oks_set h6 okv_i) h7
    subst hv
    have hx := h0.1
    have hb := h0.2.1
    intro T hT X
    obtain ⟨t, a, b⟩ := kk2 T hT X
    refine ⟨t, ?_, b⟩
    jvm_step X.here [X.here.top, ↓top_set X.here.top, hx, hb, hd, hlx, e']
    exact a
end RULES
end
section
/-! ROWS OVER THE HEAP -/
def CK (ci : Nat) (C : String) (T : u_T) (N : Nat) (ty : Nat → FieldType) : Prop :=
  classes[ci]? = some (C, T, N) ∧ (∀ w ∈ u_ws C T N, w ∈ gt) ∧ (∀ k, k < N → parseFieldDescriptor (T k).2.2.1 = some (ty k)) ∧ (∀ a, a < N → ∀ b, b < N → a ≠ b → (T a).2.1 ≠ (T b).2.1)
/-- the field that the entry idx of own's pool names: the k-th of the class ci, of type t -/
def FL (own : String) (idx ci k : Nat) (t : FieldType) : Prop :=
  ∃ (C : String) (T : u_T) (N : Nat) (ty : Nat → FieldType), CK ci C T N ty ∧ k < N ∧ ty k = t ∧
    ((∃ ref, Cond.fieldLink own idx ref (T k).2.1 (T k).2.2.1 ∈ gt ∧ (ref = (T k).1 ∨ Cond.sameField ref (T k).1 (T k).2.1 (T k).2.2.1 ∈ gt)) ∨ ∃ host, Cond.fieldLinkNest own idx (T k).1 (T k).2.1 (T k).2.2.1 host ∈ nt)
/-- ... and it isn't final -/
def FP (own : String) (idx ci k : Nat) (t : FieldType) : Prop :=
  ∃ (C : String) (T : u_T) (N : Nat) (ty : Nat → FieldType), CK ci C T N ty ∧ k < N ∧ ty k = t ∧ (T k).2.2.2 = false ∧
    ((∃ ref, Cond.fieldLink own idx ref (T k).2.1 (T k).2.2.1 ∈ gt ∧ (ref = (T k).1 ∨ Cond.sameField ref (T k).1 (T k).2.1 (T k).2.2.1 ∈ gt)) ∨ ∃ host, Cond.fieldLinkNest own idx (T k).1 (T k).2.1 (T k).2.2.1 host ∈ nt)
/-- ... final, of own itself -/
def FF (own : String) (idx ci k : Nat) (t : FieldType) : Prop :=
  ∃ (C : String) (T : u_T) (N : Nat) (ty : Nat → FieldType), CK ci C T N ty ∧ k < N ∧ ty k = t ∧ (T k).2.2.2 = true ∧ (T k).1 = own ∧ Cond.fieldLink own idx (T k).1 (T k).2.1 (T k).2.2.1 ∈ gt
def fitv (t : FieldType) (v : Value) : Bool := match t, v with
  | .int, .int _ => true
  | .object _, .ref _ => true
  | .object _, .null => true
  | .array _, .ref _ => true
  | .array _, .null => true
  | _, _ => false
theorem fitv_ok {t : FieldType} {v : Value} (h : fitv t v = true) (φ : Nat → Nat) : narrow t (tv φ v) = tv φ v ∧ fits t (tv φ v) = true := by
  cases t <;> cases v <;> first | (cases h; done) | exact ⟨rfl, rfl⟩
section HEAP
variable {d : Nat} {y : MI} {pc : Nat} {ls : List (Option Value)} {st : List Value} {G : AHp} {kc ks : Nat} {Q : Option Value → AHp → Prop}
theorem A.getfield {idx ci k a : Nat} {t : FieldType} {fs : List Value} {v : Value} (hf : FL (mcls y) idx ci k t) (hd : decode (mcode y) pc = .ok (.getfield idx, 3)) (ha : G a = some (oB ci fs)) (hv : fs[k]? = some v) (kk : A d y (pc + 3) ls (v :: st) G kc ks Q) : A d y pc ls (.ref a :: st) G kc ks Q := by
  intro l D N0 r φ0 G0 mc ms p e R s m args below meth c H locs cells slots φ la h0 h1 h2 h3 h4 h5 h6 h7
  have h16 := h1.hi ha (fun n f h => by cases h)
  obtain ⟨e', hP, hz, hok, -⟩ := h1.at h16 ha
  have kk := kk l D N0 r φ0 G0 mc ms p e R s m args below meth c H locs cells slots φ la h0 h1 h2 h3 h4 h5 h6 (okl_cons (hok v (List.mem_of_getElem? hv)) (okl_tail h7))
  obtain ⟨hx, hb, hr, hml, hown, hts, hlocks, hnm, hK, hSt, hd1, hd2, hN, hnx⟩ := h0
  cases (show e' = _ from hz)
  obtain ⟨C, T, N, ty, ⟨hc, hin, hty, hnm⟩, hk, -, hl⟩ := hf
  have hv' : (fs.map (tv φ))[k]? = some (tv φ v) := by rw [List.getElem?_map, hv]; rfl
  rcases hl with ⟨ref, hl, hs⟩ | ⟨host, hl⟩
  · exact va_get (D := D) (ci := ci) hx hb hts hin hown hK hP 0 rfl hc k hk (hts _ hl) (fun x h => by
      rcases hs with rfl | hs
      · exact h
      · exact u_same (hts _ hs) x h) hv' hd kk
  · exact va_getN (D := D) (ci := ci) hx hb hts hin hown hK hP 0 rfl hc k hk (va_Nw.use rfl (hnx.1 _ hl)) (fun x h => h) hv' hd kk
theorem okc_set {G : AHp} {ci k : Nat} {fs : List Value} {v : Value} (h : okc G (oB ci fs)) (hv : okv G v) : okc G (oB ci (fs.set k v)) := fun u hu => by
  rcases List.mem_or_eq_of_mem_set hu with h1 | h1
  · exact h u h1
  · rw [h1]; exact hv
theorem A.putfield {idx ci k a : Nat} {t : FieldType} {fs : List Value} {v : Value} (hf : FP (mcls y) idx ci k t) (hd : decode (mcode y) pc = .ok (.putfield idx, 3)) (ha : G a = some (oB ci fs)) (hl : k < fs.length) (hfit : fitv t v = true) (kk : A d y (pc + 3) ls st (up G a (oB ci (fs.set k v))) kc ks Q) : A d y pc ls (v :: .ref a :: st) G kc ks Q := by
  intro l D N0 r φ0 G0 mc ms p e R s m args below meth c H locs cells slots φ la h0 h1 h2 h3 h4 h5 h6 h7
  have h16 := h1.hi ha (fun n f h => by cases h)
  obtain ⟨L, E, k0, hk0, hP, hD, hz, hok, back⟩ := h1.gap h16 ha
  have hz' : E a = .inr (ci, fs.map (tv φ)) := hz
  rw [hz'] at hk0
  have hmono : ∀ b, G b ≠ none → up G a (oB ci (fs.set k v)) b ≠ none := fun b hb => up_ne hb
  have fin : ∀ (H1 : Heap) (locs1 : List Loc), va_P D classes ((Wl φ E L).set k0 (φ a, .inr (ci, (fs.map (tv φ)).set k (tv φ v)))) H1 → va_D (fun q => N0 ≤ q) ((Wl φ E L).set k0 (φ a, .inr (ci, (fs.map (tv φ)).set k (tv φ v)))) → va_S (fun q => N0 ≤ q) s.heap H1 locs1 → W p l e R s m args below meth c H1 locs1 cells slots (MQ below (AQ D N0 r φ0 G0 Q) args s mc ms (fun q => N0 ≤ q)) (F0 m (pc + 3) la (st.map (tv φ))) := fun H1 locs1 hP1 hD1 hS1 =>
    kk l D N0 r φ0 G0 mc ms p e R s m args below meth c H1 locs1 cells slots φ la h0 (back (oB ci (fs.set k v)) _ H1 (by show _ = _; rw [List.map_set]) (okc_set hok (okl_head h7)) hP1 hD1 (low_kept h0.2.2.2.2.2.2.2.2.2.2.2.2.1 h3 hS1)) h2.put hS1 h4 h5 (oks_mono hmono h6) (okl_mono hmono (okl_tail (okl_tail h7)))
  obtain ⟨hx, hb, hr, hml, hown, hts, hlocks, hnm, hK, hSt, hd1, hd2, hN, hnx⟩ := h0
  obtain ⟨C, T, N, ty, ⟨hc, hin, hty, hnm⟩, hk, ht, hfin, hlk⟩ := hf
  have hpd : parseFieldDescriptor (T k).2.2.1 = some t := by rw [hty k hk, ht]
  obtain ⟨f1, f2⟩ := fitv_ok hfit φ
  rcases hlk with ⟨ref, hlk, hs⟩ | ⟨host, hlk⟩
  · exact va_put (D := D) (ci := ci) hx hb hts hin ty hty hnm hown hK hP hD h3 k0 hk0 hc k hk (hts _ hlk) (fun x h => by
      rcases hs with rfl | hs
      · exact h
      · exact u_same (hts _ hs) x h) hfin hpd f1 f2 (by simpa using hl) hd fin
  · exact va_putN (D := D) (ci := ci) hx hb hts hin ty hty hnm hown hK hP hD h3 k0 hk0 hc k hk (va_Nw.use rfl (hnx.1 _ hlk)) (fun x h => h) hfin hpd f1 f2 (by simpa using hl) hd fin
theorem A.putfin {idx ci k a : Nat} {t : FieldType} {fs : List Value} {v : Value} (hf : FF (mcls y) idx ci k t) (hi : y.1.name = "<init>") (hd : decode (mcode y) pc = .ok (.putfield idx, 3)) (ha : G a = some (oB ci fs)) (hl : k < fs.length) (hfit : fitv t v = true) (kk : A d y (pc + 3) ls st (up G a (oB ci (fs.set k v))) kc ks Q) : A d y pc ls (v :: .ref a :: st) G kc ks Q := by
  intro l D N0 r φ0 G0 mc ms p e R s m args below meth c H locs cells slots φ la h0 h1 h2 h3 h4 h5 h6 h7
  have h16 := h1.hi ha (fun n f h => by cases h)
  obtain ⟨L, E, k0, hk0, hP, hD, hz, hok, back⟩ := h1.gap h16 ha
  have hz' : E a = .inr (ci, fs.map (tv φ)) := hz
  rw [hz'] at hk0
  have hmono : ∀ b, G b ≠ none → up G a (oB ci (fs.set k v)) b ≠ none := fun b hb => up_ne hb
  have fin : ∀ (H1 : Heap) (locs1 : List Loc), va_P D classes ((Wl φ E L).set k0 (φ a, .inr (ci, (fs.map (tv φ)).set k (tv φ v)))) H1 → va_D (fun q => N0 ≤ q) ((Wl φ E L).set k0 (φ a, .inr (ci, (fs.map (tv φ)).set k (tv φ v)))) → va_S (fun q => N0 ≤ q) s.heap H1 locs1 → W p l e R s m args below meth c H1 locs1 cells slots (MQ below (AQ D N0 r φ0 G0 Q) args s mc ms (fun q => N0 ≤ q)) (F0 m (pc + 3) la (st.map (tv φ))) := fun H1 locs1 hP1 hD1 hS1 =>
    kk l D N0 r φ0 G0 mc ms p e R s m args below meth c H1 locs1 cells slots φ la h0 (back (oB ci (fs.set k v)) _ H1 (by show _ = _; rw [List.map_set]) (okc_set hok (okl_head h7)) hP1 hD1 (low_kept h0.2.2.2.2.2.2.2.2.2.2.2.2.1 h3 hS1)) h2.put hS1 h4 h5 (oks_mono hmono h6) (okl_mono hmono (okl_tail (okl_tail h7)))
  obtain ⟨hx, hb, hr, hml, hown, hts, hlocks, hname, hK, hSt, hd1, hd2, hN, hnx⟩ := h0
  obtain ⟨C, T, N, ty, ⟨hc, hin, hty, hnm⟩, hk, ht, hfin, hdecl, hlk⟩ := hf
  have hpd : parseFieldDescriptor (T k).2.2.1 = some t := by rw [hty k hk, ht]
  obtain ⟨f1, f2⟩ := fitv_ok hfit φ
  exact va_putF (D := D) (ci := ci) hx hb hts hin ty hty hnm hown hK hP hD h3 k0 hk0 hc k hk (hts _ hlk) (fun x h => h) hfin (hname.trans hi) hdecl hpd f1 f2 (by simpa using hl) hd fin
/-- an int array's element; the script's too -/
theorem A.iaload {a n j : Nat} {f : Nat → Int32} {i : Int32} (hd : decode (mcode y) pc = .ok (.iaload, 1)) (ha : G a = some (aI n f)) (hi : i.toInt = (j : Int)) (hj : j < n) (kk : A d y (pc + 1) ls (.int (f j) :: st) G kc ks Q) : A d y pc ls (.int i :: .ref a :: st) G kc ks Q := by
  intro l D N0 r φ0 G0 mc ms p e R s m args below meth c H locs cells slots φ la h0 h1 h2 h3 h4 h5 h6 h7
  have kk := kk l D N0 r φ0 G0 mc ms p e R s m args below meth c H locs cells slots φ la h0 h1 h2 h3 h4 h5 h6 (okl_cons okv_i (okl_tail (okl_tail h7)))
  obtain ⟨hx, hb, hr, hml, hown, hts, hlocks, hnm, hK, hSt, hd1, hd2, hN, hnx⟩ := h0
  have hcl : i.toNatClampNeg = j := by show i.toInt.toNat = j; omega
  have hin : vp_in i n := vp_in_iff.mpr ⟨by omega, by omega⟩
  rcases Nat.lt_or_ge a 16 with h16 | h16
  · obtain ⟨L, E, g1, g2, g3, g4, g5, g6, g7⟩ := h1
    obtain ⟨rfl, n', f', e1, ⟨scr, x1, x2, x3, x4, x5⟩, hlt⟩ := g7 a _ h16 ha
    cases e1
    refine W.iald (v := .int (f j)) (cell := scr) (a := r 2) hx hb x1 x2 x3 (by rw [x4]; exact hin) (by rw [hcl]; exact x5 j hj) rfl ?_ hd kk
    show [_, Value.ref (φ 2)] ++ _ = _
    rw [g6 2 (by omega)]
    rfl
  · obtain ⟨e', hP, ⟨cA, rfl, hA1, hA2⟩, hok, -⟩ := h1.at h16 ha
    have kk : W p l e R s m args below meth c H locs cells slots (MQ below (AQ D N0 r φ0 G0 Q) args s mc ms (fun q => N0 ≤ q)) (F0 m (pc + 1) la (.int (f i.toNatClampNeg) :: st.map (tv φ))) := by rw [hcl]; exact kk
    exact va_iald (tys := [(cA, .int)]) hx hb ⟨hK.1, fun k q hk => by
      have h0 : k < 1 := (List.getElem?_eq_some_iff.mp hk).1
      rw [show k = 0 by omega] at hk
      cases hk
      exact ⟨hA1, hA2⟩⟩ hP 0 0 rfl rfl hin hd kk
theorem one_ty {D : va_G} {s : State} (hK : va_K D classes [] s) {cA : ClassId} {ty : FieldType} (h1 : ArrOfT s cA ty) (h2 : va_RA s cA ty) : va_K D classes [(cA, ty)] s := ⟨hK.1, fun k q hk => by
  have h0 : k < 1 := (List.getElem?_eq_some_iff.mp hk).1
  rw [show k = 0 by omega] at hk
  cases hk
  exact ⟨h1, h2⟩⟩
theorem A.laload {a n j : Nat} {f : Nat → Int64} {i : Int32} (hd : decode (mcode y) pc = .ok (.laload, 1)) (ha : G a = some (aL n f)) (hi : i.toInt = (j : Int)) (hj : j < n) (kk : A d y (pc + 1) ls (.long (f j) :: st) G kc ks Q) : A d y pc ls (.int i :: .ref a :: st) G kc ks Q := by
  intro l D N0 r φ0 G0 mc ms p e R s m args below meth c H locs cells slots φ la h0 h1 h2 h3 h4 h5 h6 h7
  have kk := kk l D N0 r φ0 G0 mc ms p e R s m args below meth c H locs cells slots φ la h0 h1 h2 h3 h4 h5 h6 (okl_cons okv_l (okl_tail (okl_tail h7)))
  obtain ⟨hx, hb, hr, hml, hown, hts, hlocks, hnm, hK, hSt, hd1, hd2, hN, hnx⟩ := h0
  have hcl : i.toNatClampNeg = j := by show i.toInt.toNat = j; omega
  have hin : vp_in i n := vp_in_iff.mpr ⟨by omega, by omega⟩
  have h16 := h1.hi ha (fun n f h => by cases h)
  obtain ⟨e', hP, ⟨cA, rfl, hA1, hA2⟩, hok, -⟩ := h1.at h16 ha
  have kk : W p l e R s m args below meth c H locs cells slots (MQ below (AQ D N0 r φ0 G0 Q) args s mc ms (fun q => N0 ≤ q)) (F0 m (pc + 1) la (.long (f i.toNatClampNeg) :: st.map (tv φ))) := by rw [hcl]; exact kk
  exact va_lald (tys := [(cA, .long)]) hx hb (one_ty hK hA1 hA2) hP 0 0 rfl rfl hin hd kk
theorem va_rf_map {φ : Nat → Nat} {o : Option Nat} : va_rf (o.map φ) = tv φ (va_rf o) := by cases o <;> rfl
/-- an element of an array of objects -/
theorem A.aaload {a n j : Nat} {C : String} {f : Nat → Option Nat} {i : Int32} (hd : decode (mcode y) pc = .ok (.aaload, 1)) (ha : G a = some (aR (.object C) n f)) (hi : i.toInt = (j : Int)) (hj : j < n) (kk : A d y (pc + 1) ls (va_rf (f j) :: st) G kc ks Q) : A d y pc ls (.int i :: .ref a :: st) G kc ks Q := by
  intro l D N0 r φ0 G0 mc ms p e R s m args below meth c H locs cells slots φ la h0 h1 h2 h3 h4 h5 h6 h7
  have h16 := h1.hi ha (fun n f h => by cases h)
  obtain ⟨e', hP, ⟨cA, rfl, hA1, hA2⟩, hok, -⟩ := h1.at h16 ha
  have hokj : okv G (va_rf (f j)) := by
    cases hf : f j with
    | none => exact okv_0
    | some b => exact okv_r (hok j b hf)
  have kk := kk l D N0 r φ0 G0 mc ms p e R s m args below meth c H locs cells slots φ la h0 h1 h2 h3 h4 h5 h6 (okl_cons hokj (okl_tail (okl_tail h7)))
  obtain ⟨hx, hb, hr, hml, hown, hts, hlocks, hnm, hK, hSt, hd1, hd2, hN, hnx⟩ := h0
  have hcl : i.toNatClampNeg = j := by show i.toInt.toNat = j; omega
  have hin : vp_in i n := vp_in_iff.mpr ⟨by omega, by omega⟩
  have kk : W p l e R s m args below meth c H locs cells slots (MQ below (AQ D N0 r φ0 G0 Q) args s mc ms (fun q => N0 ≤ q)) (F0 m (pc + 1) la (va_rf ((f i.toNatClampNeg).map φ) :: st.map (tv φ))) := by rw [hcl, va_rf_map]; exact kk
  exact va_aldq (tys := [(cA, .object C)]) (f := fun j => (f j).map φ) hx hb (one_ty hK hA1 hA2) hP 0 0 rfl rfl hin hd kk
/-- a row of an array of int arrays -/
theorem A.aaload2 {a n j : Nat} {f : Nat → Option Nat} {i : Int32} (hd : decode (mcode y) pc = .ok (.aaload, 1)) (ha : G a = some (aR (.array .int) n f)) (hi : i.toInt = (j : Int)) (hj : j < n) (kk : A d y (pc + 1) ls (va_rf (f j) :: st) G kc ks Q) : A d y pc ls (.int i :: .ref a :: st) G kc ks Q := by
  intro l D N0 r φ0 G0 mc ms p e R s m args below meth c H locs cells slots φ la h0 h1 h2 h3 h4 h5 h6 h7
  have h16 := h1.hi ha (fun n f h => by cases h)
  obtain ⟨e', hP, ⟨cA, rfl, hA1, hA2⟩, hok, -⟩ := h1.at h16 ha
  have hokj : okv G (va_rf (f j)) := by
    cases hf : f j with
    | none => exact okv_0
    | some b => exact okv_r (hok j b hf)
  have kk := kk l D N0 r φ0 G0 mc ms p e R s m args below meth c H locs cells slots φ la h0 h1 h2 h3 h4 h5 h6 (okl_cons hokj (okl_tail (okl_tail h7)))
  obtain ⟨hx, hb, hr, hml, hown, hts, hlocks, hnm, hK, hSt, hd1, hd2, hN, hnx⟩ := h0
  have hcl : i.toNatClampNeg = j := by show i.toInt.toNat = j; omega
  have hin : vp_in i n := vp_in_iff.mpr ⟨by omega, by omega⟩
  have hlt : i.toNatClampNeg < n := by omega
  refine W.aald (v := va_rf ((f j).map φ)) (ty := .array .int) hx hb (hP 0 _ rfl) (hA1 n (fun j => va_rf ((f j).map φ))) rfl (fun q => by cases q) (by show ¬ (i < 0 ∨ (arrV _ _ _).slots.size ≤ _); rw [arrV_size]; exact hin) (by show (arrV cA n (fun j => va_rf ((f j).map φ))).slots[_]? = _; rw [arrV_read _ _ hlt, hcl]) rfl rfl hd ?_
  rw [va_rf_map]
  exact kk
theorem A.iastore {a n j : Nat} {f : Nat → Int32} {i x : Int32} (hd : decode (mcode y) pc = .ok (.iastore, 1)) (ha : G a = some (aI n f)) (h2a : a ≠ 2) (hi : i.toInt = (j : Int)) (hj : j < n) (kk : A d y (pc + 1) ls st (up G a (aI n (upd f j x))) kc ks Q) : A d y pc ls (.int x :: .int i :: .ref a :: st) G kc ks Q := by
  intro l D N0 r φ0 G0 mc ms p e R s m args below meth c H locs cells slots φ la h0 h1 h2 h3 h4 h5 h6 h7
  have h16 := h1.hi2 ha h2a
  have hcl : i.toNatClampNeg = j := by show i.toInt.toNat = j; omega
  have hin : vp_in i n := vp_in_iff.mpr ⟨by omega, by omega⟩
  obtain ⟨L, E, k0, hk0, hP, hD, ⟨cA, hz, hA1, hA2⟩, hok, back⟩ := h1.gap h16 ha
  rw [hz] at hk0
  have hmono : ∀ b, G b ≠ none → up G a (aI n (upd f j x)) b ≠ none := fun b hb => up_ne hb
  refine va_iast (tys := [(cA, .int)]) h0.1 h0.2.1 (one_ty h0.2.2.2.2.2.2.2.2.1 hA1 hA2) hP hD h3 k0 0 hk0 rfl hin hd (fun H1 locs1 hP1 hD1 hS1 => ?_)
  rw [hcl] at hP1 hD1
  exact kk l D N0 r φ0 G0 mc ms p e R s m args below meth c H1 locs1 cells slots φ la h0 (back (aI n (upd f j x)) _ H1 ⟨cA, rfl, hA1, hA2⟩ trivial hP1 hD1 (low_kept h0.2.2.2.2.2.2.2.2.2.2.2.2.1 h3 hS1)) h2.put hS1 h4 h5 (oks_mono hmono h6) (okl_mono hmono (okl_tail (okl_tail (okl_tail h7))))
theorem A.lastore {a n j : Nat} {f : Nat → Int64} {i : Int32} {x : Int64} (hd : decode (mcode y) pc = .ok (.lastore, 1)) (ha : G a = some (aL n f)) (hi : i.toInt = (j : Int)) (hj : j < n) (kk : A d y (pc + 1) ls st (up G a (aL n (vp_updL f j x))) kc ks Q) : A d y pc ls (.long x :: .int i :: .ref a :: st) G kc ks Q := by
  intro l D N0 r φ0 G0 mc ms p e R s m args below meth c H locs cells slots φ la h0 h1 h2 h3 h4 h5 h6 h7
  have h16 := h1.hi ha (fun n f h => by cases h)
  have hcl : i.toNatClampNeg = j := by show i.toInt.toNat = j; omega
  have hin : vp_in i n := vp_in_iff.mpr ⟨by omega, by omega⟩
  obtain ⟨L, E, k0, hk0, hP, hD, ⟨cA, hz, hA1, hA2⟩, hok, back⟩ := h1.gap h16 ha
  rw [hz] at hk0
  have hmono : ∀ b, G b ≠ none → up G a (aL n (vp_updL f j x)) b ≠ none := fun b hb => up_ne hb
  refine va_last (tys := [(cA, .long)]) h0.1 h0.2.1 (one_ty h0.2.2.2.2.2.2.2.2.1 hA1 hA2) hP hD h3 k0 0 hk0 rfl hin hd (fun H1 locs1 hP1 hD1 hS1 => ?_)
  rw [hcl] at hP1 hD1
  exact kk l D N0 r φ0 G0 mc ms p e R s m args below meth c H1 locs1 cells slots φ la h0 (back (aL n (vp_updL f j x)) _ H1 ⟨cA, rfl, hA1, hA2⟩ trivial hP1 hD1 (low_kept h0.2.2.2.2.2.2.2.2.2.2.2.2.1 h3 hS1)) h2.put hS1 h4 h5 (oks_mono hmono h6) (okl_mono hmono (okl_tail (okl_tail (okl_tail h7))))
theorem A.alen {a : Nat} {ty : FieldType} {x : vp_A} {v : Int32} (hd : decode (mcode y) pc = .ok (.arraylength, 1)) (ha : G a = some (.inl (ty, x))) (hv : Int32.ofNat x.1 = v) (kk : A d y (pc + 1) ls (.int v :: st) G kc ks Q) : A d y pc ls (.ref a :: st) G kc ks Q := by
  intro l D N0 r φ0 G0 mc ms p e R s m args below meth c H locs cells slots φ la h0 h1 h2 h3 h4 h5 h6 h7
  have kk := kk l D N0 r φ0 G0 mc ms p e R s m args below meth c H locs cells slots φ la h0 h1 h2 h3 h4 h5 h6 (okl_cons okv_i (okl_tail h7))
  obtain ⟨hx, hb, hr, hml, hown, hts, hlocks, hnm, hK, hSt, hd1, hd2, hN, hnx⟩ := h0
  rcases Nat.lt_or_ge a 16 with h16 | h16
  · obtain ⟨L, E, g1, g2, g3, g4, g5, g6, g7⟩ := h1
    obtain ⟨rfl, n', f', e1, ⟨scr, x1, x2, x3, x4, x5⟩, hlt⟩ := g7 a _ h16 ha
    cases e1
    refine W.alen (cell := scr) (a := r 2) (n := v) hx hb x1 x2 (by rw [x4]; exact hv) rfl ?_ hd kk
    show [Value.ref (φ 2)] ++ _ = _
    rw [g6 2 (by omega)]
    rfl
  · obtain ⟨e', hP, ⟨cA, rfl, hA1, hA2⟩, hok, -⟩ := h1.at h16 ha
    exact va_alen (tys := [(cA, ty)]) hx hb (one_ty hK hA1 hA2) hP 0 0 rfl rfl (by obtain ⟨n, f | f | f | f | f⟩ := x <;> exact hv) hd kk
/-- the length of the JDK's shared empty array -/
theorem A.alen1 (hd : decode (mcode y) pc = .ok (.arraylength, 1)) (kk : A d y (pc + 1) ls (.int 0 :: st) G kc ks Q) : A d y pc ls (.ref 1 :: st) G kc ks Q := by
  intro l D N0 r φ0 G0 mc ms p e R s m args below meth c H locs cells slots φ la h0 h1 h2 h3 h4 h5 h6 h7
  have kk := kk l D N0 r φ0 G0 mc ms p e R s m args below meth c H locs cells slots φ la h0 h1 h2 h3 h4 h5 h6 (okl_cons okv_i (okl_tail h7))
  obtain ⟨hx, hb, hr, hml, hown, hts, hlocks, hnm, hK, hSt, hd1, hd2, hN, hnx⟩ := h0
  obtain ⟨f, hT⟩ := hSt.2.1
  obtain ⟨L, E, g1, g2, g3, g4, g5, g6, g7⟩ := h1
  have e1 : φ 1 = r 1 := g6 1 (by omega)
  show W p l e R s m args below meth c H locs cells slots (MQ below (AQ D N0 r φ0 G0 Q) args s mc ms (fun q => N0 ≤ q)) (F0 m pc la (.ref (φ 1) :: st.map (tv φ)))
  rw [e1]
  exact va_tlen hx hb hT h3 rfl hd kk
/-- the JDK's shared empty array is read -/
theorem A.getstatic {idx : Nat} (hl : Cond.fieldLink (mcls y) idx "java/util/ArrayList" "DEFAULTCAPACITY_EMPTY_ELEMENTDATA" "[Ljava/lang/Object;" ∈ gt) (hd : decode (mcode y) pc = .ok (.getstatic idx, 3)) (kk : A d y (pc + 3) ls (.ref 1 :: st) G kc ks Q) : A d y pc ls st G kc ks Q := by
  intro l D N0 r φ0 G0 mc ms p e R s m args below meth c H locs cells slots φ la h0 h1 h2 h3 h4 h5 h6 h7
  have kk := kk l D N0 r φ0 G0 mc ms p e R s m args below meth c H locs cells slots φ la h0 h1 h2 h3 h4 h5 h6 (okl_cons (okv_r (Or.inl (by omega))) h7)
  obtain ⟨hx, hb, hr, hml, hown, hts, hlocks, hnm, hK, hSt, hd1, hd2, hN, hnx⟩ := h0
  obtain ⟨L, E, g1, g2, g3, g4, g5, g6, g7⟩ := h1
  have e1 : φ 1 = r 1 := g6 1 (by omega)
  have kk : W p l e R s m args below meth c H locs cells slots (MQ below (AQ D N0 r φ0 G0 Q) args s mc ms (fun q => N0 ≤ q)) (F0 m (pc + 3) la (.ref (φ 1) :: st.map (tv φ))) := kk
  rw [e1] at kk
  exact va_gets hx hb hSt.1 h3 hown (hts _ hl) (fun x h => h) hd kk
end HEAP
end
section
/-! RETURNS AND CALLS -/
section RET
variable {d : Nat} {y : MI} {pc : Nat} {ls : List (Option Value)} {st : List Value} {G : AHp} {kc ks : Nat} {Q : Option Value → AHp → Prop}
theorem A.iret {v : Int32} (hd : decode (mcode y) pc = .ok (.ireturn, 1)) (ht : y.2.2.2 = some .int) (h : Q (some (.int v)) G) : A d y pc ls [.int v] G kc ks Q := by
  intro l D N0 r φ0 G0 mc ms p e R s m args below meth c H locs cells slots φ la h0 h1 h2 h3 h4 h5 h6 h7
  obtain ⟨hx, hb, hr, hml, hown, hts, hlocks, hnm, hK, hSt, hd1, hd2, hN, hnx⟩ := h0
  refine W.widen (k := mc) (n := ms) (by omega) (by omega) ?_
  exact W.iret hx hb (hr.trans ht) (fun t ht hW => ⟨some (.int v), φ, G, rfl, h, h2, fun u hu => by cases hu; exact okv_i, by rw [ht]; exact h1.moved hW.alike, h3.F ht⟩) h3.2.2 hd hlocks
theorem A.zret {v : Int32} (hd : decode (mcode y) pc = .ok (.ireturn, 1)) (ht : y.2.2.2 = some .boolean) (hv : v = 0 ∨ v = 1) (h : Q (some (.int v)) G) : A d y pc ls [.int v] G kc ks Q := by
  intro l D N0 r φ0 G0 mc ms p e R s m args below meth c H locs cells slots φ la h0 h1 h2 h3 h4 h5 h6 h7
  obtain ⟨hx, hb, hr, hml, hown, hts, hlocks, hnm, hK, hSt, hd1, hd2, hN, hnx⟩ := h0
  refine W.widen (k := mc) (n := ms) (by omega) (by omega) ?_
  exact W.zret hx hb (hr.trans ht) (by rcases hv with rfl | rfl <;> rfl) (fun t ht hW => ⟨some (.int v), φ, G, rfl, h, h2, fun u hu => by cases hu; exact okv_i, by rw [ht]; exact h1.moved hW.alike, h3.F ht⟩) h3.2.2 hd hlocks
theorem A.vret (hd : decode (mcode y) pc = .ok (.return_, 1)) (ht : y.2.2.2 = none) (h : Q none G) : A d y pc ls [] G kc ks Q := by
  intro l D N0 r φ0 G0 mc ms p e R s m args below meth c H locs cells slots φ la h0 h1 h2 h3 h4 h5 h6 h7
  obtain ⟨hx, hb, hr, hml, hown, hts, hlocks, hnm, hK, hSt, hd1, hd2, hN, hnx⟩ := h0
  refine W.widen (k := mc) (n := ms) (by omega) (by omega) ?_
  exact W.vret hx hb (hr.trans ht) (fun t ht hW => ⟨none, φ, G, rfl, h, h2, (fun u hu => by cases hu), by rw [ht]; exact h1.moved hW.alike, h3.F ht⟩) h3.2.2 hd hlocks
theorem A.aret {v : Value} {rt : FieldType} (hd : decode (mcode y) pc = .ok (.areturn, 1)) (ht : y.2.2.2 = some rt) (hrt : (∃ n, rt = .object n) ∨ ∃ t, rt = .array t) (hv : isrf v = true) (h : Q (some v) G) : A d y pc ls [v] G kc ks Q := by
  intro l D N0 r φ0 G0 mc ms p e R s m args below meth c H locs cells slots φ la h0 h1 h2 h3 h4 h5 h6 h7
  obtain ⟨hx, hb, hr, hml, hown, hts, hlocks, hnm, hK, hSt, hd1, hd2, hN, hnx⟩ := h0
  refine W.widen (k := mc) (n := ms) (by omega) (by omega) ?_
  refine W.aret hx hb (hr.trans ht) hrt ?_ (fun t ht hW => ⟨some v, φ, G, rfl, h, h2, fun u hu => by cases hu; exact okl_head h7, by rw [ht]; exact h1.moved hW.alike, h3.F ht⟩) h3.2.2 hd hlocks
  cases v <;> first | (cases hv; done) | exact Or.inl rfl | exact Or.inr ⟨_, rfl⟩
end RET
/-- the locals of a method at its entry -/
def entl : List Value → List (Option Value)
  | [] => []
  | v :: vs => if v.category = 2 then some v :: none :: entl vs else some v :: entl vs
def ent (n : Nat) (As : List Value) : List (Option Value) := entl As ++ List.replicate (n - (entl As).length) none
theorem entl_args (φ : Nat → Nat) : ∀ (As : List Value) (b i : Nat) (v : Value), (entl As)[i]? = some (some v) → (b + i, tv φ v) ∈ lv_args b (As.map (tv φ))
  | [], b, i, v, h => by simp [entl] at h
  | w :: As, b, i, v, h => by
    simp only [List.map_cons, lv_args, tv_cat]
    unfold entl at h
    by_cases hc : w.category = 2
    · rw [if_pos hc] at h
      rw [if_pos hc]
      match i with
      | 0 => simp at h; subst h; exact List.mem_cons_self
      | 1 => simp at h
      | i + 2 =>
        have := entl_args φ As (b + 2) i v (by simpa using h)
        rw [show b + 2 + i = b + (i + 2) by omega] at this
        exact List.mem_cons_of_mem _ this
    · rw [if_neg hc] at h
      rw [if_neg hc]
      match i with
      | 0 => simp at h; subst h; exact List.mem_cons_self
      | i + 1 =>
        have := entl_args φ As (b + 1) i v (by simpa using h)
        rw [show b + 1 + i = b + (i + 1) by omega] at this
        exact List.mem_cons_of_mem _ this
theorem entl_len (φ : Nat → Nat) : ∀ As : List Value, (lg_sl (As.map (tv φ))).length = (entl As).length
  | [] => rfl
  | w :: As => by
    have ih := entl_len φ As
    simp only [lg_sl, List.map_cons, List.flatMap_cons, List.length_append, tv_cat] at ih ⊢
    unfold entl
    by_cases hc : w.category = 2
    · rw [if_pos hc, if_pos hc]; simp only [List.length_cons, List.length_nil]; omega
    · rw [if_neg hc, if_neg hc]; simp only [List.length_cons, List.length_nil]; omega
theorem ent_LH {φ : Nat → Nat} {n : Nat} {As : List Value} (h : (entl As).length ≤ n) : LH ((lg_sl (As.map (tv φ)) ++ List.replicate (n - (lg_sl (As.map (tv φ))).length) Slot.unset).toArray) n φ (ent n As) := by
  have h1 := lv_entry (As.map (tv φ)) (n := n) (by rw [entl_len]; exact h)
  refine ⟨h1.1, h1.2.1, fun i v hv => ?_⟩
  unfold ent at hv
  by_cases hi : i < (entl As).length
  · rw [List.getElem?_append_left hi] at hv
    have h2 := entl_args φ As 0 i v hv
    rw [Nat.zero_add] at h2
    exact h1.2.2 _ h2
  · rw [List.getElem?_append_right (by omega)] at hv
    have := List.eq_of_mem_replicate (List.mem_of_getElem? hv)
    cases this
theorem ent_ok {G : AHp} {n : Nat} {As : List Value} (h : okl G As) : oks G (ent n As) := by
  have key : ∀ As : List Value, okl G As → oks G (entl As) := by
    intro As
    induction As with
    | nil => intro _ v hv; cases hv
    | cons w As ih =>
      intro h v hv
      unfold entl at hv
      by_cases hc : w.category = 2
      · rw [if_pos hc] at hv
        rcases List.mem_cons.mp hv with e | hv
        · cases e; exact okl_head h
        · rcases List.mem_cons.mp hv with e | hv
          · cases e
          · exact ih (okl_tail h) v hv
      · rw [if_neg hc] at hv
        rcases List.mem_cons.mp hv with e | hv
        · cases e; exact okl_head h
        · exact ih (okl_tail h) v hv
  intro v hv
  rcases List.mem_append.mp hv with hv | hv
  · exact key As h v hv
  · have := List.eq_of_mem_replicate hv
    cases this
/-- what a method's name and bytes must be for a call -/
def Cal (y : MI) (n : Nat) : Prop := Cond.initialized y.1.cls ∈ gt ∧ Cond.code y.1 y.2.1 y.2.2.1 y.2.2.2 ∈ gt ∧ (y.1.cls ≠ "java/lang/invoke/MethodHandle" ∧ y.1.cls ≠ "java/lang/invoke/VarHandle" ∧ (parseMethodDescriptor y.1.desc).map (fun d => d.parameters.length) = some n) ∧ y.2.2.1 ≤ 21 ∧ plainName y.1.cls = true
abbrev wsO (y : MI) : List Cond := Cond.code y.1 y.2.1 y.2.2.1 y.2.2.2 :: gt
abbrev rmO (d kc ks : Nat) : Room := { frames := d, cells := kc, slots := ks, locals := 40 * d }
def PcO (D : va_G) (N0 : Nat) (r φ : Nat → Nat) (G : AHp) (H : Heap) (As : List Value) : Array Value → State → Prop := fun v U =>
  v = (As.map (tv φ)).toArray ∧ U.heap = H ∧ N0 ≤ H.size ∧ va_K D classes [] U ∧ Sta N0 r U H ∧ NX U ∧ Rel D N0 r U φ G H ∧ okl G As
/-- a judgement of a method at its entry is a contract of it -/
theorem A.met {l : Launch} {d : Nat} {y : MI} {n : Nat} {As : List Value} {G : AHp} {kc ks : Nat} {Q : Option Value → AHp → Prop} {D : va_G} {N0 : Nat} {r φ : Nat → Nat} {H : Heap} (hy : Cal y n) (hlen : (entl As).length ≤ y.2.2.1) (h : A d y 0 (ent y.2.2.1 As) [] G kc ks Q) :
    Met l y.1 (wsO y) (rmO d kc ks) (PcO D N0 r φ G H As) (AQ D N0 r φ G Q) kc ks (fun q => N0 ≤ q) := by
  refine Met.ofW (cc := y.2.1) (maxL := y.2.2.1) (ret := y.2.2.2) hy.2.2.2.2 rfl ?_
  intro p e s m args below meth c s₁ B hml hv
  obtain ⟨rfl, hH, hN, hK, hSt, hnx, hR, hok⟩ := hv
  have hts := atoms_spec (ws := wsO y) B.pre
  rw [lg_entry_eq]
  have hSt' : Sta N0 r s s.heap := by rw [hH]; exact hSt
  have hR' : Rel D N0 r s φ G s.heap := by rw [hH]; exact hR
  exact h l D N0 r φ G kc ks p e (rmO d kc ks) s m _ below meth c s.heap [] 0 0 φ _
    ⟨B.exec, B.bytes, B.returns, hml, findClass_of_methodNamed B.named, fun w hw => hts w (List.mem_cons_of_mem _ hw), B.notSynchronized, (name_of_methodNamed B.named B.method).1, hK, hSt', Nat.le_refl _, Nat.le_refl _, by rw [hH]; exact hN, hnx⟩
    hR' Ext.rf va_S.rf ⟨by omega, by omega, Nat.le_refl _, Nat.le_refl _⟩ (ent_LH hlen) (ent_ok hok) okl_nil
def psh (v : Option Value) (st : List Value) : List Value := match v with
  | none => st
  | some v => v :: st
theorem psh_map (φ : Nat → Nat) (v : Option Value) (st : List Value) : (psh v st).map (tv φ) = (v.map (tv φ)).toList ++ st.map (tv φ) := by cases v <;> rfl
theorem good_wsO {y : MI} {n : Nat} (hy : Cal y n) : GoodIn gt (wsO y) := fun w hw => by
  rcases List.mem_cons.mp hw with rfl | hw
  · exact gt_good _ hy.2.1
  · exact gt_good w hw
theorem blindO {D : va_G} {N0 : Nat} {r φ : Nat → Nat} {G : AHp} {H : Heap} {As : List Value} : FrameBlind (PcO D N0 r φ G H As) := fun a U g mk q => by
  obtain ⟨q1, q2, q3, q4, q5, q6, q7, q8⟩ := q
  exact ⟨q1, q2, q3, va_K.moved (u := U) (U := U.calling g mk a) (Vm.Alike.refl U.vm) q4, Sta.moved (u := U) (U := U.calling g mk a) (Vm.Alike.refl U.vm) q5, NX.warm (s := U) (U := U.calling g mk a) (State.WarmedH.refl U) q6, Rel.moved (u := U) (U := U.calling g mk a) (Vm.Alike.refl U.vm) q7, q8⟩
theorem preO {D : va_G} {N0 : Nat} {r φ : Nat → Nat} {G : AHp} {H : Heap} {As : List Value} {s : State} {locs : List Loc} (hN : N0 ≤ s.heap.size) (hK : va_K D classes [] s) (hSt : Sta N0 r s s.heap) (hnx : NX s) (hR : Rel D N0 r s φ G H) (hS : va_S (fun q => N0 ≤ q) s.heap H locs) (hok : okl G As) : ∀ U : State, U.heap = H → s.WarmedH U.vm → PcO D N0 r φ G H As (As.map (tv φ)).toArray U := fun U hU hW =>
  ⟨rfl, hU, Nat.le_trans hN hS.1, va_K.moved hW.alike hK, (hSt.kept hS.2.1).moved hW.alike, hnx.warm hW, hR.moved hW.alike, hok⟩
/-- behind a call -/
theorem callO {p : Program} {l : Launch} {e : Env} {R : Room} {s : State} {m : MethodId} {args a : Array Value} {below : List Frame} {meth : Method} {c : Code} {H : Heap} {locs : List Loc} {cells slots kc1 ks1 pc : Nat} {la : Array Slot} {st0 rest : List Value} {Z : State → Prop} {D : va_G} {N0 : Nat} {r φ : Nat → Nat} {G : AHp} {Q1 : Option Value → AHp → Prop}
    (hr : va_Run p l e R s m args below meth c H locs cells slots kc1 ks1 (F0 m pc la st0) rest (AQ D N0 r φ G Q1 a) (fun q => N0 ≤ q)) (hS : va_S (fun q => N0 ≤ q) s.heap H locs)
    (kk : ∀ (v : Option Value) (φ' : Nat → Nat) (G' : AHp) (H1 : Heap) (locs1 : List Loc), Q1 v G' → Ext φ G φ' G' → (∀ u, v = some u → okv G' u) → Rel D N0 r s φ' G' H1 → va_S (fun q => N0 ≤ q) s.heap H1 locs1 → W p l e R s m args below meth c H1 locs1 (cells + kc1) (slots + ks1) Z (F0 m (pc + 3) la ((v.map (tv φ')).toList ++ rest))) :
    W p l e R s m args below meth c H locs cells slots Z (F0 m pc la st0) := by
  intro T hT X
  obtain ⟨v, st₀, t, T', L, h0, X', hL, e1, e2, ⟨v', φ', G', hv, hq, hE, hok, hR, hz, hk⟩, st⟩ := hr T hT X
  cases hv
  rw [h0] at hz hk
  have hal : s.vm.Alike t.vm := by rw [← e2]; exact X'.warmed.alike
  obtain ⟨t2, a1, b1⟩ := kk v' φ' G' T'.heap (locs ++ L) hq hE hok (by rw [e1]; exact hR.moved hal.symm) ⟨by rw [e1]; exact Nat.le_trans hS.1 hz, fun q h1 h2 => by rw [e1, hk q (Nat.lt_of_lt_of_le h1 hS.1) h2]; exact hS.2.1 q h1 h2, fun q hq => by
    rcases List.mem_append.mp hq with h | h
    · exact hS.2.2 q h
    · exact hL q h⟩ T' rfl X'
  exact ⟨t2, st t2 a1, b1⟩
def LkS (own : String) (idx : Nat) (y : MI) (n : Nat) : Prop := Cal y n ∧ Cond.static y.1 ∈ gt ∧ (Cond.methodLink own idx y.1 ∈ gt ∨ ∃ host, Cond.methodLinkNest own idx y.1 host ∈ nt)
def LkV (own : String) (idx : Nat) (y : MI) (ci n : Nat) : Prop := Cal y n ∧ Cond.instanceMethod y.1 ∈ gt ∧ (∃ T N, classes[ci]? = some (y.1.cls, T, N)) ∧ Cond.selects y.1.cls y.1 y.1 ∈ gt ∧ (Cond.methodLink own idx y.1 ∈ gt ∨ ∃ host, Cond.methodLinkNest own idx y.1 host ∈ nt)
def LkI (own : String) (idx : Nat) (y : MI) (n : Nat) : Prop := Cal y n ∧ Cond.instanceMethod y.1 ∈ gt ∧ y.1.name = "<init>" ∧ y.2.2.2 = none ∧ (Cond.methodLink own idx y.1 ∈ gt ∨ ∃ host, Cond.methodLinkNest own idx y.1 host ∈ nt)
section CALL
variable {d : Nat} {y : MI} {pc : Nat} {ls : List (Option Value)} {st : List Value} {G : AHp} {kc ks : Nat} {Q : Option Value → AHp → Prop}
theorem catm (φ : Nat → Nat) (st : List Value) : ((st.map (tv φ)).map fun v => v.category).sum = (st.map fun v => v.category).sum := by
  rw [List.map_map]
  congr 1
  exact List.map_congr_left fun v _ => tv_cat φ v
theorem A.afterCall {l : Launch} {D : va_G} {N0 : Nat} {r φ0 : Nat → Nat} {G0 : AHp} {mc ms : Nat} {p : Program} {e : Env} {R : Room} {s : State} {m : MethodId} {args a : Array Value} {below : List Frame} {meth : Method} {c : Code} {H : Heap} {locs : List Loc} {cells slots : Nat} {φ : Nat → Nat} {la : Array Slot} {st0 : List Value} {kc1 ks1 kc2 ks2 : Nat}
    (h0 : Env0 d y D N0 r p R s m args meth c) (h2 : Ext φ0 G0 φ G) (h3 : va_S (fun q => N0 ≤ q) s.heap H locs) (h4 : cells + kc ≤ mc ∧ slots + ks ≤ ms ∧ mc ≤ R.cells ∧ ms ≤ R.slots) (h5 : LH la y.2.2.1 φ ls) (h6 : oks G ls) (h7 : okl G st) (hkc : kc1 + kc2 ≤ kc) (hks : ks1 + ks2 ≤ ks)
    (hr : va_Run p l e R s m args below meth c H locs cells slots kc1 ks1 (F0 m pc la st0) (st.map (tv φ)) (AQ D N0 r φ G (fun v G' => A d y (pc + 3) ls (psh v st) G' kc2 ks2 Q) a) (fun q => N0 ≤ q)) :
    W p l e R s m args below meth c H locs cells slots (MQ below (AQ D N0 r φ0 G0 Q) args s mc ms (fun q => N0 ≤ q)) (F0 m pc la st0) := by
  refine callO hr h3 (fun v φ' G' H1 locs1 hQ hE hok hR hS => ?_)
  have hmono : ∀ b, G b ≠ none → G' b ≠ none := fun b hb => (hE.1 b hb).1
  have hst : (v.map (tv φ')).toList ++ st.map (tv φ) = (psh v st).map (tv φ') := by rw [psh_map, tvl_eq hE.ok h7]
  rw [hst]
  refine hQ l D N0 r φ0 G0 mc ms p e R s m args below meth c H1 locs1 (cells + kc1) (slots + ks1) φ' la h0 hR (h2.tr hE) hS ⟨by omega, by omega, h4.2.2⟩ (LH_eq hE.ok h6 h5) (oks_mono hmono h6) ?_
  cases v with
  | none => exact okl_mono hmono h7
  | some u => exact okl_cons (hok u rfl) (okl_mono hmono h7)
theorem A.callS {idx n d1 kc1 ks1 kc2 ks2 : Nat} {y' : MI} {As : List Value} (hl : LkS (mcls y) idx y' n) (hn : As.length = n) (hlen : (entl As).length ≤ y'.2.2.1) (hw : (st.map fun v => v.category).sum ≤ 8) (hdd : d1 + 1 ≤ d) (hkc : kc1 + kc2 ≤ kc) (hks : ks1 + ks2 ≤ ks) (hd : decode (mcode y) pc = .ok (.invokestatic idx, 3))
    (kk : A d1 y' 0 (ent y'.2.2.1 As) [] G kc1 ks1 (fun v G' => A d y (pc + 3) ls (psh v st) G' kc2 ks2 Q)) : A d y pc ls (As.reverse ++ st) G kc ks Q := by
  intro l D N0 r φ0 G0 mc ms p e R s m args below meth c H locs cells slots φ la h0 h1 h2 h3 h4 h5 h6 h7
  have hA : okl G As := fun v hv => h7 v (List.mem_append_left _ (List.mem_reverse.mpr hv))
  have hst : okl G st := fun v hv => h7 v (List.mem_append_right _ hv)
  have hM := A.met (l := l) (D := D) (N0 := N0) (r := r) (φ := φ) (H := H) hl.1 hlen kk
  refine A.afterCall (a := (As.map (tv φ)).toArray) h0 h2 h3 h4 h5 h6 hst hkc hks ?_
  obtain ⟨hx, hb, hr, hml, hown, hts, hlocks, hnm, hK, hSt, hd1, hd2, hN, hnx⟩ := h0
  obtain ⟨hc, hstat, hlk⟩ := hl
  have h21 := hc.2.2.2.1
  have hRm : (rmO d1 kc1 ks1).frames + 1 ≤ R.frames ∧ 8 + (y'.2.2.1 + 11) + (rmO d1 kc1 ks1).locals ≤ R.locals := ⟨by show d1 + 1 ≤ _; omega, by show _ + 40 * d1 ≤ _; omega⟩
  have hstk : ((As.reverse ++ st).map (tv φ)) = (As.map (tv φ)).reverse ++ st.map (tv φ) := by rw [List.map_append, List.map_reverse]
  rcases hlk with hlk | ⟨host, hlk⟩
  · exact va_runS ⟨hx, hb, hml, hown, hts⟩ hM ⟨callB_of n hts (good_wsO hc) rfl rfl rfl (hts _ hc.1) (hts _ hlk) hc.2.2.1 hRm, hts _ hstat⟩ ⟨blindO, preO hN hK hSt hnx h1 h3 hA⟩ rfl (by rw [List.length_map]; exact hn) h5.1 hstk (by rw [catm]; exact lv_room hw) hd ⟨by omega, by omega⟩
  · exact va_runSN ⟨hx, hb, hml, hown, hts⟩ hM ⟨va_cnB n hts (good_wsO hc) rfl rfl rfl (hnx.1 _ hlk) (hts _ hc.1) hc.2.2.1 hRm, hts _ hstat, trivial⟩ ⟨blindO, preO hN hK hSt hnx h1 h3 hA⟩ rfl (by rw [List.length_map]; exact hn) h5.1 hstk (by rw [catm]; exact lv_room hw) hd ⟨by omega, by omega⟩
theorem A.callV {idx n ci a d1 kc1 ks1 kc2 ks2 : Nat} {fs : List Value} {y' : MI} {As : List Value} (hl : LkV (mcls y) idx y' ci n) (ha : G a = some (oB ci fs)) (hn : As.length = n) (hlen : (entl (.ref a :: As)).length ≤ y'.2.2.1) (hw : (st.map fun v => v.category).sum ≤ 8) (hdd : d1 + 1 ≤ d) (hkc : kc1 + kc2 ≤ kc) (hks : ks1 + ks2 ≤ ks) (hd : decode (mcode y) pc = .ok (.invokevirtual idx, 3))
    (kk : A d1 y' 0 (ent y'.2.2.1 (.ref a :: As)) [] G kc1 ks1 (fun v G' => A d y (pc + 3) ls (psh v st) G' kc2 ks2 Q)) : A d y pc ls (As.reverse ++ .ref a :: st) G kc ks Q := by
  intro l D N0 r φ0 G0 mc ms p e R s m args below meth c H locs cells slots φ la h0 h1 h2 h3 h4 h5 h6 h7
  have hA : okl G (.ref a :: As) := fun v hv => by
    rcases List.mem_cons.mp hv with rfl | hv
    · exact h7 _ (List.mem_append_right _ List.mem_cons_self)
    · exact h7 v (List.mem_append_left _ (List.mem_reverse.mpr hv))
  have hst : okl G st := fun v hv => h7 v (List.mem_append_right _ (List.mem_cons_of_mem _ hv))
  have hM := A.met (l := l) (D := D) (N0 := N0) (r := r) (φ := φ) (H := H) hl.1 hlen kk
  refine A.afterCall (a := (Value.ref (φ a) :: As.map (tv φ)).toArray) h0 h2 h3 h4 h5 h6 hst hkc hks ?_
  obtain ⟨hx, hb, hr, hml, hown, hts, hlocks, hnm, hK, hSt, hd1, hd2, hN, hnx⟩ := h0
  obtain ⟨hc, hinst, ⟨T, N, hcl⟩, hsel, hlk⟩ := hl
  have h21 := hc.2.2.2.1
  have hRm : (rmO d1 kc1 ks1).frames + 1 ≤ R.frames ∧ 8 + (y'.2.2.1 + 11) + (rmO d1 kc1 ks1).locals ≤ R.locals := ⟨by show d1 + 1 ≤ _; omega, by show _ + 40 * d1 ≤ _; omega⟩
  have hstk : ((As.reverse ++ .ref a :: st).map (tv φ)) = (As.map (tv φ)).reverse ++ .ref (φ a) :: st.map (tv φ) := by rw [List.map_append, List.map_reverse]; rfl
  have h16 := h1.hi ha (fun n f h => by cases h)
  obtain ⟨e', hP, hz, -, -⟩ := h1.at h16 ha
  cases (show e' = _ from hz)
  have hrecv := va_recv hK hP hcl (q0 := 0) rfl
  rcases hlk with hlk | ⟨host, hlk⟩
  · exact va_runV ⟨hx, hb, hml, hown, hts⟩ hM ⟨callB_of n hts (good_wsO hc) rfl rfl rfl (hts _ hc.1) (hts _ hlk) hc.2.2.1 hRm, hts _ hinst, hts _ hsel⟩ ⟨blindO, hrecv, preO hN hK hSt hnx h1 h3 hA⟩ rfl (by rw [List.length_map]; exact hn) h5.1 hstk (by rw [catm]; exact lv_room hw) hd ⟨by omega, by omega⟩
  · exact va_runVN ⟨hx, hb, hml, hown, hts⟩ hM ⟨va_cnB n hts (good_wsO hc) rfl rfl rfl (hnx.1 _ hlk) (hts _ hc.1) hc.2.2.1 hRm, hts _ hinst, hts _ hsel⟩ ⟨blindO, hrecv, preO hN hK hSt hnx h1 h3 hA⟩ rfl (by rw [List.length_map]; exact hn) h5.1 hstk (by rw [catm]; exact lv_room hw) hd ⟨by omega, by omega⟩
theorem A.callI {idx n a d1 kc1 ks1 kc2 ks2 : Nat} {y' : MI} {As : List Value} (hl : LkI (mcls y) idx y' n) (hn : As.length = n) (hlen : (entl (.ref a :: As)).length ≤ y'.2.2.1) (hw : (st.map fun v => v.category).sum ≤ 8) (hdd : d1 + 1 ≤ d) (hkc : kc1 + kc2 ≤ kc) (hks : ks1 + ks2 ≤ ks) (hd : decode (mcode y) pc = .ok (.invokespecial idx, 3))
    (kk : A d1 y' 0 (ent y'.2.2.1 (.ref a :: As)) [] G kc1 ks1 (fun v G' => A d y (pc + 3) ls (psh v st) G' kc2 ks2 Q)) : A d y pc ls (As.reverse ++ .ref a :: st) G kc ks Q := by
  intro l D N0 r φ0 G0 mc ms p e R s m args below meth c H locs cells slots φ la h0 h1 h2 h3 h4 h5 h6 h7
  have hA : okl G (.ref a :: As) := fun v hv => by
    rcases List.mem_cons.mp hv with rfl | hv
    · exact h7 _ (List.mem_append_right _ List.mem_cons_self)
    · exact h7 v (List.mem_append_left _ (List.mem_reverse.mpr hv))
  have hst : okl G st := fun v hv => h7 v (List.mem_append_right _ (List.mem_cons_of_mem _ hv))
  have hM := A.met (l := l) (D := D) (N0 := N0) (r := r) (φ := φ) (H := H) hl.1 hlen kk
  refine A.afterCall (a := (Value.ref (φ a) :: As.map (tv φ)).toArray) h0 h2 h3 h4 h5 h6 hst hkc hks ?_
  obtain ⟨hx, hb, hr, hml, hown, hts, hlocks, hnm, hK, hSt, hd1, hd2, hN, hnx⟩ := h0
  obtain ⟨hc, hinst, hin, hnone, hlk⟩ := hl
  have h21 := hc.2.2.2.1
  have hRm : (rmO d1 kc1 ks1).frames + 1 ≤ R.frames ∧ 8 + (y'.2.2.1 + 11) + (rmO d1 kc1 ks1).locals ≤ R.locals := ⟨by show d1 + 1 ≤ _; omega, by show _ + 40 * d1 ≤ _; omega⟩
  have hstk : ((As.reverse ++ .ref a :: st).map (tv φ)) = (As.map (tv φ)).reverse ++ .ref (φ a) :: st.map (tv φ) := by rw [List.map_append, List.map_reverse]; rfl
  obtain ⟨yn, yb, yl, yr⟩ := y'
  cases (show yr = none from hnone)
  rcases hlk with hlk | ⟨host, hlk⟩
  · exact va_runI (As := As.map (tv φ)) ⟨hx, hb, hml, hown, hts⟩ hM ⟨callB_of n hts (good_wsO hc) rfl rfl rfl (hts _ hc.1) (hts _ hlk) hc.2.2.1 hRm, hin, hts _ hinst⟩ ⟨blindO, preO hN hK hSt hnx h1 h3 hA⟩ rfl (by rw [List.length_map]; exact hn) h5.1 hstk (by rw [catm]; exact lv_room hw) hd ⟨by omega, by omega⟩
  · exact va_runIN (As := As.map (tv φ)) ⟨hx, hb, hml, hown, hts⟩ hM ⟨va_cnB n hts (good_wsO hc) rfl rfl rfl (hnx.1 _ hlk) (hts _ hc.1) hc.2.2.1 hRm, hin, hts _ hinst⟩ ⟨blindO, preO hN hK hSt hnx h1 h3 hA⟩ rfl (by rw [List.length_map]; exact hn) h5.1 hstk (by rw [catm]; exact lv_room hw) hd ⟨by omega, by omega⟩
end CALL
end
section
/-! MAKING, CASTS, CONSTANTS, Math -/
section MAKE
variable {d : Nat} {y : MI} {pc : Nat} {ls : List (Option Value)} {st : List Value} {G : AHp} {kc ks : Nat} {Q : Option Value → AHp → Prop}
/-- a class that can be made: its fields at first -/
def NW (own : String) (idx ci N : Nat) (fs : List Value) : Prop :=
  ∃ (C : String) (T : u_T) (ty : Nat → FieldType), CK ci C T N ty ∧ Cond.classLink own idx C ∈ gt ∧ Cond.instantiable C N ∈ gt ∧ Cond.initialized C ∈ gt ∧ (∀ j, j < N → defaultValue (ty j) = vp_V fs j) ∧ ∀ v ∈ fs, ∀ a, v ≠ .ref a
theorem tvl_nr {φ : Nat → Nat} {fs : List Value} (h : ∀ v ∈ fs, ∀ a, v ≠ .ref a) : fs.map (tv φ) = fs := by
  conv => rhs; rw [← List.map_id fs]
  apply List.map_congr_left
  intro v hv
  have := h v hv
  cases v <;> first | rfl | exact absurd rfl (this _)
theorem A.new {idx ci N a : Nat} {fs : List Value} (hf : NW (mcls y) idx ci N fs) (hd : decode (mcode y) pc = .ok (.new idx, 3)) (ha : 16 ≤ a) (ga : G a = none) {kc' ks' : Nat} (hkc : kc' + 1 ≤ kc) (hks : ks' + N ≤ ks) (kk : A d y (pc + 3) ls (.ref a :: st) (up G a (oB ci fs)) kc' ks' Q) : A d y pc ls st G kc ks Q := by
  intro l D N0 r φ0 G0 mc ms p e R s m args below meth c H locs cells slots φ la h0 h1 h2 h3 h4 h5 h6 h7
  obtain ⟨L, E, hP, hD, hφ, back⟩ := h1.gapN ha ga
  obtain ⟨C, T, ty, ⟨hc, hin, hty, hnm⟩, hcl, hins, hini, hfs, hnr⟩ := hf
  have hmono : ∀ b, G b ≠ none → up G a (oB ci fs) b ≠ none := fun b hb => up_ne hb
  refine va_new (ci := ci) (fs := fs) h0.1 h0.2.1 h0.2.2.2.2.2.1 hin ty hty h0.2.2.2.2.1 (h0.2.2.2.2.2.1 _ hcl) (h0.2.2.2.2.2.1 _ hins) (h0.2.2.2.2.2.1 _ hini) h0.2.2.2.2.2.2.2.2.1 hP hD h3 (fun q hq => Nat.le_trans h0.2.2.2.2.2.2.2.2.2.2.2.2.1 hq) hc hfs (by omega) (by omega) hd (fun q H1 hP1 hD1 hS1 => ?_)
  have hφq := hφ q
  have hst : Value.ref q :: st.map (tv φ) = (Value.ref a :: st).map (tv (va_up φ a q)) := by
    rw [List.map_cons, tvl_eq hφq h7]
    show _ = Value.ref (va_up φ a q a) :: _
    rw [show va_up φ a q a = q from if_pos rfl]
  rw [hst]
  refine kk l D N0 r φ0 G0 mc ms p e R s m args below meth c H1 locs (cells + 1) (slots + N) (va_up φ a q) la h0 (back q (oB ci fs) _ H1 (by show _ = _; rw [tvl_nr hnr]) (fun v hv b e => absurd e (hnr v hv b)) hP1 hD1 (low_kept h0.2.2.2.2.2.2.2.2.2.2.2.2.1 h3 hS1)) (h2.new hφq) hS1 ⟨by omega, by omega, h4.2.2⟩ (LH_eq hφq h6 h5) (oks_mono hmono h6) (okl_cons (okv_r (Or.inr (by rw [up_s]; simp))) (okl_mono hmono h7))
theorem A.newI {a n : Nat} {i : Int32} (hd : decode (mcode y) pc = .ok (.newarray .int, 2)) (hi : i.toInt = (n : Int)) (hn : n ≤ 100000) (ha : 16 ≤ a) (ga : G a = none) {kc' ks' : Nat} (hkc : kc' + 1 ≤ kc) (hks : ks' + n ≤ ks) (hac : Cond.arrayClass .int ∈ gt) (kk : A d y (pc + 2) ls (.ref a :: st) (up G a (aI n (fun _ => 0))) kc' ks' Q) : A d y pc ls (.int i :: st) G kc ks Q := by
  intro l D N0 r φ0 G0 mc ms p e R s m args below meth c H locs cells slots φ la h0 h1 h2 h3 h4 h5 h6 h7
  obtain ⟨L, E, hP, hD, hφ, back⟩ := h1.gapN ha ga
  have hmono : ∀ b, G b ≠ none → up G a (aI n (fun _ => 0)) b ≠ none := fun b hb => up_ne hb
  have hcl : i.toNatClampNeg = n := by show i.toInt.toNat = n; omega
  have hi0 : ¬ i < 0 := by rw [Int32.lt_iff_toInt_lt]; show ¬ i.toInt < 0; omega
  refine va_newa (tys := []) (atype := .int) (ty := .int) (n := i) (N' := n) (a0 := (n, .inl (fun _ => 0))) h0.1 h0.2.1 (h0.2.2.2.2.2.1 _ hac) rfl h0.2.2.2.2.2.2.2.2.1 hP hD h3 (fun q hq => Nat.le_trans h0.2.2.2.2.2.2.2.2.2.2.2.2.1 hq) (fun cA => rfl) hi0 hcl (by show n * 4 ≤ _; omega) (by omega) (by omega) hd (fun q cA H1 hK1 hP1 hD1 hS1 => ?_)
  have hφq := hφ q
  have hst : Value.ref q :: st.map (tv φ) = (Value.ref a :: st).map (tv (va_up φ a q)) := by
    rw [List.map_cons, tvl_eq hφq (okl_tail h7)]
    show _ = Value.ref (va_up φ a q a) :: _
    rw [show va_up φ a q a = q from if_pos rfl]
  have hcz := hK1.2 0 _ rfl
  show W p l e R s m args below meth c H1 locs _ _ _ (F0 m (pc + 2) la (Value.ref q :: st.map (tv φ)))
  rw [hst]
  exact kk l D N0 r φ0 G0 mc ms p e R s m args below meth c H1 locs (cells + 1) (slots + n) (va_up φ a q) la h0 (back q (aI n (fun _ => 0)) _ H1 ⟨cA, rfl, hcz.1, hcz.2⟩ trivial hP1 hD1 (low_kept h0.2.2.2.2.2.2.2.2.2.2.2.2.1 h3 hS1)) (h2.new hφq) hS1 ⟨by omega, by omega, h4.2.2⟩ (LH_eq hφq h6 h5) (oks_mono hmono h6) (okl_cons (okv_r (Or.inr (by rw [up_s]; simp))) (okl_mono hmono (okl_tail h7)))
theorem A.newL {a n : Nat} {i : Int32} (hd : decode (mcode y) pc = .ok (.newarray .long, 2)) (hi : i.toInt = (n : Int)) (hn : n ≤ 100000) (ha : 16 ≤ a) (ga : G a = none) {kc' ks' : Nat} (hkc : kc' + 1 ≤ kc) (hks : ks' + n ≤ ks) (hac : Cond.arrayClass .long ∈ gt) (kk : A d y (pc + 2) ls (.ref a :: st) (up G a (aL n (fun _ => 0))) kc' ks' Q) : A d y pc ls (.int i :: st) G kc ks Q := by
  intro l D N0 r φ0 G0 mc ms p e R s m args below meth c H locs cells slots φ la h0 h1 h2 h3 h4 h5 h6 h7
  obtain ⟨L, E, hP, hD, hφ, back⟩ := h1.gapN ha ga
  have hmono : ∀ b, G b ≠ none → up G a (aL n (fun _ => 0)) b ≠ none := fun b hb => up_ne hb
  have hcl : i.toNatClampNeg = n := by show i.toInt.toNat = n; omega
  have hi0 : ¬ i < 0 := by rw [Int32.lt_iff_toInt_lt]; show ¬ i.toInt < 0; omega
  refine va_newa (tys := []) (atype := .long) (ty := .long) (n := i) (N' := n) (a0 := (n, .inr (.inl (fun _ => 0)))) h0.1 h0.2.1 (h0.2.2.2.2.2.1 _ hac) rfl h0.2.2.2.2.2.2.2.2.1 hP hD h3 (fun q hq => Nat.le_trans h0.2.2.2.2.2.2.2.2.2.2.2.2.1 hq) (fun cA => rfl) hi0 hcl (by show n * 8 ≤ _; omega) (by omega) (by omega) hd (fun q cA H1 hK1 hP1 hD1 hS1 => ?_)
  have hφq := hφ q
  have hst : Value.ref q :: st.map (tv φ) = (Value.ref a :: st).map (tv (va_up φ a q)) := by
    rw [List.map_cons, tvl_eq hφq (okl_tail h7)]
    show _ = Value.ref (va_up φ a q a) :: _
    rw [show va_up φ a q a = q from if_pos rfl]
  have hcz := hK1.2 0 _ rfl
  show W p l e R s m args below meth c H1 locs _ _ _ (F0 m (pc + 2) la (Value.ref q :: st.map (tv φ)))
  rw [hst]
  exact kk l D N0 r φ0 G0 mc ms p e R s m args below meth c H1 locs (cells + 1) (slots + n) (va_up φ a q) la h0 (back q (aL n (fun _ => 0)) _ H1 ⟨cA, rfl, hcz.1, hcz.2⟩ trivial hP1 hD1 (low_kept h0.2.2.2.2.2.2.2.2.2.2.2.2.1 h3 hS1)) (h2.new hφq) hS1 ⟨by omega, by omega, h4.2.2⟩ (LH_eq hφq h6 h5) (oks_mono hmono h6) (okl_cons (okv_r (Or.inr (by rw [up_s]; simp))) (okl_mono hmono (okl_tail h7)))
def AOv (C : String) : Prop := ∀ s, NX s → va_AO C s
theorem aov_street : AOv "AfterFire$Street" := fun _ h => h.2.1
theorem aov_object : AOv "java/lang/Object" := fun _ h => h.2.2.1
theorem A.anew {C : String} {idx a n : Nat} {i : Int32} (hC : AOv C) (hl : Cond.classLink (mcls y) idx C ∈ gt) (hd : decode (mcode y) pc = .ok (.anewarray idx, 3)) (hi : i.toInt = (n : Int)) (hn : n ≤ 100000) (ha : 16 ≤ a) (ga : G a = none) {kc' ks' : Nat} (hkc : kc' + 1 ≤ kc) (hks : ks' + n ≤ ks) (kk : A d y (pc + 3) ls (.ref a :: st) (up G a (aR (.object C) n (fun _ => none))) kc' ks' Q) : A d y pc ls (.int i :: st) G kc ks Q := by
  intro l D N0 r φ0 G0 mc ms p e R s m args below meth c H locs cells slots φ la h0 h1 h2 h3 h4 h5 h6 h7
  obtain ⟨L, E, hP, hD, hφ, back⟩ := h1.gapN ha ga
  have hmono : ∀ b, G b ≠ none → up G a (aR (.object C) n (fun _ => none)) b ≠ none := fun b hb => up_ne hb
  have hcl : i.toNatClampNeg = n := by show i.toInt.toNat = n; omega
  have hi0 : ¬ i < 0 := by rw [Int32.lt_iff_toInt_lt]; show ¬ i.toInt < 0; omega
  refine va_newq (tys := []) (n := i) (N' := n) h0.1 h0.2.1 h0.2.2.2.2.1 (h0.2.2.2.2.2.1 _ hl) (hC s h0.2.2.2.2.2.2.2.2.2.2.2.2.2) h0.2.2.2.2.2.2.2.2.1 hP hD h3 (fun q hq => Nat.le_trans h0.2.2.2.2.2.2.2.2.2.2.2.2.1 hq) hi0 hcl (by omega) (by omega) (by omega) hd (fun q cA H1 hK1 hP1 hD1 hS1 => ?_)
  have hφq := hφ q
  have hst : Value.ref q :: st.map (tv φ) = (Value.ref a :: st).map (tv (va_up φ a q)) := by
    rw [List.map_cons, tvl_eq hφq (okl_tail h7)]
    show _ = Value.ref (va_up φ a q a) :: _
    rw [show va_up φ a q a = q from if_pos rfl]
  have hcz := hK1.2 0 _ rfl
  show W p l e R s m args below meth c H1 locs _ _ _ (F0 m (pc + 3) la (Value.ref q :: st.map (tv φ)))
  rw [hst]
  exact kk l D N0 r φ0 G0 mc ms p e R s m args below meth c H1 locs (cells + 1) (slots + n) (va_up φ a q) la h0 (back q (aR (.object C) n (fun _ => none)) _ H1 ⟨cA, rfl, hcz.1, hcz.2⟩ (fun j b e => by cases e) hP1 hD1 (low_kept h0.2.2.2.2.2.2.2.2.2.2.2.2.1 h3 hS1)) (h2.new hφq) hS1 ⟨by omega, by omega, h4.2.2⟩ (LH_eq hφq h6 h5) (oks_mono hmono h6) (okl_cons (okv_r (Or.inr (by rw [up_s]; simp))) (okl_mono hmono (okl_tail h7)))
/-- an object into an array of its class, or of Object -/
theorem A.aastore {a b n j ci : Nat} {C E : String} {T : u_T} {N : Nat} {f : Nat → Option Nat} {fs : List Value} {i : Int32} (hd : decode (mcode y) pc = .ok (.aastore, 1)) (ha : G a = some (aR (.object E) n f)) (hb : G b = some (oB ci fs)) (hc : classes[ci]? = some (C, T, N)) (hce : C = E ∨ Cond.castable C E ∈ nt) (hi : i.toInt = (j : Int)) (hj : j < n) (kk : A d y (pc + 1) ls st (up G a (aR (.object E) n (va_up f j (some b)))) kc ks Q) : A d y pc ls (.ref b :: .int i :: .ref a :: st) G kc ks Q := by
  intro l D N0 r φ0 G0 mc ms p e R s m args below meth c H locs cells slots φ la h0 h1 h2 h3 h4 h5 h6 h7
  have h16 := h1.hi ha (fun n f h => by cases h)
  have h16b := h1.hi hb (fun n f h => by cases h)
  have hcl : i.toNatClampNeg = j := by show i.toInt.toNat = j; omega
  have hin : vp_in i n := vp_in_iff.mpr ⟨by omega, by omega⟩
  have h1' := h1
  obtain ⟨L, E', k0, hk0, hP, hD, ⟨cA, hz, hA1, hA2⟩, hok, back⟩ := h1.gap h16 ha
  rw [hz] at hk0
  have hmono : ∀ q, G q ≠ none → up G a (aR (.object E) n (va_up f j (some b))) q ≠ none := fun q hq => up_ne hq
  have hmap : (fun k => ((va_up f j (some b)) k).map φ) = va_up (fun k => (f k).map φ) j (some (φ b)) := by
    funext k
    unfold va_up
    by_cases e : k = j <;> simp [e]
  have fin : ∀ (H1 : Heap) (locs1 : List Loc), va_P D classes ((Wl φ E' L).set k0 (φ a, .inl (cA, n, .inr (.inr (.inr (.inr (va_up (fun k => (f k).map φ) i.toNatClampNeg (some (φ b))))))))) H1 → va_D (fun q => N0 ≤ q) ((Wl φ E' L).set k0 (φ a, .inl (cA, n, .inr (.inr (.inr (.inr (va_up (fun k => (f k).map φ) i.toNatClampNeg (some (φ b))))))))) → va_S (fun q => N0 ≤ q) s.heap H1 locs1 → W p l e R s m args below meth c H1 locs1 cells slots (MQ below (AQ D N0 r φ0 G0 Q) args s mc ms (fun q => N0 ≤ q)) (F0 m (pc + 1) la (st.map (tv φ))) := fun H1 locs1 hP1 hD1 hS1 => by
    rw [hcl] at hP1 hD1
    refine kk l D N0 r φ0 G0 mc ms p e R s m args below meth c H1 locs1 cells slots φ la h0 (back (aR (.object E) n (va_up f j (some b))) _ H1 ⟨cA, ?_, hA1, hA2⟩ (fun k x hx => ?_) hP1 hD1 (low_kept h0.2.2.2.2.2.2.2.2.2.2.2.2.1 h3 hS1)) h2.put hS1 h4 h5 (oks_mono hmono h6) (okl_mono hmono (okl_tail (okl_tail (okl_tail h7))))
    · show Sum.inl (cA, n, _) = Sum.inl (cA, n, _)
      rw [hmap]
    · unfold va_up at hx
      by_cases e : k = j
      · rw [if_pos e] at hx; cases hx; exact Or.inr (by rw [hb]; simp)
      · rw [if_neg e] at hx; exact hok k x hx
  have hK := one_ty h0.2.2.2.2.2.2.2.2.1 hA1 hA2
  have hany : va_Any E s H (φ b) := by
    obtain ⟨eb, hPb, hzb, -, -⟩ := h1'.at h16b hb
    cases (show eb = _ from hzb)
    obtain ⟨cell, g1, g2, g3⟩ := va_recv h0.2.2.2.2.2.2.2.2.1 hPb hc (q0 := 0) rfl
    have hcls := (h0.2.2.2.2.2.2.2.2.1.1 ci _ hc).2
    refine ⟨cell, g1, g2, ?_, fun comp hcomp => ?_⟩
    · obtain ⟨f1, kC, f2, -⟩ := hcls
      rw [g3] at f1
      have e : cell.cls = D.1 ci := Option.some.inj f1
      exact ⟨kC, by rw [e]; exact f2⟩
    · rcases hce with rfl | hce
      · rw [g3] at hcomp
        have e : cell.cls = comp := Option.some.inj hcomp
        rw [e]
        first | exact Vm.assignable_self _ _ | exact assignable_self _ _
      · exact vb_asgC (h0.2.2.2.2.2.2.2.2.2.2.2.2.2.1 _ hce) comp cell.cls hcomp g3
  exact va_astqM (f := fun k => (f k).map φ) h0.1 h0.2.1 hK hP hD h3 k0 0 hk0 rfl hany hin hd fin
/-- a cast to the object's own class -/
theorem A.cast {idx ci a N : Nat} {C : String} {T : u_T} {fs : List Value} (hd : decode (mcode y) pc = .ok (.checkcast idx, 3)) (hl : Cond.classLink (mcls y) idx C ∈ gt) (hc : classes[ci]? = some (C, T, N)) (ha : G a = some (oB ci fs)) (kk : A d y (pc + 3) ls (.ref a :: st) G kc ks Q) : A d y pc ls (.ref a :: st) G kc ks Q := by
  intro l D N0 r φ0 G0 mc ms p e R s m args below meth c H locs cells slots φ la h0 h1 h2 h3 h4 h5 h6 h7
  have h16 := h1.hi ha (fun n f h => by cases h)
  obtain ⟨e', hP, hz, hok, -⟩ := h1.at h16 ha
  have kk := kk l D N0 r φ0 G0 mc ms p e R s m args below meth c H locs cells slots φ la h0 h1 h2 h3 h4 h5 h6 h7
  obtain ⟨hx, hb, hr, hml, hown, hts, hlocks, hnm, hK, hSt, hd1, hd2, hN, hnx⟩ := h0
  cases (show e' = _ from hz)
  exact va_castS hx hb hown (hts _ hl) (hK.1 ci _ hc).2 (va_recv hK hP hc (q0 := 0) rfl) hd kk
theorem A.objInit {idx a : Nat} (hd : decode (mcode y) pc = .ok (.invokespecial idx, 3)) (hl : Cond.methodLink (mcls y) idx objectInit ∈ gt ∧ Cond.instanceMethod objectInit ∈ gt ∧ Cond.code objectInit ⟨#[0xb1]⟩ 1 none ∈ gt) (hw : (st.map fun v => v.category).sum ≤ 8) (hdd : 1 ≤ d) (kk : A d y (pc + 3) ls st G kc ks Q) : A d y pc ls (.ref a :: st) G kc ks Q := by
  intro l D N0 r φ0 G0 mc ms p e R s m args below meth c H locs cells slots φ la h0 h1 h2 h3 h4 h5 h6 h7
  have kk := kk l D N0 r φ0 G0 mc ms p e R s m args below meth c H locs cells slots φ la h0 h1 h2 h3 h4 h5 h6 (okl_tail h7)
  obtain ⟨hx, hb, hr, hml, hown, hts, hlocks, hnm, hK, hSt, hd1, hd2, hN, hnx⟩ := h0
  have hw' : (((st.map (tv φ)).map fun v => v.category).sum) ≤ 8 := by rw [catm]; exact hw
  have hw2 := lv_room (m := m) (pc := pc) (ls := la) (rest := (Value.ref a :: st).map (tv φ)) hw'
  exact W.objInit (g := F0 m pc la ((Value.ref a :: st).map (tv φ))) hx hb hown (hts _ hl.1) (hts _ hl.2.1) (hts _ hl.2.2) rfl (by rw [hml]; exact h5.1) rfl hd (by omega) (by omega) kk
theorem A.ldc {idx : Nat} {v : Int32} (hd : decode (mcode y) pc = .ok (.ldc idx, 2)) (hl : Cond.constant (mcls y) idx v ∈ gt) (kk : A d y (pc + 2) ls (.int v :: st) G kc ks Q) : A d y pc ls st G kc ks Q := by
  intro l D N0 r φ0 G0 mc ms p e R s m args below meth c H locs cells slots φ la h0 h1 h2 h3 h4 h5 h6 h7
  exact lv_ldc h0.1 h0.2.1 h0.2.2.2.2.1 (h0.2.2.2.2.2.1 _ hl) hd (kk l D N0 r φ0 G0 mc ms p e R s m args below meth c H locs cells slots φ la h0 h1 h2 h3 h4 h5 h6 (okl_cons okv_i h7))
theorem A.ldc2 {idx : Nat} {v : Int64} (hd : decode (mcode y) pc = .ok (.ldc2_w idx, 3)) (hl : Cond.constantLong (mcls y) idx v ∈ gt) (kk : A d y (pc + 3) ls (.long v :: st) G kc ks Q) : A d y pc ls st G kc ks Q := by
  intro l D N0 r φ0 G0 mc ms p e R s m args below meth c H locs cells slots φ la h0 h1 h2 h3 h4 h5 h6 h7
  exact lv_ldc2 h0.1 h0.2.1 h0.2.2.2.2.1 (h0.2.2.2.2.2.1 _ hl) hd (kk l D N0 r φ0 G0 mc ms p e R s m args below meth c H locs cells slots φ la h0 h1 h2 h3 h4 h5 h6 (okl_cons okv_l h7))
def LkM (own : String) (idx : Nat) (x : MethodName) (cc : ByteArray) (n : Nat) : Prop := Cond.methodLink own idx x ∈ gt ∧ Cond.static x ∈ gt ∧ Cond.initialized "java/lang/Math" ∈ gt ∧ Cond.code x cc n (some .int) ∈ gt
theorem A.max {idx : Nat} {x z : Int32} (hd : decode (mcode y) pc = .ok (.invokestatic idx, 3)) (hl : LkM (mcls y) idx Lib.Math.max.name Lib.Math.max.code 2) (hw : (st.map fun v => v.category).sum ≤ 8) (hdd : 1 ≤ d) (kk : A d y (pc + 3) ls (.int (if x < z then z else x) :: st) G kc ks Q) : A d y pc ls (.int z :: .int x :: st) G kc ks Q := by
  intro l D N0 r φ0 G0 mc ms p e R s m args below meth c H locs cells slots φ la h0 h1 h2 h3 h4 h5 h6 h7
  have kk := kk l D N0 r φ0 G0 mc ms p e R s m args below meth c H locs cells slots φ la h0 h1 h2 h3 h4 h5 h6 (okl_cons okv_i (okl_tail (okl_tail h7)))
  obtain ⟨hx, hb, hr, hml, hown, hts, hlocks, hnm, hK, hSt, hd1, hd2, hN, hnx⟩ := h0
  exact va_mmax hx hb (hml.trans h5.1.symm) hown (hts _ hl.1) (hts _ hl.2.1) (hts _ hl.2.2.1) (hts _ hl.2.2.2) (by omega) (by rw [catm]; omega) (by omega) (by omega) hd kk
theorem A.min {idx : Nat} {x z : Int32} (hd : decode (mcode y) pc = .ok (.invokestatic idx, 3)) (hl : LkM (mcls y) idx Lib.Math.min.name Lib.Math.min.code 2) (hw : (st.map fun v => v.category).sum ≤ 8) (hdd : 1 ≤ d) (kk : A d y (pc + 3) ls (.int (if z < x then z else x) :: st) G kc ks Q) : A d y pc ls (.int z :: .int x :: st) G kc ks Q := by
  intro l D N0 r φ0 G0 mc ms p e R s m args below meth c H locs cells slots φ la h0 h1 h2 h3 h4 h5 h6 h7
  have kk := kk l D N0 r φ0 G0 mc ms p e R s m args below meth c H locs cells slots φ la h0 h1 h2 h3 h4 h5 h6 (okl_cons okv_i (okl_tail (okl_tail h7)))
  obtain ⟨hx, hb, hr, hml, hown, hts, hlocks, hnm, hK, hSt, hd1, hd2, hN, hnx⟩ := h0
  exact va_mmin hx hb (hml.trans h5.1.symm) hown (hts _ hl.1) (hts _ hl.2.1) (hts _ hl.2.2.1) (hts _ hl.2.2.2) (by omega) (by rw [catm]; omega) (by omega) (by omega) hd kk
theorem A.abs {idx : Nat} {x : Int32} (hd : decode (mcode y) pc = .ok (.invokestatic idx, 3)) (hl : LkM (mcls y) idx Lib.Math.abs.name Lib.Math.abs.code 1) (hw : (st.map fun v => v.category).sum ≤ 8) (hdd : 1 ≤ d) (kk : A d y (pc + 3) ls (.int (if 0 ≤ x then x else 0 - x) :: st) G kc ks Q) : A d y pc ls (.int x :: st) G kc ks Q := by
  intro l D N0 r φ0 G0 mc ms p e R s m args below meth c H locs cells slots φ la h0 h1 h2 h3 h4 h5 h6 h7
  have kk := kk l D N0 r φ0 G0 mc ms p e R s m args below meth c H locs cells slots φ la h0 h1 h2 h3 h4 h5 h6 (okl_cons okv_i (okl_tail h7))
  obtain ⟨hx, hb, hr, hml, hown, hts, hlocks, hnm, hK, hSt, hd1, hd2, hN, hnx⟩ := h0
  exact va_mabs hx hb (hml.trans h5.1.symm) hown (hts _ hl.1) (hts _ hl.2.1) (hts _ hl.2.2.1) (hts _ hl.2.2.2) (by omega) (by rw [catm]; omega) (by omega) (by omega) hd kk
/-- two references that differ, or are one -/
theorem A.acmp_eq_t {a : Nat} {off : Int} (tgt : Nat) (ht : (pc : Int) + off = (tgt : Int)) (hd : decode (mcode y) pc = .ok (.if_acmp .eq off, 3)) (kk : A d y tgt ls st G kc ks Q) : A d y pc ls (.ref a :: .ref a :: st) G kc ks Q := by
  refine A.pure (fun {p l e R s m args below meth c H locs cells slots Z la φ} hx hb k => ?_) (fun _ h => okl_tail (okl_tail h)) kk
  exact lv_acmp_eq (rx := some (φ a)) (ry := some (φ a)) hx hb hd ht (fun _ => k) (fun h => absurd rfl h)
theorem A.acmp_eq_f {a b : Nat} {off : Int} (hd : decode (mcode y) pc = .ok (.if_acmp .eq off, 3)) (ha : 16 ≤ a) (ga : G a ≠ none) (hb : b < 16) {tgt : Nat} (ht : (pc : Int) + off = (tgt : Int)) (kk : A d y (pc + 3) ls st G kc ks Q) (hb1 : b = 1) : A d y pc ls (.ref b :: .ref a :: st) G kc ks Q := by
  intro l D N0 r φ0 G0 mc ms p e R s m args below meth c H locs cells slots φ la h0 h1 h2 h3 h4 h5 h6 h7
  have kk := kk l D N0 r φ0 G0 mc ms p e R s m args below meth c H locs cells slots φ la h0 h1 h2 h3 h4 h5 h6 (okl_tail (okl_tail h7))
  obtain ⟨c0, hc0⟩ := Option.ne_none_iff_exists'.mp ga
  obtain ⟨e', hP, hz, hok, hge⟩ := h1.at ha hc0
  have hr1 := h0.2.2.2.2.2.2.2.2.2.1.2.2.2
  obtain ⟨L, E, g1, g2, g3, g4, g5, g6, g7⟩ := h1
  have e1 : φ b = r 1 := by rw [hb1]; exact g6 1 (by omega)
  refine lv_acmp_eq (rx := some (φ a)) (ry := some (φ b)) h0.1 h0.2.1 hd ht (fun h => ?_) (fun _ => kk)
  have := Option.some.inj h
  omega
theorem A.acmp_ne_f {a : Nat} {off : Int} {tgt : Nat} (ht : (pc : Int) + off = (tgt : Int)) (hd : decode (mcode y) pc = .ok (.if_acmp .ne off, 3)) (kk : A d y (pc + 3) ls st G kc ks Q) : A d y pc ls (.ref a :: .ref a :: st) G kc ks Q := by
  refine A.pure (fun {p l e R s m args below meth c H locs cells slots Z la φ} hx hb k => ?_) (fun _ h => okl_tail (okl_tail h)) kk
  exact lv_acmp_ne (rx := some (φ a)) (ry := some (φ a)) hx hb hd ht (fun h => absurd rfl h) (fun _ => k)
/-- the mirror of Object[], as a constant and as an array's class -/
theorem A.ldcM {idx : Nat} (hd : decode (mcode y) pc = .ok (.ldc idx, 2)) (hl : Cond.classLink (mcls y) idx "[Ljava/lang/Object;" ∈ gt) (kk : A d y (pc + 2) ls (.ref 3 :: st) G kc ks Q) : A d y pc ls st G kc ks Q := by
  intro l D N0 r φ0 G0 mc ms p e R s m args below meth c H locs cells slots φ la h0 h1 h2 h3 h4 h5 h6 h7
  have kk := kk l D N0 r φ0 G0 mc ms p e R s m args below meth c H locs cells slots φ la h0 h1 h2 h3 h4 h5 h6 (okl_cons (okv_r (Or.inl (by omega))) h7)
  obtain ⟨hx, hb, hr, hml, hown, hts, hlocks, hnm, hK, hSt, hd1, hd2, hN, hnx⟩ := h0
  obtain ⟨L, E, g1, g2, g3, g4, g5, g6, g7⟩ := h1
  have e1 : φ 3 = r 3 := g6 3 (by omega)
  have kk : W p l e R s m args below meth c H locs cells slots (MQ below (AQ D N0 r φ0 G0 Q) args s mc ms (fun q => N0 ≤ q)) (F0 m (pc + 2) la (.ref (φ 3) :: st.map (tv φ))) := kk
  rw [e1] at kk
  exact va_ldcM hx hb hown (hts _ hl) hSt.2.2.1 hd kk
def LkG (own : String) (idx : Nat) : Prop := Cond.methodLink own idx ⟨"java/lang/Object", "getClass", "()Ljava/lang/Class;"⟩ ∈ gt ∧ Cond.selects "[Ljava/lang/Object;" ⟨"java/lang/Object", "getClass", "()Ljava/lang/Class;"⟩ ⟨"java/lang/Object", "getClass", "()Ljava/lang/Class;"⟩ ∈ gt ∧ Cond.instanceMethod ⟨"java/lang/Object", "getClass", "()Ljava/lang/Class;"⟩ ∈ gt ∧ Cond.native ⟨"java/lang/Object", "getClass", "()Ljava/lang/Class;"⟩ ∈ gt
theorem A.getClass {idx a n : Nat} {f : Nat → Option Nat} (hd : decode (mcode y) pc = .ok (.invokevirtual idx, 3)) (hl : LkG (mcls y) idx) (ha : G a = some (aR (.object "java/lang/Object") n f)) (hw : (st.map fun v => v.category).sum ≤ 8) (hdd : 1 ≤ d) (kk : A d y (pc + 3) ls (.ref 3 :: st) G kc ks Q) : A d y pc ls (.ref a :: st) G kc ks Q := by
  intro l D N0 r φ0 G0 mc ms p e R s m args below meth c H locs cells slots φ la h0 h1 h2 h3 h4 h5 h6 h7
  have kk := kk l D N0 r φ0 G0 mc ms p e R s m args below meth c H locs cells slots φ la h0 h1 h2 h3 h4 h5 h6 (okl_cons (okv_r (Or.inl (by omega))) (okl_tail h7))
  have h16 := h1.hi ha (fun n f h => by cases h)
  obtain ⟨e', hP, ⟨cA, rfl, hA1, hA2⟩, hok, -⟩ := h1.at h16 ha
  obtain ⟨hx, hb, hr, hml, hown, hts, hlocks, hnm, hK, hSt, hd1, hd2, hN, hnx⟩ := h0
  obtain ⟨L, E, g1, g2, g3, g4, g5, g6, g7⟩ := h1
  have e1 : φ 3 = r 3 := g6 3 (by omega)
  have kk : W p l e R s m args below meth c H locs cells slots (MQ below (AQ D N0 r φ0 G0 Q) args s mc ms (fun q => N0 ≤ q)) (F0 m (pc + 3) la (.ref (φ 3) :: st.map (tv φ))) := kk
  rw [e1] at kk
  obtain ⟨kA, comp, r1, r2, r3, r4⟩ := hA2
  exact va_getC (C := "[Ljava/lang/Object;") hx hb (hml.trans h5.1.symm) hown (hts _ hl.1) (va_Dc.use hnx.2.2.2.2) (hts _ hl.2.1) (hts _ hl.2.2.1) (hts _ hl.2.2.2) hSt.2.2.1 ⟨_, hP 0 _ rfl, rfl, r4⟩ (by omega) (by rw [catm]; omega) hd kk
end MAKE
end
section
/-! System.arraycopy of references -/
theorem any_of {D : va_G} {N0 : Nat} {r φ : Nat → Nat} {s : State} {G : AHp} {H : Heap} (hK : va_K D classes [] s) (hnx : NX s) (h1 : Rel D N0 r s φ G H) {b ci : Nat} {fs : List Value} {C : String} {T : u_T} {N : Nat} {E : String} (hb : G b = some (oB ci fs)) (hc : classes[ci]? = some (C, T, N)) (hce : Cond.castable C E ∈ nt) : va_Any E s H (φ b) := by
  have h16b := h1.hi hb (fun n f h => by cases h)
  obtain ⟨eb, hPb, hzb, -, -⟩ := h1.at h16b hb
  cases (show eb = _ from hzb)
  obtain ⟨cell, g1, g2, g3⟩ := va_recv hK hPb hc (q0 := 0) rfl
  have hcls := (hK.1 ci _ hc).2
  refine ⟨cell, g1, g2, ?_, fun comp hcomp => vb_asgC (hnx.1 _ hce) comp cell.cls hcomp g3⟩
  obtain ⟨f1, kC, f2, -⟩ := hcls
  rw [g3] at f1
  have e : cell.cls = D.1 ci := Option.some.inj f1
  exact ⟨kC, by rw [e]; exact f2⟩
theorem Rel.gap2 {D : va_G} {N0 : Nat} {r φ : Nat → Nat} {s : State} {G : AHp} {H : Heap} (h : Rel D N0 r s φ G H) {a b : Nat} {c cb : ACell} (ha : 16 ≤ a) (hc : G a = some c) (hb : 16 ≤ b) (hcb : G b = some cb) :
    ∃ (L : List Nat) (E : Nat → va_E) (k j : Nat), (Wl φ E L)[k]? = some (φ a, E a) ∧ (Wl φ E L)[j]? = some (φ b, E b) ∧ va_P D classes (Wl φ E L) H ∧ va_D (fun q => N0 ≤ q) (Wl φ E L) ∧ Cz s φ c (E a) ∧ okc G c ∧ Cz s φ cb (E b) ∧ okc G cb ∧
      ∀ (c' : ACell) (e' : va_E) (H1 : Heap), Cz s φ c' e' → okc G c' → va_P D classes ((Wl φ E L).set k (φ a, e')) H1 → va_D (fun q => N0 ≤ q) ((Wl φ E L).set k (φ a, e')) → (∀ q : Nat, q < N0 → H1[q]? = H[q]?) → Rel D N0 r s φ (up G a c') H1 := by
  obtain ⟨L, E, h1, h2, h3, h4, h5, h6, h7⟩ := h
  have ga : G a ≠ none := by rw [hc]; simp
  obtain ⟨k, hk⟩ := List.getElem?_of_mem ((h2 a).mpr ⟨ha, ga⟩)
  obtain ⟨j, hj⟩ := List.getElem?_of_mem ((h2 b).mpr ⟨hb, by rw [hcb]; simp⟩)
  refine ⟨L, E, k, j, Wl_get hk, Wl_get hj, h4, h5, (h3 a c ha hc).1, (h3 a c ha hc).2, (h3 b cb hb hcb).1, (h3 b cb hb hcb).2, fun c' e' H1 hz hok hP hD hX => ?_⟩
  have hdom : ∀ b, up G a c' b ≠ none ↔ G b ≠ none := up_dom ga
  rw [Wl_set h1 hk] at hP hD
  refine ⟨L, _, h1, fun b => by rw [hdom b]; exact h2 b, fun b x hb hx => ?_, hP, hD, h6, fun b x hb hx => ?_⟩
  · show Cz s _ x (if b = a then e' else E b) ∧ _
    by_cases e : b = a
    · subst e
      rw [up_s] at hx
      cases hx
      rw [if_pos rfl]
      exact ⟨hz, okc_mono (fun x hx => (hdom x).mpr hx) hok⟩
    · rw [up_n e] at hx
      rw [if_neg e]
      exact ⟨(h3 b x hb hx).1, okc_mono (fun x hx => (hdom x).mpr hx) (h3 b x hb hx).2⟩
  · rw [up_n (show b ≠ a by omega)] at hx
    obtain ⟨e0, n, f, e1, e2, e3⟩ := h7 b x hb hx
    exact ⟨e0, n, f, e1, e2.kept (hX _ e3), e3⟩
section MORE
variable {d : Nat} {y : MI} {pc : Nat} {ls : List (Option Value)} {st : List Value} {G : AHp} {kc ks : Nat} {Q : Option Value → AHp → Prop}
def LkC (own : String) (idx : Nat) : Prop := Cond.methodLink own idx arraycopyName ∈ gt ∧ Cond.native arraycopyName ∈ gt ∧ Cond.static arraycopyName ∈ gt ∧ Cond.initialized "java/lang/System" ∈ gt
/-- the first n references of an Object[] into another, from 0 on -/
theorem A.copy {idx a0 a1 n0 n1 n : Nat} {f g : Nat → Option Nat} {i : Int32} (hd : decode (mcode y) pc = .ok (.invokestatic idx, 3)) (hl : LkC (mcls y) idx) (ha0 : G a0 = some (aR (.object "java/lang/Object") n0 f)) (ha1 : G a1 = some (aR (.object "java/lang/Object") n1 g)) (hi : i.toInt = (n : Int)) (hn0 : n ≤ n0) (hn1 : n ≤ n1)
    (hel : ∀ k b, k < n → f k = some b → ∃ (ci : Nat) (fs : List Value) (C : String) (T : u_T) (N : Nat), G b = some (oB ci fs) ∧ classes[ci]? = some (C, T, N) ∧ Cond.castable C "java/lang/Object" ∈ nt) (hw : (st.map fun v => v.category).sum ≤ 8) (hdd : 1 ≤ d)
    (kk : A d y (pc + 3) ls st (up G a1 (aR (.object "java/lang/Object") n1 (fun k => if k < n then f k else g k))) kc ks Q) : A d y pc ls (.int i :: .int 0 :: .ref a1 :: .int 0 :: .ref a0 :: st) G kc ks Q := by
  intro l D N0 r φ0 G0 mc ms p e R s m args below meth c H locs cells slots φ la h0 h1 h2 h3 h4 h5 h6 h7
  have h16 := h1.hi ha1 (fun n f h => by cases h)
  have h160 := h1.hi ha0 (fun n f h => by cases h)
  have hcl : i.toNatClampNeg = n := by show i.toInt.toNat = n; omega
  have hi0 : ¬ i < 0 := by rw [Int32.lt_iff_toInt_lt]; show ¬ i.toInt < 0; omega
  have hany : ∀ k : Nat, k < n → ∀ q : Nat, (f k).map φ = some q → va_Any "java/lang/Object" s H q := fun k hk q hq => by
    cases hfk : f k with
    | none => rw [hfk] at hq; cases hq
    | some b =>
      rw [hfk] at hq
      cases hq
      obtain ⟨ci, fs, C, T, N, e1, e2, e3⟩ := hel k b hk hfk
      exact any_of h0.2.2.2.2.2.2.2.2.1 h0.2.2.2.2.2.2.2.2.2.2.2.2.2 h1 e1 e2 e3
  obtain ⟨L, E, k0, j0, hk0, hj0, hP, hD, ⟨c1, hz, hA1, hA2⟩, hok, ⟨c0, hz0, hB1, hB2⟩, hok0, back⟩ := h1.gap2 h16 ha1 h160 ha0
  rw [hz] at hk0
  rw [hz0] at hj0
  have hmono : ∀ q, G q ≠ none → up G a1 (aR (.object "java/lang/Object") n1 (fun k => if k < n then f k else g k)) q ≠ none := fun q hq => up_ne hq
  have hK2 : va_K D classes [(c0, .object "java/lang/Object"), (c1, .object "java/lang/Object")] s := ⟨h0.2.2.2.2.2.2.2.2.1.1, fun k q hk => by
    match k, hk with
    | 0, hk => cases hk; exact ⟨hB1, hB2⟩
    | 1, hk => cases hk; exact ⟨hA1, hA2⟩
    | k + 2, hk => simp at hk⟩
  have hz00 : (0 : Int32).toNatClampNeg = 0 := by decide
  have hcw := catm φ st
  have hd1 : d ≤ R.frames := h0.2.2.2.2.2.2.2.2.2.2.1
  have hd2 : 40 * d ≤ R.locals := h0.2.2.2.2.2.2.2.2.2.2.2.1
  have hnf : nativeFrameWords "java/lang/System" "arraycopy" 5 ≤ 20 := by decide
  refine va_copyM (E0 := "java/lang/Object") (E1 := "java/lang/Object") (f := fun k => (f k).map φ) (g := fun k => (g k).map φ) (sp := 0) (dp := 0) (n := i) h0.1 h0.2.1 (h0.2.2.2.1.trans h5.1.symm) h0.2.2.2.2.1 (h0.2.2.2.2.2.1 _ hl.1) (h0.2.2.2.2.2.1 _ hl.2.1) (h0.2.2.2.2.2.1 _ hl.2.2.1) (h0.2.2.2.2.2.1 _ hl.2.2.2) hK2 hP hD h3 j0 k0 0 1 hj0 hk0 rfl rfl (by decide) (by decide) hi0 (by rw [hz00, hcl]; omega) (by rw [hz00, hcl]; omega) (fun k hk q hq => by
    rw [hz00, Nat.zero_add] at hq
    exact hany k (by omega) q hq) (by omega) (by rw [hcw]; omega) hd (fun H1 locs1 hP1 hD1 hS1 => ?_)
  rw [hz00, hcl] at hP1 hD1
  have hmap : va_cpy (fun k => (f k).map φ) (fun k => (g k).map φ) 0 0 n = (fun k => (if k < n then f k else g k).map φ) := by
    funext k
    unfold va_cpy
    by_cases e : k < n
    · rw [if_pos ⟨Nat.zero_le _, by omega⟩, if_pos e]; simp
    · rw [if_neg (by omega), if_neg e]
  rw [hmap] at hP1 hD1
  refine kk l D N0 r φ0 G0 mc ms p e R s m args below meth c H1 locs1 cells slots φ la h0 (back (aR (.object "java/lang/Object") n1 (fun k => if k < n then f k else g k)) _ H1 ⟨c1, rfl, hA1, hA2⟩ (fun k x hx => ?_) hP1 hD1 (low_kept h0.2.2.2.2.2.2.2.2.2.2.2.2.1 h3 hS1)) h2.put hS1 h4 h5 (oks_mono hmono h6) (okl_mono hmono (okl_tail (okl_tail (okl_tail (okl_tail (okl_tail h7))))))
  have hx : (if k < n then f k else g k) = some x := hx
  by_cases e : k < n
  · rw [if_pos e] at hx; exact hok0 k x hx
  · rw [if_neg e] at hx; exact hok k x hx
end MORE
end
section
/-! new int[n][k]: the machine's own step, out of the machine's text -/
/-- the outer array when i rows hang in it -/
def mz_out (cA : ClassId) (n h i : Nat) : Cell := arrV cA n (fun j => va_rf (if j < i then some (h + 1 + j) else none))
def mz_row (cy : ClassId) (k : Nat) : Cell := { cls := cy, slots := Array.replicate k (.int 0), vm := .none }
/-- the state when i rows are made -/
def mz_st (T : State) (cA cy : ClassId) (n k : Nat) : Nat → State
  | 0 => T.pushCell (mz_out cA n T.heap.size 0)
  | i + 1 => ((mz_st T cA cy n k i).pushCell (mz_row cy k)).setCell T.heap.size (mz_out cA n T.heap.size (i + 1))
theorem mz_out_new (cA : ClassId) (n h : Nat) : ({ cls := cA, slots := Array.replicate n .null, vm := .none } : Cell) = mz_out cA n h 0 := by
  rw [arrV_new]
  exact congrArg (arrV cA n) (funext fun j => by rw [if_neg (by omega)]; rfl)
theorem mz_out_put (cA : ClassId) (n h i : Nat) : (mz_out cA n h i).setSlot i (.ref (h + 1 + i)) = mz_out cA n h (i + 1) := by
  unfold mz_out
  rw [arrV_store]
  refine congrArg (arrV cA n) (funext fun j => ?_)
  unfold updV
  by_cases e : j = i
  · rw [if_pos e, if_pos (by omega), e]; rfl
  · rw [if_neg e]
    show va_rf (if j < i then some (h + 1 + j) else none) = _
    by_cases h : j < i
    · rw [if_pos h, if_pos (by omega)]
    · rw [if_neg h, if_neg (by omega)]
theorem mz_row_size (cy : ClassId) (k : Nat) : (mz_row cy k).slots.size = k := by simp [mz_row]
section MZ
variable {T : State} {cA cy : ClassId} {n k : Nat}
theorem mz_st_vm : ∀ i, (mz_st T cA cy n k i).vm = T.vm
  | 0 => rfl
  | i + 1 => mz_st_vm i
theorem mz_st_top {f : JFrame} : ∀ i, mz_st (T.setTop f) cA cy n k i = (mz_st T cA cy n k i).setTop f
  | 0 => rfl
  | i + 1 => by
    show ((mz_st (T.setTop f) cA cy n k i).pushCell (mz_row cy k)).setCell T.heap.size _ = _
    rw [mz_st_top i]
    rfl
theorem mz_st_size : ∀ i, (mz_st T cA cy n k i).heap.size = T.heap.size + 1 + i
  | 0 => Array.size_push ..
  | i + 1 => by
    show ((((mz_st T cA cy n k i).heap.push (mz_row cy k)).setIfInBounds T.heap.size _).size) = _
    rw [Array.size_setIfInBounds, Array.size_push, mz_st_size i]
    rfl
theorem mz_st_used : ∀ i, (mz_st T cA cy n k i).slotsUsed = T.slotsUsed + n + i * k
  | 0 => by
    show T.slotsUsed + (mz_out cA n T.heap.size 0).slots.size = _
    unfold mz_out
    rw [arrV_size, Nat.zero_mul]
    rfl
  | i + 1 => by
    show (mz_st T cA cy n k i).slotsUsed + (mz_row cy k).slots.size = _
    rw [mz_st_used i, mz_row_size, Nat.succ_mul]
    omega
theorem mz_st_old : ∀ i (x : Nat), x < T.heap.size → (mz_st T cA cy n k i).heap[x]? = T.heap[x]?
  | 0, x, hx => by
    show (T.heap.push _)[x]? = _
    rw [Array.getElem?_push, if_neg (Nat.ne_of_lt hx)]
  | i + 1, x, hx => by
    show (((mz_st T cA cy n k i).heap.push (mz_row cy k)).setIfInBounds T.heap.size _)[x]? = _
    rw [Array.getElem?_setIfInBounds, if_neg (by omega), Array.getElem?_push, if_neg (by rw [mz_st_size i]; omega)]
    exact mz_st_old i x hx
theorem mz_st_out : ∀ i, (mz_st T cA cy n k i).heap[T.heap.size]? = some (mz_out cA n T.heap.size i)
  | 0 => by
    show (T.heap.push _)[T.heap.size]? = _
    rw [Array.getElem?_push_size]
  | i + 1 => by
    show (((mz_st T cA cy n k i).heap.push (mz_row cy k)).setIfInBounds T.heap.size _)[T.heap.size]? = _
    rw [Array.getElem?_setIfInBounds, if_pos rfl, if_pos (by rw [Array.size_push, mz_st_size i]; omega)]
theorem mz_st_row : ∀ i j, j < i → (mz_st T cA cy n k i).heap[T.heap.size + 1 + j]? = some (mz_row cy k)
  | 0, j, hj => absurd hj (by omega)
  | i + 1, j, hj => by
    show (((mz_st T cA cy n k i).heap.push (mz_row cy k)).setIfInBounds T.heap.size _)[T.heap.size + 1 + j]? = _
    rw [Array.getElem?_setIfInBounds, if_neg (by omega), Array.getElem?_push, mz_st_size i]
    by_cases e : j = i
    · rw [if_pos (by omega)]
    · rw [if_neg (by omega)]
      exact mz_st_row i j (by omega)
theorem mz_stand {p : Program} {l : Launch} {e : Env} {R : Room} {s : State} {m : MethodId} {args : Array Value} {below : List Frame} {meth : Method} {c : Code} {locs : List Loc} {cells slots : Nat} (X : Stand p l e R s m args below meth c T locs cells slots) : ∀ i, Stand p l e R s m args below meth c (mz_st T cA cy n k i) locs (cells + 1 + i) (slots + n + i * k)
  | 0 => by
    have h := X.pushed (mz_out cA n T.heap.size 0)
    rw [show (mz_out cA n T.heap.size 0).slots.size = n from arrV_size _ _ _] at h
    rw [Nat.zero_mul]
    exact h
  | i + 1 => by
    have h := (mz_stand X i).pushed (mz_row cy k)
    have h := h.stored (a := T.heap.size) (cell := mz_out cA n T.heap.size i) (by
      show ((mz_st T cA cy n k i).heap.push (mz_row cy k))[T.heap.size]? = _
      rw [Array.getElem?_push, if_neg (by rw [mz_st_size i]; omega)]
      exact mz_st_out i) i (.ref (T.heap.size + 1 + i))
    have h := h.dropFresh (fun x hx => by
      rw [List.mem_singleton] at hx
      rw [hx]
      exact X.heapGrown)
    rw [mz_out_put, mz_row_size] at h
    rw [Nat.succ_mul, ← Nat.add_assoc (slots + n)]
    exact h
/-- one row -/
theorem mz_wp_row {E : CtlPost} {e : Env} {d : Bool} {acts : List Action} {ky : Class} {cz : ClassId} {j : Int32} {Q : Addr → Pre} (hky : T.vm.classes[cy]? = some ky) (hkind : ky.kind = .array cz .int) (hj : ¬ j < 0) (hjk : j.toNatClampNeg = k) (hlim : ¬ k > e.platform.arrayLengthLimit) (hheap : ¬ k * componentBytes .int > e.platform.maxHeapBytes) (hcells : T.heap.size < e.platform.maxCells) (hslots : T.slotsUsed + k ≤ e.platform.maxSlots)
    (hq : ∀ acts', Q T.heap.size d acts' (T.pushCell (mz_row cy k))) : wp (Op.multianewarray.make cy [j]) Q E e d acts T := by
  rw [Op.multianewarray.make]
  simp only [wp_bind', W.ite, hj, if_false, wp_pure', W.theClass, hky, Option.some.injEq, exists_eq_left', hkind]
  rw [hjk]
  exact W.newArray_of hky hkind hlim hheap hcells hslots rfl hq
/-- the rows, one behind the other -/
theorem mz_wp_rows {E : CtlPost} {e : Env} {ky kA : Class} {cz : ClassId} {j : Int32} {Q : PUnit → Pre} (hkA : T.vm.classes[cA]? = some kA) (hkindA : kA.kind = .array cy (.array .int)) (hky : T.vm.classes[cy]? = some ky) (hkind : ky.kind = .array cz .int) (hj : ¬ j < 0) (hjk : j.toNatClampNeg = k) (hlim : ¬ k > e.platform.arrayLengthLimit) (hheap : ¬ k * componentBytes .int > e.platform.maxHeapBytes) (hcells : T.heap.size + (1 + n) ≤ e.platform.maxCells) (hslots : T.slotsUsed + (n + n * k) ≤ e.platform.maxSlots)
    (hq : ∀ d' acts', Q PUnit.unit d' acts' (mz_st T cA cy n k n)) : ∀ (r q : Nat) (d : Bool) (acts : List Action), q + r = n →
      wp (forIn (List.range' q r) PUnit.unit fun i (_ : PUnit) => (do
        let a ← Op.multianewarray.make cy [j]
        writeLoc T.heap.size i (.ref a)
        Pure.pure (ForInStep.yield PUnit.unit) : Sem (ForInStep PUnit))) Q E e d acts (mz_st T cA cy n k q)
  | 0, q, d, acts, h => by
    rw [show q = n by omega]
    simp only [List.range'_zero, List.forIn_nil, wp_pure']
    exact hq _ _
  | r + 1, q, d, acts, h => by
    have hmul : (q + 1) * k ≤ n * k := Nat.mul_le_mul_right k (by omega)
    rw [Nat.succ_mul] at hmul
    simp only [List.range'_succ, List.forIn_cons, wp_bind']
    refine mz_wp_row (T := mz_st T cA cy n k q) (k := k) (by rw [mz_st_vm]; exact hky) hkind hj hjk hlim hheap (by rw [mz_st_size]; omega) (by rw [mz_st_used]; omega) (fun acts1 => ?_)
    simp only [wp_bind', W.writeLoc, wp_pure']
    refine ⟨mz_out cA n T.heap.size q, ?_, ?_, ?_, ?_, ?_⟩
    · show ((mz_st T cA cy n k q).heap.push (mz_row cy k))[T.heap.size]? = _
      rw [Array.getElem?_push, if_neg (by rw [mz_st_size]; omega)]
      exact mz_st_out q
    · intro z; cases z
    · rw [show (mz_out cA n T.heap.size q).slots.size = n from arrV_size _ _ _]; omega
    · simp [mz_out, arrV, State.fitsSlot, State.slotType?, mz_st_vm, hkA, hkindA, fits]
    · rw [mz_st_size, mz_out_put]
      exact mz_wp_rows hkA hkindA hky hkind hj hjk hlim hheap hcells hslots hq r (q + 1) _ _ (by omega)
/-- the outer array with its rows -/
theorem mz_wp {E : CtlPost} {e : Env} {d : Bool} {acts : List Action} {kA ky : Class} {cz : ClassId} {i j : Int32} {Q : Addr → Pre} (hkA : T.vm.classes[cA]? = some kA) (hkindA : kA.kind = .array cy (.array .int)) (hky : T.vm.classes[cy]? = some ky) (hkind : ky.kind = .array cz .int) (hi : ¬ i < 0) (hin : i.toNatClampNeg = n) (hj : ¬ j < 0) (hjk : j.toNatClampNeg = k) (hlimA : ¬ n > e.platform.arrayLengthLimit) (hheapA : ¬ n * componentBytes (.array .int) > e.platform.maxHeapBytes) (hlim : ¬ k > e.platform.arrayLengthLimit) (hheap : ¬ k * componentBytes .int > e.platform.maxHeapBytes) (hcells : T.heap.size + (1 + n) ≤ e.platform.maxCells) (hslots : T.slotsUsed + (n + n * k) ≤ e.platform.maxSlots)
    (hq : ∀ d' acts', Q T.heap.size d' acts' (mz_st T cA cy n k n)) : wp (Op.multianewarray.make cA [i, j]) Q E e d acts T := by
  rw [Op.multianewarray.make]
  simp only [wp_bind', W.ite, hi, if_false, wp_pure', W.theClass, hkA, Option.some.injEq, exists_eq_left', hkindA]
  rw [hin]
  refine W.newArray_of hkA hkindA hlimA hheapA (by omega) (by omega) rfl (fun acts1 => ?_)
  rw [show ({ cls := cA, slots := Array.replicate n .null } : Cell) = mz_out cA n T.heap.size 0 from mz_out_new cA n T.heap.size]
  have hl : ∀ (d : Bool) (acts : List Action), wp (do
      forIn [:n] PUnit.unit fun i (_ : PUnit) => (do
        let a ← Op.multianewarray.make cy [j]
        writeLoc T.heap.size i (.ref a)
        Pure.pure (ForInStep.yield PUnit.unit) : Sem (ForInStep PUnit))
      Pure.pure T.heap.size) Q E e d acts (mz_st T cA cy n k 0) := fun d acts => by
    rw [Std.Legacy.Range.forIn_eq_forIn_range', show ([:n] : Std.Legacy.Range).size = n by simp [Std.Legacy.Range.size]]
    simp only [wp_bind']
    refine mz_wp_rows hkA hkindA hky hkind hj hjk hlim hheap hcells hslots (fun d' acts' => ?_) n 0 d acts (by omega)
    simp only [wp_pure']
    exact hq _ _
  have hf : List.find? (fun x => decide (x < 0)) [j] = none := by simp [hj]
  by_cases hi0 : (i == 0) = true
  · rw [if_pos hi0, hf]
    exact hl d acts1
  · rw [if_neg hi0]
    exact hl d acts1
theorem mz_st_tj : ∀ i, (mz_st T cA cy n k i).topJava? = T.topJava?
  | 0 => rfl
  | i + 1 => mz_st_tj i
/-- the whole instruction -/
theorem mz_sem {E : CtlPost} {e : Env} {d : Bool} {acts : List Action} {kA ky : Class} {cz : ClassId} {i j : Int32} {index : Nat} {g : JFrame} {vm₁ : Vm} {rest : List Value} {Q : Unit → Pre} (hs : T.topJava?.isSome) (hg : (Jvm.resolveClass g.method.cls index).Gives e.toSetting T.vm (.ok cA) vm₁) (hsz : vm₁.classes.size ≤ T.vm.classes.size) (hstack : g.stack = .int j :: .int i :: rest)
    (hkA : vm₁.classes[cA]? = some kA) (hkindA : kA.kind = .array cy (.array .int)) (hky : vm₁.classes[cy]? = some ky) (hkind : ky.kind = .array cz .int) (hi : ¬ i < 0) (hin : i.toNatClampNeg = n) (hj : ¬ j < 0) (hjk : j.toNatClampNeg = k) (hlimA : ¬ n > e.platform.arrayLengthLimit) (hheapA : ¬ n * componentBytes (.array .int) > e.platform.maxHeapBytes) (hlim : ¬ k > e.platform.arrayLengthLimit) (hheap : ¬ k * componentBytes .int > e.platform.maxHeapBytes) (hcells : T.heap.size + (1 + n) ≤ e.platform.maxCells) (hslots : T.slotsUsed + (n + n * k) ≤ e.platform.maxSlots)
    (hq : ∀ d' acts', Q () d' acts' ((mz_st (T.setVm vm₁) cA cy n k n).setTop { g with stack := .ref T.heap.size :: rest })) : wp (Op.multianewarray.sem index 2) Q E e d acts (T.setTop g) := by
  have hs1 : (T.setVm vm₁).topJava?.isSome := hs
  unfold Op.multianewarray.sem
  simp only [wp_bind']
  rw [W.resolveClassAt_links (t := T.setTop g) (State.method?_setTop g hs) hg hsz, State.setVm_setTop]
  simp only [wp_bind']
  refine (Op.popN_top (args := [.int i, .int j]) (rest := rest) hs1 hstack).mpr ?_
  simp only [List.mapM_cons, List.mapM_nil, wp_bind', wp_pure']
  refine mz_wp (T := (T.setVm vm₁).setTop { g with stack := rest }) hkA hkindA hky hkind hi hin hj hjk hlimA hheapA hlim hheap hcells hslots (fun d' acts' => ?_)
  rw [mz_st_top]
  simp only [wp_bind', W.mark, W.pushRef]
  refine ⟨_, State.topJava?_setTop' _ (by rw [mz_st_tj]; exact hs1), ?_⟩
  rw [State.setTop_setTop]
  exact hq _ _
/-- the step: the class's entry may be new to the tables; the cells are made behind the heap -/
theorem mz_step {p : Program} {l : Launch} {e : Env} {R : Room} {s : State} {m : MethodId} {args : Array Value} {below : List Frame} {meth : Method} {c : Code} {locs : List Loc} {cells slots : Nat} (X : Stand p l e R s m args below meth c T locs cells slots) (hexec : p.tables.exec = Jvm.exec) {own : String} {index : Nat} (hown : s.vm.findClass own = some m.cls) (hclink : (Cond.classLink own index ("[" ++ (FieldType.array .int).toString)).before args s = true) (hover : (Cond.arrayOver (.array .int)).before args s = true) (harr : (Cond.arrayClass .int).before args s = true)
    {g : JFrame} (hg : g.method = m) (hdg : decode c.code g.pc = .ok (.multianewarray index 2, 4)) {i j : Int32} {rest : List Value} (hstack : g.stack = .int j :: .int i :: rest) (hi : ¬ i < 0) (hin : i.toNatClampNeg = n) (hj : ¬ j < 0) (hjk : j.toNatClampNeg = k) (hn : n ≤ 100000) (hk : k ≤ 100000) (hcells : cells + (1 + n) ≤ R.cells) (hslots : slots + (n + n * k) ≤ R.slots) :
    ∃ (vm₁ : Vm) (cA cy : ClassId), s.vm.findClass ("[" ++ (FieldType.array .int).toString) = some cA ∧ s.vm.findClass ("[" ++ FieldType.int.toString) = some cy ∧ ArrOfT s cA (.array .int) ∧ ArrOfT s cy .int ∧ Stand p l e R s m args below meth c (mz_st (T.setVm vm₁) cA cy n k n) locs (cells + 1 + n) (slots + n + n * k) ∧
      ∀ target, Steps p.tables e below ((mz_st (T.setVm vm₁) cA cy n k n).setTop { g with pc := g.pc + 4, stack := .ref T.heap.size :: rest }) target → Steps p.tables e below (T.setTop g) target := by
  subst hg
  have hpl : e.platform.magicAccessors = ({} : Platform).magicAccessors := by rw [X.admits.platform]
  obtain ⟨cy, cA, kA, hcy, -, hkA, hkindA, hnameA⟩ := arrayOverA_spec hover
  obtain ⟨cy', ky, cz, hcy', hky, hkindy⟩ := Cond.arrayClass_spec harr
  obtain rfl : cy = cy' := Option.some.inj (hcy.symm.trans hcy')
  obtain ⟨cc, hfcc, hcl⟩ := Cond.classLink_spec hown hclink e.platform hpl
  obtain rfl : cA = cc := Option.some.inj (hnameA.symm.trans hfcc)
  obtain ⟨hg₁, hwarm₁, hready₁⟩ := State.classEntry (e := e) X.warmed hcl
  have hsz : (T.vm.noted g.method.cls index (.cls cA)).classes.size ≤ T.vm.classes.size := by no_record
  generalize T.vm.noted g.method.cls index (.cls cA) = vm₁ at hg₁ hwarm₁ hready₁ hsz
  have hal : s.vm.Alike vm₁ := hwarm₁.alike
  obtain ⟨kA₁, hkA₁, heA⟩ := hal.2.2 _ _ hkA
  obtain ⟨ky₁, hky₁, hey⟩ := hal.2.2 _ _ hky
  have hkindA₁ : kA₁.kind = .array cy (.array .int) := by rw [heA]; exact hkindA
  have hkindy₁ : ky₁.kind = .array cz .int := by rw [hey]; exact hkindy
  obtain ⟨hr1, hr2⟩ := X.roomAbove hcells hslots
  have hb1 : (FieldType.array .int |> componentBytes) = 4 := rfl
  have hb2 : componentBytes .int = 4 := rfl
  refine ⟨vm₁, cA, cy, hnameA, hcy', fun N z => ⟨(fun q hq => by cases hq), kA, hkA, cy, hkindA⟩, fun N z => ⟨(fun q hq => by cases hq), ky, hky, cz, hkindy⟩, mz_stand (X.noted hwarm₁) n, fun target hrest => ?_⟩
  refine Steps.instr (c := _) (by simpa using X.here) ?_
  simp [jvm, wpRun, exec, X.here.top, hexec, hdg]
  have hlim : e.platform.arrayLengthLimit = _ := Launch.admits_arrayLengthLimit X.admits
  have hmax : e.platform.maxHeapBytes = _ := Launch.admits_maxHeapBytes X.admits
  refine mz_sem X.here.top hg₁ hsz hstack hkA₁ hkindA₁ hky₁ hkindy₁ hi hin hj hjk (by rw [hlim]; omega) (by rw [hmax, hb1]; omega) (by rw [hlim]; omega) (by rw [hmax, hb2]; omega) hr1 hr2 (fun d' acts' acts2 => ?_)
  rw [afterInstr_ok]
  exact hrest
end MZ
/-- a cell that lies in the machine's heap unnamed gets a name -/
theorem Rel.add {D : va_G} {N0 : Nat} {r φ : Nat → Nat} {s : State} {G : AHp} {H : Heap} (h : Rel D N0 r s φ G H) {a q : Nat} {c' : ACell} {e' : va_E} (ha : 16 ≤ a) (ga : G a = none) (hq : ∀ b, 16 ≤ b → G b ≠ none → φ b ≠ q) (hN : N0 ≤ q) (hz : Cz s (va_up φ a q) c' e') (hk : okc (up G a c') c') (hat : va_at D classes (q, e') H) : Rel D N0 r s (va_up φ a q) (up G a c') H ∧ ∀ b, okn G b → va_up φ a q b = φ b := by
  obtain ⟨L, E, hL, hP, hD, hφ, back⟩ := h.gapX ha ga
  have one : ∀ (j : Nat) (x : Nat × va_E), [(q, e')][j]? = some x → j = 0 ∧ x = (q, e') := fun j x hx => by
    have h0 : j < 1 := (List.getElem?_eq_some_iff.mp hx).1
    have hj : j = 0 := by omega
    subst hj
    cases hx
    exact ⟨rfl, rfl⟩
  refine ⟨back q c' e' H hz hk (hP.app (fun k x hx => ?_)) (hD.app ⟨fun i j x y hi hj _ => ?_, fun k x hx => ?_⟩ (fun i j x y hx hy hxy => ?_)) (fun _ _ => rfl), hφ q⟩
  · rw [(one k x hx).2]; exact hat
  · rw [(one i x hi).1, (one j y hj).1]
  · rw [(one k x hx).2]; exact hN
  · obtain ⟨b, hb1, hb2, hb3⟩ := hL i x hx
    rw [(one j y hy).2] at hxy
    exact hq b hb1 hb2 (hb3.symm.trans hxy)
theorem Rel.heap {D : va_G} {N0 : Nat} {r φ : Nat → Nat} {s : State} {G : AHp} {H H1 : Heap} (h : Rel D N0 r s φ G H) (hN : N0 ≤ H.size) (ho : ∀ x : Nat, x < H.size → H1[x]? = H[x]?) : Rel D N0 r s φ G H1 := by
  obtain ⟨L, E, h1, h2, h3, h4, h5, h6, h7⟩ := h
  refine ⟨L, E, h1, h2, h3, fun k x hx => (h4 k x hx).kept (ho _ (h4 k x hx).lt), h5, h6, fun a c ha hc => ?_⟩
  obtain ⟨e0, n, f, e1, e2, e3⟩ := h7 a c ha hc
  exact ⟨e0, n, f, e1, e2.kept (ho _ (by omega)), e3⟩
/-- n cells of one kind, at the names from B on -/
def upN (G : AHp) (B n : Nat) (c : ACell) : AHp := fun x => if B ≤ x ∧ x < B + n then some c else G x
def phN (φ : Nat → Nat) (B n q : Nat) : Nat → Nat := fun x => if B ≤ x ∧ x < B + n then q + (x - B) else φ x
theorem upN_s (G : AHp) (B n : Nat) (c : ACell) : upN G B (n + 1) c = up (upN G B n c) (B + n) c := by
  funext x
  show (if B ≤ x ∧ x < B + (n + 1) then some c else G x) = (if x = B + n then some c else (if B ≤ x ∧ x < B + n then some c else G x))
  by_cases e : x = B + n
  · rw [if_pos (by omega), if_pos e]
  · rw [if_neg e]
    by_cases h : B ≤ x ∧ x < B + n
    · rw [if_pos h, if_pos (by omega)]
    · rw [if_neg h, if_neg (by omega)]
theorem phN_s (φ : Nat → Nat) (B n q : Nat) : phN φ B (n + 1) q = va_up (phN φ B n q) (B + n) (q + n) := by
  funext x
  show (if B ≤ x ∧ x < B + (n + 1) then q + (x - B) else φ x) = (if x = B + n then q + n else (if B ≤ x ∧ x < B + n then q + (x - B) else φ x))
  by_cases e : x = B + n
  · rw [if_pos (by omega), if_pos e]; omega
  · rw [if_neg e]
    by_cases h : B ≤ x ∧ x < B + n
    · rw [if_pos h, if_pos (by omega)]
    · rw [if_neg h, if_neg (by omega)]
theorem Rel.addN {D : va_G} {N0 : Nat} {r φ : Nat → Nat} {s : State} {G : AHp} {H : Heap} (h : Rel D N0 r s φ G H) {B q k : Nat} {cy : ClassId} (hB : 16 ≤ B) (hA1 : ArrOfT s cy .int) (hA2 : va_RA s cy .int) (hN : N0 ≤ q) : ∀ n : Nat, (∀ x, B ≤ x → x < B + n → G x = none) → (∀ b, 16 ≤ b → G b ≠ none → φ b < q) → (∀ j, j < n → H[q + j]? = some (vp_cell cy (k, .inl (fun _ => 0)))) → Rel D N0 r s (phN φ B n q) (upN G B n (aI k (fun _ => 0))) H ∧ (∀ b, okn G b → phN φ B n q b = φ b)
  | 0, _, _, _ => by
    have e1 : upN G B 0 (aI k (fun _ => 0)) = G := by funext x; unfold upN; rw [if_neg (by omega)]
    have e2 : phN φ B 0 q = φ := by funext x; unfold phN; rw [if_neg (by omega)]
    rw [e1, e2]
    exact ⟨h, fun _ _ => rfl⟩
  | n + 1, hf, hlt, hc => by
    obtain ⟨ih, iφ⟩ := Rel.addN h hB hA1 hA2 hN n (fun x h1 h2 => hf x h1 (by omega)) hlt (fun j hj => hc j (by omega))
    rw [upN_s, phN_s]
    have hno : upN G B n (aI k (fun _ => 0)) (B + n) = none := by unfold upN; rw [if_neg (by omega)]; exact hf _ (by omega) (by omega)
    obtain ⟨r1, r2⟩ := ih.add (a := B + n) (q := q + n) (c' := aI k (fun _ => 0)) (e' := .inl (cy, k, .inl (fun _ => 0))) (by omega) hno (fun b hb1 hb2 => by
      unfold upN at hb2
      unfold phN
      by_cases hx : B ≤ b ∧ b < B + n
      · rw [if_pos hx]; omega
      · rw [if_neg hx] at hb2 ⊢
        have := hlt b hb1 hb2
        omega) (by omega) ⟨cy, rfl, hA1, hA2⟩ trivial (hc n (by omega))
    refine ⟨r1, fun b hb => ?_⟩
    rw [r2 b (hb.elim Or.inl (fun z => Or.inr (by unfold upN; by_cases hx : B ≤ b ∧ b < B + n <;> simp [hx, z]))), iφ b hb]
section MNA
variable {d : Nat} {y : MI} {pc : Nat} {ls : List (Option Value)} {st : List Value} {G : AHp} {kc ks : Nat} {Q : Option Value → AHp → Prop}
theorem A.mna {idx a B n k : Nat} {i j : Int32} (hd : decode (mcode y) pc = .ok (.multianewarray idx 2, 4)) (hl : Cond.classLink (mcls y) idx ("[" ++ (FieldType.array .int).toString) ∈ gt) (hac : Cond.arrayClass .int ∈ gt) (hi : i.toInt = (n : Int)) (hj : j.toInt = (k : Int)) (hn : n ≤ 1000) (hk : k ≤ 1000) (ha : 16 ≤ a) (ga : G a = none) (hB : 16 ≤ B) (gB : ∀ x, B ≤ x → x < B + n → G x = none) (haB : a < B ∨ B + n ≤ a) {kc' ks' : Nat} (hkc : kc' + (1 + n) ≤ kc) (hks : ks' + (n + n * k) ≤ ks)
    (kk : A d y (pc + 4) ls (.ref a :: st) (up (upN G B n (aI k (fun _ => 0))) a (aR (.array .int) n (fun x => if x < n then some (B + x) else none))) kc' ks' Q) : A d y pc ls (.int j :: .int i :: st) G kc ks Q := by
  intro l D N0 r φ0 G0 mc ms p e R s m args below meth c H locs cells slots φ la h0 h1 h2 h3 h4 h5 h6 h7 T hT Xs
  have hcl : i.toNatClampNeg = n := by show i.toInt.toNat = n; omega
  have hcl2 : j.toNatClampNeg = k := by show j.toInt.toNat = k; omega
  have hi0 : ¬ i < 0 := by rw [Int32.lt_iff_toInt_lt]; show ¬ i.toInt < 0; omega
  have hj0 : ¬ j < 0 := by rw [Int32.lt_iff_toInt_lt]; show ¬ j.toInt < 0; omega
  have hNs : N0 ≤ s.heap.size := h0.2.2.2.2.2.2.2.2.2.2.2.2.1
  have hN : N0 ≤ H.size := Nat.le_trans hNs h3.1
  obtain ⟨vm₁, cA, cy, fA, fC, hA1, hB1, X', step⟩ := mz_step (n := n) (k := k) Xs h0.1 h0.2.2.2.2.1 (h0.2.2.2.2.2.1 _ hl) (show (Cond.arrayOver (.array .int)).before args s = true from h0.2.2.2.2.2.2.2.2.2.2.2.2.2.2.2.2.1) (h0.2.2.2.2.2.1 _ hac) (g := F0 m pc la ((Value.int j :: .int i :: st).map (tv φ))) rfl (by rw [h0.2.1]; exact hd) rfl hi0 hcl hj0 hcl2 (by omega) (by omega) (by omega) (by omega)
  have hTh : (T.setVm vm₁).heap = H := hT
  have f1 := mz_st_size (T := T.setVm vm₁) (cA := cA) (cy := cy) (n := n) (k := k) n
  have f2 := mz_st_out (T := T.setVm vm₁) (cA := cA) (cy := cy) (n := n) (k := k) n
  have hold := mz_st_old (T := T.setVm vm₁) (cA := cA) (cy := cy) (n := n) (k := k) n
  have hrow := mz_st_row (T := T.setVm vm₁) (cA := cA) (cy := cy) (n := n) (k := k) n
  generalize mz_st (T.setVm vm₁) cA cy n k n = F at X' step f1 f2 hold hrow
  rw [hTh] at f1 f2 hold hrow
  rw [show mz_row cy k = vp_cell cy (k, .inl (fun _ => 0)) by rw [vp_cell_i, ← arrV_new]; rfl] at hrow
  have hlt : ∀ b, 16 ≤ b → G b ≠ none → φ b < H.size := fun b hb1 hb2 => by
    obtain ⟨c0, hc0⟩ := Option.ne_none_iff_exists'.mp hb2
    obtain ⟨e', hP, -, -, -⟩ := h1.at hb1 hc0
    exact (hP 0 _ rfl).lt
  obtain ⟨R1, p1⟩ := Rel.addN (h1.heap hN hold) (B := B) (q := H.size + 1) (k := k) (cy := cy) hB hB1 fC (by omega) n gB (fun b hb1 hb2 => Nat.lt_succ_of_lt (hlt b hb1 hb2)) hrow
  have hφB : ∀ x, x < n → va_up (phN φ B n (H.size + 1)) a H.size (B + x) = H.size + 1 + x := fun x hx => by
    show (if B + x = a then H.size else phN φ B n (H.size + 1) (B + x)) = _
    rw [if_neg (by omega)]
    unfold phN
    rw [if_pos (by omega)]
    omega
  have hfun : (fun x => (if x < n then some (B + x) else none).map (va_up (phN φ B n (H.size + 1)) a H.size)) = (fun x => if x < n then some (H.size + 1 + x) else none) := by
    funext x
    by_cases hx : x < n
    · rw [if_pos hx, if_pos hx]; show some _ = some _; rw [hφB x hx]
    · rw [if_neg hx, if_neg hx]; rfl
  have hout : F.heap[H.size]? = some (vp_cell cA (n, .inr (.inr (.inr (.inr (fun x => if x < n then some (H.size + 1 + x) else none)))))) := by
    rw [f2, vp_cell_q]
    rfl
  have hgB : ∀ x, x < n → upN G B n (aI k (fun _ => 0)) (B + x) ≠ none := fun x hx => by unfold upN; rw [if_pos (by omega)]; simp
  obtain ⟨R2, p2⟩ := R1.add (a := a) (q := H.size) (c' := aR (.array .int) n (fun x => if x < n then some (B + x) else none)) (e' := .inl (cA, n, .inr (.inr (.inr (.inr (fun x => if x < n then some (H.size + 1 + x) else none)))))) ha (by unfold upN; rw [if_neg (by omega)]; exact ga) (fun b hb1 hb2 => by
      unfold upN at hb2
      unfold phN
      by_cases hx : B ≤ b ∧ b < B + n
      · rw [if_pos hx]; omega
      · rw [if_neg hx] at hb2 ⊢
        have := hlt b hb1 hb2
        omega) hN ⟨cA, by show Sum.inl (cA, n, _) = Sum.inl (cA, n, _); rw [hfun], hA1, fA⟩ (fun x b hb => by
      have hb : (if x < n then some (B + x) else none) = some b := hb
      by_cases hx : x < n
      · rw [if_pos hx] at hb; cases hb; exact Or.inr (up_ne (hgB x hx))
      · rw [if_neg hx] at hb; cases hb) hout
  have hmono : ∀ b, G b ≠ none → up (upN G B n (aI k (fun _ => 0))) a (aR (.array .int) n (fun x => if x < n then some (B + x) else none)) b ≠ none := fun b hb => up_ne (by unfold upN; by_cases hx : B ≤ b ∧ b < B + n <;> simp [hx, hb])
  have hmid : ∀ b, okn G b → okn (upN G B n (aI k (fun _ => 0))) b := fun b hb => hb.elim Or.inl (fun z => Or.inr (by unfold upN; by_cases hx : B ≤ b ∧ b < B + n <;> simp [hx, z]))
  have hφ : ∀ b, okn G b → va_up (phN φ B n (H.size + 1)) a H.size b = φ b := fun b hb => (p2 b (hmid b hb)).trans (p1 b hb)
  have hst : Value.ref H.size :: st.map (tv φ) = (Value.ref a :: st).map (tv (va_up (phN φ B n (H.size + 1)) a H.size)) := by
    rw [List.map_cons, tvl_eq hφ (okl_tail (okl_tail h7))]
    show _ = Value.ref (va_up _ a H.size a) :: _
    rw [show va_up (phN φ B n (H.size + 1)) a H.size a = H.size from if_pos rfl]
  obtain ⟨t, a1, b1⟩ := kk l D N0 r φ0 G0 mc ms p e R s m args below meth c F.heap locs (cells + 1 + n) (slots + n + n * k) (va_up (phN φ B n (H.size + 1)) a H.size) la h0 R2 ⟨fun b hb => ⟨hmono b (h2.1 b hb).1, (hφ b (Or.inr (h2.1 b hb).1)).trans (h2.1 b hb).2⟩, fun b hb => (hφ b (Or.inl hb)).trans (h2.2 b hb)⟩
    ⟨by rw [f1]; have := h3.1; omega, fun x x1 x2 => (hold x (Nat.lt_of_lt_of_le x1 h3.1)).trans (h3.2.1 x x1 x2), h3.2.2⟩ ⟨by omega, by omega, h4.2.2⟩ (LH_eq hφ h6 h5) (oks_mono hmono h6) (okl_cons (okv_r (Or.inr (by rw [up_s]; simp))) (okl_mono hmono (okl_tail (okl_tail h7)))) F rfl X'
  refine ⟨t, step t ?_, b1⟩
  have e9 : T.heap.size = H.size := by rw [hT]
  rw [e9]
  rw [← hst] at a1
  exact a1
end MNA
end
