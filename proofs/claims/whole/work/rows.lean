section
-- ===== PART A: goes FIRST, ahead of the names: the tables' words, and 'selects' of the private methods out of them =====
/-- a private method of a class that the tables say can be made, by its rows of tables_1 -/
def lw_okq (q : MethodName × Nat) : Prop := (q.1.cls ≠ "java/lang/invoke/MethodHandle" ∧ q.1.cls ≠ "java/lang/invoke/VarHandle") ∧ Cond.instantiable q.1.cls q.2 ∈ tables_1 ∧ Cond.privateMethod q.1 ∈ tables_1 ∧ Cond.instanceMethod q.1 ∈ tables_1
theorem lw_p0 : lw_okq (⟨"GraveRows", "forgetBest", "()V"⟩, 6) := ⟨⟨by decide +kernel, by decide +kernel⟩, List.mem_of_getElem? (i := 12) (by decide +kernel), List.mem_of_getElem? (i := 154) (by decide +kernel), List.mem_of_getElem? (i := 155) (by decide +kernel)⟩
theorem lw_p1 : lw_okq (⟨"GraveRows", "isGrave", "(I)Z"⟩, 6) := ⟨⟨by decide +kernel, by decide +kernel⟩, List.mem_of_getElem? (i := 12) (by decide +kernel), List.mem_of_getElem? (i := 162) (by decide +kernel), List.mem_of_getElem? (i := 163) (by decide +kernel)⟩
theorem lw_p2 : lw_okq (⟨"GraveRows", "knownBest", "()LGraveRows$BestOrders;"⟩, 6) := ⟨⟨by decide +kernel, by decide +kernel⟩, List.mem_of_getElem? (i := 12) (by decide +kernel), List.mem_of_getElem? (i := 220) (by decide +kernel), List.mem_of_getElem? (i := 221) (by decide +kernel)⟩
theorem lw_p3 : lw_okq (⟨"GraveRows$BestOrders", "openAllowed", "(LGraveRows$Dig;)V"⟩, 14) := ⟨⟨by decide +kernel, by decide +kernel⟩, List.mem_of_getElem? (i := 50) (by decide +kernel), List.mem_of_getElem? (i := 228) (by decide +kernel), List.mem_of_getElem? (i := 229) (by decide +kernel)⟩
theorem lw_p4 : lw_okq (⟨"GraveRows$BestOrders", "costRest", "(LGraveRows$Cost;)V"⟩, 14) := ⟨⟨by decide +kernel, by decide +kernel⟩, List.mem_of_getElem? (i := 50) (by decide +kernel), List.mem_of_getElem? (i := 240) (by decide +kernel), List.mem_of_getElem? (i := 241) (by decide +kernel)⟩
theorem lw_p5 : lw_okq (⟨"GraveRows$BestOrders", "cheapestOn", "(LGraveRows$Cost;II)I"⟩, 14) := ⟨⟨by decide +kernel, by decide +kernel⟩, List.mem_of_getElem? (i := 50) (by decide +kernel), List.mem_of_getElem? (i := 247) (by decide +kernel), List.mem_of_getElem? (i := 248) (by decide +kernel)⟩
theorem lw_p6 : lw_okq (⟨"GraveRows$BestOrders", "keepCheapest", "(LGraveRows$Cost;)V"⟩, 14) := ⟨⟨by decide +kernel, by decide +kernel⟩, List.mem_of_getElem? (i := 50) (by decide +kernel), List.mem_of_getElem? (i := 271) (by decide +kernel), List.mem_of_getElem? (i := 272) (by decide +kernel)⟩
theorem lw_p7 : lw_okq (⟨"GraveRows$BestOrders", "cheapestNext", "(LGraveRows$Cost;II)I"⟩, 14) := ⟨⟨by decide +kernel, by decide +kernel⟩, List.mem_of_getElem? (i := 50) (by decide +kernel), List.mem_of_getElem? (i := 275) (by decide +kernel), List.mem_of_getElem? (i := 276) (by decide +kernel)⟩
theorem lw_p8 : lw_okq (⟨"GraveRows$BestOrders", "countWaysOn", "()V"⟩, 14) := ⟨⟨by decide +kernel, by decide +kernel⟩, List.mem_of_getElem? (i := 50) (by decide +kernel), List.mem_of_getElem? (i := 279) (by decide +kernel), List.mem_of_getElem? (i := 280) (by decide +kernel)⟩
theorem lw_p9 : lw_okq (⟨"GraveRows$BestOrders", "sumOver", "([III)I"⟩, 14) := ⟨⟨by decide +kernel, by decide +kernel⟩, List.mem_of_getElem? (i := 50) (by decide +kernel), List.mem_of_getElem? (i := 283) (by decide +kernel), List.mem_of_getElem? (i := 284) (by decide +kernel)⟩
theorem lw_p10 : lw_okq (⟨"GraveRows$BestOrders", "countWaysTo", "()V"⟩, 14) := ⟨⟨by decide +kernel, by decide +kernel⟩, List.mem_of_getElem? (i := 50) (by decide +kernel), List.mem_of_getElem? (i := 287) (by decide +kernel), List.mem_of_getElem? (i := 288) (by decide +kernel)⟩
theorem lw_p11 : lw_okq (⟨"GraveRows$BestOrders", "passOn", "(II)V"⟩, 14) := ⟨⟨by decide +kernel, by decide +kernel⟩, List.mem_of_getElem? (i := 50) (by decide +kernel), List.mem_of_getElem? (i := 295) (by decide +kernel), List.mem_of_getElem? (i := 296) (by decide +kernel)⟩
theorem lw_p12 : lw_okq (⟨"GraveRows", "isPlace", "(I)Z"⟩, 6) := ⟨⟨by decide +kernel, by decide +kernel⟩, List.mem_of_getElem? (i := 12) (by decide +kernel), List.mem_of_getElem? (i := 321) (by decide +kernel), List.mem_of_getElem? (i := 322) (by decide +kernel)⟩
theorem lw_p13 : lw_okq (⟨"GraveRows$BestOrders", "ordersWithNext", "(II)I"⟩, 14) := ⟨⟨by decide +kernel, by decide +kernel⟩, List.mem_of_getElem? (i := 50) (by decide +kernel), List.mem_of_getElem? (i := 337) (by decide +kernel), List.mem_of_getElem? (i := 338) (by decide +kernel)⟩
theorem lw_p14 : lw_okq (⟨"GraveRows$BestOrders", "ordersBy", "(II)I"⟩, 14) := ⟨⟨by decide +kernel, by decide +kernel⟩, List.mem_of_getElem? (i := 50) (by decide +kernel), List.mem_of_getElem? (i := 353) (by decide +kernel), List.mem_of_getElem? (i := 354) (by decide +kernel)⟩
theorem lw_p15 : lw_okq (⟨"GraveRows$BestOrders", "liesTogetherInAll", "(I)Z"⟩, 14) := ⟨⟨by decide +kernel, by decide +kernel⟩, List.mem_of_getElem? (i := 50) (by decide +kernel), List.mem_of_getElem? (i := 389) (by decide +kernel), List.mem_of_getElem? (i := 390) (by decide +kernel)⟩
def lw_privs_1 : List (MethodName × Nat) := [(⟨"GraveRows", "forgetBest", "()V"⟩, 6), (⟨"GraveRows", "isGrave", "(I)Z"⟩, 6), (⟨"GraveRows", "knownBest", "()LGraveRows$BestOrders;"⟩, 6), (⟨"GraveRows$BestOrders", "openAllowed", "(LGraveRows$Dig;)V"⟩, 14), (⟨"GraveRows$BestOrders", "costRest", "(LGraveRows$Cost;)V"⟩, 14), (⟨"GraveRows$BestOrders", "cheapestOn", "(LGraveRows$Cost;II)I"⟩, 14), (⟨"GraveRows$BestOrders", "keepCheapest", "(LGraveRows$Cost;)V"⟩, 14), (⟨"GraveRows$BestOrders", "cheapestNext", "(LGraveRows$Cost;II)I"⟩, 14), (⟨"GraveRows$BestOrders", "countWaysOn", "()V"⟩, 14), (⟨"GraveRows$BestOrders", "sumOver", "([III)I"⟩, 14), (⟨"GraveRows$BestOrders", "countWaysTo", "()V"⟩, 14), (⟨"GraveRows$BestOrders", "passOn", "(II)V"⟩, 14), (⟨"GraveRows", "isPlace", "(I)Z"⟩, 6), (⟨"GraveRows$BestOrders", "ordersWithNext", "(II)I"⟩, 14), (⟨"GraveRows$BestOrders", "ordersBy", "(II)I"⟩, 14), (⟨"GraveRows$BestOrders", "liesTogetherInAll", "(I)Z"⟩, 14)]
theorem lw_r1 : ∀ q ∈ lw_privs_1, lw_okq q := List.forall_mem_cons.mpr ⟨lw_p0, List.forall_mem_cons.mpr ⟨lw_p1, List.forall_mem_cons.mpr ⟨lw_p2, List.forall_mem_cons.mpr ⟨lw_p3, List.forall_mem_cons.mpr ⟨lw_p4, List.forall_mem_cons.mpr ⟨lw_p5, List.forall_mem_cons.mpr ⟨lw_p6, List.forall_mem_cons.mpr ⟨lw_p7, List.forall_mem_cons.mpr ⟨lw_p8, List.forall_mem_cons.mpr ⟨lw_p9, List.forall_mem_cons.mpr ⟨lw_p10, List.forall_mem_cons.mpr ⟨lw_p11, List.forall_mem_cons.mpr ⟨lw_p12, List.forall_mem_cons.mpr ⟨lw_p13, List.forall_mem_cons.mpr ⟨lw_p14, List.forall_mem_cons.mpr ⟨lw_p15, fun _ h => absurd h List.not_mem_nil⟩⟩⟩⟩⟩⟩⟩⟩⟩⟩⟩⟩⟩⟩⟩⟩
theorem lw_p16 : lw_okq (⟨"GraveRows", "lineIsBest", "()Z"⟩, 6) := ⟨⟨by decide +kernel, by decide +kernel⟩, List.mem_of_getElem? (i := 12) (by decide +kernel), List.mem_of_getElem? (i := 405) (by decide +kernel), List.mem_of_getElem? (i := 406) (by decide +kernel)⟩
theorem lw_p17 : lw_okq (⟨"GraveRows", "makeBestSwap", "()I"⟩, 6) := ⟨⟨by decide +kernel, by decide +kernel⟩, List.mem_of_getElem? (i := 12) (by decide +kernel), List.mem_of_getElem? (i := 421) (by decide +kernel), List.mem_of_getElem? (i := 422) (by decide +kernel)⟩
theorem lw_p18 : lw_okq (⟨"GraveRows", "knowWay", "(LGraveRows$BestOrders;)V"⟩, 6) := ⟨⟨by decide +kernel, by decide +kernel⟩, List.mem_of_getElem? (i := 12) (by decide +kernel), List.mem_of_getElem? (i := 439) (by decide +kernel), List.mem_of_getElem? (i := 440) (by decide +kernel)⟩
theorem lw_p19 : lw_okq (⟨"GraveRowsModel", "resetRow", "()V"⟩, 17) := ⟨⟨by decide +kernel, by decide +kernel⟩, List.mem_of_getElem? (i := 482) (by decide +kernel), List.mem_of_getElem? (i := 488) (by decide +kernel), List.mem_of_getElem? (i := 489) (by decide +kernel)⟩
theorem lw_p20 : lw_okq (⟨"GraveRowsModel", "isGrave", "(I)Z"⟩, 17) := ⟨⟨by decide +kernel, by decide +kernel⟩, List.mem_of_getElem? (i := 482) (by decide +kernel), List.mem_of_getElem? (i := 556) (by decide +kernel), List.mem_of_getElem? (i := 557) (by decide +kernel)⟩
theorem lw_p21 : lw_okq (⟨"GraveRowsModel", "knownPairs", "()I"⟩, 17) := ⟨⟨by decide +kernel, by decide +kernel⟩, List.mem_of_getElem? (i := 482) (by decide +kernel), List.mem_of_getElem? (i := 570) (by decide +kernel), List.mem_of_getElem? (i := 571) (by decide +kernel)⟩
theorem lw_p22 : lw_okq (⟨"GraveRowsModel", "placeInRow", "(I)I"⟩, 17) := ⟨⟨by decide +kernel, by decide +kernel⟩, List.mem_of_getElem? (i := 482) (by decide +kernel), List.mem_of_getElem? (i := 581) (by decide +kernel), List.mem_of_getElem? (i := 582) (by decide +kernel)⟩
theorem lw_p23 : lw_okq (⟨"GraveRowsModel", "layFewest", "()V"⟩, 17) := ⟨⟨by decide +kernel, by decide +kernel⟩, List.mem_of_getElem? (i := 482) (by decide +kernel), List.mem_of_getElem? (i := 593) (by decide +kernel), List.mem_of_getElem? (i := 594) (by decide +kernel)⟩
theorem lw_p24 : lw_okq (⟨"GraveRowsModel", "begin", "()V"⟩, 17) := ⟨⟨by decide +kernel, by decide +kernel⟩, List.mem_of_getElem? (i := 482) (by decide +kernel), List.mem_of_getElem? (i := 597) (by decide +kernel), List.mem_of_getElem? (i := 598) (by decide +kernel)⟩
theorem lw_p25 : lw_okq (⟨"GraveRowsModel", "isAllowed", "()Z"⟩, 17) := ⟨⟨by decide +kernel, by decide +kernel⟩, List.mem_of_getElem? (i := 482) (by decide +kernel), List.mem_of_getElem? (i := 601) (by decide +kernel), List.mem_of_getElem? (i := 602) (by decide +kernel)⟩
theorem lw_p26 : lw_okq (⟨"GraveRowsModel", "breaksNow", "()I"⟩, 17) := ⟨⟨by decide +kernel, by decide +kernel⟩, List.mem_of_getElem? (i := 482) (by decide +kernel), List.mem_of_getElem? (i := 605) (by decide +kernel), List.mem_of_getElem? (i := 606) (by decide +kernel)⟩
theorem lw_p27 : lw_okq (⟨"GraveRowsModel", "breaksOf", "(I)I"⟩, 17) := ⟨⟨by decide +kernel, by decide +kernel⟩, List.mem_of_getElem? (i := 482) (by decide +kernel), List.mem_of_getElem? (i := 609) (by decide +kernel), List.mem_of_getElem? (i := 610) (by decide +kernel)⟩
theorem lw_p28 : lw_okq (⟨"GraveRowsModel", "goOn", "()Z"⟩, 17) := ⟨⟨by decide +kernel, by decide +kernel⟩, List.mem_of_getElem? (i := 482) (by decide +kernel), List.mem_of_getElem? (i := 613) (by decide +kernel), List.mem_of_getElem? (i := 614) (by decide +kernel)⟩
theorem lw_p29 : lw_okq (⟨"GraveRowsModel", "change", "(II)V"⟩, 17) := ⟨⟨by decide +kernel, by decide +kernel⟩, List.mem_of_getElem? (i := 482) (by decide +kernel), List.mem_of_getElem? (i := 617) (by decide +kernel), List.mem_of_getElem? (i := 618) (by decide +kernel)⟩
theorem lw_p30 : lw_okq (⟨"GraveRowsModel", "lookAtAll", "(I)V"⟩, 17) := ⟨⟨by decide +kernel, by decide +kernel⟩, List.mem_of_getElem? (i := 482) (by decide +kernel), List.mem_of_getElem? (i := 625) (by decide +kernel), List.mem_of_getElem? (i := 626) (by decide +kernel)⟩
theorem lw_p31 : lw_okq (⟨"GraveRowsModel", "isBest", "()Z"⟩, 17) := ⟨⟨by decide +kernel, by decide +kernel⟩, List.mem_of_getElem? (i := 482) (by decide +kernel), List.mem_of_getElem? (i := 629) (by decide +kernel), List.mem_of_getElem? (i := 630) (by decide +kernel)⟩
def lw_privs_2 : List (MethodName × Nat) := [(⟨"GraveRows", "lineIsBest", "()Z"⟩, 6), (⟨"GraveRows", "makeBestSwap", "()I"⟩, 6), (⟨"GraveRows", "knowWay", "(LGraveRows$BestOrders;)V"⟩, 6), (⟨"GraveRowsModel", "resetRow", "()V"⟩, 17), (⟨"GraveRowsModel", "isGrave", "(I)Z"⟩, 17), (⟨"GraveRowsModel", "knownPairs", "()I"⟩, 17), (⟨"GraveRowsModel", "placeInRow", "(I)I"⟩, 17), (⟨"GraveRowsModel", "layFewest", "()V"⟩, 17), (⟨"GraveRowsModel", "begin", "()V"⟩, 17), (⟨"GraveRowsModel", "isAllowed", "()Z"⟩, 17), (⟨"GraveRowsModel", "breaksNow", "()I"⟩, 17), (⟨"GraveRowsModel", "breaksOf", "(I)I"⟩, 17), (⟨"GraveRowsModel", "goOn", "()Z"⟩, 17), (⟨"GraveRowsModel", "change", "(II)V"⟩, 17), (⟨"GraveRowsModel", "lookAtAll", "(I)V"⟩, 17), (⟨"GraveRowsModel", "isBest", "()Z"⟩, 17)]
theorem lw_r2 : ∀ q ∈ lw_privs_2, lw_okq q := List.forall_mem_cons.mpr ⟨lw_p16, List.forall_mem_cons.mpr ⟨lw_p17, List.forall_mem_cons.mpr ⟨lw_p18, List.forall_mem_cons.mpr ⟨lw_p19, List.forall_mem_cons.mpr ⟨lw_p20, List.forall_mem_cons.mpr ⟨lw_p21, List.forall_mem_cons.mpr ⟨lw_p22, List.forall_mem_cons.mpr ⟨lw_p23, List.forall_mem_cons.mpr ⟨lw_p24, List.forall_mem_cons.mpr ⟨lw_p25, List.forall_mem_cons.mpr ⟨lw_p26, List.forall_mem_cons.mpr ⟨lw_p27, List.forall_mem_cons.mpr ⟨lw_p28, List.forall_mem_cons.mpr ⟨lw_p29, List.forall_mem_cons.mpr ⟨lw_p30, List.forall_mem_cons.mpr ⟨lw_p31, fun _ h => absurd h List.not_mem_nil⟩⟩⟩⟩⟩⟩⟩⟩⟩⟩⟩⟩⟩⟩⟩⟩
theorem lw_p32 : lw_okq (⟨"GraveRowsModel", "look", "()V"⟩, 17) := ⟨⟨by decide +kernel, by decide +kernel⟩, List.mem_of_getElem? (i := 482) (by decide +kernel), List.mem_of_getElem? (i := 633) (by decide +kernel), List.mem_of_getElem? (i := 634) (by decide +kernel)⟩
theorem lw_p33 : lw_okq (⟨"GraveRowsModel", "lookAtSteps", "()V"⟩, 17) := ⟨⟨by decide +kernel, by decide +kernel⟩, List.mem_of_getElem? (i := 482) (by decide +kernel), List.mem_of_getElem? (i := 637) (by decide +kernel), List.mem_of_getElem? (i := 638) (by decide +kernel)⟩
theorem lw_p34 : lw_okq (⟨"GraveRowsModel", "placeOf", "(I)I"⟩, 17) := ⟨⟨by decide +kernel, by decide +kernel⟩, List.mem_of_getElem? (i := 482) (by decide +kernel), List.mem_of_getElem? (i := 641) (by decide +kernel), List.mem_of_getElem? (i := 642) (by decide +kernel)⟩
theorem lw_p35 : lw_okq (⟨"GraveRowsModel", "keep", "([I)V"⟩, 17) := ⟨⟨by decide +kernel, by decide +kernel⟩, List.mem_of_getElem? (i := 482) (by decide +kernel), List.mem_of_getElem? (i := 645) (by decide +kernel), List.mem_of_getElem? (i := 646) (by decide +kernel)⟩
theorem lw_p36 : lw_okq (⟨"GraveRowsModel", "isTogether", "(I)Z"⟩, 17) := ⟨⟨by decide +kernel, by decide +kernel⟩, List.mem_of_getElem? (i := 482) (by decide +kernel), List.mem_of_getElem? (i := 669) (by decide +kernel), List.mem_of_getElem? (i := 670) (by decide +kernel)⟩
theorem lw_p37 : lw_okq (⟨"GraveRowsModel", "layClumps", "()V"⟩, 17) := ⟨⟨by decide +kernel, by decide +kernel⟩, List.mem_of_getElem? (i := 482) (by decide +kernel), List.mem_of_getElem? (i := 677) (by decide +kernel), List.mem_of_getElem? (i := 678) (by decide +kernel)⟩
theorem lw_p38 : lw_okq (⟨"GraveRowsModel", "takeRow", "()V"⟩, 17) := ⟨⟨by decide +kernel, by decide +kernel⟩, List.mem_of_getElem? (i := 482) (by decide +kernel), List.mem_of_getElem? (i := 685) (by decide +kernel), List.mem_of_getElem? (i := 686) (by decide +kernel)⟩
theorem lw_p39 : lw_okq (⟨"GraveRowsModel", "swapRow", "(I)V"⟩, 17) := ⟨⟨by decide +kernel, by decide +kernel⟩, List.mem_of_getElem? (i := 482) (by decide +kernel), List.mem_of_getElem? (i := 701) (by decide +kernel), List.mem_of_getElem? (i := 702) (by decide +kernel)⟩
theorem lw_p40 : lw_okq (⟨"GraveRowsModel", "rowBreaks", "()I"⟩, 17) := ⟨⟨by decide +kernel, by decide +kernel⟩, List.mem_of_getElem? (i := 482) (by decide +kernel), List.mem_of_getElem? (i := 705) (by decide +kernel), List.mem_of_getElem? (i := 706) (by decide +kernel)⟩
theorem lw_p41 : lw_okq (⟨"GraveRowsModel", "makeBest", "()I"⟩, 17) := ⟨⟨by decide +kernel, by decide +kernel⟩, List.mem_of_getElem? (i := 482) (by decide +kernel), List.mem_of_getElem? (i := 713) (by decide +kernel), List.mem_of_getElem? (i := 714) (by decide +kernel)⟩
def lw_privs_3 : List (MethodName × Nat) := [(⟨"GraveRowsModel", "look", "()V"⟩, 17), (⟨"GraveRowsModel", "lookAtSteps", "()V"⟩, 17), (⟨"GraveRowsModel", "placeOf", "(I)I"⟩, 17), (⟨"GraveRowsModel", "keep", "([I)V"⟩, 17), (⟨"GraveRowsModel", "isTogether", "(I)Z"⟩, 17), (⟨"GraveRowsModel", "layClumps", "()V"⟩, 17), (⟨"GraveRowsModel", "takeRow", "()V"⟩, 17), (⟨"GraveRowsModel", "swapRow", "(I)V"⟩, 17), (⟨"GraveRowsModel", "rowBreaks", "()I"⟩, 17), (⟨"GraveRowsModel", "makeBest", "()I"⟩, 17)]
theorem lw_r3 : ∀ q ∈ lw_privs_3, lw_okq q := List.forall_mem_cons.mpr ⟨lw_p32, List.forall_mem_cons.mpr ⟨lw_p33, List.forall_mem_cons.mpr ⟨lw_p34, List.forall_mem_cons.mpr ⟨lw_p35, List.forall_mem_cons.mpr ⟨lw_p36, List.forall_mem_cons.mpr ⟨lw_p37, List.forall_mem_cons.mpr ⟨lw_p38, List.forall_mem_cons.mpr ⟨lw_p39, List.forall_mem_cons.mpr ⟨lw_p40, List.forall_mem_cons.mpr ⟨lw_p41, fun _ h => absurd h List.not_mem_nil⟩⟩⟩⟩⟩⟩⟩⟩⟩⟩
def lw_privs : List (MethodName × Nat) := lw_privs_1 ++ (lw_privs_2 ++ (lw_privs_3))
def lw_tbl : List Cond := k2_sels lw_privs ++ tables_1
theorem lw_privs_ok : ∀ q ∈ lw_privs, lw_okq q := by
  show ∀ q ∈ lw_privs_1 ++ (lw_privs_2 ++ (lw_privs_3)), lw_okq q
  exact List.forall_mem_append.mpr ⟨lw_r1, List.forall_mem_append.mpr ⟨lw_r2, lw_r3⟩⟩
end
section
def RX0 : String := "GraveRows$BestOrders"
def TX0 : u_T := fun k => match k with
  | 0 => ("GraveRows$BestOrders", "size", "I", false)
  | 1 => ("GraveRows$BestOrders", "full", "I", false)
  | 2 => ("GraveRows$BestOrders", "fewestBreaks", "I", false)
  | 3 => ("GraveRows$BestOrders", "clumpCount", "I", false)
  | 4 => ("GraveRows$BestOrders", "steps", "I", false)
  | 5 => ("GraveRows$BestOrders", "onward", "[I", true)
  | 6 => ("GraveRows$BestOrders", "waysOn", "[I", true)
  | 7 => ("GraveRows$BestOrders", "waysTo", "[I", true)
  | 8 => ("GraveRows$BestOrders", "rest", "[I", true)
  | 9 => ("GraveRows$BestOrders", "following", "[I", true)
  | 10 => ("GraveRows$BestOrders", "clumps", "[I", true)
  | 11 => ("GraveRows$BestOrders", "goal", "[I", true)
  | 12 => ("GraveRows$BestOrders", "runs", "LGraveRows$RunsBegun;", true)
  | _ => ("GraveRows$BestOrders", "swaps", "LGraveRows$SwapsMade;", true)
def tyX0 : Nat → FieldType := fun k => match k with
  | 0 => .int
  | 1 => .int
  | 2 => .int
  | 3 => .int
  | 4 => .int
  | 5 => .array .int
  | 6 => .array .int
  | 7 => .array .int
  | 8 => .array .int
  | 9 => .array .int
  | 10 => .array .int
  | 11 => .array .int
  | 12 => .object "GraveRows$RunsBegun"
  | _ => .object "GraveRows$SwapsMade"
abbrev wsX00 : List Cond := u_ws RX0 TX0 14
theorem nmX0 : ∀ a, a < 14 → ∀ b, b < 14 → a ≠ b → (TX0 a).2.1 ≠ (TX0 b).2.1 := by decide +kernel
theorem tyX0_ok : ∀ k, k < 14 → parseFieldDescriptor (TX0 k).2.2.1 = some (tyX0 k) := by decide +kernel
abbrev cX0_init : ByteArray := prog_2_method_1_code
def yX0_init : MethodName := ⟨RX0, "<init>", "()V"⟩
abbrev cX0_stateOf : ByteArray := prog_2_method_2_code
def yX0_stateOf : MethodName := ⟨RX0, "stateOf", "(II)I"⟩
abbrev cX0_stateAfter : ByteArray := prog_2_method_3_code
def yX0_stateAfter : MethodName := ⟨RX0, "stateAfter", "(II)I"⟩
abbrev cX0_isState : ByteArray := prog_2_method_4_code
def yX0_isState : MethodName := ⟨RX0, "isState", "(II)Z"⟩
abbrev cX0_total : ByteArray := prog_2_method_5_code
def yX0_total : MethodName := ⟨RX0, "total", "()I"⟩
abbrev cX0_search : ByteArray := prog_2_method_6_code
def yX0_search : MethodName := ⟨RX0, "search", "(LGraveRows$Dig;)V"⟩
abbrev cX0_openAllowed : ByteArray := prog_2_method_7_code
def yX0_openAllowed : MethodName := ⟨RX0, "openAllowed", "(LGraveRows$Dig;)V"⟩
abbrev cX0_costRest : ByteArray := prog_2_method_8_code
def yX0_costRest : MethodName := ⟨RX0, "costRest", "(LGraveRows$Cost;)V"⟩
abbrev cX0_cheapestOn : ByteArray := prog_2_method_9_code
def yX0_cheapestOn : MethodName := ⟨RX0, "cheapestOn", "(LGraveRows$Cost;II)I"⟩
abbrev cX0_keepCheapest : ByteArray := prog_2_method_10_code
def yX0_keepCheapest : MethodName := ⟨RX0, "keepCheapest", "(LGraveRows$Cost;)V"⟩
abbrev cX0_cheapestNext : ByteArray := prog_2_method_11_code
def yX0_cheapestNext : MethodName := ⟨RX0, "cheapestNext", "(LGraveRows$Cost;II)I"⟩
abbrev cX0_countWaysOn : ByteArray := prog_2_method_12_code
def yX0_countWaysOn : MethodName := ⟨RX0, "countWaysOn", "()V"⟩
abbrev cX0_sumOver : ByteArray := prog_2_method_13_code
def yX0_sumOver : MethodName := ⟨RX0, "sumOver", "([III)I"⟩
abbrev cX0_countWaysTo : ByteArray := prog_2_method_14_code
def yX0_countWaysTo : MethodName := ⟨RX0, "countWaysTo", "()V"⟩
abbrev cX0_passOn : ByteArray := prog_2_method_15_code
def yX0_passOn : MethodName := ⟨RX0, "passOn", "(II)V"⟩
abbrev cX0_graveAt : ByteArray := prog_2_method_16_code
def yX0_graveAt : MethodName := ⟨RX0, "graveAt", "(II)I"⟩
abbrev cX0_neighboursOf : ByteArray := prog_2_method_17_code
def yX0_neighboursOf : MethodName := ⟨RX0, "neighboursOf", "(II)I"⟩
abbrev cX0_ordersWithNext : ByteArray := prog_2_method_18_code
def yX0_ordersWithNext : MethodName := ⟨RX0, "ordersWithNext", "(II)I"⟩
abbrev cX0_leastPlaceOf : ByteArray := prog_2_method_19_code
def yX0_leastPlaceOf : MethodName := ⟨RX0, "leastPlaceOf", "(I)I"⟩
abbrev cX0_greatestPlaceOf : ByteArray := prog_2_method_20_code
def yX0_greatestPlaceOf : MethodName := ⟨RX0, "greatestPlaceOf", "(I)I"⟩
abbrev cX0_ordersWithAt : ByteArray := prog_2_method_21_code
def yX0_ordersWithAt : MethodName := ⟨RX0, "ordersWithAt", "(II)I"⟩
abbrev cX0_ordersWithFirst : ByteArray := prog_2_method_22_code
def yX0_ordersWithFirst : MethodName := ⟨RX0, "ordersWithFirst", "(II)I"⟩
abbrev cX0_ordersBy : ByteArray := prog_2_method_23_code
def yX0_ordersBy : MethodName := ⟨RX0, "ordersBy", "(II)I"⟩
abbrev cX0_ordersWithTogether : ByteArray := prog_2_method_24_code
def yX0_ordersWithTogether : MethodName := ⟨RX0, "ordersWithTogether", "(I)I"⟩
abbrev cX0_nextThatPart : ByteArray := prog_2_method_25_code
def yX0_nextThatPart : MethodName := ⟨RX0, "nextThatPart", "(II)I"⟩
abbrev cX0_gatherClumps : ByteArray := prog_2_method_26_code
def yX0_gatherClumps : MethodName := ⟨RX0, "gatherClumps", "()V"⟩
abbrev cX0_liesTogetherInAll : ByteArray := prog_2_method_27_code
def yX0_liesTogetherInAll : MethodName := ⟨RX0, "liesTogetherInAll", "(I)Z"⟩
abbrev cX0_fewestBreaksOf : ByteArray := prog_2_method_28_code
def yX0_fewestBreaksOf : MethodName := ⟨RX0, "fewestBreaksOf", "(ILGraveRows$Dig;)I"⟩
abbrev cX0_seekGoal : ByteArray := prog_2_method_29_code
def yX0_seekGoal : MethodName := ⟨RX0, "seekGoal", "(LGraveRows$Dig;)V"⟩
abbrev cX0_leastMember : ByteArray := prog_2_method_30_code
def yX0_leastMember : MethodName := ⟨RX0, "leastMember", "(I)I"⟩
def RX1 : String := "GraveRows$Cost"
def TX1 : u_T := fun k => match k with
  | _ => ("", "", "", false)
def tyX1 : Nat → FieldType := fun k => match k with
  | _ => .int
abbrev wsX10 : List Cond := u_ws RX1 TX1 0
theorem nmX1 : ∀ a, a < 0 → ∀ b, b < 0 → a ≠ b → (TX1 a).2.1 ≠ (TX1 b).2.1 := by decide +kernel
theorem tyX1_ok : ∀ k, k < 0 → parseFieldDescriptor (TX1 k).2.2.1 = some (tyX1 k) := by decide +kernel
abbrev cX1_init : ByteArray := prog_3_method_1_code
def yX1_init : MethodName := ⟨RX1, "<init>", "()V"⟩
def RX2 : String := "GraveRows$Dig"
def TX2 : u_T := fun k => match k with
  | 0 => ("GraveRows$Dig", "size", "I", false)
  | 1 => ("GraveRows$Dig", "held", "[I", true)
  | 2 => ("GraveRows$Dig", "later", "[I", true)
  | _ => ("GraveRows$Dig", "line", "[I", true)
def tyX2 : Nat → FieldType := fun k => match k with
  | 0 => .int
  | 1 => .array .int
  | 2 => .array .int
  | _ => .array .int
abbrev wsX20 : List Cond := u_ws RX2 TX2 4
theorem nmX2 : ∀ a, a < 4 → ∀ b, b < 4 → a ≠ b → (TX2 a).2.1 ≠ (TX2 b).2.1 := by decide +kernel
theorem tyX2_ok : ∀ k, k < 4 → parseFieldDescriptor (TX2 k).2.2.1 = some (tyX2 k) := by decide +kernel
abbrev cX2_init : ByteArray := prog_4_method_1_code
def yX2_init : MethodName := ⟨RX2, "<init>", "()V"⟩
abbrev cX2_resize : ByteArray := prog_4_method_2_code
def yX2_resize : MethodName := ⟨RX2, "resize", "(I)V"⟩
abbrev cX2_become : ByteArray := prog_4_method_3_code
def yX2_become : MethodName := ⟨RX2, "become", "(LGraveRows$Dig;)V"⟩
abbrev cX2_earlierThan : ByteArray := prog_4_method_4_code
def yX2_earlierThan : MethodName := ⟨RX2, "earlierThan", "(I)I"⟩
abbrev cX2_gravesWith : ByteArray := prog_4_method_5_code
def yX2_gravesWith : MethodName := ⟨RX2, "gravesWith", "(I)I"⟩
abbrev cX2_sortsFound : ByteArray := prog_4_method_6_code
def yX2_sortsFound : MethodName := ⟨RX2, "sortsFound", "()I"⟩
abbrev cX2_placeInLine : ByteArray := prog_4_method_7_code
def yX2_placeInLine : MethodName := ⟨RX2, "placeInLine", "(I)I"⟩
abbrev cX2_lineBreaks : ByteArray := prog_4_method_8_code
def yX2_lineBreaks : MethodName := ⟨RX2, "lineBreaks", "(I)I"⟩
abbrev cX2_lineIsAllowed : ByteArray := prog_4_method_9_code
def yX2_lineIsAllowed : MethodName := ⟨RX2, "lineIsAllowed", "()Z"⟩
abbrev cX2_exchange : ByteArray := prog_4_method_10_code
def yX2_exchange : MethodName := ⟨RX2, "exchange", "(I)V"⟩
abbrev cX2_bestExchange : ByteArray := prog_4_method_11_code
def yX2_bestExchange : MethodName := ⟨RX2, "bestExchange", "()I"⟩
def RX3 : String := "GraveRows$RunsBegun"
def TX3 : u_T := fun k => match k with
  | _ => ("GraveRows$RunsBegun", "held", "[I", true)
def tyX3 : Nat → FieldType := fun k => match k with
  | _ => .array .int
abbrev wsX30 : List Cond := u_ws RX3 TX3 1
theorem nmX3 : ∀ a, a < 1 → ∀ b, b < 1 → a ≠ b → (TX3 a).2.1 ≠ (TX3 b).2.1 := by decide +kernel
theorem tyX3_ok : ∀ k, k < 1 → parseFieldDescriptor (TX3 k).2.2.1 = some (tyX3 k) := by decide +kernel
abbrev cX3_init : ByteArray := prog_5_method_1_code
def yX3_init : MethodName := ⟨RX3, "<init>", "()V"⟩
abbrev cX3_lookAt : ByteArray := prog_5_method_2_code
def yX3_lookAt : MethodName := ⟨RX3, "lookAt", "(LGraveRows$Dig;I)V"⟩
abbrev cX3_ofNext : ByteArray := prog_5_method_3_code
def yX3_ofNext : MethodName := ⟨RX3, "ofNext", "(III)I"⟩
def RX4 : String := "GraveRows$SwapsMade"
def TX4 : u_T := fun k => match k with
  | _ => ("GraveRows$SwapsMade", "inFront", "[I", true)
def tyX4 : Nat → FieldType := fun k => match k with
  | _ => .array .int
abbrev wsX40 : List Cond := u_ws RX4 TX4 1
theorem nmX4 : ∀ a, a < 1 → ∀ b, b < 1 → a ≠ b → (TX4 a).2.1 ≠ (TX4 b).2.1 := by decide +kernel
theorem tyX4_ok : ∀ k, k < 1 → parseFieldDescriptor (TX4 k).2.2.1 = some (tyX4 k) := by decide +kernel
abbrev cX4_init : ByteArray := prog_6_method_1_code
def yX4_init : MethodName := ⟨RX4, "<init>", "()V"⟩
abbrev cX4_lookAt : ByteArray := prog_6_method_2_code
def yX4_lookAt : MethodName := ⟨RX4, "lookAt", "(LGraveRows$Dig;)V"⟩
abbrev cX4_ofNext : ByteArray := prog_6_method_3_code
def yX4_ofNext : MethodName := ⟨RX4, "ofNext", "(III)I"⟩
def RX5 : String := "GraveRows"
def TX5 : u_T := fun k => match k with
  | 0 => ("GraveRows", "dig", "LGraveRows$Dig;", true)
  | 1 => ("GraveRows", "kept", "[LGraveRows$Dig;", true)
  | 2 => ("GraveRows", "keptImages", "I", false)
  | 3 => ("GraveRows", "bestOrders", "LGraveRows$BestOrders;", true)
  | 4 => ("GraveRows", "bestKnown", "Z", false)
  | _ => ("GraveRows", "wayKnown", "Z", false)
def tyX5 : Nat → FieldType := fun k => match k with
  | 0 => .object "GraveRows$Dig"
  | 1 => .array (.object "GraveRows$Dig")
  | 2 => .int
  | 3 => .object "GraveRows$BestOrders"
  | 4 => .boolean
  | _ => .boolean
abbrev wsX50 : List Cond := u_ws RX5 TX5 6
theorem nmX5 : ∀ a, a < 6 → ∀ b, b < 6 → a ≠ b → (TX5 a).2.1 ≠ (TX5 b).2.1 := by decide +kernel
theorem tyX5_ok : ∀ k, k < 6 → parseFieldDescriptor (TX5 k).2.2.1 = some (tyX5 k) := by decide +kernel
abbrev cX5_init : ByteArray := prog_1_method_1_code
def yX5_init : MethodName := ⟨RX5, "<init>", "()V"⟩
abbrev cX5_many : ByteArray := prog_1_method_2_code
def yX5_many : MethodName := ⟨RX5, "many", "(I)I"⟩
abbrev cX5_find : ByteArray := prog_1_method_3_code
def yX5_find : MethodName := ⟨RX5, "find", "(III)I"⟩
abbrev cX5_ahead : ByteArray := prog_1_method_4_code
def yX5_ahead : MethodName := ⟨RX5, "ahead", "(III)I"⟩
abbrev cX5_grave : ByteArray := prog_1_method_5_code
def yX5_grave : MethodName := ⟨RX5, "grave", "(II)I"⟩
abbrev cX5_sort : ByteArray := prog_1_method_6_code
def yX5_sort : MethodName := ⟨RX5, "sort", "(II)I"⟩
abbrev cX5_alike : ByteArray := prog_1_method_7_code
def yX5_alike : MethodName := ⟨RX5, "alike", "(II)I"⟩
abbrev cX5_least : ByteArray := prog_1_method_8_code
def yX5_least : MethodName := ⟨RX5, "least", "()I"⟩
abbrev cX5_best : ByteArray := prog_1_method_9_code
def yX5_best : MethodName := ⟨RX5, "best", "()I"⟩
abbrev cX5_order : ByteArray := prog_1_method_10_code
def yX5_order : MethodName := ⟨RX5, "order", "(II)I"⟩
abbrev cX5_beside : ByteArray := prog_1_method_11_code
def yX5_beside : MethodName := ⟨RX5, "beside", "(II)I"⟩
abbrev cX5_place : ByteArray := prog_1_method_12_code
def yX5_place : MethodName := ⟨RX5, "place", "(II)I"⟩
abbrev cX5_before : ByteArray := prog_1_method_13_code
def yX5_before : MethodName := ⟨RX5, "before", "(II)I"⟩
abbrev cX5_together : ByteArray := prog_1_method_14_code
def yX5_together : MethodName := ⟨RX5, "together", "(I)I"⟩
abbrev cX5_clump : ByteArray := prog_1_method_15_code
def yX5_clump : MethodName := ⟨RX5, "clump", "(I)I"⟩
abbrev cX5_row : ByteArray := prog_1_method_16_code
def yX5_row : MethodName := ⟨RX5, "row", "(I)I"⟩
abbrev cX5_breaks : ByteArray := prog_1_method_17_code
def yX5_breaks : MethodName := ⟨RX5, "breaks", "(I)I"⟩
abbrev cX5_swap : ByteArray := prog_1_method_18_code
def yX5_swap : MethodName := ⟨RX5, "swap", "(I)I"⟩
abbrev cX5_better : ByteArray := prog_1_method_19_code
def yX5_better : MethodName := ⟨RX5, "better", "()I"⟩
abbrev cX5_climb : ByteArray := prog_1_method_20_code
def yX5_climb : MethodName := ⟨RX5, "climb", "()I"⟩
abbrev cX5_nearest : ByteArray := prog_1_method_21_code
def yX5_nearest : MethodName := ⟨RX5, "nearest", "(I)I"⟩
abbrev cX5_settle : ByteArray := prog_1_method_22_code
def yX5_settle : MethodName := ⟨RX5, "settle", "()I"⟩
abbrev cX5_count : ByteArray := prog_1_method_23_code
def yX5_count : MethodName := ⟨RX5, "count", "(I)I"⟩
abbrev cX5_image : ByteArray := prog_1_method_24_code
def yX5_image : MethodName := ⟨RX5, "image", "(I)I"⟩
abbrev cX5_restore : ByteArray := prog_1_method_25_code
def yX5_restore : MethodName := ⟨RX5, "restore", "(I)I"⟩
abbrev cX5_isGrave : ByteArray := prog_1_method_26_code
def yX5_isGrave : MethodName := ⟨RX5, "isGrave", "(I)Z"⟩
abbrev cX5_isPlace : ByteArray := prog_1_method_27_code
def yX5_isPlace : MethodName := ⟨RX5, "isPlace", "(I)Z"⟩
abbrev cX5_isSort : ByteArray := prog_1_method_28_code
def yX5_isSort : MethodName := ⟨RX5, "isSort", "(I)Z"⟩
abbrev cX5_isOnOrOff : ByteArray := prog_1_method_29_code
def yX5_isOnOrOff : MethodName := ⟨RX5, "isOnOrOff", "(I)Z"⟩
abbrev cX5_isImage : ByteArray := prog_1_method_30_code
def yX5_isImage : MethodName := ⟨RX5, "isImage", "(I)Z"⟩
abbrev cX5_isMember : ByteArray := prog_1_method_31_code
def yX5_isMember : MethodName := ⟨RX5, "isMember", "(II)Z"⟩
abbrev cX5_withMember : ByteArray := prog_1_method_32_code
def yX5_withMember : MethodName := ⟨RX5, "withMember", "(III)I"⟩
abbrev cX5_membersOfAll : ByteArray := prog_1_method_33_code
def yX5_membersOfAll : MethodName := ⟨RX5, "membersOfAll", "([I)I"⟩
abbrev cX5_forgetBest : ByteArray := prog_1_method_34_code
def yX5_forgetBest : MethodName := ⟨RX5, "forgetBest", "()V"⟩
abbrev cX5_knownBest : ByteArray := prog_1_method_35_code
def yX5_knownBest : MethodName := ⟨RX5, "knownBest", "()LGraveRows$BestOrders;"⟩
abbrev cX5_knowWay : ByteArray := prog_1_method_36_code
def yX5_knowWay : MethodName := ⟨RX5, "knowWay", "(LGraveRows$BestOrders;)V"⟩
abbrev cX5_lineIsBest : ByteArray := prog_1_method_37_code
def yX5_lineIsBest : MethodName := ⟨RX5, "lineIsBest", "()Z"⟩
abbrev cX5_makeBestSwap : ByteArray := prog_1_method_38_code
def yX5_makeBestSwap : MethodName := ⟨RX5, "makeBestSwap", "()I"⟩
def RX6 : String := "GraveRowsModel"
def TX6 : u_T := fun k => match k with
  | 0 => ("GraveRowsModel", "state", "[I", true)
  | 1 => ("GraveRowsModel", "images", "[I", true)
  | 2 => ("GraveRowsModel", "isKept", "[Z", true)
  | 3 => ("GraveRowsModel", "order", "[I", true)
  | 4 => ("GraveRowsModel", "isFound", "Z", false)
  | 5 => ("GraveRowsModel", "fewest", "I", false)
  | 6 => ("GraveRowsModel", "bestOnes", "I", false)
  | 7 => ("GraveRowsModel", "wanted", "I", false)
  | 8 => ("GraveRowsModel", "wantedOrder", "[I", true)
  | 9 => ("GraveRowsModel", "atPlace", "[I", true)
  | 10 => ("GraveRowsModel", "pairs", "[I", true)
  | 11 => ("GraveRowsModel", "besideAll", "[I", true)
  | 12 => ("GraveRowsModel", "besideAny", "[I", true)
  | 13 => ("GraveRowsModel", "leastBreaks", "[I", true)
  | 14 => ("GraveRowsModel", "isClump", "[Z", true)
  | 15 => ("GraveRowsModel", "nearSteps", "I", false)
  | _ => ("GraveRowsModel", "nearOrder", "[I", true)
def tyX6 : Nat → FieldType := fun k => match k with
  | 0 => .array .int
  | 1 => .array .int
  | 2 => .array .boolean
  | 3 => .array .int
  | 4 => .boolean
  | 5 => .int
  | 6 => .int
  | 7 => .int
  | 8 => .array .int
  | 9 => .array .int
  | 10 => .array .int
  | 11 => .array .int
  | 12 => .array .int
  | 13 => .array .int
  | 14 => .array .boolean
  | 15 => .int
  | _ => .array .int
abbrev wsX60 : List Cond := u_ws RX6 TX6 17
theorem nmX6 : ∀ a, a < 17 → ∀ b, b < 17 → a ≠ b → (TX6 a).2.1 ≠ (TX6 b).2.1 := by decide +kernel
theorem tyX6_ok : ∀ k, k < 17 → parseFieldDescriptor (TX6 k).2.2.1 = some (tyX6 k) := by decide +kernel
abbrev cX6_init : ByteArray := prog_8_method_1_code
def yX6_init : MethodName := ⟨RX6, "<init>", "()V"⟩
abbrev cX6_resetRow : ByteArray := prog_8_method_2_code
def yX6_resetRow : MethodName := ⟨RX6, "resetRow", "()V"⟩
abbrev cX6_in : ByteArray := prog_8_method_3_code
def yX6_in : MethodName := ⟨RX6, "in", "(III)Z"⟩
abbrev cX6_isGrave : ByteArray := prog_8_method_4_code
def yX6_isGrave : MethodName := ⟨RX6, "isGrave", "(I)Z"⟩
abbrev cX6_isSort : ByteArray := prog_8_method_5_code
def yX6_isSort : MethodName := ⟨RX6, "isSort", "(I)Z"⟩
abbrev cX6_has : ByteArray := prog_8_method_6_code
def yX6_has : MethodName := ⟨RX6, "has", "(II)Z"⟩
abbrev cX6_bits : ByteArray := prog_8_method_7_code
def yX6_bits : MethodName := ⟨RX6, "bits", "(I)I"⟩
abbrev cX6_many : ByteArray := prog_8_method_8_code
def yX6_many : MethodName := ⟨RX6, "many", "(I)I"⟩
abbrev cX6_find : ByteArray := prog_8_method_9_code
def yX6_find : MethodName := ⟨RX6, "find", "(III)I"⟩
abbrev cX6_knownPairs : ByteArray := prog_8_method_10_code
def yX6_knownPairs : MethodName := ⟨RX6, "knownPairs", "()I"⟩
abbrev cX6_ahead : ByteArray := prog_8_method_11_code
def yX6_ahead : MethodName := ⟨RX6, "ahead", "(III)I"⟩
abbrev cX6_placeInRow : ByteArray := prog_8_method_12_code
def yX6_placeInRow : MethodName := ⟨RX6, "placeInRow", "(I)I"⟩
abbrev cX6_grave : ByteArray := prog_8_method_13_code
def yX6_grave : MethodName := ⟨RX6, "grave", "(II)I"⟩
abbrev cX6_alike : ByteArray := prog_8_method_14_code
def yX6_alike : MethodName := ⟨RX6, "alike", "(II)I"⟩
abbrev cX6_breaksOf : ByteArray := prog_8_method_15_code
def yX6_breaksOf : MethodName := ⟨RX6, "breaksOf", "(I)I"⟩
abbrev cX6_breaksNow : ByteArray := prog_8_method_16_code
def yX6_breaksNow : MethodName := ⟨RX6, "breaksNow", "()I"⟩
abbrev cX6_isAllowed : ByteArray := prog_8_method_17_code
def yX6_isAllowed : MethodName := ⟨RX6, "isAllowed", "()Z"⟩
abbrev cX6_takeRow : ByteArray := prog_8_method_18_code
def yX6_takeRow : MethodName := ⟨RX6, "takeRow", "()V"⟩
abbrev cX6_begin : ByteArray := prog_8_method_19_code
def yX6_begin : MethodName := ⟨RX6, "begin", "()V"⟩
abbrev cX6_change : ByteArray := prog_8_method_20_code
def yX6_change : MethodName := ⟨RX6, "change", "(II)V"⟩
abbrev cX6_goOn : ByteArray := prog_8_method_21_code
def yX6_goOn : MethodName := ⟨RX6, "goOn", "()Z"⟩
abbrev cX6_layFewest : ByteArray := prog_8_method_22_code
def yX6_layFewest : MethodName := ⟨RX6, "layFewest", "()V"⟩
abbrev cX6_isBest : ByteArray := prog_8_method_23_code
def yX6_isBest : MethodName := ⟨RX6, "isBest", "()Z"⟩
abbrev cX6_least : ByteArray := prog_8_method_24_code
def yX6_least : MethodName := ⟨RX6, "least", "()I"⟩
abbrev cX6_placeOf : ByteArray := prog_8_method_25_code
def yX6_placeOf : MethodName := ⟨RX6, "placeOf", "(I)I"⟩
abbrev cX6_isTogether : ByteArray := prog_8_method_26_code
def yX6_isTogether : MethodName := ⟨RX6, "isTogether", "(I)Z"⟩
abbrev cX6_look : ByteArray := prog_8_method_27_code
def yX6_look : MethodName := ⟨RX6, "look", "()V"⟩
abbrev cX6_keep : ByteArray := prog_8_method_28_code
def yX6_keep : MethodName := ⟨RX6, "keep", "([I)V"⟩
abbrev cX6_lookAtSteps : ByteArray := prog_8_method_29_code
def yX6_lookAtSteps : MethodName := ⟨RX6, "lookAtSteps", "()V"⟩
abbrev cX6_lookAtAll : ByteArray := prog_8_method_30_code
def yX6_lookAtAll : MethodName := ⟨RX6, "lookAtAll", "(I)V"⟩
abbrev cX6_best : ByteArray := prog_8_method_31_code
def yX6_best : MethodName := ⟨RX6, "best", "()I"⟩
abbrev cX6_order : ByteArray := prog_8_method_32_code
def yX6_order : MethodName := ⟨RX6, "order", "(II)I"⟩
abbrev cX6_beside : ByteArray := prog_8_method_33_code
def yX6_beside : MethodName := ⟨RX6, "beside", "(II)I"⟩
abbrev cX6_place : ByteArray := prog_8_method_34_code
def yX6_place : MethodName := ⟨RX6, "place", "(II)I"⟩
abbrev cX6_before : ByteArray := prog_8_method_35_code
def yX6_before : MethodName := ⟨RX6, "before", "(II)I"⟩
abbrev cX6_together : ByteArray := prog_8_method_36_code
def yX6_together : MethodName := ⟨RX6, "together", "(I)I"⟩
abbrev cX6_layClumps : ByteArray := prog_8_method_37_code
def yX6_layClumps : MethodName := ⟨RX6, "layClumps", "()V"⟩
abbrev cX6_clump : ByteArray := prog_8_method_38_code
def yX6_clump : MethodName := ⟨RX6, "clump", "(I)I"⟩
abbrev cX6_sort : ByteArray := prog_8_method_39_code
def yX6_sort : MethodName := ⟨RX6, "sort", "(II)I"⟩
abbrev cX6_row : ByteArray := prog_8_method_40_code
def yX6_row : MethodName := ⟨RX6, "row", "(I)I"⟩
abbrev cX6_breaks : ByteArray := prog_8_method_41_code
def yX6_breaks : MethodName := ⟨RX6, "breaks", "(I)I"⟩
abbrev cX6_swapRow : ByteArray := prog_8_method_42_code
def yX6_swapRow : MethodName := ⟨RX6, "swapRow", "(I)V"⟩
abbrev cX6_rowBreaks : ByteArray := prog_8_method_43_code
def yX6_rowBreaks : MethodName := ⟨RX6, "rowBreaks", "()I"⟩
abbrev cX6_swap : ByteArray := prog_8_method_44_code
def yX6_swap : MethodName := ⟨RX6, "swap", "(I)I"⟩
abbrev cX6_makeBest : ByteArray := prog_8_method_45_code
def yX6_makeBest : MethodName := ⟨RX6, "makeBest", "()I"⟩
abbrev cX6_better : ByteArray := prog_8_method_46_code
def yX6_better : MethodName := ⟨RX6, "better", "()I"⟩
abbrev cX6_climb : ByteArray := prog_8_method_47_code
def yX6_climb : MethodName := ⟨RX6, "climb", "()I"⟩
abbrev cX6_nearest : ByteArray := prog_8_method_48_code
def yX6_nearest : MethodName := ⟨RX6, "nearest", "(I)I"⟩
abbrev cX6_settle : ByteArray := prog_8_method_49_code
def yX6_settle : MethodName := ⟨RX6, "settle", "()I"⟩
abbrev cX6_count : ByteArray := prog_8_method_50_code
def yX6_count : MethodName := ⟨RX6, "count", "(I)I"⟩
abbrev cX6_image : ByteArray := prog_8_method_51_code
def yX6_image : MethodName := ⟨RX6, "image", "(I)I"⟩
abbrev cX6_restore : ByteArray := prog_8_method_52_code
def yX6_restore : MethodName := ⟨RX6, "restore", "(I)I"⟩
def RJ6 : String := "java/lang/Integer"
def TJ6 : u_T := fun k => match k with
  | _ => ("", "", "", false)
def tyJ6 : Nat → FieldType := fun k => match k with
  | _ => .int
abbrev wsJ60 : List Cond := u_ws RJ6 TJ6 0
theorem nmJ6 : ∀ a, a < 0 → ∀ b, b < 0 → a ≠ b → (TJ6 a).2.1 ≠ (TJ6 b).2.1 := by decide +kernel
theorem tyJ6_ok : ∀ k, k < 0 → parseFieldDescriptor (TJ6 k).2.2.1 = some (tyJ6 k) := by decide +kernel
abbrev cJ6_bitCount_0f7a4 : ByteArray := prog_9_method_49_code
def yJ6_bitCount_0f7a4 : MethodName := ⟨RJ6, "bitCount", "(I)I"⟩
def RJ9 : String := "java/lang/Math"
def TJ9 : u_T := fun k => match k with
  | _ => ("", "", "", false)
def tyJ9 : Nat → FieldType := fun k => match k with
  | _ => .int
abbrev wsJ90 : List Cond := u_ws RJ9 TJ9 0
theorem nmJ9 : ∀ a, a < 0 → ∀ b, b < 0 → a ≠ b → (TJ9 a).2.1 ≠ (TJ9 b).2.1 := by decide +kernel
theorem tyJ9_ok : ∀ k, k < 0 → parseFieldDescriptor (TJ9 k).2.2.1 = some (tyJ9 k) := by decide +kernel
abbrev cJ9_min_7cf53 : ByteArray := prog_10_method_69_code
def yJ9_min_7cf53 : MethodName := ⟨RJ9, "min", "(II)I"⟩
def RJ10 : String := "java/lang/System"
def TJ10 : u_T := fun k => match k with
  | _ => ("", "", "", false)
def tyJ10 : Nat → FieldType := fun k => match k with
  | _ => .int
abbrev wsJ100 : List Cond := u_ws RJ10 TJ10 0
theorem nmJ10 : ∀ a, a < 0 → ∀ b, b < 0 → a ≠ b → (TJ10 a).2.1 ≠ (TJ10 b).2.1 := by decide +kernel
theorem tyJ10_ok : ∀ k, k < 0 → parseFieldDescriptor (TJ10 k).2.2.1 = some (tyJ10 k) := by decide +kernel
def RL : String := "GraveRowsLaw"
abbrev cL_law : ByteArray := code
def yL_law : MethodName := ⟨RL, "law", "([I)Z"⟩
abbrev vwCl : List vw_C := [(RX0, TX0, 14), (RX2, TX2, 4), (RX3, TX3, 1), (RX4, TX4, 1), (RX5, TX5, 6), (RX6, TX6, 17)]
end
section
/-! THE LAYER. A method is walked over an abstract memory: a table of cells (the layout, fixed), each with its row of ints; references are the cells' numbers. Wx says: the machine at this pc, with these locals, this stack, this memory, comes to a return of which Q holds. -/
def x_good : List Cond := lw_tbl.filter goodWord
theorem x_in {w : Cond} (h : w ∈ lw_tbl) (hg : goodWord w = true) : w ∈ x_good := List.mem_filter.mpr ⟨h, hg⟩
theorem x_goodIn {y : MethodName} {b : ByteArray} {n : Nat} {r : Option FieldType} (h : Cond.code y b n r ∈ x_good) : GoodIn x_good (Cond.code y b n r :: x_good) := fun w hw => by
  rcases List.mem_cons.mp hw with rfl | hw
  · exact ⟨h, good_of_word (List.mem_filter.mp h).2⟩
  · exact ⟨hw, good_of_word (List.mem_filter.mp hw).2⟩
abbrev xMem : Type := Nat → Nat → Int32
abbrev xLK : Type := (Nat × Nat) ⊕ (Nat × List (Option Nat)) ⊕ (Nat × Nat × (Nat → Option Nat))
abbrev xLay : Type := Nat × (Nat → xLK)
abbrev xG : Type := va_G × (Nat → ClassId) × (Nat → Nat)
abbrev xM : Type := String × ByteArray × Nat × Option FieldType
def xv (ad : Nat → Nat) (v : Value) : Value := match v with
  | .ref k => .ref (ad k)
  | v => v
theorem xv_cat (ad : Nat → Nat) (v : Value) : (xv ad v).category = v.category := by cases v <;> rfl
def xfs (ad : Nat → Nat) (row : Nat → Int32) : Nat → List (Option Nat) → List Value
  | _, [] => []
  | j, none :: r => .int (row j) :: xfs ad row (j + 1) r
  | j, some k :: r => .ref (ad k) :: xfs ad row (j + 1) r
def xfv (ad : Nat → Nat) (row : Nat → Int32) (j : Nat) (o : Option Nat) : Value := match o with
  | none => .int (row j)
  | some k => .ref (ad k)
theorem xfs_at (ad : Nat → Nat) (row : Nat → Int32) : ∀ (fs : List (Option Nat)) (j i : Nat), (xfs ad row j fs)[i]? = (fs[i]?).map (xfv ad row (j + i))
  | [], j, i => by simp [xfs]
  | none :: r, j, 0 => by simp [xfs, xfv]
  | some k :: r, j, 0 => by simp [xfs, xfv]
  | none :: r, j, i + 1 => by simp only [xfs, List.getElem?_cons_succ]; rw [xfs_at ad row r (j + 1) i]; congr 2; omega
  | some k :: r, j, i + 1 => by simp only [xfs, List.getElem?_cons_succ]; rw [xfs_at ad row r (j + 1) i]; congr 2; omega
theorem xfs_len (ad : Nat → Nat) (row : Nat → Int32) : ∀ (fs : List (Option Nat)) (j : Nat), (xfs ad row j fs).length = fs.length
  | [], j => rfl
  | none :: r, j => by simp [xfs, xfs_len ad row r]
  | some k :: r, j => by simp [xfs, xfs_len ad row r]
theorem xfs_set (ad : Nat → Nat) (row : Nat → Int32) {fs : List (Option Nat)} {i : Nat} (h : fs[i]? = some none) (x : Int32) : (xfs ad row 0 fs).set i (.int x) = xfs ad (upd row i x) 0 fs := by
  apply List.ext_getElem?
  intro q
  rw [List.getElem?_set, xfs_at, xfs_at, xfs_len]
  have hi : i < fs.length := (List.getElem?_eq_some_iff.mp h).1
  by_cases e : i = q
  · subst e
    rw [if_pos rfl, if_pos hi, h]
    simp [xfv, upd]
  · rw [if_neg e]
    cases hq : fs[q]? with
    | none => rfl
    | some o =>
      cases o with
      | none => simp [xfv, upd, Ne.symm e]
      | some k => simp [xfv]
def xE (G : xG) (row : Nat → Int32) (k : xLK) : va_E := match k with
  | .inl (t, n) => .inl (G.2.1 t, n, .inl row)
  | .inr (.inl (ci, fs)) => .inr (ci, xfs G.2.2 row 0 fs)
  | .inr (.inr (t, n, g)) => .inl (G.2.1 t, n, .inr (.inr (.inr (.inr (fun j => (g j).map G.2.2)))))
def xw (Λ : xLay) (G : xG) (I : xMem) : va_W := (List.range Λ.1).map (fun k => (G.2.2 k, xE G (I k) (Λ.2 k)))
theorem xw_at {Λ : xLay} {G : xG} {I : xMem} {k : Nat} (h : k < Λ.1) : (xw Λ G I)[k]? = some (G.2.2 k, xE G (I k) (Λ.2 k)) := by
  simp [xw, h]
theorem xw_of {Λ : xLay} {G : xG} {I : xMem} {k : Nat} {q : Nat × va_E} (h : (xw Λ G I)[k]? = some q) : k < Λ.1 ∧ q = (G.2.2 k, xE G (I k) (Λ.2 k)) := by
  have hk : k < Λ.1 := by
    have := (List.getElem?_eq_some_iff.mp h).1
    simpa [xw] using this
  exact ⟨hk, Option.some.inj (h.symm.trans (xw_at hk))⟩
theorem xw_set {Λ : xLay} {G : xG} {I : xMem} {k : Nat} (row : Nat → Int32) {e : va_E} (he : xE G row (Λ.2 k) = e) : (xw Λ G I).set k (G.2.2 k, e) = xw Λ G (va_up I k row) := by
  apply List.ext_getElem?
  intro q
  rw [List.getElem?_set]
  have hl : (xw Λ G I).length = Λ.1 := by simp [xw]
  by_cases e1 : k = q
  · subst e1
    rw [if_pos rfl, hl]
    by_cases hk : k < Λ.1
    · rw [if_pos hk, xw_at hk]; simp [va_up, he]
    · rw [if_neg hk]; symm; simp [xw]; omega
  · rw [if_neg e1]
    by_cases hk : q < Λ.1
    · rw [xw_at hk, xw_at hk]; simp [va_up, Ne.symm e1]
    · simp [xw, hk]
/-- where the cells lie doesn't hang on what they hold -/
theorem xw_D {Λ : xLay} {G : xG} {I J : xMem} {A : Nat → Prop} (h : va_D A (xw Λ G I)) : va_D A (xw Λ G J) := by
  refine ⟨fun i j p q hp hq e => ?_, fun k q hk => ?_⟩
  · obtain ⟨h1, rfl⟩ := xw_of hp
    obtain ⟨h2, rfl⟩ := xw_of hq
    exact h.1 i j _ _ (xw_at (I := I) h1) (xw_at (I := I) h2) e
  · obtain ⟨h1, rfl⟩ := xw_of hk
    exact h.2 k (G.2.2 k, xE G (I k) (Λ.2 k)) (xw_at h1)
def xup (I : xMem) (k j : Nat) (x : Int32) : xMem := va_up I k (upd (I k) j x)
abbrev xtys (G : xG) : List (ClassId × FieldType) := [(G.2.1 0, .int), (G.2.1 1, .boolean), (G.2.1 2, .object "GraveRows$Dig")]
def y_CostNext : MethodName := ⟨"GraveRows$Cost", "ofNext", "(III)I"⟩
def xNw (s : State) : Prop := va_Nw (.methodLinkNest RX2 31 yX5_isMember "GraveRows") s ∧ va_Nw (.methodLinkNest RX0 47 yX5_isMember "GraveRows") s ∧ va_Nw (.declares y_CostNext) s
theorem xNw.warm {s U : State} (hW : s.WarmedH U.vm) (h : xNw s) : xNw U := ⟨va_Nw.warmM hW h.1, va_Nw.warmM hW h.2.1, va_Nw.warmD hW h.2.2⟩
theorem xNw.same {u U : State} (e : u.vm = U.vm) (h : xNw u) : xNw U := ⟨va_Nw.same rfl e h.1, va_Nw.same rfl e h.2.1, va_Nw.same rfl e h.2.2⟩
def xrm (d : Nat) : Room := { frames := d, cells := 0, slots := 0, locals := 34 * d }
def xQ (Λ : xLay) (G : xG) (A : Nat → Prop) (Q : Option Value → xMem → Prop) : Array Value → State → Outcome → State → Prop := fun _ st oc t =>
  (∃ (v : Option Value) (J : xMem), oc = .returned (v.map (xv G.2.2)) ∧ Q v J ∧ va_P G.1 vwCl (xw Λ G J) t.heap) ∧ va_F A st t
def xC (μ : xM) (G : xG) (A : Nat → Prop) (p : Program) (s : State) (m : MethodId) (args : Array Value) (meth : Method) (c : Code) : Prop :=
  p.tables.exec = Jvm.exec ∧ c.code = μ.2.1 ∧ meth.sig.returnType = μ.2.2.2 ∧ c.maxLocals = μ.2.2.1 ∧ s.vm.findClass μ.1 = some m.cls ∧ (∀ w ∈ x_good, w.before args s = true) ∧ meth.locks = false ∧ va_K G.1 vwCl (xtys G) s ∧ xNw s ∧ ∀ q : Nat, s.heap.size ≤ q → A q
/-- the locals that are held: ints and cells -/
def xal (ad : Nat → Nat) : Nat → List Value → List (Nat × Value)
  | _, [] => []
  | i, .int x :: r => (i, .int x) :: xal ad (i + 1) r
  | i, .ref k :: r => (i, .ref (ad k)) :: xal ad (i + 1) r
  | i, _ :: r => xal ad (i + 1) r
def Wx (Λ : xLay) (μ : xM) (d : Nat) (Q : Option Value → xMem → Prop) (pc : Nat) (ls st : List Value) (I : xMem) : Prop :=
  ∀ (l : Launch) (G : xG) (A : Nat → Prop) (p : Program) (e : Env) (s : State) (m : MethodId) (args : Array Value) (below : List Frame) (meth : Method) (c : Code) (H : Heap) (locs : List Loc) (la : Array Slot),
    xC μ G A p s m args meth c → va_P G.1 vwCl (xw Λ G I) H → va_D A (xw Λ G I) → va_S A s.heap H locs → lv_has la μ.2.2.1 (xal G.2.2 0 ls) →
    W p l e (xrm d) s m args below meth c H locs 0 0 (MQ below (xQ Λ G A Q) args s 0 0 A) (F0 m pc la (st.map (xv G.2.2)))
theorem xal_int (ad : Nat → Nat) {x : Int32} : ∀ {ls : List Value} {j i : Nat}, ls[i]? = some (.int x) → (j + i, Value.int x) ∈ xal ad j ls := by
  intro ls
  induction ls with
  | nil => intro j i h; simp at h
  | cons v r ih =>
    intro j i h
    cases i with
    | zero => simp at h; subst h; exact List.mem_cons_self
    | succ i =>
      have h2 := ih (j := j + 1) (i := i) (by simpa using h)
      rw [show j + 1 + i = j + (i + 1) by omega] at h2
      cases v <;> simp [xal, h2]
theorem xal_ref (ad : Nat → Nat) {k : Nat} : ∀ {ls : List Value} {j i : Nat}, ls[i]? = some (.ref k) → (j + i, Value.ref (ad k)) ∈ xal ad j ls := by
  intro ls
  induction ls with
  | nil => intro j i h; simp at h
  | cons v r ih =>
    intro j i h
    cases i with
    | zero => simp at h; subst h; exact List.mem_cons_self
    | succ i =>
      have h2 := ih (j := j + 1) (i := i) (by simpa using h)
      rw [show j + 1 + i = j + (i + 1) by omega] at h2
      cases v <;> simp [xal, h2]
theorem xal_lo (ad : Nat → Nat) : ∀ (ls : List Value) (j : Nat), ∀ q ∈ xal ad j ls, j ≤ q.1 ∧ q.2.category = 1 := by
  intro ls
  induction ls with
  | nil => intro j q h; simp [xal] at h
  | cons v r ih =>
    intro j q h
    have tl : q ∈ xal ad (j + 1) r → j ≤ q.1 ∧ q.2.category = 1 := fun h => ⟨by have := (ih (j + 1) q h).1; omega, (ih (j + 1) q h).2⟩
    cases v with
    | int x => simp only [xal, List.mem_cons] at h; rcases h with rfl | h; exact ⟨Nat.le_refl _, rfl⟩; exact tl h
    | ref k => simp only [xal, List.mem_cons] at h; rcases h with rfl | h; exact ⟨Nat.le_refl _, rfl⟩; exact tl h
    | _ => simp only [xal] at h; exact tl h
theorem xal_set (ad : Nat → Nat) {v : Value} (hv : v.category = 1) : ∀ (ls : List Value) (j i : Nat), ∀ q ∈ xal ad j (ls.set i v), q = (j + i, xv ad v) ∨ (q ∈ xal ad j ls ∧ q.1 ≠ j + i) := by
  intro ls
  induction ls with
  | nil => intro j i q h; simp [xal] at h
  | cons w r ih =>
    intro j i q h
    cases i with
    | zero =>
      simp only [List.set_cons_zero] at h
      have tl : q ∈ xal ad (j + 1) r → q = (j + 0, xv ad v) ∨ (q ∈ xal ad j (w :: r) ∧ q.1 ≠ j + 0) := fun h =>
        Or.inr ⟨by cases w <;> simp [xal, h], by have := (xal_lo ad r (j + 1) q h).1; omega⟩
      cases v with
      | int x => simp only [xal, List.mem_cons] at h; rcases h with rfl | h; exact Or.inl rfl; exact tl h
      | ref k => simp only [xal, List.mem_cons] at h; rcases h with rfl | h; exact Or.inl rfl; exact tl h
      | _ => simp only [xal] at h; exact tl h
    | succ i =>
      simp only [List.set_cons_succ] at h
      have tl : q ∈ xal ad (j + 1) (r.set i v) → q = (j + (i + 1), xv ad v) ∨ (q ∈ xal ad j (w :: r) ∧ q.1 ≠ j + (i + 1)) := fun h => by
        rcases ih (j + 1) i q h with e | ⟨e1, e2⟩
        · exact Or.inl (by rw [e]; congr 1; omega)
        · exact Or.inr ⟨by cases w <;> simp [xal, e1], by omega⟩
      cases w with
      | int x => simp only [xal, List.mem_cons] at h; rcases h with rfl | h; exact Or.inr ⟨by simp [xal], by simp⟩; exact tl h
      | ref k => simp only [xal, List.mem_cons] at h; rcases h with rfl | h; exact Or.inr ⟨by simp [xal], by simp⟩; exact tl h
      | _ => simp only [xal] at h; exact tl h
/-- the locals behind a store -/
theorem xal_store {ad : Nat → Nat} {ls : List Value} {la : Array Slot} {nL i : Nat} {v : Value} (hc : v.category = 1) (h : lv_has la nL ((i, xv ad v) :: (xal ad 0 ls).filter (fun q => !(q.1 == i) && !(q.1 + 1 == i && q.2.category == 2)))) : lv_has la nL (xal ad 0 (ls.set i v)) := by
  refine ⟨h.1, h.2.1, fun q hq => h.2.2 q ?_⟩
  rcases xal_set ad hc ls 0 i q hq with e | ⟨e1, e2⟩
  · rw [e]; simp
  · refine List.mem_cons_of_mem _ (List.mem_filter.mpr ⟨e1, ?_⟩)
    have := (xal_lo ad ls 0 q e1).2
    have e3 : q.1 ≠ i := by omega
    simp [this, e3]
def Cx (Λ : xLay) (y : MethodName) (μ : xM) (d : Nat) (as : List Value) (I : xMem) (Q : Option Value → xMem → Prop) : Prop :=
  ∀ (l : Launch) (G : xG) (sz : Nat), Met l y (Cond.code y μ.2.1 μ.2.2.1 μ.2.2.2 :: x_good) (xrm d) (va_Pc (as.map (xv G.2.2)) (fun U => U.heap.size = sz ∧ va_P G.1 vwCl (xw Λ G I) U.heap ∧ va_K G.1 vwCl (xtys G) U ∧ xNw U ∧ va_D (fun _ => True) (xw Λ G I))) (xQ Λ G (va_A (xw Λ G I) sz) Q) 0 0 (va_A (xw Λ G I) sz)
theorem xal_nulls (ad : Nat → Nat) : ∀ (tl : List Value) (j : Nat), (∀ v ∈ tl, v = .null) → ∀ q, ¬ q ∈ xal ad j tl := by
  intro tl
  induction tl with
  | nil => intro j _ q hq; simp [xal] at hq
  | cons v r ih =>
    intro j ht q hq
    have := ht v List.mem_cons_self
    subst this
    simp only [xal] at hq
    exact ih (j + 1) (fun v h => ht v (List.mem_cons_of_mem _ h)) q hq
theorem xal_args (ad : Nat → Nat) : ∀ (as : List Value) (j : Nat) (tl : List Value), (∀ v ∈ as, v.category = 1) → (∀ v ∈ tl, v = .null) → ∀ q ∈ xal ad j (as ++ tl), q ∈ lv_args j (as.map (xv ad)) := by
  intro as
  induction as with
  | nil =>
    intro j tl _ ht q hq
    exact absurd hq (xal_nulls ad tl j ht q)
  | cons v r ih =>
    intro j tl hc ht q hq
    have h1 := hc v List.mem_cons_self
    have e : lv_args j ((v :: r).map (xv ad)) = (j, xv ad v) :: lv_args (j + 1) (r.map (xv ad)) := by
      simp [lv_args, xv_cat, h1]
    rw [e]
    have tl' : q ∈ xal ad (j + 1) (r ++ tl) → q ∈ (j, xv ad v) :: lv_args (j + 1) (r.map (xv ad)) := fun h => List.mem_cons_of_mem _ (ih (j + 1) tl (fun v h => hc v (List.mem_cons_of_mem _ h)) ht q h)
    cases v with
    | int x => simp only [List.cons_append, xal, List.mem_cons] at hq; rcases hq with rfl | h; exact List.mem_cons_self; exact tl' h
    | ref k => simp only [List.cons_append, xal, List.mem_cons] at hq; rcases hq with rfl | h; exact List.mem_cons_self; exact tl' h
    | _ => simp only [List.cons_append, xal] at hq; exact tl' hq
theorem lg_sl_len (vs : List Value) (h : ∀ v ∈ vs, v.category = 1) : (lg_sl vs).length = vs.length := by
  induction vs with
  | nil => rfl
  | cons v r ih =>
    have h1 := h v List.mem_cons_self
    have := ih (fun v h' => h v (List.mem_cons_of_mem _ h'))
    simp only [lg_sl] at this ⊢
    simp [h1, this]
/-- a contract out of a walk from the method's entry -/
theorem Cx.of {Λ : xLay} {y : MethodName} {μ : xM} {d : Nat} {as : List Value} {I : xMem} {Q : Option Value → xMem → Prop} (ls : List Value) (hy : plainName y.cls = true) (hμ : μ.1 = y.cls) (hls : as ++ List.replicate (μ.2.2.1 - as.length) Value.null = ls) (hn : as.length ≤ μ.2.2.1) (hcat : as.all (fun v => v.category == 1) = true) (h : Wx Λ μ d Q 0 ls [] I) : Cx Λ y μ d as I Q := by
  intro l G sz
  refine Met.ofW (cc := μ.2.1) (maxL := μ.2.2.1) (ret := μ.2.2.2) hy rfl ?_
  intro p e s m args below meth c s₁ B hml hv
  obtain ⟨rfl, hsz, hP, hK, hN, hD0⟩ := hv
  have hts : ∀ w ∈ x_good, w.before (as.map (xv G.2.2)).toArray s = true := fun w hw => atoms_spec (ws := Cond.code y μ.2.1 μ.2.2.1 μ.2.2.2 :: x_good) B.pre w (List.mem_cons_of_mem _ hw)
  have hown : s.vm.findClass μ.1 = some m.cls := by rw [hμ]; exact findClass_of_methodNamed B.named
  subst hsz
  have hD := hD0.self (sz := s.heap.size)
  have hA : ∀ q : Nat, s.heap.size ≤ q → va_A (xw Λ G I) s.heap.size q := fun q h => Or.inr h
  have hS : va_S (va_A (xw Λ G I) s.heap.size) s.heap s.heap [] := va_S.rf
  have hc1 : ∀ v ∈ as, v.category = 1 := fun v hv => by simpa using List.all_eq_true.mp hcat v hv
  have hc2 : ∀ v ∈ as.map (xv G.2.2), v.category = 1 := fun v hv => by
    obtain ⟨w, hw, rfl⟩ := List.mem_map.mp hv
    rw [xv_cat]; exact hc1 w hw
  have hl := lv_entry (as.map (xv G.2.2)) (n := μ.2.2.1) (by rw [lg_sl_len _ hc2, List.length_map]; exact hn)
  rw [lg_entry_eq]
  refine h l G _ p e s m _ below meth c s.heap [] _ ⟨B.exec, B.bytes, B.returns, hml, hown, hts, B.notSynchronized, hK, hN, hA⟩ hP hD hS ⟨hl.1, hl.2.1, fun q hq => hl.2.2 q ?_⟩
  rw [← hls] at hq
  exact xal_args G.2.2 as 0 _ hc1 (fun v hv => List.eq_of_mem_replicate hv) q hq
theorem Cx.mono {Λ : xLay} {y : MethodName} {μ : xM} {d : Nat} {as : List Value} {I : xMem} {Q Q' : Option Value → xMem → Prop} (h : Cx Λ y μ d as I Q) (hQ : ∀ v J, Q v J → Q' v J) : Cx Λ y μ d as I Q' := by
  intro l G sz
  refine MetFree.mono (h l G sz) (fun _ _ h => h) (fun _ _ _ _ _ h => h) (fun a st o t _ hq => ?_)
  obtain ⟨⟨⟨v, J, h1, h2, h3⟩, h4⟩, h5⟩ := hq
  exact ⟨⟨⟨v, J, h1, hQ v J h2, h3⟩, h4⟩, h5⟩
end
section
section XR
variable {Λ : xLay} {μ : xM} {d : Nat} {Q : Option Value → xMem → Prop} {pc : Nat} {ls st : List Value} {I : xMem}
theorem x_iconst {n : Int} {v : Int32} (hd : decode μ.2.1 pc = .ok (.iconst n, 1)) (hv : Int32.ofInt n = v) (k : Wx Λ μ d Q (pc + 1) ls (.int v :: st) I) : Wx Λ μ d Q pc ls st I := by
  intro l G A p e s m args below meth c H locs la hC hP hD hS hl
  exact lv_iconst hC.1 hC.2.1 hd hv (k l G A p e s m args below meth c H locs la hC hP hD hS hl)
theorem x_bipush {n : Int} {v : Int32} (hd : decode μ.2.1 pc = .ok (.bipush n, 2)) (hv : (Int8.ofInt n).toInt32 = v) (k : Wx Λ μ d Q (pc + 2) ls (.int v :: st) I) : Wx Λ μ d Q pc ls st I := by
  intro l G A p e s m args below meth c H locs la hC hP hD hS hl
  exact lv_bipush hC.1 hC.2.1 hd hv (k l G A p e s m args below meth c H locs la hC hP hD hS hl)
theorem x_sipush {n : Int} {v : Int32} (hd : decode μ.2.1 pc = .ok (.sipush n, 3)) (hv : (Int16.ofInt n).toInt32 = v) (k : Wx Λ μ d Q (pc + 3) ls (.int v :: st) I) : Wx Λ μ d Q pc ls st I := by
  intro l G A p e s m args below meth c H locs la hC hP hD hS hl
  exact lv_sipush hC.1 hC.2.1 hd hv (k l G A p e s m args below meth c H locs la hC hP hD hS hl)
theorem x_iadd {x y v : Int32} (hd : decode μ.2.1 pc = .ok (.iadd, 1)) (hv : x + y = v) (k : Wx Λ μ d Q (pc + 1) ls (.int v :: st) I) : Wx Λ μ d Q pc ls (.int y :: .int x :: st) I := by
  intro l G A p e s m args below meth c H locs la hC hP hD hS hl
  subst hv
  exact lv_iadd hC.1 hC.2.1 hd (k l G A p e s m args below meth c H locs la hC hP hD hS hl)
theorem x_isub {x y v : Int32} (hd : decode μ.2.1 pc = .ok (.isub, 1)) (hv : x - y = v) (k : Wx Λ μ d Q (pc + 1) ls (.int v :: st) I) : Wx Λ μ d Q pc ls (.int y :: .int x :: st) I := by
  intro l G A p e s m args below meth c H locs la hC hP hD hS hl
  subst hv
  exact lv_isub hC.1 hC.2.1 hd (k l G A p e s m args below meth c H locs la hC hP hD hS hl)
theorem x_imul {x y v : Int32} (hd : decode μ.2.1 pc = .ok (.imul, 1)) (hv : x * y = v) (k : Wx Λ μ d Q (pc + 1) ls (.int v :: st) I) : Wx Λ μ d Q pc ls (.int y :: .int x :: st) I := by
  intro l G A p e s m args below meth c H locs la hC hP hD hS hl
  subst hv
  exact lv_imul hC.1 hC.2.1 hd (k l G A p e s m args below meth c H locs la hC hP hD hS hl)
theorem x_iand {x y v : Int32} (hd : decode μ.2.1 pc = .ok (.iand, 1)) (hv : x &&& y = v) (k : Wx Λ μ d Q (pc + 1) ls (.int v :: st) I) : Wx Λ μ d Q pc ls (.int y :: .int x :: st) I := by
  intro l G A p e s m args below meth c H locs la hC hP hD hS hl
  subst hv
  exact lv_iand hC.1 hC.2.1 hd (k l G A p e s m args below meth c H locs la hC hP hD hS hl)
theorem x_ior {x y v : Int32} (hd : decode μ.2.1 pc = .ok (.ior, 1)) (hv : x ||| y = v) (k : Wx Λ μ d Q (pc + 1) ls (.int v :: st) I) : Wx Λ μ d Q pc ls (.int y :: .int x :: st) I := by
  intro l G A p e s m args below meth c H locs la hC hP hD hS hl
  subst hv
  exact lv_ior hC.1 hC.2.1 hd (k l G A p e s m args below meth c H locs la hC hP hD hS hl)
theorem x_ixor {x y v : Int32} (hd : decode μ.2.1 pc = .ok (.ixor, 1)) (hv : x ^^^ y = v) (k : Wx Λ μ d Q (pc + 1) ls (.int v :: st) I) : Wx Λ μ d Q pc ls (.int y :: .int x :: st) I := by
  intro l G A p e s m args below meth c H locs la hC hP hD hS hl
  subst hv
  exact lv_ixor hC.1 hC.2.1 hd (k l G A p e s m args below meth c H locs la hC hP hD hS hl)
theorem x_ishl {x y v : Int32} (hd : decode μ.2.1 pc = .ok (.ishl, 1)) (hv : x <<< (y &&& 31) = v) (k : Wx Λ μ d Q (pc + 1) ls (.int v :: st) I) : Wx Λ μ d Q pc ls (.int y :: .int x :: st) I := by
  intro l G A p e s m args below meth c H locs la hC hP hD hS hl
  subst hv
  exact lv_ishl hC.1 hC.2.1 hd (k l G A p e s m args below meth c H locs la hC hP hD hS hl)
theorem x_ishr {x y v : Int32} (hd : decode μ.2.1 pc = .ok (.ishr, 1)) (hv : x >>> (y &&& 31) = v) (k : Wx Λ μ d Q (pc + 1) ls (.int v :: st) I) : Wx Λ μ d Q pc ls (.int y :: .int x :: st) I := by
  intro l G A p e s m args below meth c H locs la hC hP hD hS hl
  subst hv
  exact lv_ishr hC.1 hC.2.1 hd (k l G A p e s m args below meth c H locs la hC hP hD hS hl)
theorem x_iushr {x y v : Int32} (hd : decode μ.2.1 pc = .ok (.iushr, 1)) (hv : (x.toUInt32 >>> (y.toUInt32 &&& Int32.toUInt32 31)).toInt32 = v) (k : Wx Λ μ d Q (pc + 1) ls (.int v :: st) I) : Wx Λ μ d Q pc ls (.int y :: .int x :: st) I := by
  intro l G A p e s m args below meth c H locs la hC hP hD hS hl
  exact lv_iushr hC.1 hC.2.1 hd hv (k l G A p e s m args below meth c H locs la hC hP hD hS hl)
theorem x_iload_n {k : Fin 4} {x : Int32} (hd : decode μ.2.1 pc = .ok (.iload_n k, 1)) (h : ls[(k : Nat)]? = some (.int x)) (kk : Wx Λ μ d Q (pc + 1) ls (.int x :: st) I) : Wx Λ μ d Q pc ls st I := by
  intro l G A p e s m args below meth c H locs la hC hP hD hS hl
  exact lv_iload_n hC.1 hC.2.1 hd rfl (by have := hl.2.2 _ (xal_int G.2.2 (j := 0) h); simpa using this) (kk l G A p e s m args below meth c H locs la hC hP hD hS hl)
theorem x_iload {i : Nat} {x : Int32} (hd : decode μ.2.1 pc = .ok (.iload i, 2)) (h : ls[i]? = some (.int x)) (kk : Wx Λ μ d Q (pc + 2) ls (.int x :: st) I) : Wx Λ μ d Q pc ls st I := by
  intro l G A p e s m args below meth c H locs la hC hP hD hS hl
  exact lv_iload hC.1 hC.2.1 hd (by have := hl.2.2 _ (xal_int G.2.2 (j := 0) h); simpa using this) (kk l G A p e s m args below meth c H locs la hC hP hD hS hl)
theorem x_aload_n {k : Fin 4} {x : Nat} (hd : decode μ.2.1 pc = .ok (.aload_n k, 1)) (h : ls[(k : Nat)]? = some (.ref x)) (kk : Wx Λ μ d Q (pc + 1) ls (.ref x :: st) I) : Wx Λ μ d Q pc ls st I := by
  intro l G A p e s m args below meth c H locs la hC hP hD hS hl
  exact lv_aload_n hC.1 hC.2.1 hd rfl (by have := hl.2.2 _ (xal_ref G.2.2 (j := 0) h); simpa using this) (kk l G A p e s m args below meth c H locs la hC hP hD hS hl)
theorem x_aload {i : Nat} {x : Nat} (hd : decode μ.2.1 pc = .ok (.aload i, 2)) (h : ls[i]? = some (.ref x)) (kk : Wx Λ μ d Q (pc + 2) ls (.ref x :: st) I) : Wx Λ μ d Q pc ls st I := by
  intro l G A p e s m args below meth c H locs la hC hP hD hS hl
  exact lv_aload hC.1 hC.2.1 hd (by have := hl.2.2 _ (xal_ref G.2.2 (j := 0) h); simpa using this) (kk l G A p e s m args below meth c H locs la hC hP hD hS hl)
theorem x_istore_n {k : Fin 4} {x : Int32} {ls' : List Value} (hd : decode μ.2.1 pc = .ok (.istore_n k, 1)) (hn : decide ((k : Nat) < μ.2.2.1) = true) (hs : ls.set k (.int x) = ls') (kk : Wx Λ μ d Q (pc + 1) ls' st I) : Wx Λ μ d Q pc ls (.int x :: st) I := by
  intro l G A p e s m args below meth c H locs la hC hP hD hS hl
  subst hs
  exact lv_istore_n hC.1 hC.2.1 hd rfl hl (of_decide_eq_true hn) rfl (fun la' hl' => kk l G A p e s m args below meth c H locs la' hC hP hD hS (xal_store (v := .int x) rfl hl'))
theorem x_astore_n {k : Fin 4} {x : Nat} {ls' : List Value} (hd : decode μ.2.1 pc = .ok (.astore_n k, 1)) (hn : decide ((k : Nat) < μ.2.2.1) = true) (hs : ls.set k (.ref x) = ls') (kk : Wx Λ μ d Q (pc + 1) ls' st I) : Wx Λ μ d Q pc ls (.ref x :: st) I := by
  intro l G A p e s m args below meth c H locs la hC hP hD hS hl
  subst hs
  exact lv_astore_n hC.1 hC.2.1 hd rfl hl (of_decide_eq_true hn) rfl (fun la' hl' => kk l G A p e s m args below meth c H locs la' hC hP hD hS (xal_store (v := .ref x) rfl hl'))
theorem x_istore {k : Nat} {x : Int32} {ls' : List Value} (hd : decode μ.2.1 pc = .ok (.istore k, 2)) (hn : decide ((k : Nat) < μ.2.2.1) = true) (hs : ls.set k (.int x) = ls') (kk : Wx Λ μ d Q (pc + 2) ls' st I) : Wx Λ μ d Q pc ls (.int x :: st) I := by
  intro l G A p e s m args below meth c H locs la hC hP hD hS hl
  subst hs
  exact lv_istore hC.1 hC.2.1 hd hl (of_decide_eq_true hn) rfl (fun la' hl' => kk l G A p e s m args below meth c H locs la' hC hP hD hS (xal_store (v := .int x) rfl hl'))
theorem x_astore {k : Nat} {x : Nat} {ls' : List Value} (hd : decode μ.2.1 pc = .ok (.astore k, 2)) (hn : decide ((k : Nat) < μ.2.2.1) = true) (hs : ls.set k (.ref x) = ls') (kk : Wx Λ μ d Q (pc + 2) ls' st I) : Wx Λ μ d Q pc ls (.ref x :: st) I := by
  intro l G A p e s m args below meth c H locs la hC hP hD hS hl
  subst hs
  exact lv_astore hC.1 hC.2.1 hd hl (of_decide_eq_true hn) rfl (fun la' hl' => kk l G A p e s m args below meth c H locs la' hC hP hD hS (xal_store (v := .ref x) rfl hl'))
theorem x_iinc {i : Nat} {n : Int} {x v : Int32} {ls' : List Value} (hd : decode μ.2.1 pc = .ok (.iinc i n, 3)) (hx : ls[i]? = some (.int x)) (hv : x + Int32.ofInt n = v) (hn : decide (i < μ.2.2.1) = true) (hs : ls.set i (.int v) = ls') (kk : Wx Λ μ d Q (pc + 3) ls' st I) : Wx Λ μ d Q pc ls st I := by
  intro l G A p e s m args below meth c H locs la hC hP hD hS hl
  subst hs
  have hm := xal_int G.2.2 (j := 0) hx
  rw [Nat.zero_add] at hm
  obtain ⟨q, hq⟩ := List.mem_iff_getElem?.mp hm
  exact lv_iinc hC.1 hC.2.1 hd hl hq hv (of_decide_eq_true hn) rfl (fun la' hl' => kk l G A p e s m args below meth c H locs la' hC hP hD hS (xal_store (v := .int v) rfl hl'))
theorem x_dup {v : Value} (hd : decode μ.2.1 pc = .ok (.dup, 1)) (hv : v.category = 1) (kk : Wx Λ μ d Q (pc + 1) ls (v :: v :: st) I) : Wx Λ μ d Q pc ls (v :: st) I := by
  intro l G A p e s m args below meth c H locs la hC hP hD hS hl
  exact lv_dup hC.1 hC.2.1 hd (by rw [xv_cat]; exact hv) (kk l G A p e s m args below meth c H locs la hC hP hD hS hl)
theorem x_pop {v : Value} (hd : decode μ.2.1 pc = .ok (.pop, 1)) (hv : v.category = 1) (kk : Wx Λ μ d Q (pc + 1) ls st I) : Wx Λ μ d Q pc ls (v :: st) I := by
  intro l G A p e s m args below meth c H locs la hC hP hD hS hl
  exact lv_pop hC.1 hC.2.1 hd (by rw [xv_cat]; exact hv) (kk l G A p e s m args below meth c H locs la hC hP hD hS hl)
theorem x_dup2 {v w : Value} (hd : decode μ.2.1 pc = .ok (.dup2, 1)) (hv : v.category = 1) (hw : w.category = 1) (kk : Wx Λ μ d Q (pc + 1) ls (v :: w :: v :: w :: st) I) : Wx Λ μ d Q pc ls (v :: w :: st) I := by
  intro l G A p e s m args below meth c H locs la hC hP hD hS hl
  exact lv_dup2_11 hC.1 hC.2.1 hd (by rw [xv_cat]; exact hv) (by rw [xv_cat]; exact hw) (kk l G A p e s m args below meth c H locs la hC hP hD hS hl)
theorem x_if_eq {x : Int32} {off : Int} {tgt : Nat} (hd : decode μ.2.1 pc = .ok (.ifCond .eq off, 3)) (ht : (pc : Int) + off = (tgt : Int)) (kt : x = 0 → Wx Λ μ d Q tgt ls st I) (kf : ¬ x = 0 → Wx Λ μ d Q (pc + 3) ls st I) : Wx Λ μ d Q pc ls (.int x :: st) I := by
  intro l G A p e s m args below meth c H locs la hC hP hD hS hl
  exact lv_if_eq hC.1 hC.2.1 hd ht (fun h => kt h l G A p e s m args below meth c H locs la hC hP hD hS hl) (fun h => kf h l G A p e s m args below meth c H locs la hC hP hD hS hl)
theorem x_icmp_eq {x y : Int32} {off : Int} {tgt : Nat} (hd : decode μ.2.1 pc = .ok (.if_icmp .eq off, 3)) (ht : (pc : Int) + off = (tgt : Int)) (kt : x = y → Wx Λ μ d Q tgt ls st I) (kf : ¬ x = y → Wx Λ μ d Q (pc + 3) ls st I) : Wx Λ μ d Q pc ls (.int y :: .int x :: st) I := by
  intro l G A p e s m args below meth c H locs la hC hP hD hS hl
  exact lv_icmp_eq hC.1 hC.2.1 hd ht (fun h => kt h l G A p e s m args below meth c H locs la hC hP hD hS hl) (fun h => kf h l G A p e s m args below meth c H locs la hC hP hD hS hl)
theorem x_if_ne {x : Int32} {off : Int} {tgt : Nat} (hd : decode μ.2.1 pc = .ok (.ifCond .ne off, 3)) (ht : (pc : Int) + off = (tgt : Int)) (kt : ¬ x = 0 → Wx Λ μ d Q tgt ls st I) (kf : x = 0 → Wx Λ μ d Q (pc + 3) ls st I) : Wx Λ μ d Q pc ls (.int x :: st) I := by
  intro l G A p e s m args below meth c H locs la hC hP hD hS hl
  exact lv_if_ne hC.1 hC.2.1 hd ht (fun h => kt h l G A p e s m args below meth c H locs la hC hP hD hS hl) (fun h => kf h l G A p e s m args below meth c H locs la hC hP hD hS hl)
theorem x_icmp_ne {x y : Int32} {off : Int} {tgt : Nat} (hd : decode μ.2.1 pc = .ok (.if_icmp .ne off, 3)) (ht : (pc : Int) + off = (tgt : Int)) (kt : ¬ x = y → Wx Λ μ d Q tgt ls st I) (kf : x = y → Wx Λ μ d Q (pc + 3) ls st I) : Wx Λ μ d Q pc ls (.int y :: .int x :: st) I := by
  intro l G A p e s m args below meth c H locs la hC hP hD hS hl
  exact lv_icmp_ne hC.1 hC.2.1 hd ht (fun h => kt h l G A p e s m args below meth c H locs la hC hP hD hS hl) (fun h => kf h l G A p e s m args below meth c H locs la hC hP hD hS hl)
theorem x_if_lt {x : Int32} {off : Int} {tgt : Nat} (hd : decode μ.2.1 pc = .ok (.ifCond .lt off, 3)) (ht : (pc : Int) + off = (tgt : Int)) (kt : x < 0 → Wx Λ μ d Q tgt ls st I) (kf : ¬ x < 0 → Wx Λ μ d Q (pc + 3) ls st I) : Wx Λ μ d Q pc ls (.int x :: st) I := by
  intro l G A p e s m args below meth c H locs la hC hP hD hS hl
  exact lv_if_lt hC.1 hC.2.1 hd ht (fun h => kt h l G A p e s m args below meth c H locs la hC hP hD hS hl) (fun h => kf h l G A p e s m args below meth c H locs la hC hP hD hS hl)
theorem x_icmp_lt {x y : Int32} {off : Int} {tgt : Nat} (hd : decode μ.2.1 pc = .ok (.if_icmp .lt off, 3)) (ht : (pc : Int) + off = (tgt : Int)) (kt : x < y → Wx Λ μ d Q tgt ls st I) (kf : ¬ x < y → Wx Λ μ d Q (pc + 3) ls st I) : Wx Λ μ d Q pc ls (.int y :: .int x :: st) I := by
  intro l G A p e s m args below meth c H locs la hC hP hD hS hl
  exact lv_icmp_lt hC.1 hC.2.1 hd ht (fun h => kt h l G A p e s m args below meth c H locs la hC hP hD hS hl) (fun h => kf h l G A p e s m args below meth c H locs la hC hP hD hS hl)
theorem x_if_ge {x : Int32} {off : Int} {tgt : Nat} (hd : decode μ.2.1 pc = .ok (.ifCond .ge off, 3)) (ht : (pc : Int) + off = (tgt : Int)) (kt : 0 ≤ x → Wx Λ μ d Q tgt ls st I) (kf : ¬ 0 ≤ x → Wx Λ μ d Q (pc + 3) ls st I) : Wx Λ μ d Q pc ls (.int x :: st) I := by
  intro l G A p e s m args below meth c H locs la hC hP hD hS hl
  exact lv_if_ge hC.1 hC.2.1 hd ht (fun h => kt h l G A p e s m args below meth c H locs la hC hP hD hS hl) (fun h => kf h l G A p e s m args below meth c H locs la hC hP hD hS hl)
theorem x_icmp_ge {x y : Int32} {off : Int} {tgt : Nat} (hd : decode μ.2.1 pc = .ok (.if_icmp .ge off, 3)) (ht : (pc : Int) + off = (tgt : Int)) (kt : y ≤ x → Wx Λ μ d Q tgt ls st I) (kf : ¬ y ≤ x → Wx Λ μ d Q (pc + 3) ls st I) : Wx Λ μ d Q pc ls (.int y :: .int x :: st) I := by
  intro l G A p e s m args below meth c H locs la hC hP hD hS hl
  exact lv_icmp_ge hC.1 hC.2.1 hd ht (fun h => kt h l G A p e s m args below meth c H locs la hC hP hD hS hl) (fun h => kf h l G A p e s m args below meth c H locs la hC hP hD hS hl)
theorem x_if_gt {x : Int32} {off : Int} {tgt : Nat} (hd : decode μ.2.1 pc = .ok (.ifCond .gt off, 3)) (ht : (pc : Int) + off = (tgt : Int)) (kt : 0 < x → Wx Λ μ d Q tgt ls st I) (kf : ¬ 0 < x → Wx Λ μ d Q (pc + 3) ls st I) : Wx Λ μ d Q pc ls (.int x :: st) I := by
  intro l G A p e s m args below meth c H locs la hC hP hD hS hl
  exact lv_if_gt hC.1 hC.2.1 hd ht (fun h => kt h l G A p e s m args below meth c H locs la hC hP hD hS hl) (fun h => kf h l G A p e s m args below meth c H locs la hC hP hD hS hl)
theorem x_icmp_gt {x y : Int32} {off : Int} {tgt : Nat} (hd : decode μ.2.1 pc = .ok (.if_icmp .gt off, 3)) (ht : (pc : Int) + off = (tgt : Int)) (kt : y < x → Wx Λ μ d Q tgt ls st I) (kf : ¬ y < x → Wx Λ μ d Q (pc + 3) ls st I) : Wx Λ μ d Q pc ls (.int y :: .int x :: st) I := by
  intro l G A p e s m args below meth c H locs la hC hP hD hS hl
  exact lv_icmp_gt hC.1 hC.2.1 hd ht (fun h => kt h l G A p e s m args below meth c H locs la hC hP hD hS hl) (fun h => kf h l G A p e s m args below meth c H locs la hC hP hD hS hl)
theorem x_if_le {x : Int32} {off : Int} {tgt : Nat} (hd : decode μ.2.1 pc = .ok (.ifCond .le off, 3)) (ht : (pc : Int) + off = (tgt : Int)) (kt : x ≤ 0 → Wx Λ μ d Q tgt ls st I) (kf : ¬ x ≤ 0 → Wx Λ μ d Q (pc + 3) ls st I) : Wx Λ μ d Q pc ls (.int x :: st) I := by
  intro l G A p e s m args below meth c H locs la hC hP hD hS hl
  exact lv_if_le hC.1 hC.2.1 hd ht (fun h => kt h l G A p e s m args below meth c H locs la hC hP hD hS hl) (fun h => kf h l G A p e s m args below meth c H locs la hC hP hD hS hl)
theorem x_icmp_le {x y : Int32} {off : Int} {tgt : Nat} (hd : decode μ.2.1 pc = .ok (.if_icmp .le off, 3)) (ht : (pc : Int) + off = (tgt : Int)) (kt : x ≤ y → Wx Λ μ d Q tgt ls st I) (kf : ¬ x ≤ y → Wx Λ μ d Q (pc + 3) ls st I) : Wx Λ μ d Q pc ls (.int y :: .int x :: st) I := by
  intro l G A p e s m args below meth c H locs la hC hP hD hS hl
  exact lv_icmp_le hC.1 hC.2.1 hd ht (fun h => kt h l G A p e s m args below meth c H locs la hC hP hD hS hl) (fun h => kf h l G A p e s m args below meth c H locs la hC hP hD hS hl)
theorem x_goto {off : Int} {tgt : Nat} (hd : decode μ.2.1 pc = .ok (.goto off, 3)) (ht : (pc : Int) + off = (tgt : Int)) (k : Wx Λ μ d Q tgt ls st I) : Wx Λ μ d Q pc ls st I := by
  intro l G A p e s m args below meth c H locs la hC hP hD hS hl
  exact lv_goto hC.1 hC.2.1 hd ht (k l G A p e s m args below meth c H locs la hC hP hD hS hl)
theorem x_tableOut {dflt lo hi : Int} {offs : Array Int} {len : Nat} {x : Int32} {tgt : Nat} (hd : decode μ.2.1 pc = .ok (.tableswitch dflt lo hi offs, len)) (h : x.toInt < lo ∨ hi < x.toInt) (ht : (pc : Int) + dflt = (tgt : Int)) (k : Wx Λ μ d Q tgt ls st I) : Wx Λ μ d Q pc ls (.int x :: st) I := by
  intro l G A p e s m args below meth c H locs la hC hP hD hS hl
  exact lv_tableOut hC.1 hC.2.1 hd h ht (k l G A p e s m args below meth c H locs la hC hP hD hS hl)
theorem x_tableIn {dflt lo hi : Int} {offs : Array Int} {len : Nat} {x : Int32} {off : Int} {tgt : Nat} (hd : decode μ.2.1 pc = .ok (.tableswitch dflt lo hi offs, len)) (h1 : ¬ x.toInt < lo) (h2 : ¬ hi < x.toInt) (ho : offs[(x.toInt - lo).toNat]? = some off) (ht : (pc : Int) + off = (tgt : Int)) (k : Wx Λ μ d Q tgt ls st I) : Wx Λ μ d Q pc ls (.int x :: st) I := by
  intro l G A p e s m args below meth c H locs la hC hP hD hS hl
  exact lv_tableIn hC.1 hC.2.1 hd h1 h2 ho ht (k l G A p e s m args below meth c H locs la hC hP hD hS hl)
theorem x_ldc {idx : Nat} {v : Int32} (hd : decode μ.2.1 pc = .ok (.ldc idx, 2)) (hk : Cond.constant μ.1 idx v ∈ x_good) (k : Wx Λ μ d Q (pc + 2) ls (.int v :: st) I) : Wx Λ μ d Q pc ls st I := by
  intro l G A p e s m args below meth c H locs la hC hP hD hS hl
  exact lv_ldc hC.1 hC.2.1 hC.2.2.2.2.1 (hC.2.2.2.2.2.1 _ hk) hd (k l G A p e s m args below meth c H locs la hC hP hD hS hl)
theorem x_ldcw {idx : Nat} {v : Int32} (hd : decode μ.2.1 pc = .ok (.ldc_w idx, 3)) (hk : Cond.constant μ.1 idx v ∈ x_good) (k : Wx Λ μ d Q (pc + 3) ls (.int v :: st) I) : Wx Λ μ d Q pc ls st I := by
  intro l G A p e s m args below meth c H locs la hC hP hD hS hl
  exact lv_ldcw hC.1 hC.2.1 hC.2.2.2.2.1 (hC.2.2.2.2.2.1 _ hk) hd (k l G A p e s m args below meth c H locs la hC hP hD hS hl)
theorem x_iret {v : Int32} (hd : decode μ.2.1 pc = .ok (.ireturn, 1)) (hr : μ.2.2.2 = some .int) (hq : Q (some (.int v)) I) : Wx Λ μ d Q pc ls [.int v] I := by
  intro l G A p e s m args below meth c H locs la hC hP hD hS hl
  exact W.iret hC.1 hC.2.1 (hC.2.2.1.trans hr) (fun t ht _ => ⟨⟨some (.int v), I, rfl, hq, by rw [ht]; exact hP⟩, hS.F ht⟩) hS.2.2 hd hC.2.2.2.2.2.2.1
theorem x_zret {v : Int32} (hd : decode μ.2.1 pc = .ok (.ireturn, 1)) (hr : μ.2.2.2 = some .boolean) (hv : v = 0 ∨ v = 1) (hq : Q (some (.int v)) I) : Wx Λ μ d Q pc ls [.int v] I := by
  intro l G A p e s m args below meth c H locs la hC hP hD hS hl
  exact W.zret (ty := .boolean) hC.1 hC.2.1 (hC.2.2.1.trans hr) (by rcases hv with rfl | rfl <;> rfl) (fun t ht _ => ⟨⟨some (.int v), I, rfl, hq, by rw [ht]; exact hP⟩, hS.F ht⟩) hS.2.2 hd hC.2.2.2.2.2.2.1
theorem x_vret (hd : decode μ.2.1 pc = .ok (.return_, 1)) (hr : μ.2.2.2 = none) (hq : Q none I) : Wx Λ μ d Q pc ls [] I := by
  intro l G A p e s m args below meth c H locs la hC hP hD hS hl
  exact W.vret hC.1 hC.2.1 (hC.2.2.1.trans hr) (fun t ht _ => ⟨⟨none, I, rfl, hq, by rw [ht]; exact hP⟩, hS.F ht⟩) hS.2.2 hd hC.2.2.2.2.2.2.1
theorem x_aret {k : Nat} {rt : String} (hd : decode μ.2.1 pc = .ok (.areturn, 1)) (hr : μ.2.2.2 = some (.object rt)) (hq : Q (some (.ref k)) I) : Wx Λ μ d Q pc ls [.ref k] I := by
  intro l G A p e s m args below meth c H locs la hC hP hD hS hl
  exact W.aret (v := .ref (G.2.2 k)) hC.1 hC.2.1 (hC.2.2.1.trans hr) (Or.inl ⟨_, rfl⟩) (Or.inr ⟨_, rfl⟩) (fun t ht _ => ⟨⟨some (.ref k), I, rfl, hq, by rw [ht]; exact hP⟩, hS.F ht⟩) hS.2.2 hd hC.2.2.2.2.2.2.1
end XR
end
section
/-! fields, arrays, calls of the layer -/
theorem x_wX0 : ∀ w ∈ u_ws RX0 TX0 14, w ∈ x_good := by decide +kernel
theorem x_wX2 : ∀ w ∈ u_ws RX2 TX2 4, w ∈ x_good := by decide +kernel
theorem x_wX3 : ∀ w ∈ u_ws RX3 TX3 1, w ∈ x_good := by decide +kernel
theorem x_wX4 : ∀ w ∈ u_ws RX4 TX4 1, w ∈ x_good := by decide +kernel
theorem x_wX5 : ∀ w ∈ u_ws RX5 TX5 6, w ∈ x_good := by decide +kernel
theorem x_wX6 : ∀ w ∈ u_ws RX6 TX6 17, w ∈ x_good := by decide +kernel
/-- what the tables say of a class of the worlds -/
theorem x_cls : ∀ (ci : Nat) (q : vw_C), vwCl[ci]? = some q → (∀ w ∈ u_ws q.1 q.2.1 q.2.2, w ∈ x_good) ∧ (∃ ty0 : Nat → FieldType, ∀ k, k < q.2.2 → parseFieldDescriptor (q.2.1 k).2.2.1 = some (ty0 k)) ∧ (∀ a, a < q.2.2 → ∀ b, b < q.2.2 → a ≠ b → (q.2.1 a).2.1 ≠ (q.2.1 b).2.1) := by
  intro ci q h
  match ci, h with
  | 0, h => cases h; exact ⟨x_wX0, ⟨_, tyX0_ok⟩, nmX0⟩
  | 1, h => cases h; exact ⟨x_wX2, ⟨_, tyX2_ok⟩, nmX2⟩
  | 2, h => cases h; exact ⟨x_wX3, ⟨_, tyX3_ok⟩, nmX3⟩
  | 3, h => cases h; exact ⟨x_wX4, ⟨_, tyX4_ok⟩, nmX4⟩
  | 4, h => cases h; exact ⟨x_wX5, ⟨_, tyX5_ok⟩, nmX5⟩
  | 5, h => cases h; exact ⟨x_wX6, ⟨_, tyX6_ok⟩, nmX6⟩
  | k + 6, h => simp [vwCl] at h
section XF
variable {Λ : xLay} {μ : xM} {d : Nat} {Q : Option Value → xMem → Prop} {pc : Nat} {ls st : List Value} {I : xMem}
theorem x_obj {G : xG} {k ci : Nat} {fs : List (Option Nat)} (hk : decide (k < Λ.1) = true) (hΛ : Λ.2 k = .inr (.inl (ci, fs))) : (xw Λ G I)[k]? = some (G.2.2 k, .inr (ci, xfs G.2.2 (I k) 0 fs)) := by
  rw [xw_at (of_decide_eq_true hk), hΛ]; rfl
theorem x_arr {G : xG} {k t n : Nat} (hk : decide (k < Λ.1) = true) (hΛ : Λ.2 k = .inl (t, n)) : (xw Λ G I)[k]? = some (G.2.2 k, .inl (G.2.1 t, n, .inl (I k))) := by
  rw [xw_at (of_decide_eq_true hk), hΛ]; rfl
theorem x_rar {G : xG} {k t n : Nat} {g : Nat → Option Nat} (hk : decide (k < Λ.1) = true) (hΛ : Λ.2 k = .inr (.inr (t, n, g))) : (xw Λ G I)[k]? = some (G.2.2 k, .inl (G.2.1 t, n, .inr (.inr (.inr (.inr (fun j => (g j).map G.2.2)))))) := by
  rw [xw_at (of_decide_eq_true hk), hΛ]; rfl
/-- a field that is a number -/
theorem x_getI (ci j : Nat) {k idx N : Nat} {C : String} {T : u_T} {fs : List (Option Nat)} {v : Int32} (hc : vwCl[ci]? = some (C, T, N)) (hj : j < N) (hlink : Cond.fieldLink μ.1 idx (T j).1 (T j).2.1 (T j).2.2.1 ∈ x_good) (hd : decode μ.2.1 pc = .ok (.getfield idx, 3)) (hk : decide (k < Λ.1) = true) (hΛ : Λ.2 k = .inr (.inl (ci, fs))) (hf : fs[j]? = some none) (hv : I k j = v) (kk : Wx Λ μ d Q (pc + 3) ls (.int v :: st) I) : Wx Λ μ d Q pc ls (.ref k :: st) I := by
  intro l G A p e s m args below meth c H locs la hC hP hD hS hl
  refine va_get (v := .int v) hC.1 hC.2.1 hC.2.2.2.2.2.1 (x_cls ci _ hc).1 hC.2.2.2.2.1 hC.2.2.2.2.2.2.2.1 hP k (x_obj hk hΛ) hc j hj (hC.2.2.2.2.2.1 _ hlink) (fun _ h => h) ?_ hd (kk l G A p e s m args below meth c H locs la hC hP hD hS hl)
  rw [xfs_at, hf, ← hv]; simp [xfv]
/-- a field that is a cell -/
theorem x_getR (ci j : Nat) {k r idx N : Nat} {C : String} {T : u_T} {fs : List (Option Nat)} (hc : vwCl[ci]? = some (C, T, N)) (hj : j < N) (hlink : Cond.fieldLink μ.1 idx (T j).1 (T j).2.1 (T j).2.2.1 ∈ x_good) (hd : decode μ.2.1 pc = .ok (.getfield idx, 3)) (hk : decide (k < Λ.1) = true) (hΛ : Λ.2 k = .inr (.inl (ci, fs))) (hf : fs[j]? = some (some r)) (kk : Wx Λ μ d Q (pc + 3) ls (.ref r :: st) I) : Wx Λ μ d Q pc ls (.ref k :: st) I := by
  intro l G A p e s m args below meth c H locs la hC hP hD hS hl
  refine va_get (v := .ref (G.2.2 r)) hC.1 hC.2.1 hC.2.2.2.2.2.1 (x_cls ci _ hc).1 hC.2.2.2.2.1 hC.2.2.2.2.2.2.2.1 hP k (x_obj hk hΛ) hc j hj (hC.2.2.2.2.2.1 _ hlink) (fun _ h => h) ?_ hd (kk l G A p e s m args below meth c H locs la hC hP hD hS hl)
  rw [xfs_at, hf]; simp [xfv]
theorem x_put (ci j : Nat) {k idx N : Nat} {C : String} {T : u_T} {fs : List (Option Nat)} {x : Int32} {ty : FieldType} (hc : vwCl[ci]? = some (C, T, N)) (hj : j < N) (hlink : Cond.fieldLink μ.1 idx (T j).1 (T j).2.1 (T j).2.2.1 ∈ x_good) (hfin : (T j).2.2.2 = false) (hty : parseFieldDescriptor (T j).2.2.1 = some ty) (hn : narrow ty (.int x) = .int x) (hfit : fits ty (.int x) = true) (hd : decode μ.2.1 pc = .ok (.putfield idx, 3)) (hk : decide (k < Λ.1) = true) (hΛ : Λ.2 k = .inr (.inl (ci, fs))) (hf : fs[j]? = some none) (kk : Wx Λ μ d Q (pc + 3) ls st (xup I k j x)) : Wx Λ μ d Q pc ls (.int x :: .ref k :: st) I := by
  intro l G A p e s m args below meth c H locs la hC hP hD hS hl
  obtain ⟨h1, ⟨ty0, h2⟩, h3⟩ := x_cls ci _ hc
  refine va_put (v := .int x) hC.1 hC.2.1 hC.2.2.2.2.2.1 h1 ty0 h2 h3 hC.2.2.2.2.1 hC.2.2.2.2.2.2.2.1 hP hD hS k (x_obj hk hΛ) hc j hj (hC.2.2.2.2.2.1 _ hlink) (fun _ h => h) hfin hty hn hfit (by rw [xfs_len]; exact (List.getElem?_eq_some_iff.mp hf).1) hd (fun H1 locs1 hP1 hD1 hS1 => ?_)
  have e9 : (xw Λ G I).set k (G.2.2 k, .inr (ci, (xfs G.2.2 (I k) 0 fs).set j (.int x))) = xw Λ G (xup I k j x) := xw_set _ (by rw [hΛ]; show Sum.inr (ci, xfs _ _ _ _) = _; rw [xfs_set _ _ hf])
  rw [e9] at hP1 hD1
  exact kk l G A p e s m args below meth c H1 locs1 la hC hP1 hD1 hS1 hl
theorem x_iald {k n p : Nat} {i v : Int32} (hd : decode μ.2.1 pc = .ok (.iaload, 1)) (hk : decide (k < Λ.1) = true) (hΛ : Λ.2 k = .inl (0, n)) (hN : decide (n < 2 ^ 31) = true) (hi : i = nI p) (hp : p < n) (hv : I k p = v) (kk : Wx Λ μ d Q (pc + 1) ls (.int v :: st) I) : Wx Λ μ d Q pc ls (.int i :: .ref k :: st) I := by
  intro l G A p' e s m args below meth c H locs la hC hP hD hS hl
  subst hi
  have h := kk l G A p' e s m args below meth c H locs la hC hP hD hS hl
  have hN := of_decide_eq_true hN
  refine va_iald hC.1 hC.2.1 hC.2.2.2.2.2.2.2.1 hP k 0 (x_arr hk hΛ) rfl (vp_in_nI hp hN) hd ?_
  rw [nI_clamp (by omega), hv]; exact h
theorem x_zald {k n p : Nat} {i v : Int32} (hd : decode μ.2.1 pc = .ok (.baload, 1)) (hk : decide (k < Λ.1) = true) (hΛ : Λ.2 k = .inl (1, n)) (hN : decide (n < 2 ^ 31) = true) (hi : i = nI p) (hp : p < n) (hv : I k p = v) (kk : Wx Λ μ d Q (pc + 1) ls (.int v :: st) I) : Wx Λ μ d Q pc ls (.int i :: .ref k :: st) I := by
  intro l G A p' e s m args below meth c H locs la hC hP hD hS hl
  subst hi
  have h := kk l G A p' e s m args below meth c H locs la hC hP hD hS hl
  have hN := of_decide_eq_true hN
  refine va_zald hC.1 hC.2.1 hC.2.2.2.2.2.2.2.1 hP k 1 (x_arr hk hΛ) rfl (vp_in_nI hp hN) hd ?_
  rw [nI_clamp (by omega), hv]; exact h
theorem x_aald {k n p r : Nat} {g : Nat → Option Nat} {i : Int32} (hd : decode μ.2.1 pc = .ok (.aaload, 1)) (hk : decide (k < Λ.1) = true) (hΛ : Λ.2 k = .inr (.inr (2, n, g))) (hN : decide (n < 2 ^ 31) = true) (hi : i = nI p) (hp : p < n) (hv : g p = some r) (kk : Wx Λ μ d Q (pc + 1) ls (.ref r :: st) I) : Wx Λ μ d Q pc ls (.int i :: .ref k :: st) I := by
  intro l G A p' e s m args below meth c H locs la hC hP hD hS hl
  subst hi
  have h := kk l G A p' e s m args below meth c H locs la hC hP hD hS hl
  have hN := of_decide_eq_true hN
  refine va_aldq hC.1 hC.2.1 hC.2.2.2.2.2.2.2.1 hP k 2 (x_rar hk hΛ) rfl (vp_in_nI hp hN) hd ?_
  rw [nI_clamp (by omega), hv]; exact h
theorem x_iast {k n p : Nat} {i x : Int32} (hd : decode μ.2.1 pc = .ok (.iastore, 1)) (hk : decide (k < Λ.1) = true) (hΛ : Λ.2 k = .inl (0, n)) (hN : decide (n < 2 ^ 31) = true) (hi : i = nI p) (hp : p < n) (kk : Wx Λ μ d Q (pc + 1) ls st (xup I k p x)) : Wx Λ μ d Q pc ls (.int x :: .int i :: .ref k :: st) I := by
  intro l G A p' e s m args below meth c H locs la hC hP hD hS hl
  subst hi
  have hN := of_decide_eq_true hN
  refine va_iast hC.1 hC.2.1 hC.2.2.2.2.2.2.2.1 hP hD hS k 0 (x_arr hk hΛ) rfl (vp_in_nI hp hN) hd (fun H1 locs1 hP1 hD1 hS1 => ?_)
  have e1 : (xw Λ G I).set k (G.2.2 k, .inl (G.2.1 0, n, .inl (upd (I k) (nI p).toNatClampNeg x))) = xw Λ G (xup I k p x) := xw_set _ (by rw [hΛ, nI_clamp (by omega)]; rfl)
  rw [e1] at hP1 hD1
  exact kk l G A p' e s m args below meth c H1 locs1 la hC hP1 hD1 hS1 hl
theorem x_zast {k n p : Nat} {i x : Int32} (hd : decode μ.2.1 pc = .ok (.bastore, 1)) (hk : decide (k < Λ.1) = true) (hΛ : Λ.2 k = .inl (1, n)) (hN : decide (n < 2 ^ 31) = true) (hi : i = nI p) (hp : p < n) (hx : x = 0 ∨ x = 1) (kk : Wx Λ μ d Q (pc + 1) ls st (xup I k p x)) : Wx Λ μ d Q pc ls (.int x :: .int i :: .ref k :: st) I := by
  intro l G A p' e s m args below meth c H locs la hC hP hD hS hl
  subst hi
  have hN := of_decide_eq_true hN
  have hx' : vp_nar .boolean x = x := by rcases hx with rfl | rfl <;> rfl
  refine va_zast hC.1 hC.2.1 hC.2.2.2.2.2.2.2.1 hP hD hS k 1 (x_arr hk hΛ) rfl (vp_in_nI hp hN) hd (fun H1 locs1 hP1 hD1 hS1 => ?_)
  rw [hx'] at hP1 hD1
  have e1 : (xw Λ G I).set k (G.2.2 k, .inl (G.2.1 1, n, .inl (upd (I k) (nI p).toNatClampNeg x))) = xw Λ G (xup I k p x) := xw_set _ (by rw [hΛ, nI_clamp (by omega)]; rfl)
  rw [e1] at hP1 hD1
  exact kk l G A p' e s m args below meth c H1 locs1 la hC hP1 hD1 hS1 hl
theorem x_alen {k n : Nat} (hd : decode μ.2.1 pc = .ok (.arraylength, 1)) (hk : decide (k < Λ.1) = true) (hΛ : Λ.2 k = .inl (0, n)) (kk : Wx Λ μ d Q (pc + 1) ls (.int (nI n) :: st) I) : Wx Λ μ d Q pc ls (.ref k :: st) I := by
  intro l G A p' e s m args below meth c H locs la hC hP hD hS hl
  exact va_alen (v := nI n) hC.1 hC.2.1 hC.2.2.2.2.2.2.2.1 hP k 0 (x_arr hk hΛ) rfl rfl hd (kk l G A p' e s m args below meth c H locs la hC hP hD hS hl)
theorem x_sum (ad : Nat → Nat) (st : List Value) : ((st.map (xv ad)).map fun v => v.category).sum = (st.map fun v => v.category).sum := by
  rw [List.map_map]; congr 2; funext v; exact xv_cat ad v
/-- System.arraycopy of ints -/
theorem x_copy {idx k0 k1 n0 n1 sp dp n : Nat} {i0 i1 i2 : Int32} (hlink : Cond.methodLink μ.1 idx arraycopyName ∈ x_good) (hnat : Cond.native arraycopyName ∈ x_good) (hstat : Cond.static arraycopyName ∈ x_good) (hini : Cond.initialized "java/lang/System" ∈ x_good) (hd : decode μ.2.1 pc = .ok (.invokestatic idx, 3)) (hfr : 1 ≤ d) (hk0 : decide (k0 < Λ.1) = true) (hΛ0 : Λ.2 k0 = .inl (0, n0)) (hk1 : decide (k1 < Λ.1) = true) (hΛ1 : Λ.2 k1 = .inl (0, n1)) (hst : (st.map fun v => v.category).sum ≤ 8) (e0 : i0 = nI sp) (e1 : i1 = nI dp) (e2 : i2 = nI n) (h4 : sp + n ≤ n0) (h5 : dp + n ≤ n1) (hN0 : decide (n0 < 2 ^ 31) = true) (hN1 : decide (n1 < 2 ^ 31) = true) (kk : Wx Λ μ d Q (pc + 3) ls st (va_up I k1 (va_cpy (I k0) (I k1) sp dp n))) : Wx Λ μ d Q pc ls (.int i2 :: .int i1 :: .ref k1 :: .int i0 :: .ref k0 :: st) I := by
  intro l G A p' e s m args below meth c H locs la hC hP hD hS hl
  subst e0; subst e1; subst e2
  have hN0 := of_decide_eq_true hN0
  have hN1 := of_decide_eq_true hN1
  have hw := hC.2.2.2.2.2.1
  refine va_copyi hC.1 hC.2.1 (hC.2.2.2.1.trans hl.1.symm) hC.2.2.2.2.1 (hw _ hlink) (hw _ hnat) (hw _ hstat) (hw _ hini) hC.2.2.2.2.2.2.2.1 hP hD hS k0 k1 0 0 (ty := .int) (x_arr hk0 hΛ0) (x_arr hk1 hΛ1) rfl rfl rfl (nI_pos (by omega)) (nI_pos (by omega)) (nI_pos (by omega)) (by rw [nI_clamp (by omega), nI_clamp (by omega)]; exact h4) (by rw [nI_clamp (by omega), nI_clamp (by omega)]; exact h5) (fun _ _ => rfl) hfr ?_ hd (fun H1 locs1 hP1 hD1 hS1 => ?_)
  · rw [x_sum]
    show _ ≤ 34 * d
    have : nativeFrameWords "java/lang/System" "arraycopy" 5 ≤ 12 := by decide +kernel
    omega
  have e1 : (xw Λ G I).set k1 (G.2.2 k1, .inl (G.2.1 0, n1, .inl (va_cpy (I k0) (I k1) (nI sp).toNatClampNeg (nI dp).toNatClampNeg (nI n).toNatClampNeg))) = xw Λ G (va_up I k1 (va_cpy (I k0) (I k1) sp dp n)) := xw_set _ (by rw [hΛ1, nI_clamp (by omega), nI_clamp (by omega), nI_clamp (by omega)]; rfl)
  rw [e1] at hP1 hD1
  exact kk l G A p' e s m args below meth c H1 locs1 la hC hP1 hD1 hS1 hl
theorem x_min {idx : Nat} {x y v : Int32} (hlink : Cond.methodLink μ.1 idx Lib.Math.min.name ∈ x_good) (hstat : Cond.static Lib.Math.min.name ∈ x_good) (hini : Cond.initialized "java/lang/Math" ∈ x_good) (hcode : Cond.code Lib.Math.min.name Lib.Math.min.code 2 (some .int) ∈ x_good) (hd : decode μ.2.1 pc = .ok (.invokestatic idx, 3)) (hfr : 1 ≤ d) (hst : (st.map fun v => v.category).sum ≤ 8) (hv : (if y < x then y else x) = v) (kk : Wx Λ μ d Q (pc + 3) ls (.int v :: st) I) : Wx Λ μ d Q pc ls (.int y :: .int x :: st) I := by
  intro l G A p' e s m args below meth c H locs la hC hP hD hS hl
  subst hv
  have hw := hC.2.2.2.2.2.1
  exact va_mmin hC.1 hC.2.1 (hC.2.2.2.1.trans hl.1.symm) hC.2.2.2.2.1 (hw _ hlink) (hw _ hstat) (hw _ hini) (hw _ hcode) hfr (by rw [x_sum]; show _ ≤ 34 * d; omega) (Nat.le_refl 0) (Nat.le_refl 0) hd (kk l G A p' e s m args below meth c H locs la hC hP hD hS hl)
end XF
section XC
variable {Λ : xLay} {μ μ' : xM} {d d' : Nat} {Q Q' : Option Value → xMem → Prop} {pc idx n : Nat} {ls st as sk : List Value} {I : xMem} {y : MethodName}
/-- what a call asks of the callee, of the tables alone -/
def xcal (y : MethodName) (μ' : xM) (n : Nat) : Prop := Cond.code y μ'.2.1 μ'.2.2.1 μ'.2.2.2 ∈ x_good ∧ Cond.initialized y.cls ∈ x_good ∧ (y.cls ≠ "java/lang/invoke/MethodHandle" ∧ y.cls ≠ "java/lang/invoke/VarHandle" ∧ (parseMethodDescriptor y.desc).map (fun d => d.parameters.length) = some n) ∧ μ'.2.2.1 ≤ 15
/-- behind a call -/
theorem x_back {l : Launch} {G : xG} {A : Nat → Prop} {p : Program} {e : Env} {s : State} {m : MethodId} {args a : Array Value} {below : List Frame} {meth : Method} {c : Code} {H : Heap} {locs : List Loc} {la : Array Slot} {st0 : List Value} {pc : Nat} {Qz : State → Prop} (hD : va_D A (xw Λ G I)) (hS : va_S A s.heap H locs)
    (hA : ∀ q : Nat, s.heap.size ≤ q → A q)
    (hr : va_Run p l e (xrm d) s m args below meth c H locs 0 0 0 0 (F0 m pc la st0) (st.map (xv G.2.2)) (xQ Λ G (va_A (xw Λ G I) H.size) Q' a) (va_A (xw Λ G I) H.size))
    (kk : ∀ (v : Option Value) (J : xMem) (H1 : Heap) (locs1 : List Loc), Q' v J → va_P G.1 vwCl (xw Λ G J) H1 → va_D A (xw Λ G J) → va_S A s.heap H1 locs1 → W p l e (xrm d) s m args below meth c H1 locs1 0 0 Qz (F0 m (pc + 3) la ((v.toList ++ st).map (xv G.2.2)))) : W p l e (xrm d) s m args below meth c H locs 0 0 Qz (F0 m pc la st0) := by
  intro T hT X
  obtain ⟨v, st₀, t, T', L, h0, X', hL, e1, e2, ⟨⟨v', J, hv, hp, hb⟩, hz, hk⟩, go⟩ := hr T hT X
  have hv : v = v'.map (xv G.2.2) := by simpa using hv
  subst hv
  rw [h0] at hz hk
  have hF : ∀ q, va_A (xw Λ G I) H.size q → A q := by
    rintro q (⟨k, e, h⟩ | h)
    · exact hD.2 k _ h
    · exact hA q (Nat.le_trans hS.1 h)
  obtain ⟨t2, a1, b1⟩ := kk v' J T'.heap (locs ++ L) hp (by rw [e1]; exact hb) (xw_D hD)
    ⟨Nat.le_trans hS.1 (by rw [e1]; exact hz), fun q h1 h2 => by rw [e1, hk q (Nat.lt_of_lt_of_le h1 hS.1) (fun z => h2 (hF q z))]; exact hS.2.1 q h1 h2, fun q hq => by
      rcases List.mem_append.mp hq with h | h
      · exact hS.2.2 q h
      · exact hF _ (hL q h)⟩ T' rfl X'
  refine ⟨t2, go t2 ?_, b1⟩
  have e : (v'.toList ++ st).map (xv G.2.2) = (v'.map (xv G.2.2)).toList ++ st.map (xv G.2.2) := by cases v' <;> simp
  rw [e] at a1
  exact a1
theorem x_blind {G : xG} {vs : List Value} {sz : Nat} : FrameBlind (va_Pc vs (fun U => U.heap.size = sz ∧ va_P G.1 vwCl (xw Λ G I) U.heap ∧ va_K G.1 vwCl (xtys G) U ∧ xNw U ∧ va_D (fun _ => True) (xw Λ G I))) := by
  intro a U g mk h
  obtain ⟨h1, h2, h3, h4, h5, h6⟩ := h
  exact ⟨h1, h2, h3, va_K.moved (u := U) (U := U.calling g mk a) (Vm.Alike.refl U.vm) h4, xNw.same (u := U) (U := U.calling g mk a) rfl h5, h6⟩
theorem x_pre {G : xG} {A : Nat → Prop} {s : State} {H : Heap} {vs : List Value} (hP : va_P G.1 vwCl (xw Λ G I) H) (hD : va_D A (xw Λ G I)) (hK : va_K G.1 vwCl (xtys G) s) (hN : xNw s) : ∀ U : State, U.heap = H → s.WarmedH U.vm → va_Pc vs (fun U => U.heap.size = H.size ∧ va_P G.1 vwCl (xw Λ G I) U.heap ∧ va_K G.1 vwCl (xtys G) U ∧ xNw U ∧ va_D (fun _ => True) (xw Λ G I)) vs.toArray U :=
  fun U hU hW => ⟨rfl, by rw [hU], by rw [hU]; exact hP, va_K.moved hW.alike hK, hN.warm hW, hD.weaken (fun _ _ _ _ => trivial)⟩
theorem x_rm (h : d' + 1 ≤ d) (hm : μ'.2.2.1 ≤ 15) : (xrm d').frames + 1 ≤ (xrm d).frames ∧ 8 + (μ'.2.2.1 + 11) + (xrm d').locals ≤ (xrm d).locals := ⟨h, by show 8 + (μ'.2.2.1 + 11) + 34 * d' ≤ 34 * d; omega⟩
/-- a static method, by an ordinary link -/
theorem x_callS (hl1 : Cond.methodLink μ.1 idx y ∈ x_good) (hl2 : Cond.static y ∈ x_good) (hy : xcal y μ' n) (hM : Cx Λ y μ' d' as I Q') (hd : decode μ.2.1 pc = .ok (.invokestatic idx, 3)) (hdd : d' + 1 ≤ d) (hn : as.length = n) (hsk : as.reverse ++ st = sk) (hst : (st.map fun v => v.category).sum ≤ 8) (kk : ∀ (v : Option Value) (J : xMem), Q' v J → Wx Λ μ d Q (pc + 3) ls (v.toList ++ st) J) : Wx Λ μ d Q pc ls sk I := by
  intro l G A p e s m args below meth c H locs la hC hP hD hS hl
  have hw := hC.2.2.2.2.2.1
  refine x_back hD hS hC.2.2.2.2.2.2.2.2.2 (va_runS (As := as.map (xv G.2.2)) ⟨hC.1, hC.2.1, hC.2.2.2.1, hC.2.2.2.2.1, hw⟩ (hM l G H.size) ⟨callB_of n hw (x_goodIn hy.1) rfl rfl rfl (hw _ hy.2.1) (hw _ hl1) hy.2.2.1 (x_rm hdd hy.2.2.2), hw _ hl2⟩ ⟨x_blind, x_pre hP hD hC.2.2.2.2.2.2.2.1 hC.2.2.2.2.2.2.2.2.1⟩ rfl (by rw [List.length_map]; exact hn) hl.1 ?_ (lv_room (by rw [x_sum]; exact hst)) hd ⟨Nat.le_refl 0, Nat.le_refl 0⟩) (fun v J H1 locs1 h1 h2 h3 h4 => kk v J h1 l G A p e s m args below meth c H1 locs1 la hC h2 h3 h4 hl)
  show sk.map (xv G.2.2) = _
  rw [← hsk, List.map_append, List.map_reverse]
/-- a static method of a nest mate -/
theorem x_callSN (hl1 : ∀ s, xNw s → va_Nw (.methodLinkNest μ.1 idx y "GraveRows") s) (hl2 : Cond.static y ∈ x_good) (hy : xcal y μ' n) (hM : Cx Λ y μ' d' as I Q') (hd : decode μ.2.1 pc = .ok (.invokestatic idx, 3)) (hdd : d' + 1 ≤ d) (hn : as.length = n) (hsk : as.reverse ++ st = sk) (hst : (st.map fun v => v.category).sum ≤ 8) (kk : ∀ (v : Option Value) (J : xMem), Q' v J → Wx Λ μ d Q (pc + 3) ls (v.toList ++ st) J) : Wx Λ μ d Q pc ls sk I := by
  intro l G A p e s m args below meth c H locs la hC hP hD hS hl
  have hw := hC.2.2.2.2.2.1
  refine x_back hD hS hC.2.2.2.2.2.2.2.2.2 (va_runSN (As := as.map (xv G.2.2)) ⟨hC.1, hC.2.1, hC.2.2.2.1, hC.2.2.2.2.1, hw⟩ (hM l G H.size) ⟨va_cnB n hw (x_goodIn hy.1) rfl rfl rfl (hl1 s hC.2.2.2.2.2.2.2.2.1) (hw _ hy.2.1) hy.2.2.1 (x_rm hdd hy.2.2.2), hw _ hl2, trivial⟩ ⟨x_blind, x_pre hP hD hC.2.2.2.2.2.2.2.1 hC.2.2.2.2.2.2.2.2.1⟩ rfl (by rw [List.length_map]; exact hn) hl.1 ?_ (lv_room (by rw [x_sum]; exact hst)) hd ⟨Nat.le_refl 0, Nat.le_refl 0⟩) (fun v J H1 locs1 h1 h2 h3 h4 => kk v J h1 l G A p e s m args below meth c H1 locs1 la hC h2 h3 h4 hl)
  show sk.map (xv G.2.2) = _
  rw [← hsk, List.map_append, List.map_reverse]
/-- a method of an object whose class is known -/
theorem x_callV (ci : Nat) {k N : Nat} {T : u_T} {fs : List (Option Nat)} (hl1 : Cond.methodLink μ.1 idx y ∈ x_good) (hl2 : Cond.instanceMethod y ∈ x_good) (hl3 : Cond.selects y.cls y y ∈ x_good) (hy : xcal y μ' n) (hc : vwCl[ci]? = some (y.cls, T, N)) (hM : Cx Λ y μ' d' (.ref k :: as) I Q') (hd : decode μ.2.1 pc = .ok (.invokevirtual idx, 3)) (hdd : d' + 1 ≤ d) (hk : decide (k < Λ.1) = true) (hΛ : Λ.2 k = .inr (.inl (ci, fs))) (hn : as.length = n) (hsk : as.reverse ++ .ref k :: st = sk) (hst : (st.map fun v => v.category).sum ≤ 8) (kk : ∀ (v : Option Value) (J : xMem), Q' v J → Wx Λ μ d Q (pc + 3) ls (v.toList ++ st) J) : Wx Λ μ d Q pc ls sk I := by
  intro l G A p e s m args below meth c H locs la hC hP hD hS hl
  have hw := hC.2.2.2.2.2.1
  have hK := hC.2.2.2.2.2.2.2.1
  refine x_back hD hS hC.2.2.2.2.2.2.2.2.2 (va_runV (As := as.map (xv G.2.2)) (C := y.cls) ⟨hC.1, hC.2.1, hC.2.2.2.1, hC.2.2.2.2.1, hw⟩ (hM l G H.size) ⟨callB_of n hw (x_goodIn hy.1) rfl rfl rfl (hw _ hy.2.1) (hw _ hl1) hy.2.2.1 (x_rm hdd hy.2.2.2), hw _ hl2, hw _ hl3⟩ ⟨x_blind, va_recv hK hP (ci := ci) (q0 := k) hc (x_obj hk hΛ), x_pre hP hD hK hC.2.2.2.2.2.2.2.2.1⟩ rfl (by rw [List.length_map]; exact hn) hl.1 ?_ (lv_room (by rw [x_sum]; exact hst)) hd ⟨Nat.le_refl 0, Nat.le_refl 0⟩) (fun v J H1 locs1 h1 h2 h3 h4 => kk v J h1 l G A p e s m args below meth c H1 locs1 la hC h2 h3 h4 hl)
  show sk.map (xv G.2.2) = _
  rw [← hsk, List.map_append, List.map_reverse]; rfl
/-- a method that overrides an abstract one -/
theorem x_callA (ci : Nat) {k N : Nat} {T : u_T} {fs : List (Option Nat)} (hl1 : Cond.methodLink μ.1 idx y_CostNext ∈ x_good) (hl2 : Cond.sameMethod y_CostNext.cls "GraveRows$Cost" y_CostNext.name y_CostNext.desc ∈ x_good) (hl3 : Cond.selects y.cls y_CostNext y ∈ x_good) (hl4 : Cond.instanceMethod y ∈ x_good) (hy : xcal y μ' 3) (hc : vwCl[ci]? = some (y.cls, T, N)) (hM : Cx Λ y μ' d' (.ref k :: as) I Q') (hd : decode μ.2.1 pc = .ok (.invokevirtual idx, 3)) (hdd : d' + 1 ≤ d) (hk : decide (k < Λ.1) = true) (hΛ : Λ.2 k = .inr (.inl (ci, fs))) (hn : as.length = 3) (hsk : as.reverse ++ .ref k :: st = sk) (hst : (st.map fun v => v.category).sum ≤ 8) (kk : ∀ (v : Option Value) (J : xMem), Q' v J → Wx Λ μ d Q (pc + 3) ls (v.toList ++ st) J) : Wx Λ μ d Q pc ls sk I := by
  intro l G A p e s m args below meth c H locs la hC hP hD hS hl
  have hw := hC.2.2.2.2.2.1
  have hK := hC.2.2.2.2.2.2.2.1
  have hN := hC.2.2.2.2.2.2.2.2.1
  have hG : GoodIn x_good (va_wsU μ.1 idx y.cls "GraveRows$Cost" y_CostNext y (Cond.code y μ'.2.1 μ'.2.2.1 μ'.2.2.2 :: x_good)) := by
    intro w h
    have ok : ∀ {w : Cond}, w ∈ x_good → w ∈ x_good ∧ ((w.onTables && w.keeps) = true ∨ ∃ ty, w = .arrayClass ty) := fun h => ⟨h, good_of_word (List.mem_filter.mp h).2⟩
    unfold va_wsU at h
    rcases List.mem_append.mp h with h | h
    · simp only [List.mem_cons, List.not_mem_nil, or_false] at h
      rcases h with rfl | rfl | rfl | rfl | rfl
      · exact ok hl1
      · exact ok hl2
      · exact ok hl3
      · exact ok hl4
      · exact ok hy.2.1
    · exact x_goodIn hy.1 w h
  refine x_back hD hS hC.2.2.2.2.2.2.2.2.2 (va_runU (As := as.map (xv G.2.2)) (C := y.cls) (x := y_CostNext) (owner := "GraveRows$Cost") ⟨hC.1, hC.2.1, hC.2.2.2.1, hC.2.2.2.2.1, hw⟩ (hM l G H.size) (va_cwA 3 hw hG rfl rfl rfl hN.2.2 (by decide +kernel) (x_rm hdd hy.2.2.2)) ⟨x_blind, va_recv hK hP (ci := ci) (q0 := k) hc (x_obj hk hΛ), x_pre hP hD hK hN⟩ rfl (by rw [List.length_map]; exact hn) hl.1 ?_ (lv_room (by rw [x_sum]; exact hst)) hd ⟨Nat.le_refl 0, Nat.le_refl 0⟩) (fun v J H1 locs1 h1 h2 h3 h4 => kk v J h1 l G A p e s m args below meth c H1 locs1 la hC h2 h3 h4 hl)
  show sk.map (xv G.2.2) = _
  rw [← hsk, List.map_append, List.map_reverse]; rfl
end XC
section XI
variable {Λ : xLay} {μ μ' : xM} {d d' : Nat} {Q : Option Value → xMem → Prop} {pc idx n : Nat} {ls st as sk : List Value} {I : xMem} {y : MethodName}
/-- answers: a number, nothing, a cell -/
def xRi (P : Int32 → xMem → Prop) : Option Value → xMem → Prop := fun v J => ∃ r : Int32, v = some (.int r) ∧ P r J
def xRv (P : xMem → Prop) : Option Value → xMem → Prop := fun v J => v = none ∧ P J
def xRr (P : Nat → xMem → Prop) : Option Value → xMem → Prop := fun v J => ∃ r : Nat, v = some (.ref r) ∧ P r J
theorem x_ireti {P : Int32 → xMem → Prop} {v : Int32} (hd : decode μ.2.1 pc = .ok (.ireturn, 1)) (hr : μ.2.2.2 = some .int) (hq : P v I) : Wx Λ μ d (xRi P) pc ls [.int v] I := x_iret hd hr ⟨v, rfl, hq⟩
theorem x_zreti {P : Int32 → xMem → Prop} {v : Int32} (hd : decode μ.2.1 pc = .ok (.ireturn, 1)) (hr : μ.2.2.2 = some .boolean) (hv : v = 0 ∨ v = 1) (hq : P v I) : Wx Λ μ d (xRi P) pc ls [.int v] I := x_zret hd hr hv ⟨v, rfl, hq⟩
theorem x_vretv {P : xMem → Prop} (hd : decode μ.2.1 pc = .ok (.return_, 1)) (hr : μ.2.2.2 = none) (hq : P I) : Wx Λ μ d (xRv P) pc ls [] I := x_vret hd hr ⟨rfl, hq⟩
theorem x_aretr {P : Nat → xMem → Prop} {k : Nat} {rt : String} (hd : decode μ.2.1 pc = .ok (.areturn, 1)) (hr : μ.2.2.2 = some (.object rt)) (hq : P k I) : Wx Λ μ d (xRr P) pc ls [.ref k] I := x_aret hd hr ⟨k, rfl, hq⟩
theorem x_callSi {P : Int32 → xMem → Prop} (hl1 : Cond.methodLink μ.1 idx y ∈ x_good) (hl2 : Cond.static y ∈ x_good) (hy : xcal y μ' n) (hM : Cx Λ y μ' d' as I (xRi P)) (hd : decode μ.2.1 pc = .ok (.invokestatic idx, 3)) (hdd : d' + 1 ≤ d) (hn : as.length = n) (hsk : as.reverse ++ st = sk) (hst : (st.map fun v => v.category).sum ≤ 8) (kk : ∀ (r : Int32) (J : xMem), P r J → Wx Λ μ d Q (pc + 3) ls (.int r :: st) J) : Wx Λ μ d Q pc ls sk I :=
  x_callS hl1 hl2 hy hM hd hdd hn hsk hst (fun v J h => by obtain ⟨r, rfl, h⟩ := h; exact kk r J h)
theorem x_callSNi {P : Int32 → xMem → Prop} (hl1 : ∀ s, xNw s → va_Nw (.methodLinkNest μ.1 idx y "GraveRows") s) (hl2 : Cond.static y ∈ x_good) (hy : xcal y μ' n) (hM : Cx Λ y μ' d' as I (xRi P)) (hd : decode μ.2.1 pc = .ok (.invokestatic idx, 3)) (hdd : d' + 1 ≤ d) (hn : as.length = n) (hsk : as.reverse ++ st = sk) (hst : (st.map fun v => v.category).sum ≤ 8) (kk : ∀ (r : Int32) (J : xMem), P r J → Wx Λ μ d Q (pc + 3) ls (.int r :: st) J) : Wx Λ μ d Q pc ls sk I :=
  x_callSN hl1 hl2 hy hM hd hdd hn hsk hst (fun v J h => by obtain ⟨r, rfl, h⟩ := h; exact kk r J h)
theorem x_callVi (ci : Nat) {P : Int32 → xMem → Prop} {k N : Nat} {T : u_T} {fs : List (Option Nat)} (hl1 : Cond.methodLink μ.1 idx y ∈ x_good) (hl2 : Cond.instanceMethod y ∈ x_good) (hl3 : Cond.selects y.cls y y ∈ x_good) (hy : xcal y μ' n) (hc : vwCl[ci]? = some (y.cls, T, N)) (hM : Cx Λ y μ' d' (.ref k :: as) I (xRi P)) (hd : decode μ.2.1 pc = .ok (.invokevirtual idx, 3)) (hdd : d' + 1 ≤ d) (hk : decide (k < Λ.1) = true) (hΛ : Λ.2 k = .inr (.inl (ci, fs))) (hn : as.length = n) (hsk : as.reverse ++ .ref k :: st = sk) (hst : (st.map fun v => v.category).sum ≤ 8) (kk : ∀ (r : Int32) (J : xMem), P r J → Wx Λ μ d Q (pc + 3) ls (.int r :: st) J) : Wx Λ μ d Q pc ls sk I :=
  x_callV ci hl1 hl2 hl3 hy hc hM hd hdd hk hΛ hn hsk hst (fun v J h => by obtain ⟨r, rfl, h⟩ := h; exact kk r J h)
theorem x_callVv (ci : Nat) {P : xMem → Prop} {k N : Nat} {T : u_T} {fs : List (Option Nat)} (hl1 : Cond.methodLink μ.1 idx y ∈ x_good) (hl2 : Cond.instanceMethod y ∈ x_good) (hl3 : Cond.selects y.cls y y ∈ x_good) (hy : xcal y μ' n) (hc : vwCl[ci]? = some (y.cls, T, N)) (hM : Cx Λ y μ' d' (.ref k :: as) I (xRv P)) (hd : decode μ.2.1 pc = .ok (.invokevirtual idx, 3)) (hdd : d' + 1 ≤ d) (hk : decide (k < Λ.1) = true) (hΛ : Λ.2 k = .inr (.inl (ci, fs))) (hn : as.length = n) (hsk : as.reverse ++ .ref k :: st = sk) (hst : (st.map fun v => v.category).sum ≤ 8) (kk : ∀ (J : xMem), P J → Wx Λ μ d Q (pc + 3) ls st J) : Wx Λ μ d Q pc ls sk I :=
  x_callV ci hl1 hl2 hl3 hy hc hM hd hdd hk hΛ hn hsk hst (fun v J h => by obtain ⟨rfl, h⟩ := h; exact kk J h)
theorem x_callVr (ci : Nat) {P : Nat → xMem → Prop} {k N : Nat} {T : u_T} {fs : List (Option Nat)} (hl1 : Cond.methodLink μ.1 idx y ∈ x_good) (hl2 : Cond.instanceMethod y ∈ x_good) (hl3 : Cond.selects y.cls y y ∈ x_good) (hy : xcal y μ' n) (hc : vwCl[ci]? = some (y.cls, T, N)) (hM : Cx Λ y μ' d' (.ref k :: as) I (xRr P)) (hd : decode μ.2.1 pc = .ok (.invokevirtual idx, 3)) (hdd : d' + 1 ≤ d) (hk : decide (k < Λ.1) = true) (hΛ : Λ.2 k = .inr (.inl (ci, fs))) (hn : as.length = n) (hsk : as.reverse ++ .ref k :: st = sk) (hst : (st.map fun v => v.category).sum ≤ 8) (kk : ∀ (r : Nat) (J : xMem), P r J → Wx Λ μ d Q (pc + 3) ls (.ref r :: st) J) : Wx Λ μ d Q pc ls sk I :=
  x_callV ci hl1 hl2 hl3 hy hc hM hd hdd hk hΛ hn hsk hst (fun v J h => by obtain ⟨r, rfl, h⟩ := h; exact kk r J h)
theorem x_callAi (ci : Nat) {P : Int32 → xMem → Prop} {k N : Nat} {T : u_T} {fs : List (Option Nat)} (hl1 : Cond.methodLink μ.1 idx y_CostNext ∈ x_good) (hl2 : Cond.sameMethod y_CostNext.cls "GraveRows$Cost" y_CostNext.name y_CostNext.desc ∈ x_good) (hl3 : Cond.selects y.cls y_CostNext y ∈ x_good) (hl4 : Cond.instanceMethod y ∈ x_good) (hy : xcal y μ' 3) (hc : vwCl[ci]? = some (y.cls, T, N)) (hM : Cx Λ y μ' d' (.ref k :: as) I (xRi P)) (hd : decode μ.2.1 pc = .ok (.invokevirtual idx, 3)) (hdd : d' + 1 ≤ d) (hk : decide (k < Λ.1) = true) (hΛ : Λ.2 k = .inr (.inl (ci, fs))) (hn : as.length = 3) (hsk : as.reverse ++ .ref k :: st = sk) (hst : (st.map fun v => v.category).sum ≤ 8) (kk : ∀ (r : Int32) (J : xMem), P r J → Wx Λ μ d Q (pc + 3) ls (.int r :: st) J) : Wx Λ μ d Q pc ls sk I :=
  x_callA ci hl1 hl2 hl3 hl4 hy hc hM hd hdd hk hΛ hn hsk hst (fun v J h => by obtain ⟨r, rfl, h⟩ := h; exact kk r J h)
end XI
end
