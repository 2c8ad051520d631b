section
-- ===== PART A: goes FIRST, ahead of the names: the tables' words, and 'selects' of the private methods out of them =====
/-- a private method of a class that the tables say can be made, by its rows of tables_1 -/
def lw_okq (q : MethodName × Nat) : Prop := (q.1.cls ≠ "java/lang/invoke/MethodHandle" ∧ q.1.cls ≠ "java/lang/invoke/VarHandle") ∧ Cond.instantiable q.1.cls q.2 ∈ tables_1 ∧ Cond.privateMethod q.1 ∈ tables_1 ∧ Cond.instanceMethod q.1 ∈ tables_1
theorem lw_p0 : lw_okq (⟨"GraveRows", "forgetBest", "()V"⟩, 6) := ⟨⟨by decide +kernel, by decide +kernel⟩, List.mem_of_getElem? (i := 12) (by decide +kernel), List.mem_of_getElem? (i := 154) (by decide +kernel), List.mem_of_getElem? (i := 155) (by decide +kernel)⟩
theorem lw_p1 : lw_okq (⟨"GraveRows", "isGrave", "(I)Z"⟩, 6) := ⟨⟨by decide +kernel, by decide +kernel⟩, List.mem_of_getElem? (i := 12) (by decide +kernel), List.mem_of_getElem? (i := 162) (by decide +kernel), List.mem_of_getElem? (i := 163) (by decide +kernel)⟩
theorem lw_p2 : lw_okq (⟨"GraveRows", "knownBest", "()LGraveRows$BestOrders;"⟩, 6) := ⟨⟨by decide +kernel, by decide +kernel⟩, List.mem_of_getElem? (i := 12) (by decide +kernel), List.mem_of_getElem? (i := 220) (by decide +kernel), List.mem_of_getElem? (i := 221) (by decide +kernel)⟩
theorem lw_p3 : lw_okq (⟨"GraveRows$BestOrders", "openAllowed", "(LGraveRows$Dig;)V"⟩, 14) := ⟨⟨by decide +kernel, by decide +kernel⟩, List.mem_of_getElem? (i := 50) (by decide +kernel), List.mem_of_getElem? (i := 228) (by decide +kernel), List.mem_of_getElem? (i := 229) (by decide +kernel)⟩
theorem lw_p4 : lw_okq (⟨"GraveRows$BestOrders", "costRest", "(LGraveRows$Cost;)V"⟩, 14) := ⟨⟨by decide +kernel, by decide +kernel⟩, List.mem_of_getElem? (i := 50) (by decide +kernel), List.mem_of_getElem? (i := 240) (by decide +kernel), List.mem_of_getElem? (i := 241) (by decide +kernel)⟩
theorem lw_p5 : lw_okq (⟨"GraveRows$BestOrders", "cheapestOn", "(LGraveRows$Cost;II)I"⟩, 14) := ⟨⟨by decide +kernel, by decide +kernel⟩, List.mem_of_getElem? (i := 50) (by decide +kernel), List.mem_of_getElem? (i := 247) (by decide +kernel), List.mem_of_getElem? (i := 248) (by decide +kernel)⟩
theorem lw_p6 : lw_okq (⟨"GraveRows$BestOrders", "keepCheapest", "(LGraveRows$Cost;)V"⟩, 14) := ⟨⟨by decide +kernel, by decide +kernel⟩, List.mem_of_getElem? (i := 50) (by decide +kernel), List.mem_of_getElem? (i := 271) (by decide +kernel), List.mem_of_getElem? (i := 272) (by decide +kernel)⟩
theorem lw_p7 : lw_okq (⟨"GraveRows$BestOrders", "cheapestNext", "(LGraveRows$Cost;II)I"⟩, 14) := ⟨⟨by decide +kernel, by decide +kernel⟩, List.mem_of_getElem? (i := 50) (by decide +kernel), List.mem_of_getElem? (i := 275) (by decide +kernel), List.mem_of_getElem? (i := 276) (by decide +kernel)⟩
theorem lw_p8 : lw_okq (⟨"GraveRows$BestOrders", "countWaysOn", "()V"⟩, 14) := ⟨⟨by decide +kernel, by decide +kernel⟩, List.mem_of_getElem? (i := 50) (by decide +kernel), List.mem_of_getElem? (i := 279) (by decide +kernel), List.mem_of_getElem? (i := 280) (by decide +kernel)⟩
theorem lw_p9 : lw_okq (⟨"GraveRows$BestOrders", "sumOver", "([III)I"⟩, 14) := ⟨⟨by decide +kernel, by decide +kernel⟩, List.mem_of_getElem? (i := 50) (by decide +kernel), List.mem_of_getElem? (i := 283) (by decide +kernel), List.mem_of_getElem? (i := 284) (by decide +kernel)⟩
theorem lw_p10 : lw_okq (⟨"GraveRows$BestOrders", "countWaysTo", "()V"⟩, 14) := ⟨⟨by decide +kernel, by decide +kernel⟩, List.mem_of_getElem? (i := 50) (by decide +kernel), List.mem_of_getElem? (i := 287) (by decide +kernel), List.mem_of_getElem? (i := 288) (by decide +kernel)⟩
theorem lw_p11 : lw_okq (⟨"GraveRows$BestOrders", "passOn", "(II)V"⟩, 14) := ⟨⟨by decide +kernel, by decide +kernel⟩, List.mem_of_getElem? (i := 50) (by decide +kernel), List.mem_of_getElem? (i := 295) (by decide +kernel), List.mem_of_getElem? (i := 296) (by decide +kernel)⟩
theorem lw_p12 : lw_okq (⟨"GraveRows", "isPlace", "(I)Z"⟩, 6) := ⟨⟨by decide +kernel, by decide +kernel⟩, List.mem_of_getElem? (i := 12) (by decide +kernel), List.mem_of_getElem? (i := 321) (by decide +kernel), List.mem_of_getElem? (i := 322) (by decide +kernel)⟩
theorem lw_p13 : lw_okq (⟨"GraveRows$BestOrders", "ordersWithNext", "(II)I"⟩, 14) := ⟨⟨by decide +kernel, by decide +kernel⟩, List.mem_of_getElem? (i := 50) (by decide +kernel), List.mem_of_getElem? (i := 337) (by decide +kernel), List.mem_of_getElem? (i := 338) (by decide +kernel)⟩
theorem lw_p14 : lw_okq (⟨"GraveRows$BestOrders", "ordersBy", "(II)I"⟩, 14) := ⟨⟨by decide +kernel, by decide +kernel⟩, List.mem_of_getElem? (i := 50) (by decide +kernel), List.mem_of_getElem? (i := 353) (by decide +kernel), List.mem_of_getElem? (i := 354) (by decide +kernel)⟩
theorem lw_p15 : lw_okq (⟨"GraveRows$BestOrders", "liesTogetherInAll", "(I)Z"⟩, 14) := ⟨⟨by decide +kernel, by decide +kernel⟩, List.mem_of_getElem? (i := 50) (by decide +kernel), List.mem_of_getElem? (i := 389) (by decide +kernel), List.mem_of_getElem? (i := 390) (by decide +kernel)⟩
def lw_privs_1 : List (MethodName × Nat) := [(⟨"GraveRows", "forgetBest", "()V"⟩, 6), (⟨"GraveRows", "isGrave", "(I)Z"⟩, 6), (⟨"GraveRows", "knownBest", "()LGraveRows$BestOrders;"⟩, 6), (⟨"GraveRows$BestOrders", "openAllowed", "(LGraveRows$Dig;)V"⟩, 14), (⟨"GraveRows$BestOrders", "costRest", "(LGraveRows$Cost;)V"⟩, 14), (⟨"GraveRows$BestOrders", "cheapestOn", "(LGraveRows$Cost;II)I"⟩, 14), (⟨"GraveRows$BestOrders", "keepCheapest", "(LGraveRows$Cost;)V"⟩, 14), (⟨"GraveRows$BestOrders", "cheapestNext", "(LGraveRows$Cost;II)I"⟩, 14), (⟨"GraveRows$BestOrders", "countWaysOn", "()V"⟩, 14), (⟨"GraveRows$BestOrders", "sumOver", "([III)I"⟩, 14), (⟨"GraveRows$BestOrders", "countWaysTo", "()V"⟩, 14), (⟨"GraveRows$BestOrders", "passOn", "(II)V"⟩, 14), (⟨"GraveRows", "isPlace", "(I)Z"⟩, 6), (⟨"GraveRows$BestOrders", "ordersWithNext", "(II)I"⟩, 14), (⟨"GraveRows$BestOrders", "ordersBy", "(II)I"⟩, 14), (⟨"GraveRows$BestOrders", "liesTogetherInAll", "(I)Z"⟩, 14)]
theorem lw_r1 : ∀ q ∈ lw_privs_1, lw_okq q := List.forall_mem_cons.mpr ⟨lw_p0, List.forall_mem_cons.mpr ⟨lw_p1, List.forall_mem_cons.mpr ⟨lw_p2, List.forall_mem_cons.mpr ⟨lw_p3, List.forall_mem_cons.mpr ⟨lw_p4, List.forall_mem_cons.mpr ⟨lw_p5, List.forall_mem_cons.mpr ⟨lw_p6, List.forall_mem_cons.mpr ⟨lw_p7, List.forall_mem_cons.mpr ⟨lw_p8, List.forall_mem_cons.mpr ⟨lw_p9, List.forall_mem_cons.mpr ⟨lw_p10, List.forall_mem_cons.mpr ⟨lw_p11, List.forall_mem_cons.mpr ⟨lw_p12, List.forall_mem_cons.mpr ⟨lw_p13, List.forall_mem_cons.mpr ⟨lw_p14, List.forall_mem_cons.mpr ⟨lw_p15, fun _ h => absurd h List.not_mem_nil⟩⟩⟩⟩⟩⟩⟩⟩⟩⟩⟩⟩⟩⟩⟩⟩
theorem lw_p16 : lw_okq (⟨"GraveRows", "lineIsBest", "()Z"⟩, 6) := ⟨⟨by decide +kernel, by decide +kernel⟩, List.mem_of_getElem? (i := 12) (by decide +kernel), List.mem_of_getElem? (i := 405) (by decide +kernel), List.mem_of_getElem? (i := 406) (by decide +kernel)⟩
theorem lw_p17 : lw_okq (⟨"GraveRows", "makeBestSwap", "()I"⟩, 6) := ⟨⟨by decide +kernel, by decide +kernel⟩, List.mem_of_getElem? (i := 12) (by decide +kernel), List.mem_of_getElem? (i := 421) (by decide +kernel), List.mem_of_getElem? (i := 422) (by decide +kernel)⟩
theorem lw_p18 : lw_okq (⟨"GraveRows", "knowWay", "(LGraveRows$BestOrders;)V"⟩, 6) := ⟨⟨by decide +kernel, by decide +kernel⟩, List.mem_of_getElem? (i := 12) (by decide +kernel), List.mem_of_getElem? (i := 439) (by decide +kernel), List.mem_of_getElem? (i := 440) (by decide +kernel)⟩
theorem lw_p19 : lw_okq (⟨"GraveRowsModel", "resetRow", "()V"⟩, 17) := ⟨⟨by decide +kernel, by decide +kernel⟩, List.mem_of_getElem? (i := 482) (by decide +kernel), List.mem_of_getElem? (i := 488) (by decide +kernel), List.mem_of_getElem? (i := 489) (by decide +kernel)⟩
theorem lw_p20 : lw_okq (⟨"GraveRowsModel", "isGrave", "(I)Z"⟩, 17) := ⟨⟨by decide +kernel, by decide +kernel⟩, List.mem_of_getElem? (i := 482) (by decide +kernel), List.mem_of_getElem? (i := 556) (by decide +kernel), List.mem_of_getElem? (i := 557) (by decide +kernel)⟩
theorem lw_p21 : lw_okq (⟨"GraveRowsModel", "knownPairs", "()I"⟩, 17) := ⟨⟨by decide +kernel, by decide +kernel⟩, List.mem_of_getElem? (i := 482) (by decide +kernel), List.mem_of_getElem? (i := 570) (by decide +kernel), List.mem_of_getElem? (i := 571) (by decide +kernel)⟩
theorem lw_p22 : lw_okq (⟨"GraveRowsModel", "placeInRow", "(I)I"⟩, 17) := ⟨⟨by decide +kernel, by decide +kernel⟩, List.mem_of_getElem? (i := 482) (by decide +kernel), List.mem_of_getElem? (i := 581) (by decide +kernel), List.mem_of_getElem? (i := 582) (by decide +kernel)⟩
theorem lw_p23 : lw_okq (⟨"GraveRowsModel", "layFewest", "()V"⟩, 17) := ⟨⟨by decide +kernel, by decide +kernel⟩, List.mem_of_getElem? (i := 482) (by decide +kernel), List.mem_of_getElem? (i := 593) (by decide +kernel), List.mem_of_getElem? (i := 594) (by decide +kernel)⟩
theorem lw_p24 : lw_okq (⟨"GraveRowsModel", "begin", "()V"⟩, 17) := ⟨⟨by decide +kernel, by decide +kernel⟩, List.mem_of_getElem? (i := 482) (by decide +kernel), List.mem_of_getElem? (i := 597) (by decide +kernel), List.mem_of_getElem? (i := 598) (by decide +kernel)⟩
theorem lw_p25 : lw_okq (⟨"GraveRowsModel", "isAllowed", "()Z"⟩, 17) := ⟨⟨by decide +kernel, by decide +kernel⟩, List.mem_of_getElem? (i := 482) (by decide +kernel), List.mem_of_getElem? (i := 601) (by decide +kernel), List.mem_of_getElem? (i := 602) (by decide +kernel)⟩
theorem lw_p26 : lw_okq (⟨"GraveRowsModel", "breaksNow", "()I"⟩, 17) := ⟨⟨by decide +kernel, by decide +kernel⟩, List.mem_of_getElem? (i := 482) (by decide +kernel), List.mem_of_getElem? (i := 605) (by decide +kernel), List.mem_of_getElem? (i := 606) (by decide +kernel)⟩
theorem lw_p27 : lw_okq (⟨"GraveRowsModel", "breaksOf", "(I)I"⟩, 17) := ⟨⟨by decide +kernel, by decide +kernel⟩, List.mem_of_getElem? (i := 482) (by decide +kernel), List.mem_of_getElem? (i := 609) (by decide +kernel), List.mem_of_getElem? (i := 610) (by decide +kernel)⟩
theorem lw_p28 : lw_okq (⟨"GraveRowsModel", "goOn", "()Z"⟩, 17) := ⟨⟨by decide +kernel, by decide +kernel⟩, List.mem_of_getElem? (i := 482) (by decide +kernel), List.mem_of_getElem? (i := 613) (by decide +kernel), List.mem_of_getElem? (i := 614) (by decide +kernel)⟩
theorem lw_p29 : lw_okq (⟨"GraveRowsModel", "change", "(II)V"⟩, 17) := ⟨⟨by decide +kernel, by decide +kernel⟩, List.mem_of_getElem? (i := 482) (by decide +kernel), List.mem_of_getElem? (i := 617) (by decide +kernel), List.mem_of_getElem? (i := 618) (by decide +kernel)⟩
theorem lw_p30 : lw_okq (⟨"GraveRowsModel", "lookAtAll", "(I)V"⟩, 17) := ⟨⟨by decide +kernel, by decide +kernel⟩, List.mem_of_getElem? (i := 482) (by decide +kernel), List.mem_of_getElem? (i := 625) (by decide +kernel), List.mem_of_getElem? (i := 626) (by decide +kernel)⟩
theorem lw_p31 : lw_okq (⟨"GraveRowsModel", "isBest", "()Z"⟩, 17) := ⟨⟨by decide +kernel, by decide +kernel⟩, List.mem_of_getElem? (i := 482) (by decide +kernel), List.mem_of_getElem? (i := 629) (by decide +kernel), List.mem_of_getElem? (i := 630) (by decide +kernel)⟩
def lw_privs_2 : List (MethodName × Nat) := [(⟨"GraveRows", "lineIsBest", "()Z"⟩, 6), (⟨"GraveRows", "makeBestSwap", "()I"⟩, 6), (⟨"GraveRows", "knowWay", "(LGraveRows$BestOrders;)V"⟩, 6), (⟨"GraveRowsModel", "resetRow", "()V"⟩, 17), (⟨"GraveRowsModel", "isGrave", "(I)Z"⟩, 17), (⟨"GraveRowsModel", "knownPairs", "()I"⟩, 17), (⟨"GraveRowsModel", "placeInRow", "(I)I"⟩, 17), (⟨"GraveRowsModel", "layFewest", "()V"⟩, 17), (⟨"GraveRowsModel", "begin", "()V"⟩, 17), (⟨"GraveRowsModel", "isAllowed", "()Z"⟩, 17), (⟨"GraveRowsModel", "breaksNow", "()I"⟩, 17), (⟨"GraveRowsModel", "breaksOf", "(I)I"⟩, 17), (⟨"GraveRowsModel", "goOn", "()Z"⟩, 17), (⟨"GraveRowsModel", "change", "(II)V"⟩, 17), (⟨"GraveRowsModel", "lookAtAll", "(I)V"⟩, 17), (⟨"GraveRowsModel", "isBest", "()Z"⟩, 17)]
theorem lw_r2 : ∀ q ∈ lw_privs_2, lw_okq q := List.forall_mem_cons.mpr ⟨lw_p16, List.forall_mem_cons.mpr ⟨lw_p17, List.forall_mem_cons.mpr ⟨lw_p18, List.forall_mem_cons.mpr ⟨lw_p19, List.forall_mem_cons.mpr ⟨lw_p20, List.forall_mem_cons.mpr ⟨lw_p21, List.forall_mem_cons.mpr ⟨lw_p22, List.forall_mem_cons.mpr ⟨lw_p23, List.forall_mem_cons.mpr ⟨lw_p24, List.forall_mem_cons.mpr ⟨lw_p25, List.forall_mem_cons.mpr ⟨lw_p26, List.forall_mem_cons.mpr ⟨lw_p27, List.forall_mem_cons.mpr ⟨lw_p28, List.forall_mem_cons.mpr ⟨lw_p29, List.forall_mem_cons.mpr ⟨lw_p30, List.forall_mem_cons.mpr ⟨lw_p31, fun _ h => absurd h List.not_mem_nil⟩⟩⟩⟩⟩⟩⟩⟩⟩⟩⟩⟩⟩⟩⟩⟩
theorem lw_p32 : lw_okq (⟨"GraveRowsModel", "look", "()V"⟩, 17) := ⟨⟨by decide +kernel, by decide +kernel⟩, List.mem_of_getElem? (i := 482) (by decide +kernel), List.mem_of_getElem? (i := 633) (by decide +kernel), List.mem_of_getElem? (i := 634) (by decide +kernel)⟩
theorem lw_p33 : lw_okq (⟨"GraveRowsModel", "lookAtSteps", "()V"⟩, 17) := ⟨⟨by decide +kernel, by decide +kernel⟩, List.mem_of_getElem? (i := 482) (by decide +kernel), List.mem_of_getElem? (i := 637) (by decide +kernel), List.mem_of_getElem? (i := 638) (by decide +kernel)⟩
theorem lw_p34 : lw_okq (⟨"GraveRowsModel", "placeOf", "(I)I"⟩, 17) := ⟨⟨by decide +kernel, by decide +kernel⟩, List.mem_of_getElem? (i := 482) (by decide +kernel), List.mem_of_getElem? (i := 641) (by decide +kernel), List.mem_of_getElem? (i := 642) (by decide +kernel)⟩
theorem lw_p35 : lw_okq (⟨"GraveRowsModel", "keep", "([I)V"⟩, 17) := ⟨⟨by decide +kernel, by decide +kernel⟩, List.mem_of_getElem? (i := 482) (by decide +kernel), List.mem_of_getElem? (i := 645) (by decide +kernel), List.mem_of_getElem? (i := 646) (by decide +kernel)⟩
theorem lw_p36 : lw_okq (⟨"GraveRowsModel", "isTogether", "(I)Z"⟩, 17) := ⟨⟨by decide +kernel, by decide +kernel⟩, List.mem_of_getElem? (i := 482) (by decide +kernel), List.mem_of_getElem? (i := 669) (by decide +kernel), List.mem_of_getElem? (i := 670) (by decide +kernel)⟩
theorem lw_p37 : lw_okq (⟨"GraveRowsModel", "layClumps", "()V"⟩, 17) := ⟨⟨by decide +kernel, by decide +kernel⟩, List.mem_of_getElem? (i := 482) (by decide +kernel), List.mem_of_getElem? (i := 677) (by decide +kernel), List.mem_of_getElem? (i := 678) (by decide +kernel)⟩
theorem lw_p38 : lw_okq (⟨"GraveRowsModel", "takeRow", "()V"⟩, 17) := ⟨⟨by decide +kernel, by decide +kernel⟩, List.mem_of_getElem? (i := 482) (by decide +kernel), List.mem_of_getElem? (i := 685) (by decide +kernel), List.mem_of_getElem? (i := 686) (by decide +kernel)⟩
theorem lw_p39 : lw_okq (⟨"GraveRowsModel", "swapRow", "(I)V"⟩, 17) := ⟨⟨by decide +kernel, by decide +kernel⟩, List.mem_of_getElem? (i := 482) (by decide +kernel), List.mem_of_getElem? (i := 701) (by decide +kernel), List.mem_of_getElem? (i := 702) (by decide +kernel)⟩
theorem lw_p40 : lw_okq (⟨"GraveRowsModel", "rowBreaks", "()I"⟩, 17) := ⟨⟨by decide +kernel, by decide +kernel⟩, List.mem_of_getElem? (i := 482) (by decide +kernel), List.mem_of_getElem? (i := 705) (by decide +kernel), List.mem_of_getElem? (i := 706) (by decide +kernel)⟩
theorem lw_p41 : lw_okq (⟨"GraveRowsModel", "makeBest", "()I"⟩, 17) := ⟨⟨by decide +kernel, by decide +kernel⟩, List.mem_of_getElem? (i := 482) (by decide +kernel), List.mem_of_getElem? (i := 713) (by decide +kernel), List.mem_of_getElem? (i := 714) (by decide +kernel)⟩
def lw_privs_3 : List (MethodName × Nat) := [(⟨"GraveRowsModel", "look", "()V"⟩, 17), (⟨"GraveRowsModel", "lookAtSteps", "()V"⟩, 17), (⟨"GraveRowsModel", "placeOf", "(I)I"⟩, 17), (⟨"GraveRowsModel", "keep", "([I)V"⟩, 17), (⟨"GraveRowsModel", "isTogether", "(I)Z"⟩, 17), (⟨"GraveRowsModel", "layClumps", "()V"⟩, 17), (⟨"GraveRowsModel", "takeRow", "()V"⟩, 17), (⟨"GraveRowsModel", "swapRow", "(I)V"⟩, 17), (⟨"GraveRowsModel", "rowBreaks", "()I"⟩, 17), (⟨"GraveRowsModel", "makeBest", "()I"⟩, 17)]
theorem lw_r3 : ∀ q ∈ lw_privs_3, lw_okq q := List.forall_mem_cons.mpr ⟨lw_p32, List.forall_mem_cons.mpr ⟨lw_p33, List.forall_mem_cons.mpr ⟨lw_p34, List.forall_mem_cons.mpr ⟨lw_p35, List.forall_mem_cons.mpr ⟨lw_p36, List.forall_mem_cons.mpr ⟨lw_p37, List.forall_mem_cons.mpr ⟨lw_p38, List.forall_mem_cons.mpr ⟨lw_p39, List.forall_mem_cons.mpr ⟨lw_p40, List.forall_mem_cons.mpr ⟨lw_p41, fun _ h => absurd h List.not_mem_nil⟩⟩⟩⟩⟩⟩⟩⟩⟩⟩
def lw_privs : List (MethodName × Nat) := lw_privs_1 ++ (lw_privs_2 ++ (lw_privs_3))
def lw_tbl : List Cond := k2_sels lw_privs ++ tables_1
theorem lw_privs_ok : ∀ q ∈ lw_privs, lw_okq q := by
  show ∀ q ∈ lw_privs_1 ++ (lw_privs_2 ++ (lw_privs_3)), lw_okq q
  exact List.forall_mem_append.mpr ⟨lw_r1, List.forall_mem_append.mpr ⟨lw_r2, lw_r3⟩⟩
end
section
def RX0 : String := "GraveRows$BestOrders"
def TX0 : u_T := fun k => match k with
  | 0 => ("GraveRows$BestOrders", "size", "I", false)
  | 1 => ("GraveRows$BestOrders", "full", "I", false)
  | 2 => ("GraveRows$BestOrders", "fewestBreaks", "I", false)
  | 3 => ("GraveRows$BestOrders", "clumpCount", "I", false)
  | 4 => ("GraveRows$BestOrders", "steps", "I", false)
  | 5 => ("GraveRows$BestOrders", "onward", "[I", true)
  | 6 => ("GraveRows$BestOrders", "waysOn", "[I", true)
  | 7 => ("GraveRows$BestOrders", "waysTo", "[I", true)
  | 8 => ("GraveRows$BestOrders", "rest", "[I", true)
  | 9 => ("GraveRows$BestOrders", "following", "[I", true)
  | 10 => ("GraveRows$BestOrders", "clumps", "[I", true)
  | 11 => ("GraveRows$BestOrders", "goal", "[I", true)
  | 12 => ("GraveRows$BestOrders", "runs", "LGraveRows$RunsBegun;", true)
  | _ => ("GraveRows$BestOrders", "swaps", "LGraveRows$SwapsMade;", true)
def tyX0 : Nat → FieldType := fun k => match k with
  | 0 => .int
  | 1 => .int
  | 2 => .int
  | 3 => .int
  | 4 => .int
  | 5 => .array .int
  | 6 => .array .int
  | 7 => .array .int
  | 8 => .array .int
  | 9 => .array .int
  | 10 => .array .int
  | 11 => .array .int
  | 12 => .object "GraveRows$RunsBegun"
  | _ => .object "GraveRows$SwapsMade"
abbrev wsX00 : List Cond := u_ws RX0 TX0 14
theorem nmX0 : ∀ a, a < 14 → ∀ b, b < 14 → a ≠ b → (TX0 a).2.1 ≠ (TX0 b).2.1 := by decide +kernel
theorem tyX0_ok : ∀ k, k < 14 → parseFieldDescriptor (TX0 k).2.2.1 = some (tyX0 k) := by decide +kernel
abbrev cX0_init : ByteArray := prog_2_method_1_code
def yX0_init : MethodName := ⟨RX0, "<init>", "()V"⟩
abbrev cX0_stateOf : ByteArray := prog_2_method_2_code
def yX0_stateOf : MethodName := ⟨RX0, "stateOf", "(II)I"⟩
abbrev cX0_stateAfter : ByteArray := prog_2_method_3_code
def yX0_stateAfter : MethodName := ⟨RX0, "stateAfter", "(II)I"⟩
abbrev cX0_isState : ByteArray := prog_2_method_4_code
def yX0_isState : MethodName := ⟨RX0, "isState", "(II)Z"⟩
abbrev cX0_total : ByteArray := prog_2_method_5_code
def yX0_total : MethodName := ⟨RX0, "total", "()I"⟩
abbrev cX0_search : ByteArray := prog_2_method_6_code
def yX0_search : MethodName := ⟨RX0, "search", "(LGraveRows$Dig;)V"⟩
abbrev cX0_openAllowed : ByteArray := prog_2_method_7_code
def yX0_openAllowed : MethodName := ⟨RX0, "openAllowed", "(LGraveRows$Dig;)V"⟩
abbrev cX0_costRest : ByteArray := prog_2_method_8_code
def yX0_costRest : MethodName := ⟨RX0, "costRest", "(LGraveRows$Cost;)V"⟩
abbrev cX0_cheapestOn : ByteArray := prog_2_method_9_code
def yX0_cheapestOn : MethodName := ⟨RX0, "cheapestOn", "(LGraveRows$Cost;II)I"⟩
abbrev cX0_keepCheapest : ByteArray := prog_2_method_10_code
def yX0_keepCheapest : MethodName := ⟨RX0, "keepCheapest", "(LGraveRows$Cost;)V"⟩
abbrev cX0_cheapestNext : ByteArray := prog_2_method_11_code
def yX0_cheapestNext : MethodName := ⟨RX0, "cheapestNext", "(LGraveRows$Cost;II)I"⟩
abbrev cX0_countWaysOn : ByteArray := prog_2_method_12_code
def yX0_countWaysOn : MethodName := ⟨RX0, "countWaysOn", "()V"⟩
abbrev cX0_sumOver : ByteArray := prog_2_method_13_code
def yX0_sumOver : MethodName := ⟨RX0, "sumOver", "([III)I"⟩
abbrev cX0_countWaysTo : ByteArray := prog_2_method_14_code
def yX0_countWaysTo : MethodName := ⟨RX0, "countWaysTo", "()V"⟩
abbrev cX0_passOn : ByteArray := prog_2_method_15_code
def yX0_passOn : MethodName := ⟨RX0, "passOn", "(II)V"⟩
abbrev cX0_graveAt : ByteArray := prog_2_method_16_code
def yX0_graveAt : MethodName := ⟨RX0, "graveAt", "(II)I"⟩
abbrev cX0_neighboursOf : ByteArray := prog_2_method_17_code
def yX0_neighboursOf : MethodName := ⟨RX0, "neighboursOf", "(II)I"⟩
abbrev cX0_ordersWithNext : ByteArray := prog_2_method_18_code
def yX0_ordersWithNext : MethodName := ⟨RX0, "ordersWithNext", "(II)I"⟩
abbrev cX0_leastPlaceOf : ByteArray := prog_2_method_19_code
def yX0_leastPlaceOf : MethodName := ⟨RX0, "leastPlaceOf", "(I)I"⟩
abbrev cX0_greatestPlaceOf : ByteArray := prog_2_method_20_code
def yX0_greatestPlaceOf : MethodName := ⟨RX0, "greatestPlaceOf", "(I)I"⟩
abbrev cX0_ordersWithAt : ByteArray := prog_2_method_21_code
def yX0_ordersWithAt : MethodName := ⟨RX0, "ordersWithAt", "(II)I"⟩
abbrev cX0_ordersWithFirst : ByteArray := prog_2_method_22_code
def yX0_ordersWithFirst : MethodName := ⟨RX0, "ordersWithFirst", "(II)I"⟩
abbrev cX0_ordersBy : ByteArray := prog_2_method_23_code
def yX0_ordersBy : MethodName := ⟨RX0, "ordersBy", "(II)I"⟩
abbrev cX0_ordersWithTogether : ByteArray := prog_2_method_24_code
def yX0_ordersWithTogether : MethodName := ⟨RX0, "ordersWithTogether", "(I)I"⟩
abbrev cX0_nextThatPart : ByteArray := prog_2_method_25_code
def yX0_nextThatPart : MethodName := ⟨RX0, "nextThatPart", "(II)I"⟩
abbrev cX0_gatherClumps : ByteArray := prog_2_method_26_code
def yX0_gatherClumps : MethodName := ⟨RX0, "gatherClumps", "()V"⟩
abbrev cX0_liesTogetherInAll : ByteArray := prog_2_method_27_code
def yX0_liesTogetherInAll : MethodName := ⟨RX0, "liesTogetherInAll", "(I)Z"⟩
abbrev cX0_fewestBreaksOf : ByteArray := prog_2_method_28_code
def yX0_fewestBreaksOf : MethodName := ⟨RX0, "fewestBreaksOf", "(ILGraveRows$Dig;)I"⟩
abbrev cX0_seekGoal : ByteArray := prog_2_method_29_code
def yX0_seekGoal : MethodName := ⟨RX0, "seekGoal", "(LGraveRows$Dig;)V"⟩
abbrev cX0_leastMember : ByteArray := prog_2_method_30_code
def yX0_leastMember : MethodName := ⟨RX0, "leastMember", "(I)I"⟩
def RX1 : String := "GraveRows$Cost"
def TX1 : u_T := fun k => match k with
  | _ => ("", "", "", false)
def tyX1 : Nat → FieldType := fun k => match k with
  | _ => .int
abbrev wsX10 : List Cond := u_ws RX1 TX1 0
theorem nmX1 : ∀ a, a < 0 → ∀ b, b < 0 → a ≠ b → (TX1 a).2.1 ≠ (TX1 b).2.1 := by decide +kernel
theorem tyX1_ok : ∀ k, k < 0 → parseFieldDescriptor (TX1 k).2.2.1 = some (tyX1 k) := by decide +kernel
abbrev cX1_init : ByteArray := prog_3_method_1_code
def yX1_init : MethodName := ⟨RX1, "<init>", "()V"⟩
def RX2 : String := "GraveRows$Dig"
def TX2 : u_T := fun k => match k with
  | 0 => ("GraveRows$Dig", "size", "I", false)
  | 1 => ("GraveRows$Dig", "held", "[I", true)
  | 2 => ("GraveRows$Dig", "later", "[I", true)
  | _ => ("GraveRows$Dig", "line", "[I", true)
def tyX2 : Nat → FieldType := fun k => match k with
  | 0 => .int
  | 1 => .array .int
  | 2 => .array .int
  | _ => .array .int
abbrev wsX20 : List Cond := u_ws RX2 TX2 4
theorem nmX2 : ∀ a, a < 4 → ∀ b, b < 4 → a ≠ b → (TX2 a).2.1 ≠ (TX2 b).2.1 := by decide +kernel
theorem tyX2_ok : ∀ k, k < 4 → parseFieldDescriptor (TX2 k).2.2.1 = some (tyX2 k) := by decide +kernel
abbrev cX2_init : ByteArray := prog_4_method_1_code
def yX2_init : MethodName := ⟨RX2, "<init>", "()V"⟩
abbrev cX2_resize : ByteArray := prog_4_method_2_code
def yX2_resize : MethodName := ⟨RX2, "resize", "(I)V"⟩
abbrev cX2_become : ByteArray := prog_4_method_3_code
def yX2_become : MethodName := ⟨RX2, "become", "(LGraveRows$Dig;)V"⟩
abbrev cX2_earlierThan : ByteArray := prog_4_method_4_code
def yX2_earlierThan : MethodName := ⟨RX2, "earlierThan", "(I)I"⟩
abbrev cX2_gravesWith : ByteArray := prog_4_method_5_code
def yX2_gravesWith : MethodName := ⟨RX2, "gravesWith", "(I)I"⟩
abbrev cX2_sortsFound : ByteArray := prog_4_method_6_code
def yX2_sortsFound : MethodName := ⟨RX2, "sortsFound", "()I"⟩
abbrev cX2_placeInLine : ByteArray := prog_4_method_7_code
def yX2_placeInLine : MethodName := ⟨RX2, "placeInLine", "(I)I"⟩
abbrev cX2_lineBreaks : ByteArray := prog_4_method_8_code
def yX2_lineBreaks : MethodName := ⟨RX2, "lineBreaks", "(I)I"⟩
abbrev cX2_lineIsAllowed : ByteArray := prog_4_method_9_code
def yX2_lineIsAllowed : MethodName := ⟨RX2, "lineIsAllowed", "()Z"⟩
abbrev cX2_exchange : ByteArray := prog_4_method_10_code
def yX2_exchange : MethodName := ⟨RX2, "exchange", "(I)V"⟩
abbrev cX2_bestExchange : ByteArray := prog_4_method_11_code
def yX2_bestExchange : MethodName := ⟨RX2, "bestExchange", "()I"⟩
def RX3 : String := "GraveRows$RunsBegun"
def TX3 : u_T := fun k => match k with
  | _ => ("GraveRows$RunsBegun", "held", "[I", true)
def tyX3 : Nat → FieldType := fun k => match k with
  | _ => .array .int
abbrev wsX30 : List Cond := u_ws RX3 TX3 1
theorem nmX3 : ∀ a, a < 1 → ∀ b, b < 1 → a ≠ b → (TX3 a).2.1 ≠ (TX3 b).2.1 := by decide +kernel
theorem tyX3_ok : ∀ k, k < 1 → parseFieldDescriptor (TX3 k).2.2.1 = some (tyX3 k) := by decide +kernel
abbrev cX3_init : ByteArray := prog_5_method_1_code
def yX3_init : MethodName := ⟨RX3, "<init>", "()V"⟩
abbrev cX3_lookAt : ByteArray := prog_5_method_2_code
def yX3_lookAt : MethodName := ⟨RX3, "lookAt", "(LGraveRows$Dig;I)V"⟩
abbrev cX3_ofNext : ByteArray := prog_5_method_3_code
def yX3_ofNext : MethodName := ⟨RX3, "ofNext", "(III)I"⟩
def RX4 : String := "GraveRows$SwapsMade"
def TX4 : u_T := fun k => match k with
  | _ => ("GraveRows$SwapsMade", "inFront", "[I", true)
def tyX4 : Nat → FieldType := fun k => match k with
  | _ => .array .int
abbrev wsX40 : List Cond := u_ws RX4 TX4 1
theorem nmX4 : ∀ a, a < 1 → ∀ b, b < 1 → a ≠ b → (TX4 a).2.1 ≠ (TX4 b).2.1 := by decide +kernel
theorem tyX4_ok : ∀ k, k < 1 → parseFieldDescriptor (TX4 k).2.2.1 = some (tyX4 k) := by decide +kernel
abbrev cX4_init : ByteArray := prog_6_method_1_code
def yX4_init : MethodName := ⟨RX4, "<init>", "()V"⟩
abbrev cX4_lookAt : ByteArray := prog_6_method_2_code
def yX4_lookAt : MethodName := ⟨RX4, "lookAt", "(LGraveRows$Dig;)V"⟩
abbrev cX4_ofNext : ByteArray := prog_6_method_3_code
def yX4_ofNext : MethodName := ⟨RX4, "ofNext", "(III)I"⟩
def RX5 : String := "GraveRows"
def TX5 : u_T := fun k => match k with
  | 0 => ("GraveRows", "dig", "LGraveRows$Dig;", true)
  | 1 => ("GraveRows", "kept", "[LGraveRows$Dig;", true)
  | 2 => ("GraveRows", "keptImages", "I", false)
  | 3 => ("GraveRows", "bestOrders", "LGraveRows$BestOrders;", true)
  | 4 => ("GraveRows", "bestKnown", "Z", false)
  | _ => ("GraveRows", "wayKnown", "Z", false)
def tyX5 : Nat → FieldType := fun k => match k with
  | 0 => .object "GraveRows$Dig"
  | 1 => .array (.object "GraveRows$Dig")
  | 2 => .int
  | 3 => .object "GraveRows$BestOrders"
  | 4 => .boolean
  | _ => .boolean
abbrev wsX50 : List Cond := u_ws RX5 TX5 6
theorem nmX5 : ∀ a, a < 6 → ∀ b, b < 6 → a ≠ b → (TX5 a).2.1 ≠ (TX5 b).2.1 := by decide +kernel
theorem tyX5_ok : ∀ k, k < 6 → parseFieldDescriptor (TX5 k).2.2.1 = some (tyX5 k) := by decide +kernel
abbrev cX5_init : ByteArray := prog_1_method_1_code
def yX5_init : MethodName := ⟨RX5, "<init>", "()V"⟩
abbrev cX5_many : ByteArray := prog_1_method_2_code
def yX5_many : MethodName := ⟨RX5, "many", "(I)I"⟩
abbrev cX5_find : ByteArray := prog_1_method_3_code
def yX5_find : MethodName := ⟨RX5, "find", "(III)I"⟩
abbrev cX5_ahead : ByteArray := prog_1_method_4_code
def yX5_ahead : MethodName := ⟨RX5, "ahead", "(III)I"⟩
abbrev cX5_grave : ByteArray := prog_1_method_5_code
def yX5_grave : MethodName := ⟨RX5, "grave", "(II)I"⟩
abbrev cX5_sort : ByteArray := prog_1_method_6_code
def yX5_sort : MethodName := ⟨RX5, "sort", "(II)I"⟩
abbrev cX5_alike : ByteArray := prog_1_method_7_code
def yX5_alike : MethodName := ⟨RX5, "alike", "(II)I"⟩
abbrev cX5_least : ByteArray := prog_1_method_8_code
def yX5_least : MethodName := ⟨RX5, "least", "()I"⟩
abbrev cX5_best : ByteArray := prog_1_method_9_code
def yX5_best : MethodName := ⟨RX5, "best", "()I"⟩
abbrev cX5_order : ByteArray := prog_1_method_10_code
def yX5_order : MethodName := ⟨RX5, "order", "(II)I"⟩
abbrev cX5_beside : ByteArray := prog_1_method_11_code
def yX5_beside : MethodName := ⟨RX5, "beside", "(II)I"⟩
abbrev cX5_place : ByteArray := prog_1_method_12_code
def yX5_place : MethodName := ⟨RX5, "place", "(II)I"⟩
abbrev cX5_before : ByteArray := prog_1_method_13_code
def yX5_before : MethodName := ⟨RX5, "before", "(II)I"⟩
abbrev cX5_together : ByteArray := prog_1_method_14_code
def yX5_together : MethodName := ⟨RX5, "together", "(I)I"⟩
abbrev cX5_clump : ByteArray := prog_1_method_15_code
def yX5_clump : MethodName := ⟨RX5, "clump", "(I)I"⟩
abbrev cX5_row : ByteArray := prog_1_method_16_code
def yX5_row : MethodName := ⟨RX5, "row", "(I)I"⟩
abbrev cX5_breaks : ByteArray := prog_1_method_17_code
def yX5_breaks : MethodName := ⟨RX5, "breaks", "(I)I"⟩
abbrev cX5_swap : ByteArray := prog_1_method_18_code
def yX5_swap : MethodName := ⟨RX5, "swap", "(I)I"⟩
abbrev cX5_better : ByteArray := prog_1_method_19_code
def yX5_better : MethodName := ⟨RX5, "better", "()I"⟩
abbrev cX5_climb : ByteArray := prog_1_method_20_code
def yX5_climb : MethodName := ⟨RX5, "climb", "()I"⟩
abbrev cX5_nearest : ByteArray := prog_1_method_21_code
def yX5_nearest : MethodName := ⟨RX5, "nearest", "(I)I"⟩
abbrev cX5_settle : ByteArray := prog_1_method_22_code
def yX5_settle : MethodName := ⟨RX5, "settle", "()I"⟩
abbrev cX5_count : ByteArray := prog_1_method_23_code
def yX5_count : MethodName := ⟨RX5, "count", "(I)I"⟩
abbrev cX5_image : ByteArray := prog_1_method_24_code
def yX5_image : MethodName := ⟨RX5, "image", "(I)I"⟩
abbrev cX5_restore : ByteArray := prog_1_method_25_code
def yX5_restore : MethodName := ⟨RX5, "restore", "(I)I"⟩
abbrev cX5_isGrave : ByteArray := prog_1_method_26_code
def yX5_isGrave : MethodName := ⟨RX5, "isGrave", "(I)Z"⟩
abbrev cX5_isPlace : ByteArray := prog_1_method_27_code
def yX5_isPlace : MethodName := ⟨RX5, "isPlace", "(I)Z"⟩
abbrev cX5_isSort : ByteArray := prog_1_method_28_code
def yX5_isSort : MethodName := ⟨RX5, "isSort", "(I)Z"⟩
abbrev cX5_isOnOrOff : ByteArray := prog_1_method_29_code
def yX5_isOnOrOff : MethodName := ⟨RX5, "isOnOrOff", "(I)Z"⟩
abbrev cX5_isImage : ByteArray := prog_1_method_30_code
def yX5_isImage : MethodName := ⟨RX5, "isImage", "(I)Z"⟩
abbrev cX5_isMember : ByteArray := prog_1_method_31_code
def yX5_isMember : MethodName := ⟨RX5, "isMember", "(II)Z"⟩
abbrev cX5_withMember : ByteArray := prog_1_method_32_code
def yX5_withMember : MethodName := ⟨RX5, "withMember", "(III)I"⟩
abbrev cX5_membersOfAll : ByteArray := prog_1_method_33_code
def yX5_membersOfAll : MethodName := ⟨RX5, "membersOfAll", "([I)I"⟩
abbrev cX5_forgetBest : ByteArray := prog_1_method_34_code
def yX5_forgetBest : MethodName := ⟨RX5, "forgetBest", "()V"⟩
abbrev cX5_knownBest : ByteArray := prog_1_method_35_code
def yX5_knownBest : MethodName := ⟨RX5, "knownBest", "()LGraveRows$BestOrders;"⟩
abbrev cX5_knowWay : ByteArray := prog_1_method_36_code
def yX5_knowWay : MethodName := ⟨RX5, "knowWay", "(LGraveRows$BestOrders;)V"⟩
abbrev cX5_lineIsBest : ByteArray := prog_1_method_37_code
def yX5_lineIsBest : MethodName := ⟨RX5, "lineIsBest", "()Z"⟩
abbrev cX5_makeBestSwap : ByteArray := prog_1_method_38_code
def yX5_makeBestSwap : MethodName := ⟨RX5, "makeBestSwap", "()I"⟩
def RX6 : String := "GraveRowsModel"
def TX6 : u_T := fun k => match k with
  | 0 => ("GraveRowsModel", "state", "[I", true)
  | 1 => ("GraveRowsModel", "images", "[I", true)
  | 2 => ("GraveRowsModel", "isKept", "[Z", true)
  | 3 => ("GraveRowsModel", "order", "[I", true)
  | 4 => ("GraveRowsModel", "isFound", "Z", false)
  | 5 => ("GraveRowsModel", "fewest", "I", false)
  | 6 => ("GraveRowsModel", "bestOnes", "I", false)
  | 7 => ("GraveRowsModel", "wanted", "I", false)
  | 8 => ("GraveRowsModel", "wantedOrder", "[I", true)
  | 9 => ("GraveRowsModel", "atPlace", "[I", true)
  | 10 => ("GraveRowsModel", "pairs", "[I", true)
  | 11 => ("GraveRowsModel", "besideAll", "[I", true)
  | 12 => ("GraveRowsModel", "besideAny", "[I", true)
  | 13 => ("GraveRowsModel", "leastBreaks", "[I", true)
  | 14 => ("GraveRowsModel", "isClump", "[Z", true)
  | 15 => ("GraveRowsModel", "nearSteps", "I", false)
  | _ => ("GraveRowsModel", "nearOrder", "[I", true)
def tyX6 : Nat → FieldType := fun k => match k with
  | 0 => .array .int
  | 1 => .array .int
  | 2 => .array .boolean
  | 3 => .array .int
  | 4 => .boolean
  | 5 => .int
  | 6 => .int
  | 7 => .int
  | 8 => .array .int
  | 9 => .array .int
  | 10 => .array .int
  | 11 => .array .int
  | 12 => .array .int
  | 13 => .array .int
  | 14 => .array .boolean
  | 15 => .int
  | _ => .array .int
abbrev wsX60 : List Cond := u_ws RX6 TX6 17
theorem nmX6 : ∀ a, a < 17 → ∀ b, b < 17 → a ≠ b → (TX6 a).2.1 ≠ (TX6 b).2.1 := by decide +kernel
theorem tyX6_ok : ∀ k, k < 17 → parseFieldDescriptor (TX6 k).2.2.1 = some (tyX6 k) := by decide +kernel
abbrev cX6_init : ByteArray := prog_8_method_1_code
def yX6_init : MethodName := ⟨RX6, "<init>", "()V"⟩
abbrev cX6_resetRow : ByteArray := prog_8_method_2_code
def yX6_resetRow : MethodName := ⟨RX6, "resetRow", "()V"⟩
abbrev cX6_in : ByteArray := prog_8_method_3_code
def yX6_in : MethodName := ⟨RX6, "in", "(III)Z"⟩
abbrev cX6_isGrave : ByteArray := prog_8_method_4_code
def yX6_isGrave : MethodName := ⟨RX6, "isGrave", "(I)Z"⟩
abbrev cX6_isSort : ByteArray := prog_8_method_5_code
def yX6_isSort : MethodName := ⟨RX6, "isSort", "(I)Z"⟩
abbrev cX6_has : ByteArray := prog_8_method_6_code
def yX6_has : MethodName := ⟨RX6, "has", "(II)Z"⟩
abbrev cX6_bits : ByteArray := prog_8_method_7_code
def yX6_bits : MethodName := ⟨RX6, "bits", "(I)I"⟩
abbrev cX6_many : ByteArray := prog_8_method_8_code
def yX6_many : MethodName := ⟨RX6, "many", "(I)I"⟩
abbrev cX6_find : ByteArray := prog_8_method_9_code
def yX6_find : MethodName := ⟨RX6, "find", "(III)I"⟩
abbrev cX6_knownPairs : ByteArray := prog_8_method_10_code
def yX6_knownPairs : MethodName := ⟨RX6, "knownPairs", "()I"⟩
abbrev cX6_ahead : ByteArray := prog_8_method_11_code
def yX6_ahead : MethodName := ⟨RX6, "ahead", "(III)I"⟩
abbrev cX6_placeInRow : ByteArray := prog_8_method_12_code
def yX6_placeInRow : MethodName := ⟨RX6, "placeInRow", "(I)I"⟩
abbrev cX6_grave : ByteArray := prog_8_method_13_code
def yX6_grave : MethodName := ⟨RX6, "grave", "(II)I"⟩
abbrev cX6_alike : ByteArray := prog_8_method_14_code
def yX6_alike : MethodName := ⟨RX6, "alike", "(II)I"⟩
abbrev cX6_breaksOf : ByteArray := prog_8_method_15_code
def yX6_breaksOf : MethodName := ⟨RX6, "breaksOf", "(I)I"⟩
abbrev cX6_breaksNow : ByteArray := prog_8_method_16_code
def yX6_breaksNow : MethodName := ⟨RX6, "breaksNow", "()I"⟩
abbrev cX6_isAllowed : ByteArray := prog_8_method_17_code
def yX6_isAllowed : MethodName := ⟨RX6, "isAllowed", "()Z"⟩
abbrev cX6_takeRow : ByteArray := prog_8_method_18_code
def yX6_takeRow : MethodName := ⟨RX6, "takeRow", "()V"⟩
abbrev cX6_begin : ByteArray := prog_8_method_19_code
def yX6_begin : MethodName := ⟨RX6, "begin", "()V"⟩
abbrev cX6_change : ByteArray := prog_8_method_20_code
def yX6_change : MethodName := ⟨RX6, "change", "(II)V"⟩
abbrev cX6_goOn : ByteArray := prog_8_method_21_code
def yX6_goOn : MethodName := ⟨RX6, "goOn", "()Z"⟩
abbrev cX6_layFewest : ByteArray := prog_8_method_22_code
def yX6_layFewest : MethodName := ⟨RX6, "layFewest", "()V"⟩
abbrev cX6_isBest : ByteArray := prog_8_method_23_code
def yX6_isBest : MethodName := ⟨RX6, "isBest", "()Z"⟩
abbrev cX6_least : ByteArray := prog_8_method_24_code
def yX6_least : MethodName := ⟨RX6, "least", "()I"⟩
abbrev cX6_placeOf : ByteArray := prog_8_method_25_code
def yX6_placeOf : MethodName := ⟨RX6, "placeOf", "(I)I"⟩
abbrev cX6_isTogether : ByteArray := prog_8_method_26_code
def yX6_isTogether : MethodName := ⟨RX6, "isTogether", "(I)Z"⟩
abbrev cX6_look : ByteArray := prog_8_method_27_code
def yX6_look : MethodName := ⟨RX6, "look", "()V"⟩
abbrev cX6_keep : ByteArray := prog_8_method_28_code
def yX6_keep : MethodName := ⟨RX6, "keep", "([I)V"⟩
abbrev cX6_lookAtSteps : ByteArray := prog_8_method_29_code
def yX6_lookAtSteps : MethodName := ⟨RX6, "lookAtSteps", "()V"⟩
abbrev cX6_lookAtAll : ByteArray := prog_8_method_30_code
def yX6_lookAtAll : MethodName := ⟨RX6, "lookAtAll", "(I)V"⟩
abbrev cX6_best : ByteArray := prog_8_method_31_code
def yX6_best : MethodName := ⟨RX6, "best", "()I"⟩
abbrev cX6_order : ByteArray := prog_8_method_32_code
def yX6_order : MethodName := ⟨RX6, "order", "(II)I"⟩
abbrev cX6_beside : ByteArray := prog_8_method_33_code
def yX6_beside : MethodName := ⟨RX6, "beside", "(II)I"⟩
abbrev cX6_place : ByteArray := prog_8_method_34_code
def yX6_place : MethodName := ⟨RX6, "place", "(II)I"⟩
abbrev cX6_before : ByteArray := prog_8_method_35_code
def yX6_before : MethodName := ⟨RX6, "before", "(II)I"⟩
abbrev cX6_together : ByteArray := prog_8_method_36_code
def yX6_together : MethodName := ⟨RX6, "together", "(I)I"⟩
abbrev cX6_layClumps : ByteArray := prog_8_method_37_code
def yX6_layClumps : MethodName := ⟨RX6, "layClumps", "()V"⟩
abbrev cX6_clump : ByteArray := prog_8_method_38_code
def yX6_clump : MethodName := ⟨RX6, "clump", "(I)I"⟩
abbrev cX6_sort : ByteArray := prog_8_method_39_code
def yX6_sort : MethodName := ⟨RX6, "sort", "(II)I"⟩
abbrev cX6_row : ByteArray := prog_8_method_40_code
def yX6_row : MethodName := ⟨RX6, "row", "(I)I"⟩
abbrev cX6_breaks : ByteArray := prog_8_method_41_code
def yX6_breaks : MethodName := ⟨RX6, "breaks", "(I)I"⟩
abbrev cX6_swapRow : ByteArray := prog_8_method_42_code
def yX6_swapRow : MethodName := ⟨RX6, "swapRow", "(I)V"⟩
abbrev cX6_rowBreaks : ByteArray := prog_8_method_43_code
def yX6_rowBreaks : MethodName := ⟨RX6, "rowBreaks", "()I"⟩
abbrev cX6_swap : ByteArray := prog_8_method_44_code
def yX6_swap : MethodName := ⟨RX6, "swap", "(I)I"⟩
abbrev cX6_makeBest : ByteArray := prog_8_method_45_code
def yX6_makeBest : MethodName := ⟨RX6, "makeBest", "()I"⟩
abbrev cX6_better : ByteArray := prog_8_method_46_code
def yX6_better : MethodName := ⟨RX6, "better", "()I"⟩
abbrev cX6_climb : ByteArray := prog_8_method_47_code
def yX6_climb : MethodName := ⟨RX6, "climb", "()I"⟩
abbrev cX6_nearest : ByteArray := prog_8_method_48_code
def yX6_nearest : MethodName := ⟨RX6, "nearest", "(I)I"⟩
abbrev cX6_settle : ByteArray := prog_8_method_49_code
def yX6_settle : MethodName := ⟨RX6, "settle", "()I"⟩
abbrev cX6_count : ByteArray := prog_8_method_50_code
def yX6_count : MethodName := ⟨RX6, "count", "(I)I"⟩
abbrev cX6_image : ByteArray := prog_8_method_51_code
def yX6_image : MethodName := ⟨RX6, "image", "(I)I"⟩
abbrev cX6_restore : ByteArray := prog_8_method_52_code
def yX6_restore : MethodName := ⟨RX6, "restore", "(I)I"⟩
def RJ6 : String := "java/lang/Integer"
def TJ6 : u_T := fun k => match k with
  | _ => ("", "", "", false)
def tyJ6 : Nat → FieldType := fun k => match k with
  | _ => .int
abbrev wsJ60 : List Cond := u_ws RJ6 TJ6 0
theorem nmJ6 : ∀ a, a < 0 → ∀ b, b < 0 → a ≠ b → (TJ6 a).2.1 ≠ (TJ6 b).2.1 := by decide +kernel
theorem tyJ6_ok : ∀ k, k < 0 → parseFieldDescriptor (TJ6 k).2.2.1 = some (tyJ6 k) := by decide +kernel
abbrev cJ6_bitCount_0f7a4 : ByteArray := prog_9_method_49_code
def yJ6_bitCount_0f7a4 : MethodName := ⟨RJ6, "bitCount", "(I)I"⟩
def RJ9 : String := "java/lang/Math"
def TJ9 : u_T := fun k => match k with
  | _ => ("", "", "", false)
def tyJ9 : Nat → FieldType := fun k => match k with
  | _ => .int
abbrev wsJ90 : List Cond := u_ws RJ9 TJ9 0
theorem nmJ9 : ∀ a, a < 0 → ∀ b, b < 0 → a ≠ b → (TJ9 a).2.1 ≠ (TJ9 b).2.1 := by decide +kernel
theorem tyJ9_ok : ∀ k, k < 0 → parseFieldDescriptor (TJ9 k).2.2.1 = some (tyJ9 k) := by decide +kernel
abbrev cJ9_min_7cf53 : ByteArray := prog_10_method_69_code
def yJ9_min_7cf53 : MethodName := ⟨RJ9, "min", "(II)I"⟩
def RJ10 : String := "java/lang/System"
def TJ10 : u_T := fun k => match k with
  | _ => ("", "", "", false)
def tyJ10 : Nat → FieldType := fun k => match k with
  | _ => .int
abbrev wsJ100 : List Cond := u_ws RJ10 TJ10 0
theorem nmJ10 : ∀ a, a < 0 → ∀ b, b < 0 → a ≠ b → (TJ10 a).2.1 ≠ (TJ10 b).2.1 := by decide +kernel
theorem tyJ10_ok : ∀ k, k < 0 → parseFieldDescriptor (TJ10 k).2.2.1 = some (tyJ10 k) := by decide +kernel
def RL : String := "GraveRowsLaw"
abbrev cL_law : ByteArray := code
def yL_law : MethodName := ⟨RL, "law", "([I)Z"⟩
abbrev vwCl : List vw_C := [(RX0, TX0, 14), (RX2, TX2, 4), (RX3, TX3, 1), (RX4, TX4, 1), (RX5, TX5, 6), (RX6, TX6, 17)]
end
section
/-! THE LAYER. A method is walked over an abstract memory: a table of cells (the layout, fixed), each with its row of ints; references are the cells' numbers. Wx says: the machine at this pc, with these locals, this stack, this memory, comes to a return of which Q holds. -/
def x_good : List Cond := lw_tbl.filter goodWord
theorem x_in {w : Cond} (h : w ∈ lw_tbl) (hg : goodWord w = true) : w ∈ x_good := List.mem_filter.mpr ⟨h, hg⟩
theorem x_goodIn {y : MethodName} {b : ByteArray} {n : Nat} {r : Option FieldType} (h : Cond.code y b n r ∈ x_good) : GoodIn x_good (Cond.code y b n r :: x_good) := fun w hw => by
  rcases List.mem_cons.mp hw with rfl | hw
  · exact ⟨h, good_of_word (List.mem_filter.mp h).2⟩
  · exact ⟨hw, good_of_word (List.mem_filter.mp hw).2⟩
abbrev xMem : Type := Nat → Nat → Int32
abbrev xLK : Type := (Nat × Nat) ⊕ (Nat × List (Option Nat)) ⊕ (Nat × Nat × (Nat → Option Nat))
abbrev xLay : Type := Nat × (Nat → xLK)
abbrev xG : Type := va_G × (Nat → ClassId) × (Nat → Nat)
abbrev xM : Type := String × ByteArray × Nat × Option FieldType
def xv (ad : Nat → Nat) (v : Value) : Value := match v with
  | .ref k => .ref (ad k)
  | v => v
theorem xv_cat (ad : Nat → Nat) (v : Value) : (xv ad v).category = v.category := by cases v <;> rfl
def xfs (ad : Nat → Nat) (row : Nat → Int32) : Nat → List (Option Nat) → List Value
  | _, [] => []
  | j, none :: r => .int (row j) :: xfs ad row (j + 1) r
  | j, some k :: r => .ref (ad k) :: xfs ad row (j + 1) r
def xfv (ad : Nat → Nat) (row : Nat → Int32) (j : Nat) (o : Option Nat) : Value := match o with
  | none => .int (row j)
  | some k => .ref (ad k)
theorem xfs_at (ad : Nat → Nat) (row : Nat → Int32) : ∀ (fs : List (Option Nat)) (j i : Nat), (xfs ad row j fs)[i]? = (fs[i]?).map (xfv ad row (j + i))
  | [], j, i => by simp [xfs]
  | none :: r, j, 0 => by simp [xfs, xfv]
  | some k :: r, j, 0 => by simp [xfs, xfv]
  | none :: r, j, i + 1 => by simp only [xfs, List.getElem?_cons_succ]; rw [xfs_at ad row r (j + 1) i]; congr 2; omega
  | some k :: r, j, i + 1 => by simp only [xfs, List.getElem?_cons_succ]; rw [xfs_at ad row r (j + 1) i]; congr 2; omega
theorem xfs_len (ad : Nat → Nat) (row : Nat → Int32) : ∀ (fs : List (Option Nat)) (j : Nat), (xfs ad row j fs).length = fs.length
  | [], j => rfl
  | none :: r, j => by simp [xfs, xfs_len ad row r]
  | some k :: r, j => by simp [xfs, xfs_len ad row r]
theorem xfs_set (ad : Nat → Nat) (row : Nat → Int32) {fs : List (Option Nat)} {i : Nat} (h : fs[i]? = some none) (x : Int32) : (xfs ad row 0 fs).set i (.int x) = xfs ad (upd row i x) 0 fs := by
  apply List.ext_getElem?
  intro q
  rw [List.getElem?_set, xfs_at, xfs_at, xfs_len]
  have hi : i < fs.length := (List.getElem?_eq_some_iff.mp h).1
  by_cases e : i = q
  · subst e
    rw [if_pos rfl, if_pos hi, h]
    simp [xfv, upd]
  · rw [if_neg e]
    cases hq : fs[q]? with
    | none => rfl
    | some o =>
      cases o with
      | none => simp [xfv, upd, Ne.symm e]
      | some k => simp [xfv]
def xE (G : xG) (row : Nat → Int32) (k : xLK) : va_E := match k with
  | .inl (t, n) => .inl (G.2.1 t, n, .inl row)
  | .inr (.inl (ci, fs)) => .inr (ci, xfs G.2.2 row 0 fs)
  | .inr (.inr (t, n, g)) => .inl (G.2.1 t, n, .inr (.inr (.inr (.inr (fun j => (g j).map G.2.2)))))
def xw (Λ : xLay) (G : xG) (I : xMem) : va_W := (List.range Λ.1).map (fun k => (G.2.2 k, xE G (I k) (Λ.2 k)))
theorem xw_at {Λ : xLay} {G : xG} {I : xMem} {k : Nat} (h : k < Λ.1) : (xw Λ G I)[k]? = some (G.2.2 k, xE G (I k) (Λ.2 k)) := by
  simp [xw, h]
theorem xw_of {Λ : xLay} {G : xG} {I : xMem} {k : Nat} {q : Nat × va_E} (h : (xw Λ G I)[k]? = some q) : k < Λ.1 ∧ q = (G.2.2 k, xE G (I k) (Λ.2 k)) := by
  have hk : k < Λ.1 := by
    have := (List.getElem?_eq_some_iff.mp h).1
    simpa [xw] using this
  exact ⟨hk, Option.some.inj (h.symm.trans (xw_at hk))⟩
theorem xw_set {Λ : xLay} {G : xG} {I : xMem} {k : Nat} (row : Nat → Int32) {e : va_E} (he : xE G row (Λ.2 k) = e) : (xw Λ G I).set k (G.2.2 k, e) = xw Λ G (va_up I k row) := by
  apply List.ext_getElem?
  intro q
  rw [List.getElem?_set]
  have hl : (xw Λ G I).length = Λ.1 := by simp [xw]
  by_cases e1 : k = q
  · subst e1
    rw [if_pos rfl, hl]
    by_cases hk : k < Λ.1
    · rw [if_pos hk, xw_at hk]; simp [va_up, he]
    · rw [if_neg hk]; symm; simp [xw]; omega
  · rw [if_neg e1]
    by_cases hk : q < Λ.1
    · rw [xw_at hk, xw_at hk]; simp [va_up, Ne.symm e1]
    · simp [xw, hk]
/-- where the cells lie doesn't hang on what they hold -/
theorem xw_D {Λ : xLay} {G : xG} {I J : xMem} {A : Nat → Prop} (h : va_D A (xw Λ G I)) : va_D A (xw Λ G J) := by
  refine ⟨fun i j p q hp hq e => ?_, fun k q hk => ?_⟩
  · obtain ⟨h1, rfl⟩ := xw_of hp
    obtain ⟨h2, rfl⟩ := xw_of hq
    exact h.1 i j _ _ (xw_at (I := I) h1) (xw_at (I := I) h2) e
  · obtain ⟨h1, rfl⟩ := xw_of hk
    exact h.2 k (G.2.2 k, xE G (I k) (Λ.2 k)) (xw_at h1)
def xup (I : xMem) (k j : Nat) (x : Int32) : xMem := va_up I k (upd (I k) j x)
abbrev xtys (G : xG) : List (ClassId × FieldType) := [(G.2.1 0, .int), (G.2.1 1, .boolean), (G.2.1 2, .object "GraveRows$Dig")]
def y_CostNext : MethodName := ⟨"GraveRows$Cost", "ofNext", "(III)I"⟩
def xNw (s : State) : Prop := va_Nw (.methodLinkNest RX2 31 yX5_isMember "GraveRows") s ∧ va_Nw (.methodLinkNest RX0 47 yX5_isMember "GraveRows") s ∧ va_Nw (.declares y_CostNext) s
theorem xNw.warm {s U : State} (hW : s.WarmedH U.vm) (h : xNw s) : xNw U := ⟨va_Nw.warmM hW h.1, va_Nw.warmM hW h.2.1, va_Nw.warmD hW h.2.2⟩
theorem xNw.same {u U : State} (e : u.vm = U.vm) (h : xNw u) : xNw U := ⟨va_Nw.same rfl e h.1, va_Nw.same rfl e h.2.1, va_Nw.same rfl e h.2.2⟩
def xrm (d : Nat) : Room := { frames := d, cells := 0, slots := 0, locals := 34 * d }
def xQ (Λ : xLay) (G : xG) (A : Nat → Prop) (Q : Option Value → xMem → Prop) : Array Value → State → Outcome → State → Prop := fun _ st oc t =>
  (∃ (v : Option Value) (J : xMem), oc = .returned (v.map (xv G.2.2)) ∧ Q v J ∧ va_P G.1 vwCl (xw Λ G J) t.heap) ∧ va_F A st t
def xC (μ : xM) (G : xG) (A : Nat → Prop) (p : Program) (s : State) (m : MethodId) (args : Array Value) (meth : Method) (c : Code) : Prop :=
  p.tables.exec = Jvm.exec ∧ c.code = μ.2.1 ∧ meth.sig.returnType = μ.2.2.2 ∧ c.maxLocals = μ.2.2.1 ∧ s.vm.findClass μ.1 = some m.cls ∧ (∀ w ∈ x_good, w.before args s = true) ∧ meth.locks = false ∧ va_K G.1 vwCl (xtys G) s ∧ xNw s ∧ ∀ q : Nat, s.heap.size ≤ q → A q
/-- the locals that are held: ints and cells -/
def xal (ad : Nat → Nat) : Nat → List Value → List (Nat × Value)
  | _, [] => []
  | i, .int x :: r => (i, .int x) :: xal ad (i + 1) r
  | i, .ref k :: r => (i, .ref (ad k)) :: xal ad (i + 1) r
  | i, _ :: r => xal ad (i + 1) r
def Wx (Λ : xLay) (μ : xM) (d : Nat) (Q : Option Value → xMem → Prop) (pc : Nat) (ls st : List Value) (I : xMem) : Prop :=
  ∀ (l : Launch) (G : xG) (A : Nat → Prop) (p : Program) (e : Env) (s : State) (m : MethodId) (args : Array Value) (below : List Frame) (meth : Method) (c : Code) (H : Heap) (locs : List Loc) (la : Array Slot),
    xC μ G A p s m args meth c → va_P G.1 vwCl (xw Λ G I) H → va_D A (xw Λ G I) → va_S A s.heap H locs → lv_has la μ.2.2.1 (xal G.2.2 0 ls) →
    W p l e (xrm d) s m args below meth c H locs 0 0 (MQ below (xQ Λ G A Q) args s 0 0 A) (F0 m pc la (st.map (xv G.2.2)))
theorem xal_int (ad : Nat → Nat) {x : Int32} : ∀ {ls : List Value} {j i : Nat}, ls[i]? = some (.int x) → (j + i, Value.int x) ∈ xal ad j ls := by
  intro ls
  induction ls with
  | nil => intro j i h; simp at h
  | cons v r ih =>
    intro j i h
    cases i with
    | zero => simp at h; subst h; exact List.mem_cons_self
    | succ i =>
      have h2 := ih (j := j + 1) (i := i) (by simpa using h)
      rw [show j + 1 + i = j + (i + 1) by omega] at h2
      cases v <;> simp [xal, h2]
theorem xal_ref (ad : Nat → Nat) {k : Nat} : ∀ {ls : List Value} {j i : Nat}, ls[i]? = some (.ref k) → (j + i, Value.ref (ad k)) ∈ xal ad j ls := by
  intro ls
  induction ls with
  | nil => intro j i h; simp at h
  | cons v r ih =>
    intro j i h
    cases i with
    | zero => simp at h; subst h; exact List.mem_cons_self
    | succ i =>
      have h2 := ih (j := j + 1) (i := i) (by simpa using h)
      rw [show j + 1 + i = j + (i + 1) by omega] at h2
      cases v <;> simp [xal, h2]
theorem xal_lo (ad : Nat → Nat) : ∀ (ls : List Value) (j : Nat), ∀ q ∈ xal ad j ls, j ≤ q.1 ∧ q.2.category = 1 := by
  intro ls
  induction ls with
  | nil => intro j q h; simp [xal] at h
  | cons v r ih =>
    intro j q h
    have tl : q ∈ xal ad (j + 1) r → j ≤ q.1 ∧ q.2.category = 1 := fun h => ⟨by have := (ih (j + 1) q h).1; omega, (ih (j + 1) q h).2⟩
    cases v with
    | int x => simp only [xal, List.mem_cons] at h; rcases h with rfl | h; exact ⟨Nat.le_refl _, rfl⟩; exact tl h
    | ref k => simp only [xal, List.mem_cons] at h; rcases h with rfl | h; exact ⟨Nat.le_refl _, rfl⟩; exact tl h
    | _ => simp only [xal] at h; exact tl h
theorem xal_set (ad : Nat → Nat) {v : Value} (hv : v.category = 1) : ∀ (ls : List Value) (j i : Nat), ∀ q ∈ xal ad j (ls.set i v), q = (j + i, xv ad v) ∨ (q ∈ xal ad j ls ∧ q.1 ≠ j + i) := by
  intro ls
  induction ls with
  | nil => intro j i q h; simp [xal] at h
  | cons w r ih =>
    intro j i q h
    cases i with
    | zero =>
      simp only [List.set_cons_zero] at h
      have tl : q ∈ xal ad (j + 1) r → q = (j + 0, xv ad v) ∨ (q ∈ xal ad j (w :: r) ∧ q.1 ≠ j + 0) := fun h =>
        Or.inr ⟨by cases w <;> simp [xal, h], by have := (xal_lo ad r (j + 1) q h).1; omega⟩
      cases v with
      | int x => simp only [xal, List.mem_cons] at h; rcases h with rfl | h; exact Or.inl rfl; exact tl h
      | ref k => simp only [xal, List.mem_cons] at h; rcases h with rfl | h; exact Or.inl rfl; exact tl h
      | _ => simp only [xal] at h; exact tl h
    | succ i =>
      simp only [List.set_cons_succ] at h
      have tl : q ∈ xal ad (j + 1) (r.set i v) → q = (j + (i + 1), xv ad v) ∨ (q ∈ xal ad j (w :: r) ∧ q.1 ≠ j + (i + 1)) := fun h => by
        rcases ih (j + 1) i q h with e | ⟨e1, e2⟩
        · exact Or.inl (by rw [e]; congr 1; omega)
        · exact Or.inr ⟨by cases w <;> simp [xal, e1], by omega⟩
      cases w with
      | int x => simp only [xal, List.mem_cons] at h; rcases h with rfl | h; exact Or.inr ⟨by simp [xal], by simp⟩; exact tl h
      | ref k => simp only [xal, List.mem_cons] at h; rcases h with rfl | h; exact Or.inr ⟨by simp [xal], by simp⟩; exact tl h
      | _ => simp only [xal] at h; exact tl h
/-- the locals behind a store -/
theorem xal_store {ad : Nat → Nat} {ls : List Value} {la : Array Slot} {nL i : Nat} {v : Value} (hc : v.category = 1) (h : lv_has la nL ((i, xv ad v) :: (xal ad 0 ls).filter (fun q => !(q.1 == i) && !(q.1 + 1 == i && q.2.category == 2)))) : lv_has la nL (xal ad 0 (ls.set i v)) := by
  refine ⟨h.1, h.2.1, fun q hq => h.2.2 q ?_⟩
  rcases xal_set ad hc ls 0 i q hq with e | ⟨e1, e2⟩
  · rw [e]; simp
  · refine List.mem_cons_of_mem _ (List.mem_filter.mpr ⟨e1, ?_⟩)
    have := (xal_lo ad ls 0 q e1).2
    have e3 : q.1 ≠ i := by omega
    simp [this, e3]
def Cx (Λ : xLay) (y : MethodName) (μ : xM) (d : Nat) (as : List Value) (I : xMem) (Q : Option Value → xMem → Prop) : Prop :=
  ∀ (l : Launch) (G : xG) (sz : Nat), Met l y (Cond.code y μ.2.1 μ.2.2.1 μ.2.2.2 :: x_good) (xrm d) (va_Pc (as.map (xv G.2.2)) (fun U => U.heap.size = sz ∧ va_P G.1 vwCl (xw Λ G I) U.heap ∧ va_K G.1 vwCl (xtys G) U ∧ xNw U ∧ va_D (fun _ => True) (xw Λ G I))) (xQ Λ G (va_A (xw Λ G I) sz) Q) 0 0 (va_A (xw Λ G I) sz)
theorem xal_nulls (ad : Nat → Nat) : ∀ (tl : List Value) (j : Nat), (∀ v ∈ tl, v = .null) → ∀ q, ¬ q ∈ xal ad j tl := by
  intro tl
  induction tl with
  | nil => intro j _ q hq; simp [xal] at hq
  | cons v r ih =>
    intro j ht q hq
    have := ht v List.mem_cons_self
    subst this
    simp only [xal] at hq
    exact ih (j + 1) (fun v h => ht v (List.mem_cons_of_mem _ h)) q hq
theorem xal_args (ad : Nat → Nat) : ∀ (as : List Value) (j : Nat) (tl : List Value), (∀ v ∈ as, v.category = 1) → (∀ v ∈ tl, v = .null) → ∀ q ∈ xal ad j (as ++ tl), q ∈ lv_args j (as.map (xv ad)) := by
  intro as
  induction as with
  | nil =>
    intro j tl _ ht q hq
    exact absurd hq (xal_nulls ad tl j ht q)
  | cons v r ih =>
    intro j tl hc ht q hq
    have h1 := hc v List.mem_cons_self
    have e : lv_args j ((v :: r).map (xv ad)) = (j, xv ad v) :: lv_args (j + 1) (r.map (xv ad)) := by
      simp [lv_args, xv_cat, h1]
    rw [e]
    have tl' : q ∈ xal ad (j + 1) (r ++ tl) → q ∈ (j, xv ad v) :: lv_args (j + 1) (r.map (xv ad)) := fun h => List.mem_cons_of_mem _ (ih (j + 1) tl (fun v h => hc v (List.mem_cons_of_mem _ h)) ht q h)
    cases v with
    | int x => simp only [List.cons_append, xal, List.mem_cons] at hq; rcases hq with rfl | h; exact List.mem_cons_self; exact tl' h
    | ref k => simp only [List.cons_append, xal, List.mem_cons] at hq; rcases hq with rfl | h; exact List.mem_cons_self; exact tl' h
    | _ => simp only [List.cons_append, xal] at hq; exact tl' hq
theorem lg_sl_len (vs : List Value) (h : ∀ v ∈ vs, v.category = 1) : (lg_sl vs).length = vs.length := by
  induction vs with
  | nil => rfl
  | cons v r ih =>
    have h1 := h v List.mem_cons_self
    have := ih (fun v h' => h v (List.mem_cons_of_mem _ h'))
    simp only [lg_sl] at this ⊢
    simp [h1, this]
/-- a contract out of a walk from the method's entry -/
theorem Cx.of {Λ : xLay} {y : MethodName} {μ : xM} {d : Nat} {as : List Value} {I : xMem} {Q : Option Value → xMem → Prop} (ls : List Value) (hy : plainName y.cls = true) (hμ : μ.1 = y.cls) (hls : as ++ List.replicate (μ.2.2.1 - as.length) Value.null = ls) (hn : as.length ≤ μ.2.2.1) (hcat : as.all (fun v => v.category == 1) = true) (h : Wx Λ μ d Q 0 ls [] I) : Cx Λ y μ d as I Q := by
  intro l G sz
  refine Met.ofW (cc := μ.2.1) (maxL := μ.2.2.1) (ret := μ.2.2.2) hy rfl ?_
  intro p e s m args below meth c s₁ B hml hv
  obtain ⟨rfl, hsz, hP, hK, hN, hD0⟩ := hv
  have hts : ∀ w ∈ x_good, w.before (as.map (xv G.2.2)).toArray s = true := fun w hw => atoms_spec (ws := Cond.code y μ.2.1 μ.2.2.1 μ.2.2.2 :: x_good) B.pre w (List.mem_cons_of_mem _ hw)
  have hown : s.vm.findClass μ.1 = some m.cls := by rw [hμ]; exact findClass_of_methodNamed B.named
  subst hsz
  have hD := hD0.self (sz := s.heap.size)
  have hA : ∀ q : Nat, s.heap.size ≤ q → va_A (xw Λ G I) s.heap.size q := fun q h => Or.inr h
  have hS : va_S (va_A (xw Λ G I) s.heap.size) s.heap s.heap [] := va_S.rf
  have hc1 : ∀ v ∈ as, v.category = 1 := fun v hv => by simpa using List.all_eq_true.mp hcat v hv
  have hc2 : ∀ v ∈ as.map (xv G.2.2), v.category = 1 := fun v hv => by
    obtain ⟨w, hw, rfl⟩ := List.mem_map.mp hv
    rw [xv_cat]; exact hc1 w hw
  have hl := lv_entry (as.map (xv G.2.2)) (n := μ.2.2.1) (by rw [lg_sl_len _ hc2, List.length_map]; exact hn)
  rw [lg_entry_eq]
  refine h l G _ p e s m _ below meth c s.heap [] _ ⟨B.exec, B.bytes, B.returns, hml, hown, hts, B.notSynchronized, hK, hN, hA⟩ hP hD hS ⟨hl.1, hl.2.1, fun q hq => hl.2.2 q ?_⟩
  rw [← hls] at hq
  exact xal_args G.2.2 as 0 _ hc1 (fun v hv => List.eq_of_mem_replicate hv) q hq
theorem Cx.mono {Λ : xLay} {y : MethodName} {μ : xM} {d : Nat} {as : List Value} {I : xMem} {Q Q' : Option Value → xMem → Prop} (h : Cx Λ y μ d as I Q) (hQ : ∀ v J, Q v J → Q' v J) : Cx Λ y μ d as I Q' := by
  intro l G sz
  refine MetFree.mono (h l G sz) (fun _ _ h => h) (fun _ _ _ _ _ h => h) (fun a st o t _ hq => ?_)
  obtain ⟨⟨⟨v, J, h1, h2, h3⟩, h4⟩, h5⟩ := hq
  exact ⟨⟨⟨v, J, h1, hQ v J h2, h3⟩, h4⟩, h5⟩
end
section
section XR
variable {Λ : xLay} {μ : xM} {d : Nat} {Q : Option Value → xMem → Prop} {pc : Nat} {ls st : List Value} {I : xMem}
theorem x_iconst {n : Int} {v : Int32} (hd : decode μ.2.1 pc = .ok (.iconst n, 1)) (hv : Int32.ofInt n = v) (k : Wx Λ μ d Q (pc + 1) ls (.int v :: st) I) : Wx Λ μ d Q pc ls st I := by
  intro l G A p e s m args below meth c H locs la hC hP hD hS hl
  exact lv_iconst hC.1 hC.2.1 hd hv (k l G A p e s m args below meth c H locs la hC hP hD hS hl)
theorem x_bipush {n : Int} {v : Int32} (hd : decode μ.2.1 pc = .ok (.bipush n, 2)) (hv : (Int8.ofInt n).toInt32 = v) (k : Wx Λ μ d Q (pc + 2) ls (.int v :: st) I) : Wx Λ μ d Q pc ls st I := by
  intro l G A p e s m args below meth c H locs la hC hP hD hS hl
  exact lv_bipush hC.1 hC.2.1 hd hv (k l G A p e s m args below meth c H locs la hC hP hD hS hl)
theorem x_sipush {n : Int} {v : Int32} (hd : decode μ.2.1 pc = .ok (.sipush n, 3)) (hv : (Int16.ofInt n).toInt32 = v) (k : Wx Λ μ d Q (pc + 3) ls (.int v :: st) I) : Wx Λ μ d Q pc ls st I := by
  intro l G A p e s m args below meth c H locs la hC hP hD hS hl
  exact lv_sipush hC.1 hC.2.1 hd hv (k l G A p e s m args below meth c H locs la hC hP hD hS hl)
theorem x_iadd {x y v : Int32} (hd : decode μ.2.1 pc = .ok (.iadd, 1)) (hv : x + y = v) (k : Wx Λ μ d Q (pc + 1) ls (.int v :: st) I) : Wx Λ μ d Q pc ls (.int y :: .int x :: st) I := by
  intro l G A p e s m args below meth c H locs la hC hP hD hS hl
  subst hv
  exact lv_iadd hC.1 hC.2.1 hd (k l G A p e s m args below meth c H locs la hC hP hD hS hl)
theorem x_isub {x y v : Int32} (hd : decode μ.2.1 pc = .ok (.isub, 1)) (hv : x - y = v) (k : Wx Λ μ d Q (pc + 1) ls (.int v :: st) I) : Wx Λ μ d Q pc ls (.int y :: .int x :: st) I := by
  intro l G A p e s m args below meth c H locs la hC hP hD hS hl
  subst hv
  exact lv_isub hC.1 hC.2.1 hd (k l G A p e s m args below meth c H locs la hC hP hD hS hl)
theorem x_imul {x y v : Int32} (hd : decode μ.2.1 pc = .ok (.imul, 1)) (hv : x * y = v) (k : Wx Λ μ d Q (pc + 1) ls (.int v :: st) I) : Wx Λ μ d Q pc ls (.int y :: .int x :: st) I := by
  intro l G A p e s m args below meth c H locs la hC hP hD hS hl
  subst hv
  exact lv_imul hC.1 hC.2.1 hd (k l G A p e s m args below meth c H locs la hC hP hD hS hl)
theorem x_iand {x y v : Int32} (hd : decode μ.2.1 pc = .ok (.iand, 1)) (hv : x &&& y = v) (k : Wx Λ μ d Q (pc + 1) ls (.int v :: st) I) : Wx Λ μ d Q pc ls (.int y :: .int x :: st) I := by
  intro l G A p e s m args below meth c H locs la hC hP hD hS hl
  subst hv
  exact lv_iand hC.1 hC.2.1 hd (k l G A p e s m args below meth c H locs la hC hP hD hS hl)
theorem x_ior {x y v : Int32} (hd : decode μ.2.1 pc = .ok (.ior, 1)) (hv : x ||| y = v) (k : Wx Λ μ d Q (pc + 1) ls (.int v :: st) I) : Wx Λ μ d Q pc ls (.int y :: .int x :: st) I := by
  intro l G A p e s m args below meth c H locs la hC hP hD hS hl
  subst hv
  exact lv_ior hC.1 hC.2.1 hd (k l G A p e s m args below meth c H locs la hC hP hD hS hl)
theorem x_ixor {x y v : Int32} (hd : decode μ.2.1 pc = .ok (.ixor, 1)) (hv : x ^^^ y = v) (k : Wx Λ μ d Q (pc + 1) ls (.int v :: st) I) : Wx Λ μ d Q pc ls (.int y :: .int x :: st) I := by
  intro l G A p e s m args below meth c H locs la hC hP hD hS hl
  subst hv
  exact lv_ixor hC.1 hC.2.1 hd (k l G A p e s m args below meth c H locs la hC hP hD hS hl)
theorem x_ishl {x y v : Int32} (hd : decode μ.2.1 pc = .ok (.ishl, 1)) (hv : x <<< (y &&& 31) = v) (k : Wx Λ μ d Q (pc + 1) ls (.int v :: st) I) : Wx Λ μ d Q pc ls (.int y :: .int x :: st) I := by
  intro l G A p e s m args below meth c H locs la hC hP hD hS hl
  subst hv
  exact lv_ishl hC.1 hC.2.1 hd (k l G A p e s m args below meth c H locs la hC hP hD hS hl)
theorem x_ishr {x y v : Int32} (hd : decode μ.2.1 pc = .ok (.ishr, 1)) (hv : x >>> (y &&& 31) = v) (k : Wx Λ μ d Q (pc + 1) ls (.int v :: st) I) : Wx Λ μ d Q pc ls (.int y :: .int x :: st) I := by
  intro l G A p e s m args below meth c H locs la hC hP hD hS hl
  subst hv
  exact lv_ishr hC.1 hC.2.1 hd (k l G A p e s m args below meth c H locs la hC hP hD hS hl)
theorem x_iushr {x y v : Int32} (hd : decode μ.2.1 pc = .ok (.iushr, 1)) (hv : (x.toUInt32 >>> (y.toUInt32 &&& Int32.toUInt32 31)).toInt32 = v) (k : Wx Λ μ d Q (pc + 1) ls (.int v :: st) I) : Wx Λ μ d Q pc ls (.int y :: .int x :: st) I := by
  intro l G A p e s m args below meth c H locs la hC hP hD hS hl
  exact lv_iushr hC.1 hC.2.1 hd hv (k l G A p e s m args below meth c H locs la hC hP hD hS hl)
theorem x_iload_n {k : Fin 4} {x : Int32} (hd : decode μ.2.1 pc = .ok (.iload_n k, 1)) (h : ls[(k : Nat)]? = some (.int x)) (kk : Wx Λ μ d Q (pc + 1) ls (.int x :: st) I) : Wx Λ μ d Q pc ls st I := by
  intro l G A p e s m args below meth c H locs la hC hP hD hS hl
  exact lv_iload_n hC.1 hC.2.1 hd rfl (by have := hl.2.2 _ (xal_int G.2.2 (j := 0) h); simpa using this) (kk l G A p e s m args below meth c H locs la hC hP hD hS hl)
theorem x_iload {i : Nat} {x : Int32} (hd : decode μ.2.1 pc = .ok (.iload i, 2)) (h : ls[i]? = some (.int x)) (kk : Wx Λ μ d Q (pc + 2) ls (.int x :: st) I) : Wx Λ μ d Q pc ls st I := by
  intro l G A p e s m args below meth c H locs la hC hP hD hS hl
  exact lv_iload hC.1 hC.2.1 hd (by have := hl.2.2 _ (xal_int G.2.2 (j := 0) h); simpa using this) (kk l G A p e s m args below meth c H locs la hC hP hD hS hl)
theorem x_aload_n {k : Fin 4} {x : Nat} (hd : decode μ.2.1 pc = .ok (.aload_n k, 1)) (h : ls[(k : Nat)]? = some (.ref x)) (kk : Wx Λ μ d Q (pc + 1) ls (.ref x :: st) I) : Wx Λ μ d Q pc ls st I := by
  intro l G A p e s m args below meth c H locs la hC hP hD hS hl
  exact lv_aload_n hC.1 hC.2.1 hd rfl (by have := hl.2.2 _ (xal_ref G.2.2 (j := 0) h); simpa using this) (kk l G A p e s m args below meth c H locs la hC hP hD hS hl)
theorem x_aload {i : Nat} {x : Nat} (hd : decode μ.2.1 pc = .ok (.aload i, 2)) (h : ls[i]? = some (.ref x)) (kk : Wx Λ μ d Q (pc + 2) ls (.ref x :: st) I) : Wx Λ μ d Q pc ls st I := by
  intro l G A p e s m args below meth c H locs la hC hP hD hS hl
  exact lv_aload hC.1 hC.2.1 hd (by have := hl.2.2 _ (xal_ref G.2.2 (j := 0) h); simpa using this) (kk l G A p e s m args below meth c H locs la hC hP hD hS hl)
theorem x_istore_n {k : Fin 4} {x : Int32} {ls' : List Value} (hd : decode μ.2.1 pc = .ok (.istore_n k, 1)) (hn : decide ((k : Nat) < μ.2.2.1) = true) (hs : ls.set k (.int x) = ls') (kk : Wx Λ μ d Q (pc + 1) ls' st I) : Wx Λ μ d Q pc ls (.int x :: st) I := by
  intro l G A p e s m args below meth c H locs la hC hP hD hS hl
  subst hs
  exact lv_istore_n hC.1 hC.2.1 hd rfl hl (of_decide_eq_true hn) rfl (fun la' hl' => kk l G A p e s m args below meth c H locs la' hC hP hD hS (xal_store (v := .int x) rfl hl'))
theorem x_astore_n {k : Fin 4} {x : Nat} {ls' : List Value} (hd : decode μ.2.1 pc = .ok (.astore_n k, 1)) (hn : decide ((k : Nat) < μ.2.2.1) = true) (hs : ls.set k (.ref x) = ls') (kk : Wx Λ μ d Q (pc + 1) ls' st I) : Wx Λ μ d Q pc ls (.ref x :: st) I := by
  intro l G A p e s m args below meth c H locs la hC hP hD hS hl
  subst hs
  exact lv_astore_n hC.1 hC.2.1 hd rfl hl (of_decide_eq_true hn) rfl (fun la' hl' => kk l G A p e s m args below meth c H locs la' hC hP hD hS (xal_store (v := .ref x) rfl hl'))
theorem x_istore {k : Nat} {x : Int32} {ls' : List Value} (hd : decode μ.2.1 pc = .ok (.istore k, 2)) (hn : decide ((k : Nat) < μ.2.2.1) = true) (hs : ls.set k (.int x) = ls') (kk : Wx Λ μ d Q (pc + 2) ls' st I) : Wx Λ μ d Q pc ls (.int x :: st) I := by
  intro l G A p e s m args below meth c H locs la hC hP hD hS hl
  subst hs
  exact lv_istore hC.1 hC.2.1 hd hl (of_decide_eq_true hn) rfl (fun la' hl' => kk l G A p e s m args below meth c H locs la' hC hP hD hS (xal_store (v := .int x) rfl hl'))
theorem x_astore {k : Nat} {x : Nat} {ls' : List Value} (hd : decode μ.2.1 pc = .ok (.astore k, 2)) (hn : decide ((k : Nat) < μ.2.2.1) = true) (hs : ls.set k (.ref x) = ls') (kk : Wx Λ μ d Q (pc + 2) ls' st I) : Wx Λ μ d Q pc ls (.ref x :: st) I := by
  intro l G A p e s m args below meth c H locs la hC hP hD hS hl
  subst hs
  exact lv_astore hC.1 hC.2.1 hd hl (of_decide_eq_true hn) rfl (fun la' hl' => kk l G A p e s m args below meth c H locs la' hC hP hD hS (xal_store (v := .ref x) rfl hl'))
theorem x_iinc {i : Nat} {n : Int} {x v : Int32} {ls' : List Value} (hd : decode μ.2.1 pc = .ok (.iinc i n, 3)) (hx : ls[i]? = some (.int x)) (hv : x + Int32.ofInt n = v) (hn : decide (i < μ.2.2.1) = true) (hs : ls.set i (.int v) = ls') (kk : Wx Λ μ d Q (pc + 3) ls' st I) : Wx Λ μ d Q pc ls st I := by
  intro l G A p e s m args below meth c H locs la hC hP hD hS hl
  subst hs
  have hm := xal_int G.2.2 (j := 0) hx
  rw [Nat.zero_add] at hm
  obtain ⟨q, hq⟩ := List.mem_iff_getElem?.mp hm
  exact lv_iinc hC.1 hC.2.1 hd hl hq hv (of_decide_eq_true hn) rfl (fun la' hl' => kk l G A p e s m args below meth c H locs la' hC hP hD hS (xal_store (v := .int v) rfl hl'))
theorem x_dup {v : Value} (hd : decode μ.2.1 pc = .ok (.dup, 1)) (hv : v.category = 1) (kk : Wx Λ μ d Q (pc + 1) ls (v :: v :: st) I) : Wx Λ μ d Q pc ls (v :: st) I := by
  intro l G A p e s m args below meth c H locs la hC hP hD hS hl
  exact lv_dup hC.1 hC.2.1 hd (by rw [xv_cat]; exact hv) (kk l G A p e s m args below meth c H locs la hC hP hD hS hl)
theorem x_pop {v : Value} (hd : decode μ.2.1 pc = .ok (.pop, 1)) (hv : v.category = 1) (kk : Wx Λ μ d Q (pc + 1) ls st I) : Wx Λ μ d Q pc ls (v :: st) I := by
  intro l G A p e s m args below meth c H locs la hC hP hD hS hl
  exact lv_pop hC.1 hC.2.1 hd (by rw [xv_cat]; exact hv) (kk l G A p e s m args below meth c H locs la hC hP hD hS hl)
theorem x_dup2 {v w : Value} (hd : decode μ.2.1 pc = .ok (.dup2, 1)) (hv : v.category = 1) (hw : w.category = 1) (kk : Wx Λ μ d Q (pc + 1) ls (v :: w :: v :: w :: st) I) : Wx Λ μ d Q pc ls (v :: w :: st) I := by
  intro l G A p e s m args below meth c H locs la hC hP hD hS hl
  exact lv_dup2_11 hC.1 hC.2.1 hd (by rw [xv_cat]; exact hv) (by rw [xv_cat]; exact hw) (kk l G A p e s m args below meth c H locs la hC hP hD hS hl)
theorem x_if_eq {x : Int32} {off : Int} {tgt : Nat} (hd : decode μ.2.1 pc = .ok (.ifCond .eq off, 3)) (ht : (pc : Int) + off = (tgt : Int)) (kt : x = 0 → Wx Λ μ d Q tgt ls st I) (kf : ¬ x = 0 → Wx Λ μ d Q (pc + 3) ls st I) : Wx Λ μ d Q pc ls (.int x :: st) I := by
  intro l G A p e s m args below meth c H locs la hC hP hD hS hl
  exact lv_if_eq hC.1 hC.2.1 hd ht (fun h => kt h l G A p e s m args below meth c H locs la hC hP hD hS hl) (fun h => kf h l G A p e s m args below meth c H locs la hC hP hD hS hl)
theorem x_icmp_eq {x y : Int32} {off : Int} {tgt : Nat} (hd : decode μ.2.1 pc = .ok (.if_icmp .eq off, 3)) (ht : (pc : Int) + off = (tgt : Int)) (kt : x = y → Wx Λ μ d Q tgt ls st I) (kf : ¬ x = y → Wx Λ μ d Q (pc + 3) ls st I) : Wx Λ μ d Q pc ls (.int y :: .int x :: st) I := by
  intro l G A p e s m args below meth c H locs la hC hP hD hS hl
  exact lv_icmp_eq hC.1 hC.2.1 hd ht (fun h => kt h l G A p e s m args below meth c H locs la hC hP hD hS hl) (fun h => kf h l G A p e s m args below meth c H locs la hC hP hD hS hl)
theorem x_if_ne {x : Int32} {off : Int} {tgt : Nat} (hd : decode μ.2.1 pc = .ok (.ifCond .ne off, 3)) (ht : (pc : Int) + off = (tgt : Int)) (kt : ¬ x = 0 → Wx Λ μ d Q tgt ls st I) (kf : x = 0 → Wx Λ μ d Q (pc + 3) ls st I) : Wx Λ μ d Q pc ls (.int x :: st) I := by
  intro l G A p e s m args below meth c H locs la hC hP hD hS hl
  exact lv_if_ne hC.1 hC.2.1 hd ht (fun h => kt h l G A p e s m args below meth c H locs la hC hP hD hS hl) (fun h => kf h l G A p e s m args below meth c H locs la hC hP hD hS hl)
theorem x_icmp_ne {x y : Int32} {off : Int} {tgt : Nat} (hd : decode μ.2.1 pc = .ok (.if_icmp .ne off, 3)) (ht : (pc : Int) + off = (tgt : Int)) (kt : ¬ x = y → Wx Λ μ d Q tgt ls st I) (kf : x = y → Wx Λ μ d Q (pc + 3) ls st I) : Wx Λ μ d Q pc ls (.int y :: .int x :: st) I := by
  intro l G A p e s m args below meth c H locs la hC hP hD hS hl
  exact lv_icmp_ne hC.1 hC.2.1 hd ht (fun h => kt h l G A p e s m args below meth c H locs la hC hP hD hS hl) (fun h => kf h l G A p e s m args below meth c H locs la hC hP hD hS hl)
theorem x_if_lt {x : Int32} {off : Int} {tgt : Nat} (hd : decode μ.2.1 pc = .ok (.ifCond .lt off, 3)) (ht : (pc : Int) + off = (tgt : Int)) (kt : x < 0 → Wx Λ μ d Q tgt ls st I) (kf : ¬ x < 0 → Wx Λ μ d Q (pc + 3) ls st I) : Wx Λ μ d Q pc ls (.int x :: st) I := by
  intro l G A p e s m args below meth c H locs la hC hP hD hS hl
  exact lv_if_lt hC.1 hC.2.1 hd ht (fun h => kt h l G A p e s m args below meth c H locs la hC hP hD hS hl) (fun h => kf h l G A p e s m args below meth c H locs la hC hP hD hS hl)
theorem x_icmp_lt {x y : Int32} {off : Int} {tgt : Nat} (hd : decode μ.2.1 pc = .ok (.if_icmp .lt off, 3)) (ht : (pc : Int) + off = (tgt : Int)) (kt : x < y → Wx Λ μ d Q tgt ls st I) (kf : ¬ x < y → Wx Λ μ d Q (pc + 3) ls st I) : Wx Λ μ d Q pc ls (.int y :: .int x :: st) I := by
  intro l G A p e s m args below meth c H locs la hC hP hD hS hl
  exact lv_icmp_lt hC.1 hC.2.1 hd ht (fun h => kt h l G A p e s m args below meth c H locs la hC hP hD hS hl) (fun h => kf h l G A p e s m args below meth c H locs la hC hP hD hS hl)
theorem x_if_ge {x : Int32} {off : Int} {tgt : Nat} (hd : decode μ.2.1 pc = .ok (.ifCond .ge off, 3)) (ht : (pc : Int) + off = (tgt : Int)) (kt : 0 ≤ x → Wx Λ μ d Q tgt ls st I) (kf : ¬ 0 ≤ x → Wx Λ μ d Q (pc + 3) ls st I) : Wx Λ μ d Q pc ls (.int x :: st) I := by
  intro l G A p e s m args below meth c H locs la hC hP hD hS hl
  exact lv_if_ge hC.1 hC.2.1 hd ht (fun h => kt h l G A p e s m args below meth c H locs la hC hP hD hS hl) (fun h => kf h l G A p e s m args below meth c H locs la hC hP hD hS hl)
theorem x_icmp_ge {x y : Int32} {off : Int} {tgt : Nat} (hd : decode μ.2.1 pc = .ok (.if_icmp .ge off, 3)) (ht : (pc : Int) + off = (tgt : Int)) (kt : y ≤ x → Wx Λ μ d Q tgt ls st I) (kf : ¬ y ≤ x → Wx Λ μ d Q (pc + 3) ls st I) : Wx Λ μ d Q pc ls (.int y :: .int x :: st) I := by
  intro l G A p e s m args below meth c H locs la hC hP hD hS hl
  exact lv_icmp_ge hC.1 hC.2.1 hd ht (fun h => kt h l G A p e s m args below meth c H locs la hC hP hD hS hl) (fun h => kf h l G A p e s m args below meth c H locs la hC hP hD hS hl)
theorem x_if_gt {x : Int32} {off : Int} {tgt : Nat} (hd : decode μ.2.1 pc = .ok (.ifCond .gt off, 3)) (ht : (pc : Int) + off = (tgt : Int)) (kt : 0 < x → Wx Λ μ d Q tgt ls st I) (kf : ¬ 0 < x → Wx Λ μ d Q (pc + 3) ls st I) : Wx Λ μ d Q pc ls (.int x :: st) I := by
  intro l G A p e s m args below meth c H locs la hC hP hD hS hl
  exact lv_if_gt hC.1 hC.2.1 hd ht (fun h => kt h l G A p e s m args below meth c H locs la hC hP hD hS hl) (fun h => kf h l G A p e s m args below meth c H locs la hC hP hD hS hl)
theorem x_icmp_gt {x y : Int32} {off : Int} {tgt : Nat} (hd : decode μ.2.1 pc = .ok (.if_icmp .gt off, 3)) (ht : (pc : Int) + off = (tgt : Int)) (kt : y < x → Wx Λ μ d Q tgt ls st I) (kf : ¬ y < x → Wx Λ μ d Q (pc + 3) ls st I) : Wx Λ μ d Q pc ls (.int y :: .int x :: st) I := by
  intro l G A p e s m args below meth c H locs la hC hP hD hS hl
  exact lv_icmp_gt hC.1 hC.2.1 hd ht (fun h => kt h l G A p e s m args below meth c H locs la hC hP hD hS hl) (fun h => kf h l G A p e s m args below meth c H locs la hC hP hD hS hl)
theorem x_if_le {x : Int32} {off : Int} {tgt : Nat} (hd : decode μ.2.1 pc = .ok (.ifCond .le off, 3)) (ht : (pc : Int) + off = (tgt : Int)) (kt : x ≤ 0 → Wx Λ μ d Q tgt ls st I) (kf : ¬ x ≤ 0 → Wx Λ μ d Q (pc + 3) ls st I) : Wx Λ μ d Q pc ls (.int x :: st) I := by
  intro l G A p e s m args below meth c H locs la hC hP hD hS hl
  exact lv_if_le hC.1 hC.2.1 hd ht (fun h => kt h l G A p e s m args below meth c H locs la hC hP hD hS hl) (fun h => kf h l G A p e s m args below meth c H locs la hC hP hD hS hl)
theorem x_icmp_le {x y : Int32} {off : Int} {tgt : Nat} (hd : decode μ.2.1 pc = .ok (.if_icmp .le off, 3)) (ht : (pc : Int) + off = (tgt : Int)) (kt : x ≤ y → Wx Λ μ d Q tgt ls st I) (kf : ¬ x ≤ y → Wx Λ μ d Q (pc + 3) ls st I) : Wx Λ μ d Q pc ls (.int y :: .int x :: st) I := by
  intro l G A p e s m args below meth c H locs la hC hP hD hS hl
  exact lv_icmp_le hC.1 hC.2.1 hd ht (fun h => kt h l G A p e s m args below meth c H locs la hC hP hD hS hl) (fun h => kf h l G A p e s m args below meth c H locs la hC hP hD hS hl)
theorem x_goto {off : Int} {tgt : Nat} (hd : decode μ.2.1 pc = .ok (.goto off, 3)) (ht : (pc : Int) + off = (tgt : Int)) (k : Wx Λ μ d Q tgt ls st I) : Wx Λ μ d Q pc ls st I := by
  intro l G A p e s m args below meth c H locs la hC hP hD hS hl
  exact lv_goto hC.1 hC.2.1 hd ht (k l G A p e s m args below meth c H locs la hC hP hD hS hl)
theorem x_tableOut {dflt lo hi : Int} {offs : Array Int} {len : Nat} {x : Int32} {tgt : Nat} (hd : decode μ.2.1 pc = .ok (.tableswitch dflt lo hi offs, len)) (h : x.toInt < lo ∨ hi < x.toInt) (ht : (pc : Int) + dflt = (tgt : Int)) (k : Wx Λ μ d Q tgt ls st I) : Wx Λ μ d Q pc ls (.int x :: st) I := by
  intro l G A p e s m args below meth c H locs la hC hP hD hS hl
  exact lv_tableOut hC.1 hC.2.1 hd h ht (k l G A p e s m args below meth c H locs la hC hP hD hS hl)
theorem x_tableIn {dflt lo hi : Int} {offs : Array Int} {len : Nat} {x : Int32} {off : Int} {tgt : Nat} (hd : decode μ.2.1 pc = .ok (.tableswitch dflt lo hi offs, len)) (h1 : ¬ x.toInt < lo) (h2 : ¬ hi < x.toInt) (ho : offs[(x.toInt - lo).toNat]? = some off) (ht : (pc : Int) + off = (tgt : Int)) (k : Wx Λ μ d Q tgt ls st I) : Wx Λ μ d Q pc ls (.int x :: st) I := by
  intro l G A p e s m args below meth c H locs la hC hP hD hS hl
  exact lv_tableIn hC.1 hC.2.1 hd h1 h2 ho ht (k l G A p e s m args below meth c H locs la hC hP hD hS hl)
theorem x_ldc {idx : Nat} {v : Int32} (hd : decode μ.2.1 pc = .ok (.ldc idx, 2)) (hk : Cond.constant μ.1 idx v ∈ x_good) (k : Wx Λ μ d Q (pc + 2) ls (.int v :: st) I) : Wx Λ μ d Q pc ls st I := by
  intro l G A p e s m args below meth c H locs la hC hP hD hS hl
  exact lv_ldc hC.1 hC.2.1 hC.2.2.2.2.1 (hC.2.2.2.2.2.1 _ hk) hd (k l G A p e s m args below meth c H locs la hC hP hD hS hl)
theorem x_ldcw {idx : Nat} {v : Int32} (hd : decode μ.2.1 pc = .ok (.ldc_w idx, 3)) (hk : Cond.constant μ.1 idx v ∈ x_good) (k : Wx Λ μ d Q (pc + 3) ls (.int v :: st) I) : Wx Λ μ d Q pc ls st I := by
  intro l G A p e s m args below meth c H locs la hC hP hD hS hl
  exact lv_ldcw hC.1 hC.2.1 hC.2.2.2.2.1 (hC.2.2.2.2.2.1 _ hk) hd (k l G A p e s m args below meth c H locs la hC hP hD hS hl)
theorem x_iret {v : Int32} (hd : decode μ.2.1 pc = .ok (.ireturn, 1)) (hr : μ.2.2.2 = some .int) (hq : Q (some (.int v)) I) : Wx Λ μ d Q pc ls [.int v] I := by
  intro l G A p e s m args below meth c H locs la hC hP hD hS hl
  exact W.iret hC.1 hC.2.1 (hC.2.2.1.trans hr) (fun t ht _ => ⟨⟨some (.int v), I, rfl, hq, by rw [ht]; exact hP⟩, hS.F ht⟩) hS.2.2 hd hC.2.2.2.2.2.2.1
theorem x_zret {v : Int32} (hd : decode μ.2.1 pc = .ok (.ireturn, 1)) (hr : μ.2.2.2 = some .boolean) (hv : v = 0 ∨ v = 1) (hq : Q (some (.int v)) I) : Wx Λ μ d Q pc ls [.int v] I := by
  intro l G A p e s m args below meth c H locs la hC hP hD hS hl
  exact W.zret (ty := .boolean) hC.1 hC.2.1 (hC.2.2.1.trans hr) (by rcases hv with rfl | rfl <;> rfl) (fun t ht _ => ⟨⟨some (.int v), I, rfl, hq, by rw [ht]; exact hP⟩, hS.F ht⟩) hS.2.2 hd hC.2.2.2.2.2.2.1
theorem x_vret (hd : decode μ.2.1 pc = .ok (.return_, 1)) (hr : μ.2.2.2 = none) (hq : Q none I) : Wx Λ μ d Q pc ls [] I := by
  intro l G A p e s m args below meth c H locs la hC hP hD hS hl
  exact W.vret hC.1 hC.2.1 (hC.2.2.1.trans hr) (fun t ht _ => ⟨⟨none, I, rfl, hq, by rw [ht]; exact hP⟩, hS.F ht⟩) hS.2.2 hd hC.2.2.2.2.2.2.1
theorem x_aret {k : Nat} {rt : String} (hd : decode μ.2.1 pc = .ok (.areturn, 1)) (hr : μ.2.2.2 = some (.object rt)) (hq : Q (some (.ref k)) I) : Wx Λ μ d Q pc ls [.ref k] I := by
  intro l G A p e s m args below meth c H locs la hC hP hD hS hl
  exact W.aret (v := .ref (G.2.2 k)) hC.1 hC.2.1 (hC.2.2.1.trans hr) (Or.inl ⟨_, rfl⟩) (Or.inr ⟨_, rfl⟩) (fun t ht _ => ⟨⟨some (.ref k), I, rfl, hq, by rw [ht]; exact hP⟩, hS.F ht⟩) hS.2.2 hd hC.2.2.2.2.2.2.1
end XR
end
section
/-! fields, arrays, calls of the layer -/
theorem x_wX0 : ∀ w ∈ u_ws RX0 TX0 14, w ∈ x_good := by decide +kernel
theorem x_wX2 : ∀ w ∈ u_ws RX2 TX2 4, w ∈ x_good := by decide +kernel
theorem x_wX3 : ∀ w ∈ u_ws RX3 TX3 1, w ∈ x_good := by decide +kernel
theorem x_wX4 : ∀ w ∈ u_ws RX4 TX4 1, w ∈ x_good := by decide +kernel
theorem x_wX5 : ∀ w ∈ u_ws RX5 TX5 6, w ∈ x_good := by decide +kernel
theorem x_wX6 : ∀ w ∈ u_ws RX6 TX6 17, w ∈ x_good := by decide +kernel
/-- what the tables say of a class of the worlds -/
theorem x_cls : ∀ (ci : Nat) (q : vw_C), vwCl[ci]? = some q → (∀ w ∈ u_ws q.1 q.2.1 q.2.2, w ∈ x_good) ∧ (∃ ty0 : Nat → FieldType, ∀ k, k < q.2.2 → parseFieldDescriptor (q.2.1 k).2.2.1 = some (ty0 k)) ∧ (∀ a, a < q.2.2 → ∀ b, b < q.2.2 → a ≠ b → (q.2.1 a).2.1 ≠ (q.2.1 b).2.1) := by
  intro ci q h
  match ci, h with
  | 0, h => cases h; exact ⟨x_wX0, ⟨_, tyX0_ok⟩, nmX0⟩
  | 1, h => cases h; exact ⟨x_wX2, ⟨_, tyX2_ok⟩, nmX2⟩
  | 2, h => cases h; exact ⟨x_wX3, ⟨_, tyX3_ok⟩, nmX3⟩
  | 3, h => cases h; exact ⟨x_wX4, ⟨_, tyX4_ok⟩, nmX4⟩
  | 4, h => cases h; exact ⟨x_wX5, ⟨_, tyX5_ok⟩, nmX5⟩
  | 5, h => cases h; exact ⟨x_wX6, ⟨_, tyX6_ok⟩, nmX6⟩
  | k + 6, h => simp [vwCl] at h
section XF
variable {Λ : xLay} {μ : xM} {d : Nat} {Q : Option Value → xMem → Prop} {pc : Nat} {ls st : List Value} {I : xMem}
theorem x_obj {G : xG} {k ci : Nat} {fs : List (Option Nat)} (hk : decide (k < Λ.1) = true) (hΛ : Λ.2 k = .inr (.inl (ci, fs))) : (xw Λ G I)[k]? = some (G.2.2 k, .inr (ci, xfs G.2.2 (I k) 0 fs)) := by
  rw [xw_at (of_decide_eq_true hk), hΛ]; rfl
theorem x_arr {G : xG} {k t n : Nat} (hk : decide (k < Λ.1) = true) (hΛ : Λ.2 k = .inl (t, n)) : (xw Λ G I)[k]? = some (G.2.2 k, .inl (G.2.1 t, n, .inl (I k))) := by
  rw [xw_at (of_decide_eq_true hk), hΛ]; rfl
theorem x_rar {G : xG} {k t n : Nat} {g : Nat → Option Nat} (hk : decide (k < Λ.1) = true) (hΛ : Λ.2 k = .inr (.inr (t, n, g))) : (xw Λ G I)[k]? = some (G.2.2 k, .inl (G.2.1 t, n, .inr (.inr (.inr (.inr (fun j => (g j).map G.2.2)))))) := by
  rw [xw_at (of_decide_eq_true hk), hΛ]; rfl
/-- a field that is a number -/
theorem x_getI (ci j : Nat) {k idx N : Nat} {C : String} {T : u_T} {fs : List (Option Nat)} {v : Int32} (hc : vwCl[ci]? = some (C, T, N)) (hj : j < N) (hlink : Cond.fieldLink μ.1 idx (T j).1 (T j).2.1 (T j).2.2.1 ∈ x_good) (hd : decode μ.2.1 pc = .ok (.getfield idx, 3)) (hk : decide (k < Λ.1) = true) (hΛ : Λ.2 k = .inr (.inl (ci, fs))) (hf : fs[j]? = some none) (hv : I k j = v) (kk : Wx Λ μ d Q (pc + 3) ls (.int v :: st) I) : Wx Λ μ d Q pc ls (.ref k :: st) I := by
  intro l G A p e s m args below meth c H locs la hC hP hD hS hl
  refine va_get (v := .int v) hC.1 hC.2.1 hC.2.2.2.2.2.1 (x_cls ci _ hc).1 hC.2.2.2.2.1 hC.2.2.2.2.2.2.2.1 hP k (x_obj hk hΛ) hc j hj (hC.2.2.2.2.2.1 _ hlink) (fun _ h => h) ?_ hd (kk l G A p e s m args below meth c H locs la hC hP hD hS hl)
  rw [xfs_at, hf, ← hv]; simp [xfv]
/-- a field that is a cell -/
theorem x_getR (ci j : Nat) {k r idx N : Nat} {C : String} {T : u_T} {fs : List (Option Nat)} (hc : vwCl[ci]? = some (C, T, N)) (hj : j < N) (hlink : Cond.fieldLink μ.1 idx (T j).1 (T j).2.1 (T j).2.2.1 ∈ x_good) (hd : decode μ.2.1 pc = .ok (.getfield idx, 3)) (hk : decide (k < Λ.1) = true) (hΛ : Λ.2 k = .inr (.inl (ci, fs))) (hf : fs[j]? = some (some r)) (kk : Wx Λ μ d Q (pc + 3) ls (.ref r :: st) I) : Wx Λ μ d Q pc ls (.ref k :: st) I := by
  intro l G A p e s m args below meth c H locs la hC hP hD hS hl
  refine va_get (v := .ref (G.2.2 r)) hC.1 hC.2.1 hC.2.2.2.2.2.1 (x_cls ci _ hc).1 hC.2.2.2.2.1 hC.2.2.2.2.2.2.2.1 hP k (x_obj hk hΛ) hc j hj (hC.2.2.2.2.2.1 _ hlink) (fun _ h => h) ?_ hd (kk l G A p e s m args below meth c H locs la hC hP hD hS hl)
  rw [xfs_at, hf]; simp [xfv]
theorem x_put (ci j : Nat) {k idx N : Nat} {C : String} {T : u_T} {fs : List (Option Nat)} {x : Int32} {ty : FieldType} (hc : vwCl[ci]? = some (C, T, N)) (hj : j < N) (hlink : Cond.fieldLink μ.1 idx (T j).1 (T j).2.1 (T j).2.2.1 ∈ x_good) (hfin : (T j).2.2.2 = false) (hty : parseFieldDescriptor (T j).2.2.1 = some ty) (hn : narrow ty (.int x) = .int x) (hfit : fits ty (.int x) = true) (hd : decode μ.2.1 pc = .ok (.putfield idx, 3)) (hk : decide (k < Λ.1) = true) (hΛ : Λ.2 k = .inr (.inl (ci, fs))) (hf : fs[j]? = some none) (kk : Wx Λ μ d Q (pc + 3) ls st (xup I k j x)) : Wx Λ μ d Q pc ls (.int x :: .ref k :: st) I := by
  intro l G A p e s m args below meth c H locs la hC hP hD hS hl
  obtain ⟨h1, ⟨ty0, h2⟩, h3⟩ := x_cls ci _ hc
  refine va_put (v := .int x) hC.1 hC.2.1 hC.2.2.2.2.2.1 h1 ty0 h2 h3 hC.2.2.2.2.1 hC.2.2.2.2.2.2.2.1 hP hD hS k (x_obj hk hΛ) hc j hj (hC.2.2.2.2.2.1 _ hlink) (fun _ h => h) hfin hty hn hfit (by rw [xfs_len]; exact (List.getElem?_eq_some_iff.mp hf).1) hd (fun H1 locs1 hP1 hD1 hS1 => ?_)
  have e9 : (xw Λ G I).set k (G.2.2 k, .inr (ci, (xfs G.2.2 (I k) 0 fs).set j (.int x))) = xw Λ G (xup I k j x) := xw_set _ (by rw [hΛ]; show Sum.inr (ci, xfs _ _ _ _) = _; rw [xfs_set _ _ hf])
  rw [e9] at hP1 hD1
  exact kk l G A p e s m args below meth c H1 locs1 la hC hP1 hD1 hS1 hl
theorem x_iald {k n p : Nat} {i v : Int32} (hd : decode μ.2.1 pc = .ok (.iaload, 1)) (hk : decide (k < Λ.1) = true) (hΛ : Λ.2 k = .inl (0, n)) (hN : decide (n < 2 ^ 31) = true) (hi : i = nI p) (hp : p < n) (hv : I k p = v) (kk : Wx Λ μ d Q (pc + 1) ls (.int v :: st) I) : Wx Λ μ d Q pc ls (.int i :: .ref k :: st) I := by
  intro l G A p' e s m args below meth c H locs la hC hP hD hS hl
  subst hi
  have h := kk l G A p' e s m args below meth c H locs la hC hP hD hS hl
  have hN := of_decide_eq_true hN
  refine va_iald hC.1 hC.2.1 hC.2.2.2.2.2.2.2.1 hP k 0 (x_arr hk hΛ) rfl (vp_in_nI hp hN) hd ?_
  rw [nI_clamp (by omega), hv]; exact h
theorem x_zald {k n p : Nat} {i v : Int32} (hd : decode μ.2.1 pc = .ok (.baload, 1)) (hk : decide (k < Λ.1) = true) (hΛ : Λ.2 k = .inl (1, n)) (hN : decide (n < 2 ^ 31) = true) (hi : i = nI p) (hp : p < n) (hv : I k p = v) (kk : Wx Λ μ d Q (pc + 1) ls (.int v :: st) I) : Wx Λ μ d Q pc ls (.int i :: .ref k :: st) I := by
  intro l G A p' e s m args below meth c H locs la hC hP hD hS hl
  subst hi
  have h := kk l G A p' e s m args below meth c H locs la hC hP hD hS hl
  have hN := of_decide_eq_true hN
  refine va_zald hC.1 hC.2.1 hC.2.2.2.2.2.2.2.1 hP k 1 (x_arr hk hΛ) rfl (vp_in_nI hp hN) hd ?_
  rw [nI_clamp (by omega), hv]; exact h
theorem x_aald {k n p r : Nat} {g : Nat → Option Nat} {i : Int32} (hd : decode μ.2.1 pc = .ok (.aaload, 1)) (hk : decide (k < Λ.1) = true) (hΛ : Λ.2 k = .inr (.inr (2, n, g))) (hN : decide (n < 2 ^ 31) = true) (hi : i = nI p) (hp : p < n) (hv : g p = some r) (kk : Wx Λ μ d Q (pc + 1) ls (.ref r :: st) I) : Wx Λ μ d Q pc ls (.int i :: .ref k :: st) I := by
  intro l G A p' e s m args below meth c H locs la hC hP hD hS hl
  subst hi
  have h := kk l G A p' e s m args below meth c H locs la hC hP hD hS hl
  have hN := of_decide_eq_true hN
  refine va_aldq hC.1 hC.2.1 hC.2.2.2.2.2.2.2.1 hP k 2 (x_rar hk hΛ) rfl (vp_in_nI hp hN) hd ?_
  rw [nI_clamp (by omega), hv]; exact h
theorem x_iast {k n p : Nat} {i x : Int32} (hd : decode μ.2.1 pc = .ok (.iastore, 1)) (hk : decide (k < Λ.1) = true) (hΛ : Λ.2 k = .inl (0, n)) (hN : decide (n < 2 ^ 31) = true) (hi : i = nI p) (hp : p < n) (kk : Wx Λ μ d Q (pc + 1) ls st (xup I k p x)) : Wx Λ μ d Q pc ls (.int x :: .int i :: .ref k :: st) I := by
  intro l G A p' e s m args below meth c H locs la hC hP hD hS hl
  subst hi
  have hN := of_decide_eq_true hN
  refine va_iast hC.1 hC.2.1 hC.2.2.2.2.2.2.2.1 hP hD hS k 0 (x_arr hk hΛ) rfl (vp_in_nI hp hN) hd (fun H1 locs1 hP1 hD1 hS1 => ?_)
  have e1 : (xw Λ G I).set k (G.2.2 k, .inl (G.2.1 0, n, .inl (upd (I k) (nI p).toNatClampNeg x))) = xw Λ G (xup I k p x) := xw_set _ (by rw [hΛ, nI_clamp (by omega)]; rfl)
  rw [e1] at hP1 hD1
  exact kk l G A p' e s m args below meth c H1 locs1 la hC hP1 hD1 hS1 hl
theorem x_zast {k n p : Nat} {i x : Int32} (hd : decode μ.2.1 pc = .ok (.bastore, 1)) (hk : decide (k < Λ.1) = true) (hΛ : Λ.2 k = .inl (1, n)) (hN : decide (n < 2 ^ 31) = true) (hi : i = nI p) (hp : p < n) (hx : x = 0 ∨ x = 1) (kk : Wx Λ μ d Q (pc + 1) ls st (xup I k p x)) : Wx Λ μ d Q pc ls (.int x :: .int i :: .ref k :: st) I := by
  intro l G A p' e s m args below meth c H locs la hC hP hD hS hl
  subst hi
  have hN := of_decide_eq_true hN
  have hx' : vp_nar .boolean x = x := by rcases hx with rfl | rfl <;> rfl
  refine va_zast hC.1 hC.2.1 hC.2.2.2.2.2.2.2.1 hP hD hS k 1 (x_arr hk hΛ) rfl (vp_in_nI hp hN) hd (fun H1 locs1 hP1 hD1 hS1 => ?_)
  rw [hx'] at hP1 hD1
  have e1 : (xw Λ G I).set k (G.2.2 k, .inl (G.2.1 1, n, .inl (upd (I k) (nI p).toNatClampNeg x))) = xw Λ G (xup I k p x) := xw_set _ (by rw [hΛ, nI_clamp (by omega)]; rfl)
  rw [e1] at hP1 hD1
  exact kk l G A p' e s m args below meth c H1 locs1 la hC hP1 hD1 hS1 hl
theorem x_alen {k n : Nat} (hd : decode μ.2.1 pc = .ok (.arraylength, 1)) (hk : decide (k < Λ.1) = true) (hΛ : Λ.2 k = .inl (0, n)) (kk : Wx Λ μ d Q (pc + 1) ls (.int (nI n) :: st) I) : Wx Λ μ d Q pc ls (.ref k :: st) I := by
  intro l G A p' e s m args below meth c H locs la hC hP hD hS hl
  exact va_alen (v := nI n) hC.1 hC.2.1 hC.2.2.2.2.2.2.2.1 hP k 0 (x_arr hk hΛ) rfl rfl hd (kk l G A p' e s m args below meth c H locs la hC hP hD hS hl)
theorem x_sum (ad : Nat → Nat) (st : List Value) : ((st.map (xv ad)).map fun v => v.category).sum = (st.map fun v => v.category).sum := by
  rw [List.map_map]; congr 2; funext v; exact xv_cat ad v
/-- System.arraycopy of ints -/
theorem x_copy {idx k0 k1 n0 n1 sp dp n : Nat} {i0 i1 i2 : Int32} (hlink : Cond.methodLink μ.1 idx arraycopyName ∈ x_good) (hnat : Cond.native arraycopyName ∈ x_good) (hstat : Cond.static arraycopyName ∈ x_good) (hini : Cond.initialized "java/lang/System" ∈ x_good) (hd : decode μ.2.1 pc = .ok (.invokestatic idx, 3)) (hfr : 1 ≤ d) (hk0 : decide (k0 < Λ.1) = true) (hΛ0 : Λ.2 k0 = .inl (0, n0)) (hk1 : decide (k1 < Λ.1) = true) (hΛ1 : Λ.2 k1 = .inl (0, n1)) (hst : (st.map fun v => v.category).sum ≤ 8) (e0 : i0 = nI sp) (e1 : i1 = nI dp) (e2 : i2 = nI n) (h4 : sp + n ≤ n0) (h5 : dp + n ≤ n1) (hN0 : decide (n0 < 2 ^ 31) = true) (hN1 : decide (n1 < 2 ^ 31) = true) (kk : Wx Λ μ d Q (pc + 3) ls st (va_up I k1 (va_cpy (I k0) (I k1) sp dp n))) : Wx Λ μ d Q pc ls (.int i2 :: .int i1 :: .ref k1 :: .int i0 :: .ref k0 :: st) I := by
  intro l G A p' e s m args below meth c H locs la hC hP hD hS hl
  subst e0; subst e1; subst e2
  have hN0 := of_decide_eq_true hN0
  have hN1 := of_decide_eq_true hN1
  have hw := hC.2.2.2.2.2.1
  refine va_copyi hC.1 hC.2.1 (hC.2.2.2.1.trans hl.1.symm) hC.2.2.2.2.1 (hw _ hlink) (hw _ hnat) (hw _ hstat) (hw _ hini) hC.2.2.2.2.2.2.2.1 hP hD hS k0 k1 0 0 (ty := .int) (x_arr hk0 hΛ0) (x_arr hk1 hΛ1) rfl rfl rfl (nI_pos (by omega)) (nI_pos (by omega)) (nI_pos (by omega)) (by rw [nI_clamp (by omega), nI_clamp (by omega)]; exact h4) (by rw [nI_clamp (by omega), nI_clamp (by omega)]; exact h5) (fun _ _ => rfl) hfr ?_ hd (fun H1 locs1 hP1 hD1 hS1 => ?_)
  · rw [x_sum]
    show _ ≤ 34 * d
    have : nativeFrameWords "java/lang/System" "arraycopy" 5 ≤ 12 := by decide +kernel
    omega
  have e1 : (xw Λ G I).set k1 (G.2.2 k1, .inl (G.2.1 0, n1, .inl (va_cpy (I k0) (I k1) (nI sp).toNatClampNeg (nI dp).toNatClampNeg (nI n).toNatClampNeg))) = xw Λ G (va_up I k1 (va_cpy (I k0) (I k1) sp dp n)) := xw_set _ (by rw [hΛ1, nI_clamp (by omega), nI_clamp (by omega), nI_clamp (by omega)]; rfl)
  rw [e1] at hP1 hD1
  exact kk l G A p' e s m args below meth c H1 locs1 la hC hP1 hD1 hS1 hl
theorem x_min {idx : Nat} {x y v : Int32} (hlink : Cond.methodLink μ.1 idx Lib.Math.min.name ∈ x_good) (hstat : Cond.static Lib.Math.min.name ∈ x_good) (hini : Cond.initialized "java/lang/Math" ∈ x_good) (hcode : Cond.code Lib.Math.min.name Lib.Math.min.code 2 (some .int) ∈ x_good) (hd : decode μ.2.1 pc = .ok (.invokestatic idx, 3)) (hfr : 1 ≤ d) (hst : (st.map fun v => v.category).sum ≤ 8) (hv : (if y < x then y else x) = v) (kk : Wx Λ μ d Q (pc + 3) ls (.int v :: st) I) : Wx Λ μ d Q pc ls (.int y :: .int x :: st) I := by
  intro l G A p' e s m args below meth c H locs la hC hP hD hS hl
  subst hv
  have hw := hC.2.2.2.2.2.1
  exact va_mmin hC.1 hC.2.1 (hC.2.2.2.1.trans hl.1.symm) hC.2.2.2.2.1 (hw _ hlink) (hw _ hstat) (hw _ hini) (hw _ hcode) hfr (by rw [x_sum]; show _ ≤ 34 * d; omega) (Nat.le_refl 0) (Nat.le_refl 0) hd (kk l G A p' e s m args below meth c H locs la hC hP hD hS hl)
end XF
section XC
variable {Λ : xLay} {μ μ' : xM} {d d' : Nat} {Q Q' : Option Value → xMem → Prop} {pc idx n : Nat} {ls st as sk : List Value} {I : xMem} {y : MethodName}
/-- what a call asks of the callee, of the tables alone -/
def xcal (y : MethodName) (μ' : xM) (n : Nat) : Prop := Cond.code y μ'.2.1 μ'.2.2.1 μ'.2.2.2 ∈ x_good ∧ Cond.initialized y.cls ∈ x_good ∧ (y.cls ≠ "java/lang/invoke/MethodHandle" ∧ y.cls ≠ "java/lang/invoke/VarHandle" ∧ (parseMethodDescriptor y.desc).map (fun d => d.parameters.length) = some n) ∧ μ'.2.2.1 ≤ 15
/-- behind a call -/
theorem x_back {l : Launch} {G : xG} {A : Nat → Prop} {p : Program} {e : Env} {s : State} {m : MethodId} {args a : Array Value} {below : List Frame} {meth : Method} {c : Code} {H : Heap} {locs : List Loc} {la : Array Slot} {st0 : List Value} {pc : Nat} {Qz : State → Prop} (hD : va_D A (xw Λ G I)) (hS : va_S A s.heap H locs)
    (hA : ∀ q : Nat, s.heap.size ≤ q → A q)
    (hr : va_Run p l e (xrm d) s m args below meth c H locs 0 0 0 0 (F0 m pc la st0) (st.map (xv G.2.2)) (xQ Λ G (va_A (xw Λ G I) H.size) Q' a) (va_A (xw Λ G I) H.size))
    (kk : ∀ (v : Option Value) (J : xMem) (H1 : Heap) (locs1 : List Loc), Q' v J → va_P G.1 vwCl (xw Λ G J) H1 → va_D A (xw Λ G J) → va_S A s.heap H1 locs1 → W p l e (xrm d) s m args below meth c H1 locs1 0 0 Qz (F0 m (pc + 3) la ((v.toList ++ st).map (xv G.2.2)))) : W p l e (xrm d) s m args below meth c H locs 0 0 Qz (F0 m pc la st0) := by
  intro T hT X
  obtain ⟨v, st₀, t, T', L, h0, X', hL, e1, e2, ⟨⟨v', J, hv, hp, hb⟩, hz, hk⟩, go⟩ := hr T hT X
  have hv : v = v'.map (xv G.2.2) := by simpa using hv
  subst hv
  rw [h0] at hz hk
  have hF : ∀ q, va_A (xw Λ G I) H.size q → A q := by
    rintro q (⟨k, e, h⟩ | h)
    · exact hD.2 k _ h
    · exact hA q (Nat.le_trans hS.1 h)
  obtain ⟨t2, a1, b1⟩ := kk v' J T'.heap (locs ++ L) hp (by rw [e1]; exact hb) (xw_D hD)
    ⟨Nat.le_trans hS.1 (by rw [e1]; exact hz), fun q h1 h2 => by rw [e1, hk q (Nat.lt_of_lt_of_le h1 hS.1) (fun z => h2 (hF q z))]; exact hS.2.1 q h1 h2, fun q hq => by
      rcases List.mem_append.mp hq with h | h
      · exact hS.2.2 q h
      · exact hF _ (hL q h)⟩ T' rfl X'
  refine ⟨t2, go t2 ?_, b1⟩
  have e : (v'.toList ++ st).map (xv G.2.2) = (v'.map (xv G.2.2)).toList ++ st.map (xv G.2.2) := by cases v' <;> simp
  rw [e] at a1
  exact a1
theorem x_blind {G : xG} {vs : List Value} {sz : Nat} : FrameBlind (va_Pc vs (fun U => U.heap.size = sz ∧ va_P G.1 vwCl (xw Λ G I) U.heap ∧ va_K G.1 vwCl (xtys G) U ∧ xNw U ∧ va_D (fun _ => True) (xw Λ G I))) := by
  intro a U g mk h
  obtain ⟨h1, h2, h3, h4, h5, h6⟩ := h
  exact ⟨h1, h2, h3, va_K.moved (u := U) (U := U.calling g mk a) (Vm.Alike.refl U.vm) h4, xNw.same (u := U) (U := U.calling g mk a) rfl h5, h6⟩
theorem x_pre {G : xG} {A : Nat → Prop} {s : State} {H : Heap} {vs : List Value} (hP : va_P G.1 vwCl (xw Λ G I) H) (hD : va_D A (xw Λ G I)) (hK : va_K G.1 vwCl (xtys G) s) (hN : xNw s) : ∀ U : State, U.heap = H → s.WarmedH U.vm → va_Pc vs (fun U => U.heap.size = H.size ∧ va_P G.1 vwCl (xw Λ G I) U.heap ∧ va_K G.1 vwCl (xtys G) U ∧ xNw U ∧ va_D (fun _ => True) (xw Λ G I)) vs.toArray U :=
  fun U hU hW => ⟨rfl, by rw [hU], by rw [hU]; exact hP, va_K.moved hW.alike hK, hN.warm hW, hD.weaken (fun _ _ _ _ => trivial)⟩
theorem x_rm (h : d' + 1 ≤ d) (hm : μ'.2.2.1 ≤ 15) : (xrm d').frames + 1 ≤ (xrm d).frames ∧ 8 + (μ'.2.2.1 + 11) + (xrm d').locals ≤ (xrm d).locals := ⟨h, by show 8 + (μ'.2.2.1 + 11) + 34 * d' ≤ 34 * d; omega⟩
/-- a static method, by an ordinary link -/
theorem x_callS (hl1 : Cond.methodLink μ.1 idx y ∈ x_good) (hl2 : Cond.static y ∈ x_good) (hy : xcal y μ' n) (hM : Cx Λ y μ' d' as I Q') (hd : decode μ.2.1 pc = .ok (.invokestatic idx, 3)) (hdd : d' + 1 ≤ d) (hn : as.length = n) (hsk : as.reverse ++ st = sk) (hst : (st.map fun v => v.category).sum ≤ 8) (kk : ∀ (v : Option Value) (J : xMem), Q' v J → Wx Λ μ d Q (pc + 3) ls (v.toList ++ st) J) : Wx Λ μ d Q pc ls sk I := by
  intro l G A p e s m args below meth c H locs la hC hP hD hS hl
  have hw := hC.2.2.2.2.2.1
  refine x_back hD hS hC.2.2.2.2.2.2.2.2.2 (va_runS (As := as.map (xv G.2.2)) ⟨hC.1, hC.2.1, hC.2.2.2.1, hC.2.2.2.2.1, hw⟩ (hM l G H.size) ⟨callB_of n hw (x_goodIn hy.1) rfl rfl rfl (hw _ hy.2.1) (hw _ hl1) hy.2.2.1 (x_rm hdd hy.2.2.2), hw _ hl2⟩ ⟨x_blind, x_pre hP hD hC.2.2.2.2.2.2.2.1 hC.2.2.2.2.2.2.2.2.1⟩ rfl (by rw [List.length_map]; exact hn) hl.1 ?_ (lv_room (by rw [x_sum]; exact hst)) hd ⟨Nat.le_refl 0, Nat.le_refl 0⟩) (fun v J H1 locs1 h1 h2 h3 h4 => kk v J h1 l G A p e s m args below meth c H1 locs1 la hC h2 h3 h4 hl)
  show sk.map (xv G.2.2) = _
  rw [← hsk, List.map_append, List.map_reverse]
/-- a static method of a nest mate -/
theorem x_callSN (hl1 : ∀ s, xNw s → va_Nw (.methodLinkNest μ.1 idx y "GraveRows") s) (hl2 : Cond.static y ∈ x_good) (hy : xcal y μ' n) (hM : Cx Λ y μ' d' as I Q') (hd : decode μ.2.1 pc = .ok (.invokestatic idx, 3)) (hdd : d' + 1 ≤ d) (hn : as.length = n) (hsk : as.reverse ++ st = sk) (hst : (st.map fun v => v.category).sum ≤ 8) (kk : ∀ (v : Option Value) (J : xMem), Q' v J → Wx Λ μ d Q (pc + 3) ls (v.toList ++ st) J) : Wx Λ μ d Q pc ls sk I := by
  intro l G A p e s m args below meth c H locs la hC hP hD hS hl
  have hw := hC.2.2.2.2.2.1
  refine x_back hD hS hC.2.2.2.2.2.2.2.2.2 (va_runSN (As := as.map (xv G.2.2)) ⟨hC.1, hC.2.1, hC.2.2.2.1, hC.2.2.2.2.1, hw⟩ (hM l G H.size) ⟨va_cnB n hw (x_goodIn hy.1) rfl rfl rfl (hl1 s hC.2.2.2.2.2.2.2.2.1) (hw _ hy.2.1) hy.2.2.1 (x_rm hdd hy.2.2.2), hw _ hl2, trivial⟩ ⟨x_blind, x_pre hP hD hC.2.2.2.2.2.2.2.1 hC.2.2.2.2.2.2.2.2.1⟩ rfl (by rw [List.length_map]; exact hn) hl.1 ?_ (lv_room (by rw [x_sum]; exact hst)) hd ⟨Nat.le_refl 0, Nat.le_refl 0⟩) (fun v J H1 locs1 h1 h2 h3 h4 => kk v J h1 l G A p e s m args below meth c H1 locs1 la hC h2 h3 h4 hl)
  show sk.map (xv G.2.2) = _
  rw [← hsk, List.map_append, List.map_reverse]
/-- a method of an object whose class is known -/
theorem x_callV (ci : Nat) {k N : Nat} {T : u_T} {fs : List (Option Nat)} (hl1 : Cond.methodLink μ.1 idx y ∈ x_good) (hl2 : Cond.instanceMethod y ∈ x_good) (hl3 : Cond.selects y.cls y y ∈ x_good) (hy : xcal y μ' n) (hc : vwCl[ci]? = some (y.cls, T, N)) (hM : Cx Λ y μ' d' (.ref k :: as) I Q') (hd : decode μ.2.1 pc = .ok (.invokevirtual idx, 3)) (hdd : d' + 1 ≤ d) (hk : decide (k < Λ.1) = true) (hΛ : Λ.2 k = .inr (.inl (ci, fs))) (hn : as.length = n) (hsk : as.reverse ++ .ref k :: st = sk) (hst : (st.map fun v => v.category).sum ≤ 8) (kk : ∀ (v : Option Value) (J : xMem), Q' v J → Wx Λ μ d Q (pc + 3) ls (v.toList ++ st) J) : Wx Λ μ d Q pc ls sk I := by
  intro l G A p e s m args below meth c H locs la hC hP hD hS hl
  have hw := hC.2.2.2.2.2.1
  have hK := hC.2.2.2.2.2.2.2.1
  refine x_back hD hS hC.2.2.2.2.2.2.2.2.2 (va_runV (As := as.map (xv G.2.2)) (C := y.cls) ⟨hC.1, hC.2.1, hC.2.2.2.1, hC.2.2.2.2.1, hw⟩ (hM l G H.size) ⟨callB_of n hw (x_goodIn hy.1) rfl rfl rfl (hw _ hy.2.1) (hw _ hl1) hy.2.2.1 (x_rm hdd hy.2.2.2), hw _ hl2, hw _ hl3⟩ ⟨x_blind, va_recv hK hP (ci := ci) (q0 := k) hc (x_obj hk hΛ), x_pre hP hD hK hC.2.2.2.2.2.2.2.2.1⟩ rfl (by rw [List.length_map]; exact hn) hl.1 ?_ (lv_room (by rw [x_sum]; exact hst)) hd ⟨Nat.le_refl 0, Nat.le_refl 0⟩) (fun v J H1 locs1 h1 h2 h3 h4 => kk v J h1 l G A p e s m args below meth c H1 locs1 la hC h2 h3 h4 hl)
  show sk.map (xv G.2.2) = _
  rw [← hsk, List.map_append, List.map_reverse]; rfl
/-- a method that overrides an abstract one -/
theorem x_callA (ci : Nat) {k N : Nat} {T : u_T} {fs : List (Option Nat)} (hl1 : Cond.methodLink μ.1 idx y_CostNext ∈ x_good) (hl2 : Cond.sameMethod y_CostNext.cls "GraveRows$Cost" y_CostNext.name y_CostNext.desc ∈ x_good) (hl3 : Cond.selects y.cls y_CostNext y ∈ x_good) (hl4 : Cond.instanceMethod y ∈ x_good) (hy : xcal y μ' 3) (hc : vwCl[ci]? = some (y.cls, T, N)) (hM : Cx Λ y μ' d' (.ref k :: as) I Q') (hd : decode μ.2.1 pc = .ok (.invokevirtual idx, 3)) (hdd : d' + 1 ≤ d) (hk : decide (k < Λ.1) = true) (hΛ : Λ.2 k = .inr (.inl (ci, fs))) (hn : as.length = 3) (hsk : as.reverse ++ .ref k :: st = sk) (hst : (st.map fun v => v.category).sum ≤ 8) (kk : ∀ (v : Option Value) (J : xMem), Q' v J → Wx Λ μ d Q (pc + 3) ls (v.toList ++ st) J) : Wx Λ μ d Q pc ls sk I := by
  intro l G A p e s m args below meth c H locs la hC hP hD hS hl
  have hw := hC.2.2.2.2.2.1
  have hK := hC.2.2.2.2.2.2.2.1
  have hN := hC.2.2.2.2.2.2.2.2.1
  have hG : GoodIn x_good (va_wsU μ.1 idx y.cls "GraveRows$Cost" y_CostNext y (Cond.code y μ'.2.1 μ'.2.2.1 μ'.2.2.2 :: x_good)) := by
    intro w h
    have ok : ∀ {w : Cond}, w ∈ x_good → w ∈ x_good ∧ ((w.onTables && w.keeps) = true ∨ ∃ ty, w = .arrayClass ty) := fun h => ⟨h, good_of_word (List.mem_filter.mp h).2⟩
    unfold va_wsU at h
    rcases List.mem_append.mp h with h | h
    · simp only [List.mem_cons, List.not_mem_nil, or_false] at h
      rcases h with rfl | rfl | rfl | rfl | rfl
      · exact ok hl1
      · exact ok hl2
      · exact ok hl3
      · exact ok hl4
      · exact ok hy.2.1
    · exact x_goodIn hy.1 w h
  refine x_back hD hS hC.2.2.2.2.2.2.2.2.2 (va_runU (As := as.map (xv G.2.2)) (C := y.cls) (x := y_CostNext) (owner := "GraveRows$Cost") ⟨hC.1, hC.2.1, hC.2.2.2.1, hC.2.2.2.2.1, hw⟩ (hM l G H.size) (va_cwA 3 hw hG rfl rfl rfl hN.2.2 (by decide +kernel) (x_rm hdd hy.2.2.2)) ⟨x_blind, va_recv hK hP (ci := ci) (q0 := k) hc (x_obj hk hΛ), x_pre hP hD hK hN⟩ rfl (by rw [List.length_map]; exact hn) hl.1 ?_ (lv_room (by rw [x_sum]; exact hst)) hd ⟨Nat.le_refl 0, Nat.le_refl 0⟩) (fun v J H1 locs1 h1 h2 h3 h4 => kk v J h1 l G A p e s m args below meth c H1 locs1 la hC h2 h3 h4 hl)
  show sk.map (xv G.2.2) = _
  rw [← hsk, List.map_append, List.map_reverse]; rfl
end XC
section XI
variable {Λ : xLay} {μ μ' : xM} {d d' : Nat} {Q : Option Value → xMem → Prop} {pc idx n : Nat} {ls st as sk : List Value} {I : xMem} {y : MethodName}
/-- answers: a number, nothing, a cell -/
def xRi (P : Int32 → xMem → Prop) : Option Value → xMem → Prop := fun v J => ∃ r : Int32, v = some (.int r) ∧ P r J
def xRv (P : xMem → Prop) : Option Value → xMem → Prop := fun v J => v = none ∧ P J
def xRr (P : Nat → xMem → Prop) : Option Value → xMem → Prop := fun v J => ∃ r : Nat, v = some (.ref r) ∧ P r J
theorem x_ireti {P : Int32 → xMem → Prop} {v : Int32} (hd : decode μ.2.1 pc = .ok (.ireturn, 1)) (hr : μ.2.2.2 = some .int) (hq : P v I) : Wx Λ μ d (xRi P) pc ls [.int v] I := x_iret hd hr ⟨v, rfl, hq⟩
theorem x_zreti {P : Int32 → xMem → Prop} {v : Int32} (hd : decode μ.2.1 pc = .ok (.ireturn, 1)) (hr : μ.2.2.2 = some .boolean) (hv : v = 0 ∨ v = 1) (hq : P v I) : Wx Λ μ d (xRi P) pc ls [.int v] I := x_zret hd hr hv ⟨v, rfl, hq⟩
theorem x_vretv {P : xMem → Prop} (hd : decode μ.2.1 pc = .ok (.return_, 1)) (hr : μ.2.2.2 = none) (hq : P I) : Wx Λ μ d (xRv P) pc ls [] I := x_vret hd hr ⟨rfl, hq⟩
theorem x_aretr {P : Nat → xMem → Prop} {k : Nat} {rt : String} (hd : decode μ.2.1 pc = .ok (.areturn, 1)) (hr : μ.2.2.2 = some (.object rt)) (hq : P k I) : Wx Λ μ d (xRr P) pc ls [.ref k] I := x_aret hd hr ⟨k, rfl, hq⟩
theorem x_callSi {P : Int32 → xMem → Prop} (hl1 : Cond.methodLink μ.1 idx y ∈ x_good) (hl2 : Cond.static y ∈ x_good) (hy : xcal y μ' n) (hM : Cx Λ y μ' d' as I (xRi P)) (hd : decode μ.2.1 pc = .ok (.invokestatic idx, 3)) (hdd : d' + 1 ≤ d) (hn : as.length = n) (hsk : as.reverse ++ st = sk) (hst : (st.map fun v => v.category).sum ≤ 8) (kk : ∀ (r : Int32) (J : xMem), P r J → Wx Λ μ d Q (pc + 3) ls (.int r :: st) J) : Wx Λ μ d Q pc ls sk I :=
  x_callS hl1 hl2 hy hM hd hdd hn hsk hst (fun v J h => by obtain ⟨r, rfl, h⟩ := h; exact kk r J h)
theorem x_callSNi {P : Int32 → xMem → Prop} (hl1 : ∀ s, xNw s → va_Nw (.methodLinkNest μ.1 idx y "GraveRows") s) (hl2 : Cond.static y ∈ x_good) (hy : xcal y μ' n) (hM : Cx Λ y μ' d' as I (xRi P)) (hd : decode μ.2.1 pc = .ok (.invokestatic idx, 3)) (hdd : d' + 1 ≤ d) (hn : as.length = n) (hsk : as.reverse ++ st = sk) (hst : (st.map fun v => v.category).sum ≤ 8) (kk : ∀ (r : Int32) (J : xMem), P r J → Wx Λ μ d Q (pc + 3) ls (.int r :: st) J) : Wx Λ μ d Q pc ls sk I :=
  x_callSN hl1 hl2 hy hM hd hdd hn hsk hst (fun v J h => by obtain ⟨r, rfl, h⟩ := h; exact kk r J h)
theorem x_callVi (ci : Nat) {P : Int32 → xMem → Prop} {k N : Nat} {T : u_T} {fs : List (Option Nat)} (hl1 : Cond.methodLink μ.1 idx y ∈ x_good) (hl2 : Cond.instanceMethod y ∈ x_good) (hl3 : Cond.selects y.cls y y ∈ x_good) (hy : xcal y μ' n) (hc : vwCl[ci]? = some (y.cls, T, N)) (hM : Cx Λ y μ' d' (.ref k :: as) I (xRi P)) (hd : decode μ.2.1 pc = .ok (.invokevirtual idx, 3)) (hdd : d' + 1 ≤ d) (hk : decide (k < Λ.1) = true) (hΛ : Λ.2 k = .inr (.inl (ci, fs))) (hn : as.length = n) (hsk : as.reverse ++ .ref k :: st = sk) (hst : (st.map fun v => v.category).sum ≤ 8) (kk : ∀ (r : Int32) (J : xMem), P r J → Wx Λ μ d Q (pc + 3) ls (.int r :: st) J) : Wx Λ μ d Q pc ls sk I :=
  x_callV ci hl1 hl2 hl3 hy hc hM hd hdd hk hΛ hn hsk hst (fun v J h => by obtain ⟨r, rfl, h⟩ := h; exact kk r J h)
theorem x_callVv (ci : Nat) {P : xMem → Prop} {k N : Nat} {T : u_T} {fs : List (Option Nat)} (hl1 : Cond.methodLink μ.1 idx y ∈ x_good) (hl2 : Cond.instanceMethod y ∈ x_good) (hl3 : Cond.selects y.cls y y ∈ x_good) (hy : xcal y μ' n) (hc : vwCl[ci]? = some (y.cls, T, N)) (hM : Cx Λ y μ' d' (.ref k :: as) I (xRv P)) (hd : decode μ.2.1 pc = .ok (.invokevirtual idx, 3)) (hdd : d' + 1 ≤ d) (hk : decide (k < Λ.1) = true) (hΛ : Λ.2 k = .inr (.inl (ci, fs))) (hn : as.length = n) (hsk : as.reverse ++ .ref k :: st = sk) (hst : (st.map fun v => v.category).sum ≤ 8) (kk : ∀ (J : xMem), P J → Wx Λ μ d Q (pc + 3) ls st J) : Wx Λ μ d Q pc ls sk I :=
  x_callV ci hl1 hl2 hl3 hy hc hM hd hdd hk hΛ hn hsk hst (fun v J h => by obtain ⟨rfl, h⟩ := h; exact kk J h)
theorem x_callVr (ci : Nat) {P : Nat → xMem → Prop} {k N : Nat} {T : u_T} {fs : List (Option Nat)} (hl1 : Cond.methodLink μ.1 idx y ∈ x_good) (hl2 : Cond.instanceMethod y ∈ x_good) (hl3 : Cond.selects y.cls y y ∈ x_good) (hy : xcal y μ' n) (hc : vwCl[ci]? = some (y.cls, T, N)) (hM : Cx Λ y μ' d' (.ref k :: as) I (xRr P)) (hd : decode μ.2.1 pc = .ok (.invokevirtual idx, 3)) (hdd : d' + 1 ≤ d) (hk : decide (k < Λ.1) = true) (hΛ : Λ.2 k = .inr (.inl (ci, fs))) (hn : as.length = n) (hsk : as.reverse ++ .ref k :: st = sk) (hst : (st.map fun v => v.category).sum ≤ 8) (kk : ∀ (r : Nat) (J : xMem), P r J → Wx Λ μ d Q (pc + 3) ls (.ref r :: st) J) : Wx Λ μ d Q pc ls sk I :=
  x_callV ci hl1 hl2 hl3 hy hc hM hd hdd hk hΛ hn hsk hst (fun v J h => by obtain ⟨r, rfl, h⟩ := h; exact kk r J h)
theorem x_callAi (ci : Nat) {P : Int32 → xMem → Prop} {k N : Nat} {T : u_T} {fs : List (Option Nat)} (hl1 : Cond.methodLink μ.1 idx y_CostNext ∈ x_good) (hl2 : Cond.sameMethod y_CostNext.cls "GraveRows$Cost" y_CostNext.name y_CostNext.desc ∈ x_good) (hl3 : Cond.selects y.cls y_CostNext y ∈ x_good) (hl4 : Cond.instanceMethod y ∈ x_good) (hy : xcal y μ' 3) (hc : vwCl[ci]? = some (y.cls, T, N)) (hM : Cx Λ y μ' d' (.ref k :: as) I (xRi P)) (hd : decode μ.2.1 pc = .ok (.invokevirtual idx, 3)) (hdd : d' + 1 ≤ d) (hk : decide (k < Λ.1) = true) (hΛ : Λ.2 k = .inr (.inl (ci, fs))) (hn : as.length = 3) (hsk : as.reverse ++ .ref k :: st = sk) (hst : (st.map fun v => v.category).sum ≤ 8) (kk : ∀ (r : Int32) (J : xMem), P r J → Wx Λ μ d Q (pc + 3) ls (.int r :: st) J) : Wx Λ μ d Q pc ls sk I :=
  x_callA ci hl1 hl2 hl3 hl4 hy hc hM hd hdd hk hΛ hn hsk hst (fun v J h => by obtain ⟨r, rfl, h⟩ := h; exact kk r J h)
end XI
end
section
/-! the methods, and the words of the tables by their places: printed by links.py -/
theorem ini_L : Cond.initialized RL ∈ x_good := x_in (List.mem_of_getElem? (i := 42) (by decide +kernel)) rfl
theorem ini_X5 : Cond.initialized RX5 ∈ x_good := x_in (List.mem_of_getElem? (i := 43) (by decide +kernel)) rfl
theorem ini_X2 : Cond.initialized RX2 ∈ x_good := x_in (List.mem_of_getElem? (i := 44) (by decide +kernel)) rfl
theorem ini_X0 : Cond.initialized RX0 ∈ x_good := x_in (List.mem_of_getElem? (i := 45) (by decide +kernel)) rfl
theorem ini_X1 : Cond.initialized RX1 ∈ x_good := x_in (List.mem_of_getElem? (i := 46) (by decide +kernel)) rfl
theorem ini_X3 : Cond.initialized RX3 ∈ x_good := x_in (List.mem_of_getElem? (i := 47) (by decide +kernel)) rfl
theorem ini_X4 : Cond.initialized RX4 ∈ x_good := x_in (List.mem_of_getElem? (i := 48) (by decide +kernel)) rfl
theorem ini_X6 : Cond.initialized RX6 ∈ x_good := x_in (List.mem_of_getElem? (i := 49) (by decide +kernel)) rfl
theorem ini_J6 : Cond.initialized RJ6 ∈ x_good := x_in (List.mem_of_getElem? (i := 50) (by decide +kernel)) rfl
theorem ini_J9 : Cond.initialized RJ9 ∈ x_good := x_in (List.mem_of_getElem? (i := 51) (by decide +kernel)) rfl
theorem ini_J10 : Cond.initialized RJ10 ∈ x_good := x_in (List.mem_of_getElem? (i := 52) (by decide +kernel)) rfl
abbrev mX5_init : xM := (RX5, cX5_init, 2, none)
theorem ct_X5_init : xcal yX5_init mX5_init 0 := ⟨x_in (List.mem_of_getElem? (i := 57) (by decide +kernel)) rfl, ini_X5, by decide +kernel, by decide⟩
theorem in_X5_init : Cond.instanceMethod yX5_init ∈ x_good := x_in (List.mem_of_getElem? (i := 56) (by decide +kernel)) rfl
abbrev mX2_init : xM := (RX2, cX2_init, 2, none)
theorem ct_X2_init : xcal yX2_init mX2_init 0 := ⟨x_in (List.mem_of_getElem? (i := 65) (by decide +kernel)) rfl, ini_X2, by decide +kernel, by decide⟩
theorem in_X2_init : Cond.instanceMethod yX2_init ∈ x_good := x_in (List.mem_of_getElem? (i := 64) (by decide +kernel)) rfl
abbrev mX0_init : xM := (RX0, cX0_init, 1, none)
theorem ct_X0_init : xcal yX0_init mX0_init 0 := ⟨x_in (List.mem_of_getElem? (i := 95) (by decide +kernel)) rfl, ini_X0, by decide +kernel, by decide⟩
theorem in_X0_init : Cond.instanceMethod yX0_init ∈ x_good := x_in (List.mem_of_getElem? (i := 94) (by decide +kernel)) rfl
abbrev mX3_init : xM := (RX3, cX3_init, 1, none)
theorem ct_X3_init : xcal yX3_init mX3_init 0 := ⟨x_in (List.mem_of_getElem? (i := 101) (by decide +kernel)) rfl, ini_X3, by decide +kernel, by decide⟩
theorem in_X3_init : Cond.instanceMethod yX3_init ∈ x_good := x_in (List.mem_of_getElem? (i := 100) (by decide +kernel)) rfl
abbrev mX1_init : xM := (RX1, cX1_init, 1, none)
theorem ct_X1_init : xcal yX1_init mX1_init 0 := ⟨x_in (List.mem_of_getElem? (i := 104) (by decide +kernel)) rfl, ini_X1, by decide +kernel, by decide⟩
theorem in_X1_init : Cond.instanceMethod yX1_init ∈ x_good := x_in (List.mem_of_getElem? (i := 103) (by decide +kernel)) rfl
abbrev mX4_init : xM := (RX4, cX4_init, 1, none)
theorem ct_X4_init : xcal yX4_init mX4_init 0 := ⟨x_in (List.mem_of_getElem? (i := 114) (by decide +kernel)) rfl, ini_X4, by decide +kernel, by decide⟩
theorem in_X4_init : Cond.instanceMethod yX4_init ∈ x_good := x_in (List.mem_of_getElem? (i := 113) (by decide +kernel)) rfl
abbrev mX5_many : xM := (RX5, cX5_many, 3, (some .int))
theorem ct_X5_many : xcal yX5_many mX5_many 1 := ⟨x_in (List.mem_of_getElem? (i := 190) (by decide +kernel)) rfl, ini_X5, by decide +kernel, by decide⟩
theorem in_X5_many : Cond.instanceMethod yX5_many ∈ x_good := x_in (List.mem_of_getElem? (i := 188) (by decide +kernel)) rfl
theorem se_X5_many : Cond.selects RX5 yX5_many yX5_many ∈ x_good := x_in (List.mem_of_getElem? (i := 189) (by decide +kernel)) rfl
abbrev mX2_resize : xM := (RX2, cX2_resize, 4, none)
theorem ct_X2_resize : xcal yX2_resize mX2_resize 1 := ⟨x_in (List.mem_of_getElem? (i := 194) (by decide +kernel)) rfl, ini_X2, by decide +kernel, by decide⟩
theorem in_X2_resize : Cond.instanceMethod yX2_resize ∈ x_good := x_in (List.mem_of_getElem? (i := 192) (by decide +kernel)) rfl
theorem se_X2_resize : Cond.selects RX2 yX2_resize yX2_resize ∈ x_good := x_in (List.mem_of_getElem? (i := 193) (by decide +kernel)) rfl
abbrev mX5_forgetBest : xM := (RX5, cX5_forgetBest, 1, none)
theorem ct_X5_forgetBest : xcal yX5_forgetBest mX5_forgetBest 0 := ⟨x_in (List.mem_of_getElem? (i := 198) (by decide +kernel)) rfl, ini_X5, by decide +kernel, by decide⟩
theorem in_X5_forgetBest : Cond.instanceMethod yX5_forgetBest ∈ x_good := x_in (List.mem_of_getElem? (i := 197) (by decide +kernel)) rfl
theorem se_X5_forgetBest : Cond.selects RX5 yX5_forgetBest yX5_forgetBest ∈ x_good := x_in (List.mem_of_getElem? (i := 0) (by decide +kernel)) rfl
abbrev mX5_find : xM := (RX5, cX5_find, 4, (some .int))
theorem ct_X5_find : xcal yX5_find mX5_find 3 := ⟨x_in (List.mem_of_getElem? (i := 202) (by decide +kernel)) rfl, ini_X5, by decide +kernel, by decide⟩
theorem in_X5_find : Cond.instanceMethod yX5_find ∈ x_good := x_in (List.mem_of_getElem? (i := 200) (by decide +kernel)) rfl
theorem se_X5_find : Cond.selects RX5 yX5_find yX5_find ∈ x_good := x_in (List.mem_of_getElem? (i := 201) (by decide +kernel)) rfl
abbrev mX5_isGrave : xM := (RX5, cX5_isGrave, 2, (some .boolean))
theorem ct_X5_isGrave : xcal yX5_isGrave mX5_isGrave 1 := ⟨x_in (List.mem_of_getElem? (i := 206) (by decide +kernel)) rfl, ini_X5, by decide +kernel, by decide⟩
theorem in_X5_isGrave : Cond.instanceMethod yX5_isGrave ∈ x_good := x_in (List.mem_of_getElem? (i := 205) (by decide +kernel)) rfl
theorem se_X5_isGrave : Cond.selects RX5 yX5_isGrave yX5_isGrave ∈ x_good := x_in (List.mem_of_getElem? (i := 1) (by decide +kernel)) rfl
abbrev mX5_isSort : xM := (RX5, cX5_isSort, 1, (some .boolean))
theorem ct_X5_isSort : xcal yX5_isSort mX5_isSort 1 := ⟨x_in (List.mem_of_getElem? (i := 209) (by decide +kernel)) rfl, ini_X5, by decide +kernel, by decide⟩
theorem st_X5_isSort : Cond.static yX5_isSort ∈ x_good := x_in (List.mem_of_getElem? (i := 208) (by decide +kernel)) rfl
abbrev mX5_isOnOrOff : xM := (RX5, cX5_isOnOrOff, 1, (some .boolean))
theorem ct_X5_isOnOrOff : xcal yX5_isOnOrOff mX5_isOnOrOff 1 := ⟨x_in (List.mem_of_getElem? (i := 212) (by decide +kernel)) rfl, ini_X5, by decide +kernel, by decide⟩
theorem st_X5_isOnOrOff : Cond.static yX5_isOnOrOff ∈ x_good := x_in (List.mem_of_getElem? (i := 211) (by decide +kernel)) rfl
abbrev mX5_withMember : xM := (RX5, cX5_withMember, 3, (some .int))
theorem ct_X5_withMember : xcal yX5_withMember mX5_withMember 3 := ⟨x_in (List.mem_of_getElem? (i := 215) (by decide +kernel)) rfl, ini_X5, by decide +kernel, by decide⟩
theorem st_X5_withMember : Cond.static yX5_withMember ∈ x_good := x_in (List.mem_of_getElem? (i := 214) (by decide +kernel)) rfl
abbrev mJ6_bitCount_0f7a4 : xM := (RJ6, cJ6_bitCount_0f7a4, 1, (some .int))
theorem ct_J6_bitCount_0f7a4 : xcal yJ6_bitCount_0f7a4 mJ6_bitCount_0f7a4 1 := ⟨x_in (List.mem_of_getElem? (i := 218) (by decide +kernel)) rfl, ini_J6, by decide +kernel, by decide⟩
theorem st_J6_bitCount_0f7a4 : Cond.static yJ6_bitCount_0f7a4 ∈ x_good := x_in (List.mem_of_getElem? (i := 217) (by decide +kernel)) rfl
abbrev mX5_ahead : xM := (RX5, cX5_ahead, 4, (some .int))
theorem ct_X5_ahead : xcal yX5_ahead mX5_ahead 3 := ⟨x_in (List.mem_of_getElem? (i := 225) (by decide +kernel)) rfl, ini_X5, by decide +kernel, by decide⟩
theorem in_X5_ahead : Cond.instanceMethod yX5_ahead ∈ x_good := x_in (List.mem_of_getElem? (i := 223) (by decide +kernel)) rfl
theorem se_X5_ahead : Cond.selects RX5 yX5_ahead yX5_ahead ∈ x_good := x_in (List.mem_of_getElem? (i := 224) (by decide +kernel)) rfl
abbrev mX5_membersOfAll : xM := (RX5, cX5_membersOfAll, 6, (some .int))
theorem ct_X5_membersOfAll : xcal yX5_membersOfAll mX5_membersOfAll 1 := ⟨x_in (List.mem_of_getElem? (i := 228) (by decide +kernel)) rfl, ini_X5, by decide +kernel, by decide⟩
theorem st_X5_membersOfAll : Cond.static yX5_membersOfAll ∈ x_good := x_in (List.mem_of_getElem? (i := 227) (by decide +kernel)) rfl
abbrev mX5_grave : xM := (RX5, cX5_grave, 3, (some .int))
theorem ct_X5_grave : xcal yX5_grave mX5_grave 2 := ⟨x_in (List.mem_of_getElem? (i := 232) (by decide +kernel)) rfl, ini_X5, by decide +kernel, by decide⟩
theorem in_X5_grave : Cond.instanceMethod yX5_grave ∈ x_good := x_in (List.mem_of_getElem? (i := 230) (by decide +kernel)) rfl
theorem se_X5_grave : Cond.selects RX5 yX5_grave yX5_grave ∈ x_good := x_in (List.mem_of_getElem? (i := 231) (by decide +kernel)) rfl
abbrev mX2_earlierThan : xM := (RX2, cX2_earlierThan, 4, (some .int))
theorem ct_X2_earlierThan : xcal yX2_earlierThan mX2_earlierThan 1 := ⟨x_in (List.mem_of_getElem? (i := 236) (by decide +kernel)) rfl, ini_X2, by decide +kernel, by decide⟩
theorem in_X2_earlierThan : Cond.instanceMethod yX2_earlierThan ∈ x_good := x_in (List.mem_of_getElem? (i := 234) (by decide +kernel)) rfl
theorem se_X2_earlierThan : Cond.selects RX2 yX2_earlierThan yX2_earlierThan ∈ x_good := x_in (List.mem_of_getElem? (i := 235) (by decide +kernel)) rfl
abbrev mX5_isMember : xM := (RX5, cX5_isMember, 2, (some .boolean))
theorem ct_X5_isMember : xcal yX5_isMember mX5_isMember 2 := ⟨x_in (List.mem_of_getElem? (i := 239) (by decide +kernel)) rfl, ini_X5, by decide +kernel, by decide⟩
theorem st_X5_isMember : Cond.static yX5_isMember ∈ x_good := x_in (List.mem_of_getElem? (i := 238) (by decide +kernel)) rfl
abbrev mX2_placeInLine : xM := (RX2, cX2_placeInLine, 4, (some .int))
theorem ct_X2_placeInLine : xcal yX2_placeInLine mX2_placeInLine 1 := ⟨x_in (List.mem_of_getElem? (i := 243) (by decide +kernel)) rfl, ini_X2, by decide +kernel, by decide⟩
theorem in_X2_placeInLine : Cond.instanceMethod yX2_placeInLine ∈ x_good := x_in (List.mem_of_getElem? (i := 241) (by decide +kernel)) rfl
theorem se_X2_placeInLine : Cond.selects RX2 yX2_placeInLine yX2_placeInLine ∈ x_good := x_in (List.mem_of_getElem? (i := 242) (by decide +kernel)) rfl
abbrev mX5_sort : xM := (RX5, cX5_sort, 3, (some .int))
theorem ct_X5_sort : xcal yX5_sort mX5_sort 2 := ⟨x_in (List.mem_of_getElem? (i := 247) (by decide +kernel)) rfl, ini_X5, by decide +kernel, by decide⟩
theorem in_X5_sort : Cond.instanceMethod yX5_sort ∈ x_good := x_in (List.mem_of_getElem? (i := 245) (by decide +kernel)) rfl
theorem se_X5_sort : Cond.selects RX5 yX5_sort yX5_sort ∈ x_good := x_in (List.mem_of_getElem? (i := 246) (by decide +kernel)) rfl
abbrev mX2_gravesWith : xM := (RX2, cX2_gravesWith, 4, (some .int))
theorem ct_X2_gravesWith : xcal yX2_gravesWith mX2_gravesWith 1 := ⟨x_in (List.mem_of_getElem? (i := 251) (by decide +kernel)) rfl, ini_X2, by decide +kernel, by decide⟩
theorem in_X2_gravesWith : Cond.instanceMethod yX2_gravesWith ∈ x_good := x_in (List.mem_of_getElem? (i := 249) (by decide +kernel)) rfl
theorem se_X2_gravesWith : Cond.selects RX2 yX2_gravesWith yX2_gravesWith ∈ x_good := x_in (List.mem_of_getElem? (i := 250) (by decide +kernel)) rfl
abbrev mX2_lineBreaks : xM := (RX2, cX2_lineBreaks, 6, (some .int))
theorem ct_X2_lineBreaks : xcal yX2_lineBreaks mX2_lineBreaks 1 := ⟨x_in (List.mem_of_getElem? (i := 255) (by decide +kernel)) rfl, ini_X2, by decide +kernel, by decide⟩
theorem in_X2_lineBreaks : Cond.instanceMethod yX2_lineBreaks ∈ x_good := x_in (List.mem_of_getElem? (i := 253) (by decide +kernel)) rfl
theorem se_X2_lineBreaks : Cond.selects RX2 yX2_lineBreaks yX2_lineBreaks ∈ x_good := x_in (List.mem_of_getElem? (i := 254) (by decide +kernel)) rfl
abbrev mX2_sortsFound : xM := (RX2, cX2_sortsFound, 3, (some .int))
theorem ct_X2_sortsFound : xcal yX2_sortsFound mX2_sortsFound 0 := ⟨x_in (List.mem_of_getElem? (i := 260) (by decide +kernel)) rfl, ini_X2, by decide +kernel, by decide⟩
theorem in_X2_sortsFound : Cond.instanceMethod yX2_sortsFound ∈ x_good := x_in (List.mem_of_getElem? (i := 258) (by decide +kernel)) rfl
theorem se_X2_sortsFound : Cond.selects RX2 yX2_sortsFound yX2_sortsFound ∈ x_good := x_in (List.mem_of_getElem? (i := 259) (by decide +kernel)) rfl
abbrev mX5_knownBest : xM := (RX5, cX5_knownBest, 1, (some (.object "GraveRows$BestOrders")))
theorem ct_X5_knownBest : xcal yX5_knownBest mX5_knownBest 0 := ⟨x_in (List.mem_of_getElem? (i := 264) (by decide +kernel)) rfl, ini_X5, by decide +kernel, by decide⟩
theorem in_X5_knownBest : Cond.instanceMethod yX5_knownBest ∈ x_good := x_in (List.mem_of_getElem? (i := 263) (by decide +kernel)) rfl
theorem se_X5_knownBest : Cond.selects RX5 yX5_knownBest yX5_knownBest ∈ x_good := x_in (List.mem_of_getElem? (i := 2) (by decide +kernel)) rfl
abbrev mX0_search : xM := (RX0, cX0_search, 2, none)
theorem ct_X0_search : xcal yX0_search mX0_search 1 := ⟨x_in (List.mem_of_getElem? (i := 268) (by decide +kernel)) rfl, ini_X0, by decide +kernel, by decide⟩
theorem in_X0_search : Cond.instanceMethod yX0_search ∈ x_good := x_in (List.mem_of_getElem? (i := 266) (by decide +kernel)) rfl
theorem se_X0_search : Cond.selects RX0 yX0_search yX0_search ∈ x_good := x_in (List.mem_of_getElem? (i := 267) (by decide +kernel)) rfl
abbrev mX0_openAllowed : xM := (RX0, cX0_openAllowed, 5, none)
theorem ct_X0_openAllowed : xcal yX0_openAllowed mX0_openAllowed 1 := ⟨x_in (List.mem_of_getElem? (i := 272) (by decide +kernel)) rfl, ini_X0, by decide +kernel, by decide⟩
theorem in_X0_openAllowed : Cond.instanceMethod yX0_openAllowed ∈ x_good := x_in (List.mem_of_getElem? (i := 271) (by decide +kernel)) rfl
theorem se_X0_openAllowed : Cond.selects RX0 yX0_openAllowed yX0_openAllowed ∈ x_good := x_in (List.mem_of_getElem? (i := 3) (by decide +kernel)) rfl
abbrev mX0_stateOf : xM := (RX0, cX0_stateOf, 2, (some .int))
theorem ct_X0_stateOf : xcal yX0_stateOf mX0_stateOf 2 := ⟨x_in (List.mem_of_getElem? (i := 276) (by decide +kernel)) rfl, ini_X0, by decide +kernel, by decide⟩
theorem st_X0_stateOf : Cond.static yX0_stateOf ∈ x_good := x_in (List.mem_of_getElem? (i := 275) (by decide +kernel)) rfl
abbrev mX3_lookAt : xM := (RX3, cX3_lookAt, 4, none)
theorem ct_X3_lookAt : xcal yX3_lookAt mX3_lookAt 2 := ⟨x_in (List.mem_of_getElem? (i := 280) (by decide +kernel)) rfl, ini_X3, by decide +kernel, by decide⟩
theorem in_X3_lookAt : Cond.instanceMethod yX3_lookAt ∈ x_good := x_in (List.mem_of_getElem? (i := 278) (by decide +kernel)) rfl
theorem se_X3_lookAt : Cond.selects RX3 yX3_lookAt yX3_lookAt ∈ x_good := x_in (List.mem_of_getElem? (i := 279) (by decide +kernel)) rfl
abbrev mX0_costRest : xM := (RX0, cX0_costRest, 4, none)
theorem ct_X0_costRest : xcal yX0_costRest mX0_costRest 1 := ⟨x_in (List.mem_of_getElem? (i := 284) (by decide +kernel)) rfl, ini_X0, by decide +kernel, by decide⟩
theorem in_X0_costRest : Cond.instanceMethod yX0_costRest ∈ x_good := x_in (List.mem_of_getElem? (i := 283) (by decide +kernel)) rfl
theorem se_X0_costRest : Cond.selects RX0 yX0_costRest yX0_costRest ∈ x_good := x_in (List.mem_of_getElem? (i := 4) (by decide +kernel)) rfl
abbrev mX0_isState : xM := (RX0, cX0_isState, 2, (some .boolean))
theorem ct_X0_isState : xcal yX0_isState mX0_isState 2 := ⟨x_in (List.mem_of_getElem? (i := 287) (by decide +kernel)) rfl, ini_X0, by decide +kernel, by decide⟩
theorem st_X0_isState : Cond.static yX0_isState ∈ x_good := x_in (List.mem_of_getElem? (i := 286) (by decide +kernel)) rfl
abbrev mX0_cheapestOn : xM := (RX0, cX0_cheapestOn, 8, (some .int))
theorem ct_X0_cheapestOn : xcal yX0_cheapestOn mX0_cheapestOn 3 := ⟨x_in (List.mem_of_getElem? (i := 291) (by decide +kernel)) rfl, ini_X0, by decide +kernel, by decide⟩
theorem in_X0_cheapestOn : Cond.instanceMethod yX0_cheapestOn ∈ x_good := x_in (List.mem_of_getElem? (i := 290) (by decide +kernel)) rfl
theorem se_X0_cheapestOn : Cond.selects RX0 yX0_cheapestOn yX0_cheapestOn ∈ x_good := x_in (List.mem_of_getElem? (i := 5) (by decide +kernel)) rfl
abbrev mX0_stateAfter : xM := (RX0, cX0_stateAfter, 2, (some .int))
theorem ct_X0_stateAfter : xcal yX0_stateAfter mX0_stateAfter 2 := ⟨x_in (List.mem_of_getElem? (i := 295) (by decide +kernel)) rfl, ini_X0, by decide +kernel, by decide⟩
theorem st_X0_stateAfter : Cond.static yX0_stateAfter ∈ x_good := x_in (List.mem_of_getElem? (i := 294) (by decide +kernel)) rfl
abbrev mX3_ofNext : xM := (RX3, cX3_ofNext, 5, (some .int))
theorem ct_X3_ofNext : xcal yX3_ofNext mX3_ofNext 3 := ⟨x_in (List.mem_of_getElem? (i := 301) (by decide +kernel)) rfl, ini_X3, by decide +kernel, by decide⟩
theorem in_X3_ofNext : Cond.instanceMethod yX3_ofNext ∈ x_good := x_in (List.mem_of_getElem? (i := 300) (by decide +kernel)) rfl
abbrev mX4_ofNext : xM := (RX4, cX4_ofNext, 4, (some .int))
theorem ct_X4_ofNext : xcal yX4_ofNext mX4_ofNext 3 := ⟨x_in (List.mem_of_getElem? (i := 305) (by decide +kernel)) rfl, ini_X4, by decide +kernel, by decide⟩
theorem in_X4_ofNext : Cond.instanceMethod yX4_ofNext ∈ x_good := x_in (List.mem_of_getElem? (i := 304) (by decide +kernel)) rfl
abbrev mJ9_min_7cf53 : xM := (RJ9, cJ9_min_7cf53, 2, (some .int))
theorem ct_J9_min_7cf53 : xcal yJ9_min_7cf53 mJ9_min_7cf53 2 := ⟨x_in (List.mem_of_getElem? (i := 309) (by decide +kernel)) rfl, ini_J9, by decide +kernel, by decide⟩
theorem st_J9_min_7cf53 : Cond.static yJ9_min_7cf53 ∈ x_good := x_in (List.mem_of_getElem? (i := 308) (by decide +kernel)) rfl
abbrev mX0_keepCheapest : xM := (RX0, cX0_keepCheapest, 4, none)
theorem ct_X0_keepCheapest : xcal yX0_keepCheapest mX0_keepCheapest 1 := ⟨x_in (List.mem_of_getElem? (i := 315) (by decide +kernel)) rfl, ini_X0, by decide +kernel, by decide⟩
theorem in_X0_keepCheapest : Cond.instanceMethod yX0_keepCheapest ∈ x_good := x_in (List.mem_of_getElem? (i := 314) (by decide +kernel)) rfl
theorem se_X0_keepCheapest : Cond.selects RX0 yX0_keepCheapest yX0_keepCheapest ∈ x_good := x_in (List.mem_of_getElem? (i := 6) (by decide +kernel)) rfl
abbrev mX0_cheapestNext : xM := (RX0, cX0_cheapestNext, 7, (some .int))
theorem ct_X0_cheapestNext : xcal yX0_cheapestNext mX0_cheapestNext 3 := ⟨x_in (List.mem_of_getElem? (i := 319) (by decide +kernel)) rfl, ini_X0, by decide +kernel, by decide⟩
theorem in_X0_cheapestNext : Cond.instanceMethod yX0_cheapestNext ∈ x_good := x_in (List.mem_of_getElem? (i := 318) (by decide +kernel)) rfl
theorem se_X0_cheapestNext : Cond.selects RX0 yX0_cheapestNext yX0_cheapestNext ∈ x_good := x_in (List.mem_of_getElem? (i := 7) (by decide +kernel)) rfl
abbrev mX0_countWaysOn : xM := (RX0, cX0_countWaysOn, 4, none)
theorem ct_X0_countWaysOn : xcal yX0_countWaysOn mX0_countWaysOn 0 := ⟨x_in (List.mem_of_getElem? (i := 323) (by decide +kernel)) rfl, ini_X0, by decide +kernel, by decide⟩
theorem in_X0_countWaysOn : Cond.instanceMethod yX0_countWaysOn ∈ x_good := x_in (List.mem_of_getElem? (i := 322) (by decide +kernel)) rfl
theorem se_X0_countWaysOn : Cond.selects RX0 yX0_countWaysOn yX0_countWaysOn ∈ x_good := x_in (List.mem_of_getElem? (i := 8) (by decide +kernel)) rfl
abbrev mX0_sumOver : xM := (RX0, cX0_sumOver, 6, (some .int))
theorem ct_X0_sumOver : xcal yX0_sumOver mX0_sumOver 3 := ⟨x_in (List.mem_of_getElem? (i := 327) (by decide +kernel)) rfl, ini_X0, by decide +kernel, by decide⟩
theorem in_X0_sumOver : Cond.instanceMethod yX0_sumOver ∈ x_good := x_in (List.mem_of_getElem? (i := 326) (by decide +kernel)) rfl
theorem se_X0_sumOver : Cond.selects RX0 yX0_sumOver yX0_sumOver ∈ x_good := x_in (List.mem_of_getElem? (i := 9) (by decide +kernel)) rfl
abbrev mX0_countWaysTo : xM := (RX0, cX0_countWaysTo, 3, none)
theorem ct_X0_countWaysTo : xcal yX0_countWaysTo mX0_countWaysTo 0 := ⟨x_in (List.mem_of_getElem? (i := 331) (by decide +kernel)) rfl, ini_X0, by decide +kernel, by decide⟩
theorem in_X0_countWaysTo : Cond.instanceMethod yX0_countWaysTo ∈ x_good := x_in (List.mem_of_getElem? (i := 330) (by decide +kernel)) rfl
theorem se_X0_countWaysTo : Cond.selects RX0 yX0_countWaysTo yX0_countWaysTo ∈ x_good := x_in (List.mem_of_getElem? (i := 10) (by decide +kernel)) rfl
abbrev mX0_total : xM := (RX0, cX0_total, 1, (some .int))
theorem ct_X0_total : xcal yX0_total mX0_total 0 := ⟨x_in (List.mem_of_getElem? (i := 335) (by decide +kernel)) rfl, ini_X0, by decide +kernel, by decide⟩
theorem in_X0_total : Cond.instanceMethod yX0_total ∈ x_good := x_in (List.mem_of_getElem? (i := 333) (by decide +kernel)) rfl
theorem se_X0_total : Cond.selects RX0 yX0_total yX0_total ∈ x_good := x_in (List.mem_of_getElem? (i := 334) (by decide +kernel)) rfl
abbrev mX0_passOn : xM := (RX0, cX0_passOn, 5, none)
theorem ct_X0_passOn : xcal yX0_passOn mX0_passOn 2 := ⟨x_in (List.mem_of_getElem? (i := 339) (by decide +kernel)) rfl, ini_X0, by decide +kernel, by decide⟩
theorem in_X0_passOn : Cond.instanceMethod yX0_passOn ∈ x_good := x_in (List.mem_of_getElem? (i := 338) (by decide +kernel)) rfl
theorem se_X0_passOn : Cond.selects RX0 yX0_passOn yX0_passOn ∈ x_good := x_in (List.mem_of_getElem? (i := 11) (by decide +kernel)) rfl
abbrev mX0_fewestBreaksOf : xM := (RX0, cX0_fewestBreaksOf, 3, (some .int))
theorem ct_X0_fewestBreaksOf : xcal yX0_fewestBreaksOf mX0_fewestBreaksOf 2 := ⟨x_in (List.mem_of_getElem? (i := 343) (by decide +kernel)) rfl, ini_X0, by decide +kernel, by decide⟩
theorem in_X0_fewestBreaksOf : Cond.instanceMethod yX0_fewestBreaksOf ∈ x_good := x_in (List.mem_of_getElem? (i := 341) (by decide +kernel)) rfl
theorem se_X0_fewestBreaksOf : Cond.selects RX0 yX0_fewestBreaksOf yX0_fewestBreaksOf ∈ x_good := x_in (List.mem_of_getElem? (i := 342) (by decide +kernel)) rfl
abbrev mX5_alike : xM := (RX5, cX5_alike, 3, (some .int))
theorem ct_X5_alike : xcal yX5_alike mX5_alike 2 := ⟨x_in (List.mem_of_getElem? (i := 348) (by decide +kernel)) rfl, ini_X5, by decide +kernel, by decide⟩
theorem in_X5_alike : Cond.instanceMethod yX5_alike ∈ x_good := x_in (List.mem_of_getElem? (i := 346) (by decide +kernel)) rfl
theorem se_X5_alike : Cond.selects RX5 yX5_alike yX5_alike ∈ x_good := x_in (List.mem_of_getElem? (i := 347) (by decide +kernel)) rfl
abbrev mX5_least : xM := (RX5, cX5_least, 2, (some .int))
theorem ct_X5_least : xcal yX5_least mX5_least 0 := ⟨x_in (List.mem_of_getElem? (i := 352) (by decide +kernel)) rfl, ini_X5, by decide +kernel, by decide⟩
theorem in_X5_least : Cond.instanceMethod yX5_least ∈ x_good := x_in (List.mem_of_getElem? (i := 350) (by decide +kernel)) rfl
theorem se_X5_least : Cond.selects RX5 yX5_least yX5_least ∈ x_good := x_in (List.mem_of_getElem? (i := 351) (by decide +kernel)) rfl
abbrev mX5_best : xM := (RX5, cX5_best, 1, (some .int))
theorem ct_X5_best : xcal yX5_best mX5_best 0 := ⟨x_in (List.mem_of_getElem? (i := 357) (by decide +kernel)) rfl, ini_X5, by decide +kernel, by decide⟩
theorem in_X5_best : Cond.instanceMethod yX5_best ∈ x_good := x_in (List.mem_of_getElem? (i := 355) (by decide +kernel)) rfl
theorem se_X5_best : Cond.selects RX5 yX5_best yX5_best ∈ x_good := x_in (List.mem_of_getElem? (i := 356) (by decide +kernel)) rfl
abbrev mX5_order : xM := (RX5, cX5_order, 4, (some .int))
theorem ct_X5_order : xcal yX5_order mX5_order 2 := ⟨x_in (List.mem_of_getElem? (i := 361) (by decide +kernel)) rfl, ini_X5, by decide +kernel, by decide⟩
theorem in_X5_order : Cond.instanceMethod yX5_order ∈ x_good := x_in (List.mem_of_getElem? (i := 359) (by decide +kernel)) rfl
theorem se_X5_order : Cond.selects RX5 yX5_order yX5_order ∈ x_good := x_in (List.mem_of_getElem? (i := 360) (by decide +kernel)) rfl
abbrev mX5_isPlace : xM := (RX5, cX5_isPlace, 2, (some .boolean))
theorem ct_X5_isPlace : xcal yX5_isPlace mX5_isPlace 1 := ⟨x_in (List.mem_of_getElem? (i := 365) (by decide +kernel)) rfl, ini_X5, by decide +kernel, by decide⟩
theorem in_X5_isPlace : Cond.instanceMethod yX5_isPlace ∈ x_good := x_in (List.mem_of_getElem? (i := 364) (by decide +kernel)) rfl
theorem se_X5_isPlace : Cond.selects RX5 yX5_isPlace yX5_isPlace ∈ x_good := x_in (List.mem_of_getElem? (i := 12) (by decide +kernel)) rfl
abbrev mX0_graveAt : xM := (RX0, cX0_graveAt, 11, (some .int))
theorem ct_X0_graveAt : xcal yX0_graveAt mX0_graveAt 2 := ⟨x_in (List.mem_of_getElem? (i := 369) (by decide +kernel)) rfl, ini_X0, by decide +kernel, by decide⟩
theorem in_X0_graveAt : Cond.instanceMethod yX0_graveAt ∈ x_good := x_in (List.mem_of_getElem? (i := 367) (by decide +kernel)) rfl
theorem se_X0_graveAt : Cond.selects RX0 yX0_graveAt yX0_graveAt ∈ x_good := x_in (List.mem_of_getElem? (i := 368) (by decide +kernel)) rfl
abbrev mX5_beside : xM := (RX5, cX5_beside, 4, (some .int))
theorem ct_X5_beside : xcal yX5_beside mX5_beside 2 := ⟨x_in (List.mem_of_getElem? (i := 373) (by decide +kernel)) rfl, ini_X5, by decide +kernel, by decide⟩
theorem in_X5_beside : Cond.instanceMethod yX5_beside ∈ x_good := x_in (List.mem_of_getElem? (i := 371) (by decide +kernel)) rfl
theorem se_X5_beside : Cond.selects RX5 yX5_beside yX5_beside ∈ x_good := x_in (List.mem_of_getElem? (i := 372) (by decide +kernel)) rfl
abbrev mX0_neighboursOf : xM := (RX0, cX0_neighboursOf, 5, (some .int))
theorem ct_X0_neighboursOf : xcal yX0_neighboursOf mX0_neighboursOf 2 := ⟨x_in (List.mem_of_getElem? (i := 377) (by decide +kernel)) rfl, ini_X0, by decide +kernel, by decide⟩
theorem in_X0_neighboursOf : Cond.instanceMethod yX0_neighboursOf ∈ x_good := x_in (List.mem_of_getElem? (i := 375) (by decide +kernel)) rfl
theorem se_X0_neighboursOf : Cond.selects RX0 yX0_neighboursOf yX0_neighboursOf ∈ x_good := x_in (List.mem_of_getElem? (i := 376) (by decide +kernel)) rfl
abbrev mX0_ordersWithNext : xM := (RX0, cX0_ordersWithNext, 6, (some .int))
theorem ct_X0_ordersWithNext : xcal yX0_ordersWithNext mX0_ordersWithNext 2 := ⟨x_in (List.mem_of_getElem? (i := 381) (by decide +kernel)) rfl, ini_X0, by decide +kernel, by decide⟩
theorem in_X0_ordersWithNext : Cond.instanceMethod yX0_ordersWithNext ∈ x_good := x_in (List.mem_of_getElem? (i := 380) (by decide +kernel)) rfl
theorem se_X0_ordersWithNext : Cond.selects RX0 yX0_ordersWithNext yX0_ordersWithNext ∈ x_good := x_in (List.mem_of_getElem? (i := 13) (by decide +kernel)) rfl
abbrev mX5_place : xM := (RX5, cX5_place, 3, (some .int))
theorem ct_X5_place : xcal yX5_place mX5_place 2 := ⟨x_in (List.mem_of_getElem? (i := 385) (by decide +kernel)) rfl, ini_X5, by decide +kernel, by decide⟩
theorem in_X5_place : Cond.instanceMethod yX5_place ∈ x_good := x_in (List.mem_of_getElem? (i := 383) (by decide +kernel)) rfl
theorem se_X5_place : Cond.selects RX5 yX5_place yX5_place ∈ x_good := x_in (List.mem_of_getElem? (i := 384) (by decide +kernel)) rfl
abbrev mX0_leastPlaceOf : xM := (RX0, cX0_leastPlaceOf, 3, (some .int))
theorem ct_X0_leastPlaceOf : xcal yX0_leastPlaceOf mX0_leastPlaceOf 1 := ⟨x_in (List.mem_of_getElem? (i := 389) (by decide +kernel)) rfl, ini_X0, by decide +kernel, by decide⟩
theorem in_X0_leastPlaceOf : Cond.instanceMethod yX0_leastPlaceOf ∈ x_good := x_in (List.mem_of_getElem? (i := 387) (by decide +kernel)) rfl
theorem se_X0_leastPlaceOf : Cond.selects RX0 yX0_leastPlaceOf yX0_leastPlaceOf ∈ x_good := x_in (List.mem_of_getElem? (i := 388) (by decide +kernel)) rfl
abbrev mX0_ordersWithAt : xM := (RX0, cX0_ordersWithAt, 5, (some .int))
theorem ct_X0_ordersWithAt : xcal yX0_ordersWithAt mX0_ordersWithAt 2 := ⟨x_in (List.mem_of_getElem? (i := 393) (by decide +kernel)) rfl, ini_X0, by decide +kernel, by decide⟩
theorem in_X0_ordersWithAt : Cond.instanceMethod yX0_ordersWithAt ∈ x_good := x_in (List.mem_of_getElem? (i := 391) (by decide +kernel)) rfl
theorem se_X0_ordersWithAt : Cond.selects RX0 yX0_ordersWithAt yX0_ordersWithAt ∈ x_good := x_in (List.mem_of_getElem? (i := 392) (by decide +kernel)) rfl
abbrev mX0_ordersBy : xM := (RX0, cX0_ordersBy, 4, (some .int))
theorem ct_X0_ordersBy : xcal yX0_ordersBy mX0_ordersBy 2 := ⟨x_in (List.mem_of_getElem? (i := 397) (by decide +kernel)) rfl, ini_X0, by decide +kernel, by decide⟩
theorem in_X0_ordersBy : Cond.instanceMethod yX0_ordersBy ∈ x_good := x_in (List.mem_of_getElem? (i := 396) (by decide +kernel)) rfl
theorem se_X0_ordersBy : Cond.selects RX0 yX0_ordersBy yX0_ordersBy ∈ x_good := x_in (List.mem_of_getElem? (i := 14) (by decide +kernel)) rfl
abbrev mX0_greatestPlaceOf : xM := (RX0, cX0_greatestPlaceOf, 3, (some .int))
theorem ct_X0_greatestPlaceOf : xcal yX0_greatestPlaceOf mX0_greatestPlaceOf 1 := ⟨x_in (List.mem_of_getElem? (i := 401) (by decide +kernel)) rfl, ini_X0, by decide +kernel, by decide⟩
theorem in_X0_greatestPlaceOf : Cond.instanceMethod yX0_greatestPlaceOf ∈ x_good := x_in (List.mem_of_getElem? (i := 399) (by decide +kernel)) rfl
theorem se_X0_greatestPlaceOf : Cond.selects RX0 yX0_greatestPlaceOf yX0_greatestPlaceOf ∈ x_good := x_in (List.mem_of_getElem? (i := 400) (by decide +kernel)) rfl
abbrev mX5_before : xM := (RX5, cX5_before, 3, (some .int))
theorem ct_X5_before : xcal yX5_before mX5_before 2 := ⟨x_in (List.mem_of_getElem? (i := 406) (by decide +kernel)) rfl, ini_X5, by decide +kernel, by decide⟩
theorem in_X5_before : Cond.instanceMethod yX5_before ∈ x_good := x_in (List.mem_of_getElem? (i := 404) (by decide +kernel)) rfl
theorem se_X5_before : Cond.selects RX5 yX5_before yX5_before ∈ x_good := x_in (List.mem_of_getElem? (i := 405) (by decide +kernel)) rfl
abbrev mX0_ordersWithFirst : xM := (RX0, cX0_ordersWithFirst, 5, (some .int))
theorem ct_X0_ordersWithFirst : xcal yX0_ordersWithFirst mX0_ordersWithFirst 2 := ⟨x_in (List.mem_of_getElem? (i := 410) (by decide +kernel)) rfl, ini_X0, by decide +kernel, by decide⟩
theorem in_X0_ordersWithFirst : Cond.instanceMethod yX0_ordersWithFirst ∈ x_good := x_in (List.mem_of_getElem? (i := 408) (by decide +kernel)) rfl
theorem se_X0_ordersWithFirst : Cond.selects RX0 yX0_ordersWithFirst yX0_ordersWithFirst ∈ x_good := x_in (List.mem_of_getElem? (i := 409) (by decide +kernel)) rfl
abbrev mX5_together : xM := (RX5, cX5_together, 2, (some .int))
theorem ct_X5_together : xcal yX5_together mX5_together 1 := ⟨x_in (List.mem_of_getElem? (i := 414) (by decide +kernel)) rfl, ini_X5, by decide +kernel, by decide⟩
theorem in_X5_together : Cond.instanceMethod yX5_together ∈ x_good := x_in (List.mem_of_getElem? (i := 412) (by decide +kernel)) rfl
theorem se_X5_together : Cond.selects RX5 yX5_together yX5_together ∈ x_good := x_in (List.mem_of_getElem? (i := 413) (by decide +kernel)) rfl
abbrev mX0_ordersWithTogether : xM := (RX0, cX0_ordersWithTogether, 6, (some .int))
theorem ct_X0_ordersWithTogether : xcal yX0_ordersWithTogether mX0_ordersWithTogether 1 := ⟨x_in (List.mem_of_getElem? (i := 418) (by decide +kernel)) rfl, ini_X0, by decide +kernel, by decide⟩
theorem in_X0_ordersWithTogether : Cond.instanceMethod yX0_ordersWithTogether ∈ x_good := x_in (List.mem_of_getElem? (i := 416) (by decide +kernel)) rfl
theorem se_X0_ordersWithTogether : Cond.selects RX0 yX0_ordersWithTogether yX0_ordersWithTogether ∈ x_good := x_in (List.mem_of_getElem? (i := 417) (by decide +kernel)) rfl
abbrev mX0_nextThatPart : xM := (RX0, cX0_nextThatPart, 3, (some .int))
theorem ct_X0_nextThatPart : xcal yX0_nextThatPart mX0_nextThatPart 2 := ⟨x_in (List.mem_of_getElem? (i := 421) (by decide +kernel)) rfl, ini_X0, by decide +kernel, by decide⟩
theorem st_X0_nextThatPart : Cond.static yX0_nextThatPart ∈ x_good := x_in (List.mem_of_getElem? (i := 420) (by decide +kernel)) rfl
abbrev mX5_clump : xM := (RX5, cX5_clump, 3, (some .int))
theorem ct_X5_clump : xcal yX5_clump mX5_clump 1 := ⟨x_in (List.mem_of_getElem? (i := 425) (by decide +kernel)) rfl, ini_X5, by decide +kernel, by decide⟩
theorem in_X5_clump : Cond.instanceMethod yX5_clump ∈ x_good := x_in (List.mem_of_getElem? (i := 423) (by decide +kernel)) rfl
theorem se_X5_clump : Cond.selects RX5 yX5_clump yX5_clump ∈ x_good := x_in (List.mem_of_getElem? (i := 424) (by decide +kernel)) rfl
abbrev mX0_gatherClumps : xM := (RX0, cX0_gatherClumps, 2, none)
theorem ct_X0_gatherClumps : xcal yX0_gatherClumps mX0_gatherClumps 0 := ⟨x_in (List.mem_of_getElem? (i := 429) (by decide +kernel)) rfl, ini_X0, by decide +kernel, by decide⟩
theorem in_X0_gatherClumps : Cond.instanceMethod yX0_gatherClumps ∈ x_good := x_in (List.mem_of_getElem? (i := 427) (by decide +kernel)) rfl
theorem se_X0_gatherClumps : Cond.selects RX0 yX0_gatherClumps yX0_gatherClumps ∈ x_good := x_in (List.mem_of_getElem? (i := 428) (by decide +kernel)) rfl
abbrev mX0_liesTogetherInAll : xM := (RX0, cX0_liesTogetherInAll, 3, (some .boolean))
theorem ct_X0_liesTogetherInAll : xcal yX0_liesTogetherInAll mX0_liesTogetherInAll 1 := ⟨x_in (List.mem_of_getElem? (i := 433) (by decide +kernel)) rfl, ini_X0, by decide +kernel, by decide⟩
theorem in_X0_liesTogetherInAll : Cond.instanceMethod yX0_liesTogetherInAll ∈ x_good := x_in (List.mem_of_getElem? (i := 432) (by decide +kernel)) rfl
theorem se_X0_liesTogetherInAll : Cond.selects RX0 yX0_liesTogetherInAll yX0_liesTogetherInAll ∈ x_good := x_in (List.mem_of_getElem? (i := 15) (by decide +kernel)) rfl
abbrev mX5_row : xM := (RX5, cX5_row, 2, (some .int))
theorem ct_X5_row : xcal yX5_row mX5_row 1 := ⟨x_in (List.mem_of_getElem? (i := 437) (by decide +kernel)) rfl, ini_X5, by decide +kernel, by decide⟩
theorem in_X5_row : Cond.instanceMethod yX5_row ∈ x_good := x_in (List.mem_of_getElem? (i := 435) (by decide +kernel)) rfl
theorem se_X5_row : Cond.selects RX5 yX5_row yX5_row ∈ x_good := x_in (List.mem_of_getElem? (i := 436) (by decide +kernel)) rfl
abbrev mX5_breaks : xM := (RX5, cX5_breaks, 2, (some .int))
theorem ct_X5_breaks : xcal yX5_breaks mX5_breaks 1 := ⟨x_in (List.mem_of_getElem? (i := 441) (by decide +kernel)) rfl, ini_X5, by decide +kernel, by decide⟩
theorem in_X5_breaks : Cond.instanceMethod yX5_breaks ∈ x_good := x_in (List.mem_of_getElem? (i := 439) (by decide +kernel)) rfl
theorem se_X5_breaks : Cond.selects RX5 yX5_breaks yX5_breaks ∈ x_good := x_in (List.mem_of_getElem? (i := 440) (by decide +kernel)) rfl
abbrev mX2_lineIsAllowed : xM := (RX2, cX2_lineIsAllowed, 3, (some .boolean))
theorem ct_X2_lineIsAllowed : xcal yX2_lineIsAllowed mX2_lineIsAllowed 0 := ⟨x_in (List.mem_of_getElem? (i := 445) (by decide +kernel)) rfl, ini_X2, by decide +kernel, by decide⟩
theorem in_X2_lineIsAllowed : Cond.instanceMethod yX2_lineIsAllowed ∈ x_good := x_in (List.mem_of_getElem? (i := 443) (by decide +kernel)) rfl
theorem se_X2_lineIsAllowed : Cond.selects RX2 yX2_lineIsAllowed yX2_lineIsAllowed ∈ x_good := x_in (List.mem_of_getElem? (i := 444) (by decide +kernel)) rfl
abbrev mX5_lineIsBest : xM := (RX5, cX5_lineIsBest, 2, (some .boolean))
theorem ct_X5_lineIsBest : xcal yX5_lineIsBest mX5_lineIsBest 0 := ⟨x_in (List.mem_of_getElem? (i := 449) (by decide +kernel)) rfl, ini_X5, by decide +kernel, by decide⟩
theorem in_X5_lineIsBest : Cond.instanceMethod yX5_lineIsBest ∈ x_good := x_in (List.mem_of_getElem? (i := 448) (by decide +kernel)) rfl
theorem se_X5_lineIsBest : Cond.selects RX5 yX5_lineIsBest yX5_lineIsBest ∈ x_good := x_in (List.mem_of_getElem? (i := 16) (by decide +kernel)) rfl
abbrev mX5_swap : xM := (RX5, cX5_swap, 2, (some .int))
theorem ct_X5_swap : xcal yX5_swap mX5_swap 1 := ⟨x_in (List.mem_of_getElem? (i := 453) (by decide +kernel)) rfl, ini_X5, by decide +kernel, by decide⟩
theorem in_X5_swap : Cond.instanceMethod yX5_swap ∈ x_good := x_in (List.mem_of_getElem? (i := 451) (by decide +kernel)) rfl
theorem se_X5_swap : Cond.selects RX5 yX5_swap yX5_swap ∈ x_good := x_in (List.mem_of_getElem? (i := 452) (by decide +kernel)) rfl
abbrev mX2_exchange : xM := (RX2, cX2_exchange, 3, none)
theorem ct_X2_exchange : xcal yX2_exchange mX2_exchange 1 := ⟨x_in (List.mem_of_getElem? (i := 457) (by decide +kernel)) rfl, ini_X2, by decide +kernel, by decide⟩
theorem in_X2_exchange : Cond.instanceMethod yX2_exchange ∈ x_good := x_in (List.mem_of_getElem? (i := 455) (by decide +kernel)) rfl
theorem se_X2_exchange : Cond.selects RX2 yX2_exchange yX2_exchange ∈ x_good := x_in (List.mem_of_getElem? (i := 456) (by decide +kernel)) rfl
abbrev mX5_better : xM := (RX5, cX5_better, 1, (some .int))
theorem ct_X5_better : xcal yX5_better mX5_better 0 := ⟨x_in (List.mem_of_getElem? (i := 461) (by decide +kernel)) rfl, ini_X5, by decide +kernel, by decide⟩
theorem in_X5_better : Cond.instanceMethod yX5_better ∈ x_good := x_in (List.mem_of_getElem? (i := 459) (by decide +kernel)) rfl
theorem se_X5_better : Cond.selects RX5 yX5_better yX5_better ∈ x_good := x_in (List.mem_of_getElem? (i := 460) (by decide +kernel)) rfl
abbrev mX5_makeBestSwap : xM := (RX5, cX5_makeBestSwap, 2, (some .int))
theorem ct_X5_makeBestSwap : xcal yX5_makeBestSwap mX5_makeBestSwap 0 := ⟨x_in (List.mem_of_getElem? (i := 465) (by decide +kernel)) rfl, ini_X5, by decide +kernel, by decide⟩
theorem in_X5_makeBestSwap : Cond.instanceMethod yX5_makeBestSwap ∈ x_good := x_in (List.mem_of_getElem? (i := 464) (by decide +kernel)) rfl
theorem se_X5_makeBestSwap : Cond.selects RX5 yX5_makeBestSwap yX5_makeBestSwap ∈ x_good := x_in (List.mem_of_getElem? (i := 17) (by decide +kernel)) rfl
abbrev mX2_bestExchange : xM := (RX2, cX2_bestExchange, 5, (some .int))
theorem ct_X2_bestExchange : xcal yX2_bestExchange mX2_bestExchange 0 := ⟨x_in (List.mem_of_getElem? (i := 469) (by decide +kernel)) rfl, ini_X2, by decide +kernel, by decide⟩
theorem in_X2_bestExchange : Cond.instanceMethod yX2_bestExchange ∈ x_good := x_in (List.mem_of_getElem? (i := 467) (by decide +kernel)) rfl
theorem se_X2_bestExchange : Cond.selects RX2 yX2_bestExchange yX2_bestExchange ∈ x_good := x_in (List.mem_of_getElem? (i := 468) (by decide +kernel)) rfl
abbrev mX5_climb : xM := (RX5, cX5_climb, 2, (some .int))
theorem ct_X5_climb : xcal yX5_climb mX5_climb 0 := ⟨x_in (List.mem_of_getElem? (i := 475) (by decide +kernel)) rfl, ini_X5, by decide +kernel, by decide⟩
theorem in_X5_climb : Cond.instanceMethod yX5_climb ∈ x_good := x_in (List.mem_of_getElem? (i := 473) (by decide +kernel)) rfl
theorem se_X5_climb : Cond.selects RX5 yX5_climb yX5_climb ∈ x_good := x_in (List.mem_of_getElem? (i := 474) (by decide +kernel)) rfl
abbrev mX5_nearest : xM := (RX5, cX5_nearest, 3, (some .int))
theorem ct_X5_nearest : xcal yX5_nearest mX5_nearest 1 := ⟨x_in (List.mem_of_getElem? (i := 479) (by decide +kernel)) rfl, ini_X5, by decide +kernel, by decide⟩
theorem in_X5_nearest : Cond.instanceMethod yX5_nearest ∈ x_good := x_in (List.mem_of_getElem? (i := 477) (by decide +kernel)) rfl
theorem se_X5_nearest : Cond.selects RX5 yX5_nearest yX5_nearest ∈ x_good := x_in (List.mem_of_getElem? (i := 478) (by decide +kernel)) rfl
abbrev mX5_knowWay : xM := (RX5, cX5_knowWay, 2, none)
theorem ct_X5_knowWay : xcal yX5_knowWay mX5_knowWay 1 := ⟨x_in (List.mem_of_getElem? (i := 483) (by decide +kernel)) rfl, ini_X5, by decide +kernel, by decide⟩
theorem in_X5_knowWay : Cond.instanceMethod yX5_knowWay ∈ x_good := x_in (List.mem_of_getElem? (i := 482) (by decide +kernel)) rfl
theorem se_X5_knowWay : Cond.selects RX5 yX5_knowWay yX5_knowWay ∈ x_good := x_in (List.mem_of_getElem? (i := 18) (by decide +kernel)) rfl
abbrev mX0_seekGoal : xM := (RX0, cX0_seekGoal, 5, none)
theorem ct_X0_seekGoal : xcal yX0_seekGoal mX0_seekGoal 1 := ⟨x_in (List.mem_of_getElem? (i := 487) (by decide +kernel)) rfl, ini_X0, by decide +kernel, by decide⟩
theorem in_X0_seekGoal : Cond.instanceMethod yX0_seekGoal ∈ x_good := x_in (List.mem_of_getElem? (i := 485) (by decide +kernel)) rfl
theorem se_X0_seekGoal : Cond.selects RX0 yX0_seekGoal yX0_seekGoal ∈ x_good := x_in (List.mem_of_getElem? (i := 486) (by decide +kernel)) rfl
abbrev mX4_lookAt : xM := (RX4, cX4_lookAt, 4, none)
theorem ct_X4_lookAt : xcal yX4_lookAt mX4_lookAt 1 := ⟨x_in (List.mem_of_getElem? (i := 491) (by decide +kernel)) rfl, ini_X4, by decide +kernel, by decide⟩
theorem in_X4_lookAt : Cond.instanceMethod yX4_lookAt ∈ x_good := x_in (List.mem_of_getElem? (i := 489) (by decide +kernel)) rfl
theorem se_X4_lookAt : Cond.selects RX4 yX4_lookAt yX4_lookAt ∈ x_good := x_in (List.mem_of_getElem? (i := 490) (by decide +kernel)) rfl
abbrev mX0_leastMember : xM := (RX0, cX0_leastMember, 2, (some .int))
theorem ct_X0_leastMember : xcal yX0_leastMember mX0_leastMember 1 := ⟨x_in (List.mem_of_getElem? (i := 494) (by decide +kernel)) rfl, ini_X0, by decide +kernel, by decide⟩
theorem st_X0_leastMember : Cond.static yX0_leastMember ∈ x_good := x_in (List.mem_of_getElem? (i := 493) (by decide +kernel)) rfl
abbrev mX5_settle : xM := (RX5, cX5_settle, 3, (some .int))
theorem ct_X5_settle : xcal yX5_settle mX5_settle 0 := ⟨x_in (List.mem_of_getElem? (i := 498) (by decide +kernel)) rfl, ini_X5, by decide +kernel, by decide⟩
theorem in_X5_settle : Cond.instanceMethod yX5_settle ∈ x_good := x_in (List.mem_of_getElem? (i := 496) (by decide +kernel)) rfl
theorem se_X5_settle : Cond.selects RX5 yX5_settle yX5_settle ∈ x_good := x_in (List.mem_of_getElem? (i := 497) (by decide +kernel)) rfl
abbrev mX5_count : xM := (RX5, cX5_count, 2, (some .int))
theorem ct_X5_count : xcal yX5_count mX5_count 1 := ⟨x_in (List.mem_of_getElem? (i := 505) (by decide +kernel)) rfl, ini_X5, by decide +kernel, by decide⟩
theorem in_X5_count : Cond.instanceMethod yX5_count ∈ x_good := x_in (List.mem_of_getElem? (i := 503) (by decide +kernel)) rfl
theorem se_X5_count : Cond.selects RX5 yX5_count yX5_count ∈ x_good := x_in (List.mem_of_getElem? (i := 504) (by decide +kernel)) rfl
abbrev mX5_image : xM := (RX5, cX5_image, 2, (some .int))
theorem ct_X5_image : xcal yX5_image mX5_image 1 := ⟨x_in (List.mem_of_getElem? (i := 509) (by decide +kernel)) rfl, ini_X5, by decide +kernel, by decide⟩
theorem in_X5_image : Cond.instanceMethod yX5_image ∈ x_good := x_in (List.mem_of_getElem? (i := 507) (by decide +kernel)) rfl
theorem se_X5_image : Cond.selects RX5 yX5_image yX5_image ∈ x_good := x_in (List.mem_of_getElem? (i := 508) (by decide +kernel)) rfl
abbrev mX5_isImage : xM := (RX5, cX5_isImage, 1, (some .boolean))
theorem ct_X5_isImage : xcal yX5_isImage mX5_isImage 1 := ⟨x_in (List.mem_of_getElem? (i := 512) (by decide +kernel)) rfl, ini_X5, by decide +kernel, by decide⟩
theorem st_X5_isImage : Cond.static yX5_isImage ∈ x_good := x_in (List.mem_of_getElem? (i := 511) (by decide +kernel)) rfl
abbrev mX2_become : xM := (RX2, cX2_become, 2, none)
theorem ct_X2_become : xcal yX2_become mX2_become 1 := ⟨x_in (List.mem_of_getElem? (i := 516) (by decide +kernel)) rfl, ini_X2, by decide +kernel, by decide⟩
theorem in_X2_become : Cond.instanceMethod yX2_become ∈ x_good := x_in (List.mem_of_getElem? (i := 514) (by decide +kernel)) rfl
theorem se_X2_become : Cond.selects RX2 yX2_become yX2_become ∈ x_good := x_in (List.mem_of_getElem? (i := 515) (by decide +kernel)) rfl
abbrev mX5_restore : xM := (RX5, cX5_restore, 2, (some .int))
theorem ct_X5_restore : xcal yX5_restore mX5_restore 1 := ⟨x_in (List.mem_of_getElem? (i := 521) (by decide +kernel)) rfl, ini_X5, by decide +kernel, by decide⟩
theorem in_X5_restore : Cond.instanceMethod yX5_restore ∈ x_good := x_in (List.mem_of_getElem? (i := 519) (by decide +kernel)) rfl
theorem se_X5_restore : Cond.selects RX5 yX5_restore yX5_restore ∈ x_good := x_in (List.mem_of_getElem? (i := 520) (by decide +kernel)) rfl
abbrev mX6_init : xM := (RX6, cX6_init, 1, none)
theorem ct_X6_init : xcal yX6_init mX6_init 0 := ⟨x_in (List.mem_of_getElem? (i := 527) (by decide +kernel)) rfl, ini_X6, by decide +kernel, by decide⟩
theorem in_X6_init : Cond.instanceMethod yX6_init ∈ x_good := x_in (List.mem_of_getElem? (i := 526) (by decide +kernel)) rfl
abbrev mX6_resetRow : xM := (RX6, cX6_resetRow, 2, none)
theorem ct_X6_resetRow : xcal yX6_resetRow mX6_resetRow 0 := ⟨x_in (List.mem_of_getElem? (i := 532) (by decide +kernel)) rfl, ini_X6, by decide +kernel, by decide⟩
theorem in_X6_resetRow : Cond.instanceMethod yX6_resetRow ∈ x_good := x_in (List.mem_of_getElem? (i := 531) (by decide +kernel)) rfl
theorem se_X6_resetRow : Cond.selects RX6 yX6_resetRow yX6_resetRow ∈ x_good := x_in (List.mem_of_getElem? (i := 19) (by decide +kernel)) rfl
abbrev mX6_many : xM := (RX6, cX6_many, 4, (some .int))
theorem ct_X6_many : xcal yX6_many mX6_many 1 := ⟨x_in (List.mem_of_getElem? (i := 589) (by decide +kernel)) rfl, ini_X6, by decide +kernel, by decide⟩
theorem in_X6_many : Cond.instanceMethod yX6_many ∈ x_good := x_in (List.mem_of_getElem? (i := 587) (by decide +kernel)) rfl
theorem se_X6_many : Cond.selects RX6 yX6_many yX6_many ∈ x_good := x_in (List.mem_of_getElem? (i := 588) (by decide +kernel)) rfl
abbrev mX6_in : xM := (RX6, cX6_in, 3, (some .boolean))
theorem ct_X6_in : xcal yX6_in mX6_in 3 := ⟨x_in (List.mem_of_getElem? (i := 592) (by decide +kernel)) rfl, ini_X6, by decide +kernel, by decide⟩
theorem st_X6_in : Cond.static yX6_in ∈ x_good := x_in (List.mem_of_getElem? (i := 591) (by decide +kernel)) rfl
abbrev mX6_find : xM := (RX6, cX6_find, 4, (some .int))
theorem ct_X6_find : xcal yX6_find mX6_find 3 := ⟨x_in (List.mem_of_getElem? (i := 596) (by decide +kernel)) rfl, ini_X6, by decide +kernel, by decide⟩
theorem in_X6_find : Cond.instanceMethod yX6_find ∈ x_good := x_in (List.mem_of_getElem? (i := 594) (by decide +kernel)) rfl
theorem se_X6_find : Cond.selects RX6 yX6_find yX6_find ∈ x_good := x_in (List.mem_of_getElem? (i := 595) (by decide +kernel)) rfl
abbrev mX6_isGrave : xM := (RX6, cX6_isGrave, 2, (some .boolean))
theorem ct_X6_isGrave : xcal yX6_isGrave mX6_isGrave 1 := ⟨x_in (List.mem_of_getElem? (i := 600) (by decide +kernel)) rfl, ini_X6, by decide +kernel, by decide⟩
theorem in_X6_isGrave : Cond.instanceMethod yX6_isGrave ∈ x_good := x_in (List.mem_of_getElem? (i := 599) (by decide +kernel)) rfl
theorem se_X6_isGrave : Cond.selects RX6 yX6_isGrave yX6_isGrave ∈ x_good := x_in (List.mem_of_getElem? (i := 20) (by decide +kernel)) rfl
abbrev mX6_isSort : xM := (RX6, cX6_isSort, 1, (some .boolean))
theorem ct_X6_isSort : xcal yX6_isSort mX6_isSort 1 := ⟨x_in (List.mem_of_getElem? (i := 603) (by decide +kernel)) rfl, ini_X6, by decide +kernel, by decide⟩
theorem st_X6_isSort : Cond.static yX6_isSort ∈ x_good := x_in (List.mem_of_getElem? (i := 602) (by decide +kernel)) rfl
abbrev mX6_bits : xM := (RX6, cX6_bits, 3, (some .int))
theorem ct_X6_bits : xcal yX6_bits mX6_bits 1 := ⟨x_in (List.mem_of_getElem? (i := 606) (by decide +kernel)) rfl, ini_X6, by decide +kernel, by decide⟩
theorem st_X6_bits : Cond.static yX6_bits ∈ x_good := x_in (List.mem_of_getElem? (i := 605) (by decide +kernel)) rfl
abbrev mX6_ahead : xM := (RX6, cX6_ahead, 4, (some .int))
theorem ct_X6_ahead : xcal yX6_ahead mX6_ahead 3 := ⟨x_in (List.mem_of_getElem? (i := 610) (by decide +kernel)) rfl, ini_X6, by decide +kernel, by decide⟩
theorem in_X6_ahead : Cond.instanceMethod yX6_ahead ∈ x_good := x_in (List.mem_of_getElem? (i := 608) (by decide +kernel)) rfl
theorem se_X6_ahead : Cond.selects RX6 yX6_ahead yX6_ahead ∈ x_good := x_in (List.mem_of_getElem? (i := 609) (by decide +kernel)) rfl
abbrev mX6_knownPairs : xM := (RX6, cX6_knownPairs, 3, (some .int))
theorem ct_X6_knownPairs : xcal yX6_knownPairs mX6_knownPairs 0 := ⟨x_in (List.mem_of_getElem? (i := 614) (by decide +kernel)) rfl, ini_X6, by decide +kernel, by decide⟩
theorem in_X6_knownPairs : Cond.instanceMethod yX6_knownPairs ∈ x_good := x_in (List.mem_of_getElem? (i := 613) (by decide +kernel)) rfl
theorem se_X6_knownPairs : Cond.selects RX6 yX6_knownPairs yX6_knownPairs ∈ x_good := x_in (List.mem_of_getElem? (i := 21) (by decide +kernel)) rfl
abbrev mX6_grave : xM := (RX6, cX6_grave, 5, (some .int))
theorem ct_X6_grave : xcal yX6_grave mX6_grave 2 := ⟨x_in (List.mem_of_getElem? (i := 618) (by decide +kernel)) rfl, ini_X6, by decide +kernel, by decide⟩
theorem in_X6_grave : Cond.instanceMethod yX6_grave ∈ x_good := x_in (List.mem_of_getElem? (i := 616) (by decide +kernel)) rfl
theorem se_X6_grave : Cond.selects RX6 yX6_grave yX6_grave ∈ x_good := x_in (List.mem_of_getElem? (i := 617) (by decide +kernel)) rfl
abbrev mX6_has : xM := (RX6, cX6_has, 2, (some .boolean))
theorem ct_X6_has : xcal yX6_has mX6_has 2 := ⟨x_in (List.mem_of_getElem? (i := 621) (by decide +kernel)) rfl, ini_X6, by decide +kernel, by decide⟩
theorem st_X6_has : Cond.static yX6_has ∈ x_good := x_in (List.mem_of_getElem? (i := 620) (by decide +kernel)) rfl
abbrev mX6_placeInRow : xM := (RX6, cX6_placeInRow, 4, (some .int))
theorem ct_X6_placeInRow : xcal yX6_placeInRow mX6_placeInRow 1 := ⟨x_in (List.mem_of_getElem? (i := 625) (by decide +kernel)) rfl, ini_X6, by decide +kernel, by decide⟩
theorem in_X6_placeInRow : Cond.instanceMethod yX6_placeInRow ∈ x_good := x_in (List.mem_of_getElem? (i := 624) (by decide +kernel)) rfl
theorem se_X6_placeInRow : Cond.selects RX6 yX6_placeInRow yX6_placeInRow ∈ x_good := x_in (List.mem_of_getElem? (i := 22) (by decide +kernel)) rfl
abbrev mX6_alike : xM := (RX6, cX6_alike, 3, (some .int))
theorem ct_X6_alike : xcal yX6_alike mX6_alike 2 := ⟨x_in (List.mem_of_getElem? (i := 629) (by decide +kernel)) rfl, ini_X6, by decide +kernel, by decide⟩
theorem in_X6_alike : Cond.instanceMethod yX6_alike ∈ x_good := x_in (List.mem_of_getElem? (i := 627) (by decide +kernel)) rfl
theorem se_X6_alike : Cond.selects RX6 yX6_alike yX6_alike ∈ x_good := x_in (List.mem_of_getElem? (i := 628) (by decide +kernel)) rfl
abbrev mX6_least : xM := (RX6, cX6_least, 1, (some .int))
theorem ct_X6_least : xcal yX6_least mX6_least 0 := ⟨x_in (List.mem_of_getElem? (i := 633) (by decide +kernel)) rfl, ini_X6, by decide +kernel, by decide⟩
theorem in_X6_least : Cond.instanceMethod yX6_least ∈ x_good := x_in (List.mem_of_getElem? (i := 631) (by decide +kernel)) rfl
theorem se_X6_least : Cond.selects RX6 yX6_least yX6_least ∈ x_good := x_in (List.mem_of_getElem? (i := 632) (by decide +kernel)) rfl
abbrev mX6_layFewest : xM := (RX6, cX6_layFewest, 3, none)
theorem ct_X6_layFewest : xcal yX6_layFewest mX6_layFewest 0 := ⟨x_in (List.mem_of_getElem? (i := 637) (by decide +kernel)) rfl, ini_X6, by decide +kernel, by decide⟩
theorem in_X6_layFewest : Cond.instanceMethod yX6_layFewest ∈ x_good := x_in (List.mem_of_getElem? (i := 636) (by decide +kernel)) rfl
theorem se_X6_layFewest : Cond.selects RX6 yX6_layFewest yX6_layFewest ∈ x_good := x_in (List.mem_of_getElem? (i := 23) (by decide +kernel)) rfl
abbrev mX6_begin : xM := (RX6, cX6_begin, 2, none)
theorem ct_X6_begin : xcal yX6_begin mX6_begin 0 := ⟨x_in (List.mem_of_getElem? (i := 641) (by decide +kernel)) rfl, ini_X6, by decide +kernel, by decide⟩
theorem in_X6_begin : Cond.instanceMethod yX6_begin ∈ x_good := x_in (List.mem_of_getElem? (i := 640) (by decide +kernel)) rfl
theorem se_X6_begin : Cond.selects RX6 yX6_begin yX6_begin ∈ x_good := x_in (List.mem_of_getElem? (i := 24) (by decide +kernel)) rfl
abbrev mX6_isAllowed : xM := (RX6, cX6_isAllowed, 3, (some .boolean))
theorem ct_X6_isAllowed : xcal yX6_isAllowed mX6_isAllowed 0 := ⟨x_in (List.mem_of_getElem? (i := 645) (by decide +kernel)) rfl, ini_X6, by decide +kernel, by decide⟩
theorem in_X6_isAllowed : Cond.instanceMethod yX6_isAllowed ∈ x_good := x_in (List.mem_of_getElem? (i := 644) (by decide +kernel)) rfl
theorem se_X6_isAllowed : Cond.selects RX6 yX6_isAllowed yX6_isAllowed ∈ x_good := x_in (List.mem_of_getElem? (i := 25) (by decide +kernel)) rfl
abbrev mX6_breaksNow : xM := (RX6, cX6_breaksNow, 3, (some .int))
theorem ct_X6_breaksNow : xcal yX6_breaksNow mX6_breaksNow 0 := ⟨x_in (List.mem_of_getElem? (i := 649) (by decide +kernel)) rfl, ini_X6, by decide +kernel, by decide⟩
theorem in_X6_breaksNow : Cond.instanceMethod yX6_breaksNow ∈ x_good := x_in (List.mem_of_getElem? (i := 648) (by decide +kernel)) rfl
theorem se_X6_breaksNow : Cond.selects RX6 yX6_breaksNow yX6_breaksNow ∈ x_good := x_in (List.mem_of_getElem? (i := 26) (by decide +kernel)) rfl
abbrev mX6_breaksOf : xM := (RX6, cX6_breaksOf, 6, (some .int))
theorem ct_X6_breaksOf : xcal yX6_breaksOf mX6_breaksOf 1 := ⟨x_in (List.mem_of_getElem? (i := 653) (by decide +kernel)) rfl, ini_X6, by decide +kernel, by decide⟩
theorem in_X6_breaksOf : Cond.instanceMethod yX6_breaksOf ∈ x_good := x_in (List.mem_of_getElem? (i := 652) (by decide +kernel)) rfl
theorem se_X6_breaksOf : Cond.selects RX6 yX6_breaksOf yX6_breaksOf ∈ x_good := x_in (List.mem_of_getElem? (i := 27) (by decide +kernel)) rfl
abbrev mX6_goOn : xM := (RX6, cX6_goOn, 6, (some .boolean))
theorem ct_X6_goOn : xcal yX6_goOn mX6_goOn 0 := ⟨x_in (List.mem_of_getElem? (i := 657) (by decide +kernel)) rfl, ini_X6, by decide +kernel, by decide⟩
theorem in_X6_goOn : Cond.instanceMethod yX6_goOn ∈ x_good := x_in (List.mem_of_getElem? (i := 656) (by decide +kernel)) rfl
theorem se_X6_goOn : Cond.selects RX6 yX6_goOn yX6_goOn ∈ x_good := x_in (List.mem_of_getElem? (i := 28) (by decide +kernel)) rfl
abbrev mX6_change : xM := (RX6, cX6_change, 4, none)
theorem ct_X6_change : xcal yX6_change mX6_change 2 := ⟨x_in (List.mem_of_getElem? (i := 661) (by decide +kernel)) rfl, ini_X6, by decide +kernel, by decide⟩
theorem in_X6_change : Cond.instanceMethod yX6_change ∈ x_good := x_in (List.mem_of_getElem? (i := 660) (by decide +kernel)) rfl
theorem se_X6_change : Cond.selects RX6 yX6_change yX6_change ∈ x_good := x_in (List.mem_of_getElem? (i := 29) (by decide +kernel)) rfl
abbrev mX6_best : xM := (RX6, cX6_best, 1, (some .int))
theorem ct_X6_best : xcal yX6_best mX6_best 0 := ⟨x_in (List.mem_of_getElem? (i := 665) (by decide +kernel)) rfl, ini_X6, by decide +kernel, by decide⟩
theorem in_X6_best : Cond.instanceMethod yX6_best ∈ x_good := x_in (List.mem_of_getElem? (i := 663) (by decide +kernel)) rfl
theorem se_X6_best : Cond.selects RX6 yX6_best yX6_best ∈ x_good := x_in (List.mem_of_getElem? (i := 664) (by decide +kernel)) rfl
abbrev mX6_lookAtAll : xM := (RX6, cX6_lookAtAll, 3, none)
theorem ct_X6_lookAtAll : xcal yX6_lookAtAll mX6_lookAtAll 1 := ⟨x_in (List.mem_of_getElem? (i := 669) (by decide +kernel)) rfl, ini_X6, by decide +kernel, by decide⟩
theorem in_X6_lookAtAll : Cond.instanceMethod yX6_lookAtAll ∈ x_good := x_in (List.mem_of_getElem? (i := 668) (by decide +kernel)) rfl
theorem se_X6_lookAtAll : Cond.selects RX6 yX6_lookAtAll yX6_lookAtAll ∈ x_good := x_in (List.mem_of_getElem? (i := 30) (by decide +kernel)) rfl
abbrev mX6_isBest : xM := (RX6, cX6_isBest, 1, (some .boolean))
theorem ct_X6_isBest : xcal yX6_isBest mX6_isBest 0 := ⟨x_in (List.mem_of_getElem? (i := 673) (by decide +kernel)) rfl, ini_X6, by decide +kernel, by decide⟩
theorem in_X6_isBest : Cond.instanceMethod yX6_isBest ∈ x_good := x_in (List.mem_of_getElem? (i := 672) (by decide +kernel)) rfl
theorem se_X6_isBest : Cond.selects RX6 yX6_isBest yX6_isBest ∈ x_good := x_in (List.mem_of_getElem? (i := 31) (by decide +kernel)) rfl
abbrev mX6_look : xM := (RX6, cX6_look, 6, none)
theorem ct_X6_look : xcal yX6_look mX6_look 0 := ⟨x_in (List.mem_of_getElem? (i := 677) (by decide +kernel)) rfl, ini_X6, by decide +kernel, by decide⟩
theorem in_X6_look : Cond.instanceMethod yX6_look ∈ x_good := x_in (List.mem_of_getElem? (i := 676) (by decide +kernel)) rfl
theorem se_X6_look : Cond.selects RX6 yX6_look yX6_look ∈ x_good := x_in (List.mem_of_getElem? (i := 32) (by decide +kernel)) rfl
abbrev mX6_lookAtSteps : xM := (RX6, cX6_lookAtSteps, 4, none)
theorem ct_X6_lookAtSteps : xcal yX6_lookAtSteps mX6_lookAtSteps 0 := ⟨x_in (List.mem_of_getElem? (i := 681) (by decide +kernel)) rfl, ini_X6, by decide +kernel, by decide⟩
theorem in_X6_lookAtSteps : Cond.instanceMethod yX6_lookAtSteps ∈ x_good := x_in (List.mem_of_getElem? (i := 680) (by decide +kernel)) rfl
theorem se_X6_lookAtSteps : Cond.selects RX6 yX6_lookAtSteps yX6_lookAtSteps ∈ x_good := x_in (List.mem_of_getElem? (i := 33) (by decide +kernel)) rfl
abbrev mX6_placeOf : xM := (RX6, cX6_placeOf, 3, (some .int))
theorem ct_X6_placeOf : xcal yX6_placeOf mX6_placeOf 1 := ⟨x_in (List.mem_of_getElem? (i := 685) (by decide +kernel)) rfl, ini_X6, by decide +kernel, by decide⟩
theorem in_X6_placeOf : Cond.instanceMethod yX6_placeOf ∈ x_good := x_in (List.mem_of_getElem? (i := 684) (by decide +kernel)) rfl
theorem se_X6_placeOf : Cond.selects RX6 yX6_placeOf yX6_placeOf ∈ x_good := x_in (List.mem_of_getElem? (i := 34) (by decide +kernel)) rfl
abbrev mX6_keep : xM := (RX6, cX6_keep, 3, none)
theorem ct_X6_keep : xcal yX6_keep mX6_keep 1 := ⟨x_in (List.mem_of_getElem? (i := 689) (by decide +kernel)) rfl, ini_X6, by decide +kernel, by decide⟩
theorem in_X6_keep : Cond.instanceMethod yX6_keep ∈ x_good := x_in (List.mem_of_getElem? (i := 688) (by decide +kernel)) rfl
theorem se_X6_keep : Cond.selects RX6 yX6_keep yX6_keep ∈ x_good := x_in (List.mem_of_getElem? (i := 35) (by decide +kernel)) rfl
abbrev mX6_order : xM := (RX6, cX6_order, 3, (some .int))
theorem ct_X6_order : xcal yX6_order mX6_order 2 := ⟨x_in (List.mem_of_getElem? (i := 693) (by decide +kernel)) rfl, ini_X6, by decide +kernel, by decide⟩
theorem in_X6_order : Cond.instanceMethod yX6_order ∈ x_good := x_in (List.mem_of_getElem? (i := 691) (by decide +kernel)) rfl
theorem se_X6_order : Cond.selects RX6 yX6_order yX6_order ∈ x_good := x_in (List.mem_of_getElem? (i := 692) (by decide +kernel)) rfl
abbrev mX6_beside : xM := (RX6, cX6_beside, 3, (some .int))
theorem ct_X6_beside : xcal yX6_beside mX6_beside 2 := ⟨x_in (List.mem_of_getElem? (i := 697) (by decide +kernel)) rfl, ini_X6, by decide +kernel, by decide⟩
theorem in_X6_beside : Cond.instanceMethod yX6_beside ∈ x_good := x_in (List.mem_of_getElem? (i := 695) (by decide +kernel)) rfl
theorem se_X6_beside : Cond.selects RX6 yX6_beside yX6_beside ∈ x_good := x_in (List.mem_of_getElem? (i := 696) (by decide +kernel)) rfl
abbrev mX6_place : xM := (RX6, cX6_place, 6, (some .int))
theorem ct_X6_place : xcal yX6_place mX6_place 2 := ⟨x_in (List.mem_of_getElem? (i := 701) (by decide +kernel)) rfl, ini_X6, by decide +kernel, by decide⟩
theorem in_X6_place : Cond.instanceMethod yX6_place ∈ x_good := x_in (List.mem_of_getElem? (i := 699) (by decide +kernel)) rfl
theorem se_X6_place : Cond.selects RX6 yX6_place yX6_place ∈ x_good := x_in (List.mem_of_getElem? (i := 700) (by decide +kernel)) rfl
abbrev mX6_before : xM := (RX6, cX6_before, 3, (some .int))
theorem ct_X6_before : xcal yX6_before mX6_before 2 := ⟨x_in (List.mem_of_getElem? (i := 705) (by decide +kernel)) rfl, ini_X6, by decide +kernel, by decide⟩
theorem in_X6_before : Cond.instanceMethod yX6_before ∈ x_good := x_in (List.mem_of_getElem? (i := 703) (by decide +kernel)) rfl
theorem se_X6_before : Cond.selects RX6 yX6_before yX6_before ∈ x_good := x_in (List.mem_of_getElem? (i := 704) (by decide +kernel)) rfl
abbrev mX6_together : xM := (RX6, cX6_together, 4, (some .int))
theorem ct_X6_together : xcal yX6_together mX6_together 1 := ⟨x_in (List.mem_of_getElem? (i := 709) (by decide +kernel)) rfl, ini_X6, by decide +kernel, by decide⟩
theorem in_X6_together : Cond.instanceMethod yX6_together ∈ x_good := x_in (List.mem_of_getElem? (i := 707) (by decide +kernel)) rfl
theorem se_X6_together : Cond.selects RX6 yX6_together yX6_together ∈ x_good := x_in (List.mem_of_getElem? (i := 708) (by decide +kernel)) rfl
abbrev mX6_isTogether : xM := (RX6, cX6_isTogether, 5, (some .boolean))
theorem ct_X6_isTogether : xcal yX6_isTogether mX6_isTogether 1 := ⟨x_in (List.mem_of_getElem? (i := 713) (by decide +kernel)) rfl, ini_X6, by decide +kernel, by decide⟩
theorem in_X6_isTogether : Cond.instanceMethod yX6_isTogether ∈ x_good := x_in (List.mem_of_getElem? (i := 712) (by decide +kernel)) rfl
theorem se_X6_isTogether : Cond.selects RX6 yX6_isTogether yX6_isTogether ∈ x_good := x_in (List.mem_of_getElem? (i := 36) (by decide +kernel)) rfl
abbrev mX6_clump : xM := (RX6, cX6_clump, 4, (some .int))
theorem ct_X6_clump : xcal yX6_clump mX6_clump 1 := ⟨x_in (List.mem_of_getElem? (i := 717) (by decide +kernel)) rfl, ini_X6, by decide +kernel, by decide⟩
theorem in_X6_clump : Cond.instanceMethod yX6_clump ∈ x_good := x_in (List.mem_of_getElem? (i := 715) (by decide +kernel)) rfl
theorem se_X6_clump : Cond.selects RX6 yX6_clump yX6_clump ∈ x_good := x_in (List.mem_of_getElem? (i := 716) (by decide +kernel)) rfl
abbrev mX6_layClumps : xM := (RX6, cX6_layClumps, 3, none)
theorem ct_X6_layClumps : xcal yX6_layClumps mX6_layClumps 0 := ⟨x_in (List.mem_of_getElem? (i := 721) (by decide +kernel)) rfl, ini_X6, by decide +kernel, by decide⟩
theorem in_X6_layClumps : Cond.instanceMethod yX6_layClumps ∈ x_good := x_in (List.mem_of_getElem? (i := 720) (by decide +kernel)) rfl
theorem se_X6_layClumps : Cond.selects RX6 yX6_layClumps yX6_layClumps ∈ x_good := x_in (List.mem_of_getElem? (i := 37) (by decide +kernel)) rfl
abbrev mX6_sort : xM := (RX6, cX6_sort, 5, (some .int))
theorem ct_X6_sort : xcal yX6_sort mX6_sort 2 := ⟨x_in (List.mem_of_getElem? (i := 725) (by decide +kernel)) rfl, ini_X6, by decide +kernel, by decide⟩
theorem in_X6_sort : Cond.instanceMethod yX6_sort ∈ x_good := x_in (List.mem_of_getElem? (i := 723) (by decide +kernel)) rfl
theorem se_X6_sort : Cond.selects RX6 yX6_sort yX6_sort ∈ x_good := x_in (List.mem_of_getElem? (i := 724) (by decide +kernel)) rfl
abbrev mX6_takeRow : xM := (RX6, cX6_takeRow, 2, none)
theorem ct_X6_takeRow : xcal yX6_takeRow mX6_takeRow 0 := ⟨x_in (List.mem_of_getElem? (i := 729) (by decide +kernel)) rfl, ini_X6, by decide +kernel, by decide⟩
theorem in_X6_takeRow : Cond.instanceMethod yX6_takeRow ∈ x_good := x_in (List.mem_of_getElem? (i := 728) (by decide +kernel)) rfl
theorem se_X6_takeRow : Cond.selects RX6 yX6_takeRow yX6_takeRow ∈ x_good := x_in (List.mem_of_getElem? (i := 38) (by decide +kernel)) rfl
abbrev mX6_row : xM := (RX6, cX6_row, 2, (some .int))
theorem ct_X6_row : xcal yX6_row mX6_row 1 := ⟨x_in (List.mem_of_getElem? (i := 733) (by decide +kernel)) rfl, ini_X6, by decide +kernel, by decide⟩
theorem in_X6_row : Cond.instanceMethod yX6_row ∈ x_good := x_in (List.mem_of_getElem? (i := 731) (by decide +kernel)) rfl
theorem se_X6_row : Cond.selects RX6 yX6_row yX6_row ∈ x_good := x_in (List.mem_of_getElem? (i := 732) (by decide +kernel)) rfl
abbrev mX6_breaks : xM := (RX6, cX6_breaks, 2, (some .int))
theorem ct_X6_breaks : xcal yX6_breaks mX6_breaks 1 := ⟨x_in (List.mem_of_getElem? (i := 737) (by decide +kernel)) rfl, ini_X6, by decide +kernel, by decide⟩
theorem in_X6_breaks : Cond.instanceMethod yX6_breaks ∈ x_good := x_in (List.mem_of_getElem? (i := 735) (by decide +kernel)) rfl
theorem se_X6_breaks : Cond.selects RX6 yX6_breaks yX6_breaks ∈ x_good := x_in (List.mem_of_getElem? (i := 736) (by decide +kernel)) rfl
abbrev mX6_swap : xM := (RX6, cX6_swap, 2, (some .int))
theorem ct_X6_swap : xcal yX6_swap mX6_swap 1 := ⟨x_in (List.mem_of_getElem? (i := 741) (by decide +kernel)) rfl, ini_X6, by decide +kernel, by decide⟩
theorem in_X6_swap : Cond.instanceMethod yX6_swap ∈ x_good := x_in (List.mem_of_getElem? (i := 739) (by decide +kernel)) rfl
theorem se_X6_swap : Cond.selects RX6 yX6_swap yX6_swap ∈ x_good := x_in (List.mem_of_getElem? (i := 740) (by decide +kernel)) rfl
abbrev mX6_swapRow : xM := (RX6, cX6_swapRow, 3, none)
theorem ct_X6_swapRow : xcal yX6_swapRow mX6_swapRow 1 := ⟨x_in (List.mem_of_getElem? (i := 745) (by decide +kernel)) rfl, ini_X6, by decide +kernel, by decide⟩
theorem in_X6_swapRow : Cond.instanceMethod yX6_swapRow ∈ x_good := x_in (List.mem_of_getElem? (i := 744) (by decide +kernel)) rfl
theorem se_X6_swapRow : Cond.selects RX6 yX6_swapRow yX6_swapRow ∈ x_good := x_in (List.mem_of_getElem? (i := 39) (by decide +kernel)) rfl
abbrev mX6_rowBreaks : xM := (RX6, cX6_rowBreaks, 1, (some .int))
theorem ct_X6_rowBreaks : xcal yX6_rowBreaks mX6_rowBreaks 0 := ⟨x_in (List.mem_of_getElem? (i := 749) (by decide +kernel)) rfl, ini_X6, by decide +kernel, by decide⟩
theorem in_X6_rowBreaks : Cond.instanceMethod yX6_rowBreaks ∈ x_good := x_in (List.mem_of_getElem? (i := 748) (by decide +kernel)) rfl
theorem se_X6_rowBreaks : Cond.selects RX6 yX6_rowBreaks yX6_rowBreaks ∈ x_good := x_in (List.mem_of_getElem? (i := 40) (by decide +kernel)) rfl
abbrev mX6_better : xM := (RX6, cX6_better, 1, (some .int))
theorem ct_X6_better : xcal yX6_better mX6_better 0 := ⟨x_in (List.mem_of_getElem? (i := 753) (by decide +kernel)) rfl, ini_X6, by decide +kernel, by decide⟩
theorem in_X6_better : Cond.instanceMethod yX6_better ∈ x_good := x_in (List.mem_of_getElem? (i := 751) (by decide +kernel)) rfl
theorem se_X6_better : Cond.selects RX6 yX6_better yX6_better ∈ x_good := x_in (List.mem_of_getElem? (i := 752) (by decide +kernel)) rfl
abbrev mX6_makeBest : xM := (RX6, cX6_makeBest, 5, (some .int))
theorem ct_X6_makeBest : xcal yX6_makeBest mX6_makeBest 0 := ⟨x_in (List.mem_of_getElem? (i := 757) (by decide +kernel)) rfl, ini_X6, by decide +kernel, by decide⟩
theorem in_X6_makeBest : Cond.instanceMethod yX6_makeBest ∈ x_good := x_in (List.mem_of_getElem? (i := 756) (by decide +kernel)) rfl
theorem se_X6_makeBest : Cond.selects RX6 yX6_makeBest yX6_makeBest ∈ x_good := x_in (List.mem_of_getElem? (i := 41) (by decide +kernel)) rfl
abbrev mX6_climb : xM := (RX6, cX6_climb, 2, (some .int))
theorem ct_X6_climb : xcal yX6_climb mX6_climb 0 := ⟨x_in (List.mem_of_getElem? (i := 761) (by decide +kernel)) rfl, ini_X6, by decide +kernel, by decide⟩
theorem in_X6_climb : Cond.instanceMethod yX6_climb ∈ x_good := x_in (List.mem_of_getElem? (i := 759) (by decide +kernel)) rfl
theorem se_X6_climb : Cond.selects RX6 yX6_climb yX6_climb ∈ x_good := x_in (List.mem_of_getElem? (i := 760) (by decide +kernel)) rfl
abbrev mX6_nearest : xM := (RX6, cX6_nearest, 2, (some .int))
theorem ct_X6_nearest : xcal yX6_nearest mX6_nearest 1 := ⟨x_in (List.mem_of_getElem? (i := 765) (by decide +kernel)) rfl, ini_X6, by decide +kernel, by decide⟩
theorem in_X6_nearest : Cond.instanceMethod yX6_nearest ∈ x_good := x_in (List.mem_of_getElem? (i := 763) (by decide +kernel)) rfl
theorem se_X6_nearest : Cond.selects RX6 yX6_nearest yX6_nearest ∈ x_good := x_in (List.mem_of_getElem? (i := 764) (by decide +kernel)) rfl
abbrev mX6_settle : xM := (RX6, cX6_settle, 2, (some .int))
theorem ct_X6_settle : xcal yX6_settle mX6_settle 0 := ⟨x_in (List.mem_of_getElem? (i := 769) (by decide +kernel)) rfl, ini_X6, by decide +kernel, by decide⟩
theorem in_X6_settle : Cond.instanceMethod yX6_settle ∈ x_good := x_in (List.mem_of_getElem? (i := 767) (by decide +kernel)) rfl
theorem se_X6_settle : Cond.selects RX6 yX6_settle yX6_settle ∈ x_good := x_in (List.mem_of_getElem? (i := 768) (by decide +kernel)) rfl
abbrev mX6_count : xM := (RX6, cX6_count, 4, (some .int))
theorem ct_X6_count : xcal yX6_count mX6_count 1 := ⟨x_in (List.mem_of_getElem? (i := 773) (by decide +kernel)) rfl, ini_X6, by decide +kernel, by decide⟩
theorem in_X6_count : Cond.instanceMethod yX6_count ∈ x_good := x_in (List.mem_of_getElem? (i := 771) (by decide +kernel)) rfl
theorem se_X6_count : Cond.selects RX6 yX6_count yX6_count ∈ x_good := x_in (List.mem_of_getElem? (i := 772) (by decide +kernel)) rfl
abbrev mX6_image : xM := (RX6, cX6_image, 3, (some .int))
theorem ct_X6_image : xcal yX6_image mX6_image 1 := ⟨x_in (List.mem_of_getElem? (i := 777) (by decide +kernel)) rfl, ini_X6, by decide +kernel, by decide⟩
theorem in_X6_image : Cond.instanceMethod yX6_image ∈ x_good := x_in (List.mem_of_getElem? (i := 775) (by decide +kernel)) rfl
theorem se_X6_image : Cond.selects RX6 yX6_image yX6_image ∈ x_good := x_in (List.mem_of_getElem? (i := 776) (by decide +kernel)) rfl
abbrev mX6_restore : xM := (RX6, cX6_restore, 3, (some .int))
theorem ct_X6_restore : xcal yX6_restore mX6_restore 1 := ⟨x_in (List.mem_of_getElem? (i := 781) (by decide +kernel)) rfl, ini_X6, by decide +kernel, by decide⟩
theorem in_X6_restore : Cond.instanceMethod yX6_restore ∈ x_good := x_in (List.mem_of_getElem? (i := 779) (by decide +kernel)) rfl
theorem se_X6_restore : Cond.selects RX6 yX6_restore yX6_restore ∈ x_good := x_in (List.mem_of_getElem? (i := 780) (by decide +kernel)) rfl
theorem ml_L_9 : Cond.methodLink RL 9 yX5_init ∈ x_good := x_in (List.mem_of_getElem? (i := 55) (by decide +kernel)) rfl
theorem ml_X5_3 : Cond.methodLink RX5 3 objectInit ∈ x_good := x_in (List.mem_of_getElem? (i := 58) (by decide +kernel)) rfl
theorem ml_X5_11 : Cond.methodLink RX5 11 yX2_init ∈ x_good := x_in (List.mem_of_getElem? (i := 63) (by decide +kernel)) rfl
theorem ml_X2_3 : Cond.methodLink RX2 3 objectInit ∈ x_good := x_in (List.mem_of_getElem? (i := 66) (by decide +kernel)) rfl
theorem ml_X0_3 : Cond.methodLink RX0 3 objectInit ∈ x_good := x_in (List.mem_of_getElem? (i := 96) (by decide +kernel)) rfl
theorem ml_X1_1 : Cond.methodLink RX1 1 objectInit ∈ x_good := x_in (List.mem_of_getElem? (i := 105) (by decide +kernel)) rfl
theorem ml_L_13 : Cond.methodLink RL 13 yX5_many ∈ x_good := x_in (List.mem_of_getElem? (i := 187) (by decide +kernel)) rfl
theorem ml_X5_41 : Cond.methodLink RX5 41 yX2_resize ∈ x_good := x_in (List.mem_of_getElem? (i := 191) (by decide +kernel)) rfl
theorem ml_X5_45 : Cond.methodLink RX5 45 yX5_forgetBest ∈ x_good := x_in (List.mem_of_getElem? (i := 195) (by decide +kernel)) rfl
theorem ml_L_18 : Cond.methodLink RL 18 yX5_find ∈ x_good := x_in (List.mem_of_getElem? (i := 199) (by decide +kernel)) rfl
theorem ml_X5_48 : Cond.methodLink RX5 48 yX5_isGrave ∈ x_good := x_in (List.mem_of_getElem? (i := 203) (by decide +kernel)) rfl
theorem ml_X5_52 : Cond.methodLink RX5 52 yX5_isSort ∈ x_good := x_in (List.mem_of_getElem? (i := 207) (by decide +kernel)) rfl
theorem ml_X5_55 : Cond.methodLink RX5 55 yX5_isOnOrOff ∈ x_good := x_in (List.mem_of_getElem? (i := 210) (by decide +kernel)) rfl
theorem ml_X5_62 : Cond.methodLink RX5 62 yX5_withMember ∈ x_good := x_in (List.mem_of_getElem? (i := 213) (by decide +kernel)) rfl
theorem ml_X5_66 : Cond.methodLink RX5 66 yJ6_bitCount_0f7a4 ∈ x_good := x_in (List.mem_of_getElem? (i := 216) (by decide +kernel)) rfl
theorem ml_L_23 : Cond.methodLink RL 23 yX5_ahead ∈ x_good := x_in (List.mem_of_getElem? (i := 222) (by decide +kernel)) rfl
theorem ml_X5_75 : Cond.methodLink RX5 75 yX5_membersOfAll ∈ x_good := x_in (List.mem_of_getElem? (i := 226) (by decide +kernel)) rfl
theorem ml_L_27 : Cond.methodLink RL 27 yX5_grave ∈ x_good := x_in (List.mem_of_getElem? (i := 229) (by decide +kernel)) rfl
theorem ml_X5_79 : Cond.methodLink RX5 79 yX2_earlierThan ∈ x_good := x_in (List.mem_of_getElem? (i := 233) (by decide +kernel)) rfl
theorem ml_X5_82 : Cond.methodLink RX5 82 yX2_placeInLine ∈ x_good := x_in (List.mem_of_getElem? (i := 240) (by decide +kernel)) rfl
theorem ml_L_32 : Cond.methodLink RL 32 yX5_sort ∈ x_good := x_in (List.mem_of_getElem? (i := 244) (by decide +kernel)) rfl
theorem ml_X5_85 : Cond.methodLink RX5 85 yX2_gravesWith ∈ x_good := x_in (List.mem_of_getElem? (i := 248) (by decide +kernel)) rfl
theorem ml_X5_88 : Cond.methodLink RX5 88 yX2_lineBreaks ∈ x_good := x_in (List.mem_of_getElem? (i := 252) (by decide +kernel)) rfl
theorem ml_X2_35 : Cond.methodLink RX2 35 yJ6_bitCount_0f7a4 ∈ x_good := x_in (List.mem_of_getElem? (i := 256) (by decide +kernel)) rfl
theorem ml_X2_41 : Cond.methodLink RX2 41 yX2_sortsFound ∈ x_good := x_in (List.mem_of_getElem? (i := 257) (by decide +kernel)) rfl
theorem ml_X5_91 : Cond.methodLink RX5 91 yX5_knownBest ∈ x_good := x_in (List.mem_of_getElem? (i := 261) (by decide +kernel)) rfl
theorem ml_X5_183 : Cond.methodLink RX5 183 yX0_search ∈ x_good := x_in (List.mem_of_getElem? (i := 265) (by decide +kernel)) rfl
theorem ml_X0_64 : Cond.methodLink RX0 64 yX0_openAllowed ∈ x_good := x_in (List.mem_of_getElem? (i := 269) (by decide +kernel)) rfl
theorem ml_X0_101 : Cond.methodLink RX0 101 yX0_stateOf ∈ x_good := x_in (List.mem_of_getElem? (i := 274) (by decide +kernel)) rfl
theorem ml_X0_68 : Cond.methodLink RX0 68 yX3_lookAt ∈ x_good := x_in (List.mem_of_getElem? (i := 277) (by decide +kernel)) rfl
theorem ml_X0_72 : Cond.methodLink RX0 72 yX0_costRest ∈ x_good := x_in (List.mem_of_getElem? (i := 281) (by decide +kernel)) rfl
theorem ml_X0_105 : Cond.methodLink RX0 105 yX0_isState ∈ x_good := x_in (List.mem_of_getElem? (i := 285) (by decide +kernel)) rfl
theorem ml_X0_108 : Cond.methodLink RX0 108 yX0_cheapestOn ∈ x_good := x_in (List.mem_of_getElem? (i := 288) (by decide +kernel)) rfl
theorem ml_X0_113 : Cond.methodLink RX0 113 yX0_stateAfter ∈ x_good := x_in (List.mem_of_getElem? (i := 293) (by decide +kernel)) rfl
theorem ml_X0_116 : Cond.methodLink RX0 116 y_CostNext ∈ x_good := x_in (List.mem_of_getElem? (i := 296) (by decide +kernel)) rfl
theorem ml_X3_18 : Cond.methodLink RX3 18 yJ6_bitCount_0f7a4 ∈ x_good := x_in (List.mem_of_getElem? (i := 302) (by decide +kernel)) rfl
theorem ml_X4_24 : Cond.methodLink RX4 24 yJ6_bitCount_0f7a4 ∈ x_good := x_in (List.mem_of_getElem? (i := 306) (by decide +kernel)) rfl
theorem ml_X0_122 : Cond.methodLink RX0 122 Lib.Math.min.name ∈ x_good := x_in (List.mem_of_getElem? (i := 307) (by decide +kernel)) rfl
theorem ml_X0_76 : Cond.methodLink RX0 76 yX2_sortsFound ∈ x_good := x_in (List.mem_of_getElem? (i := 310) (by decide +kernel)) rfl
theorem ml_X0_80 : Cond.methodLink RX0 80 yJ6_bitCount_0f7a4 ∈ x_good := x_in (List.mem_of_getElem? (i := 311) (by decide +kernel)) rfl
theorem ml_X0_89 : Cond.methodLink RX0 89 yX0_keepCheapest ∈ x_good := x_in (List.mem_of_getElem? (i := 312) (by decide +kernel)) rfl
theorem ml_X0_127 : Cond.methodLink RX0 127 yX0_cheapestNext ∈ x_good := x_in (List.mem_of_getElem? (i := 316) (by decide +kernel)) rfl
theorem ml_X0_92 : Cond.methodLink RX0 92 yX0_countWaysOn ∈ x_good := x_in (List.mem_of_getElem? (i := 320) (by decide +kernel)) rfl
theorem ml_X0_130 : Cond.methodLink RX0 130 yX0_sumOver ∈ x_good := x_in (List.mem_of_getElem? (i := 324) (by decide +kernel)) rfl
theorem ml_X0_95 : Cond.methodLink RX0 95 yX0_countWaysTo ∈ x_good := x_in (List.mem_of_getElem? (i := 328) (by decide +kernel)) rfl
theorem ml_X0_134 : Cond.methodLink RX0 134 yX0_total ∈ x_good := x_in (List.mem_of_getElem? (i := 332) (by decide +kernel)) rfl
theorem ml_X0_137 : Cond.methodLink RX0 137 yX0_passOn ∈ x_good := x_in (List.mem_of_getElem? (i := 336) (by decide +kernel)) rfl
theorem ml_X5_95 : Cond.methodLink RX5 95 yX0_fewestBreaksOf ∈ x_good := x_in (List.mem_of_getElem? (i := 340) (by decide +kernel)) rfl
theorem ml_X0_157 : Cond.methodLink RX0 157 yX2_gravesWith ∈ x_good := x_in (List.mem_of_getElem? (i := 344) (by decide +kernel)) rfl
theorem ml_L_36 : Cond.methodLink RL 36 yX5_alike ∈ x_good := x_in (List.mem_of_getElem? (i := 345) (by decide +kernel)) rfl
theorem ml_L_40 : Cond.methodLink RL 40 yX5_least ∈ x_good := x_in (List.mem_of_getElem? (i := 349) (by decide +kernel)) rfl
theorem ml_X5_99 : Cond.methodLink RX5 99 yX0_total ∈ x_good := x_in (List.mem_of_getElem? (i := 353) (by decide +kernel)) rfl
theorem ml_L_45 : Cond.methodLink RL 45 yX5_best ∈ x_good := x_in (List.mem_of_getElem? (i := 354) (by decide +kernel)) rfl
theorem ml_L_49 : Cond.methodLink RL 49 yX5_order ∈ x_good := x_in (List.mem_of_getElem? (i := 358) (by decide +kernel)) rfl
theorem ml_X5_106 : Cond.methodLink RX5 106 yX5_isPlace ∈ x_good := x_in (List.mem_of_getElem? (i := 362) (by decide +kernel)) rfl
theorem ml_X5_109 : Cond.methodLink RX5 109 yX0_graveAt ∈ x_good := x_in (List.mem_of_getElem? (i := 366) (by decide +kernel)) rfl
theorem ml_L_53 : Cond.methodLink RL 53 yX5_beside ∈ x_good := x_in (List.mem_of_getElem? (i := 370) (by decide +kernel)) rfl
theorem ml_X5_113 : Cond.methodLink RX5 113 yX0_neighboursOf ∈ x_good := x_in (List.mem_of_getElem? (i := 374) (by decide +kernel)) rfl
theorem ml_X0_141 : Cond.methodLink RX0 141 yX0_ordersWithNext ∈ x_good := x_in (List.mem_of_getElem? (i := 378) (by decide +kernel)) rfl
theorem ml_L_57 : Cond.methodLink RL 57 yX5_place ∈ x_good := x_in (List.mem_of_getElem? (i := 382) (by decide +kernel)) rfl
theorem ml_X5_116 : Cond.methodLink RX5 116 yX0_leastPlaceOf ∈ x_good := x_in (List.mem_of_getElem? (i := 386) (by decide +kernel)) rfl
theorem ml_X0_144 : Cond.methodLink RX0 144 yX0_ordersWithAt ∈ x_good := x_in (List.mem_of_getElem? (i := 390) (by decide +kernel)) rfl
theorem ml_X0_147 : Cond.methodLink RX0 147 yX0_ordersBy ∈ x_good := x_in (List.mem_of_getElem? (i := 394) (by decide +kernel)) rfl
theorem ml_X5_119 : Cond.methodLink RX5 119 yX0_greatestPlaceOf ∈ x_good := x_in (List.mem_of_getElem? (i := 398) (by decide +kernel)) rfl
theorem ml_X5_122 : Cond.methodLink RX5 122 yX0_ordersWithAt ∈ x_good := x_in (List.mem_of_getElem? (i := 402) (by decide +kernel)) rfl
theorem ml_L_61 : Cond.methodLink RL 61 yX5_before ∈ x_good := x_in (List.mem_of_getElem? (i := 403) (by decide +kernel)) rfl
theorem ml_X5_125 : Cond.methodLink RX5 125 yX0_ordersWithFirst ∈ x_good := x_in (List.mem_of_getElem? (i := 407) (by decide +kernel)) rfl
theorem ml_L_65 : Cond.methodLink RL 65 yX5_together ∈ x_good := x_in (List.mem_of_getElem? (i := 411) (by decide +kernel)) rfl
theorem ml_X5_128 : Cond.methodLink RX5 128 yX0_ordersWithTogether ∈ x_good := x_in (List.mem_of_getElem? (i := 415) (by decide +kernel)) rfl
theorem ml_X0_150 : Cond.methodLink RX0 150 yX0_nextThatPart ∈ x_good := x_in (List.mem_of_getElem? (i := 419) (by decide +kernel)) rfl
theorem ml_L_69 : Cond.methodLink RL 69 yX5_clump ∈ x_good := x_in (List.mem_of_getElem? (i := 422) (by decide +kernel)) rfl
theorem ml_X5_131 : Cond.methodLink RX5 131 yX0_gatherClumps ∈ x_good := x_in (List.mem_of_getElem? (i := 426) (by decide +kernel)) rfl
theorem ml_X0_153 : Cond.methodLink RX0 153 yX0_liesTogetherInAll ∈ x_good := x_in (List.mem_of_getElem? (i := 430) (by decide +kernel)) rfl
theorem ml_L_73 : Cond.methodLink RL 73 yX5_row ∈ x_good := x_in (List.mem_of_getElem? (i := 434) (by decide +kernel)) rfl
theorem ml_L_77 : Cond.methodLink RL 77 yX5_breaks ∈ x_good := x_in (List.mem_of_getElem? (i := 438) (by decide +kernel)) rfl
theorem ml_X5_143 : Cond.methodLink RX5 143 yX2_lineIsAllowed ∈ x_good := x_in (List.mem_of_getElem? (i := 442) (by decide +kernel)) rfl
theorem ml_X5_147 : Cond.methodLink RX5 147 yX5_lineIsBest ∈ x_good := x_in (List.mem_of_getElem? (i := 446) (by decide +kernel)) rfl
theorem ml_L_81 : Cond.methodLink RL 81 yX5_swap ∈ x_good := x_in (List.mem_of_getElem? (i := 450) (by decide +kernel)) rfl
theorem ml_X5_150 : Cond.methodLink RX5 150 yX2_exchange ∈ x_good := x_in (List.mem_of_getElem? (i := 454) (by decide +kernel)) rfl
theorem ml_L_85 : Cond.methodLink RL 85 yX5_better ∈ x_good := x_in (List.mem_of_getElem? (i := 458) (by decide +kernel)) rfl
theorem ml_X5_153 : Cond.methodLink RX5 153 yX5_makeBestSwap ∈ x_good := x_in (List.mem_of_getElem? (i := 462) (by decide +kernel)) rfl
theorem ml_X5_189 : Cond.methodLink RX5 189 yX2_bestExchange ∈ x_good := x_in (List.mem_of_getElem? (i := 466) (by decide +kernel)) rfl
theorem ml_X2_45 : Cond.methodLink RX2 45 yX2_lineBreaks ∈ x_good := x_in (List.mem_of_getElem? (i := 470) (by decide +kernel)) rfl
theorem ml_X2_48 : Cond.methodLink RX2 48 yX2_exchange ∈ x_good := x_in (List.mem_of_getElem? (i := 471) (by decide +kernel)) rfl
theorem ml_L_89 : Cond.methodLink RL 89 yX5_climb ∈ x_good := x_in (List.mem_of_getElem? (i := 472) (by decide +kernel)) rfl
theorem ml_L_93 : Cond.methodLink RL 93 yX5_nearest ∈ x_good := x_in (List.mem_of_getElem? (i := 476) (by decide +kernel)) rfl
theorem ml_X5_156 : Cond.methodLink RX5 156 yX5_knowWay ∈ x_good := x_in (List.mem_of_getElem? (i := 480) (by decide +kernel)) rfl
theorem ml_X5_186 : Cond.methodLink RX5 186 yX0_seekGoal ∈ x_good := x_in (List.mem_of_getElem? (i := 484) (by decide +kernel)) rfl
theorem ml_X0_160 : Cond.methodLink RX0 160 yX4_lookAt ∈ x_good := x_in (List.mem_of_getElem? (i := 488) (by decide +kernel)) rfl
theorem ml_X0_165 : Cond.methodLink RX0 165 yX0_leastMember ∈ x_good := x_in (List.mem_of_getElem? (i := 492) (by decide +kernel)) rfl
theorem ml_L_97 : Cond.methodLink RL 97 yX5_settle ∈ x_good := x_in (List.mem_of_getElem? (i := 495) (by decide +kernel)) rfl
theorem ml_X5_166 : Cond.methodLink RX5 166 arraycopyName ∈ x_good := x_in (List.mem_of_getElem? (i := 499) (by decide +kernel)) rfl
theorem ml_L_101 : Cond.methodLink RL 101 yX5_count ∈ x_good := x_in (List.mem_of_getElem? (i := 502) (by decide +kernel)) rfl
theorem ml_L_105 : Cond.methodLink RL 105 yX5_image ∈ x_good := x_in (List.mem_of_getElem? (i := 506) (by decide +kernel)) rfl
theorem ml_X5_172 : Cond.methodLink RX5 172 yX5_isImage ∈ x_good := x_in (List.mem_of_getElem? (i := 510) (by decide +kernel)) rfl
theorem ml_X5_175 : Cond.methodLink RX5 175 yX2_become ∈ x_good := x_in (List.mem_of_getElem? (i := 513) (by decide +kernel)) rfl
theorem ml_X2_25 : Cond.methodLink RX2 25 arraycopyName ∈ x_good := x_in (List.mem_of_getElem? (i := 517) (by decide +kernel)) rfl
theorem ml_L_109 : Cond.methodLink RL 109 yX5_restore ∈ x_good := x_in (List.mem_of_getElem? (i := 518) (by decide +kernel)) rfl
theorem ml_X5_179 : Cond.methodLink RX5 179 yX5_isMember ∈ x_good := x_in (List.mem_of_getElem? (i := 522) (by decide +kernel)) rfl
theorem ml_L_12 : Cond.methodLink RL 12 yX6_init ∈ x_good := x_in (List.mem_of_getElem? (i := 525) (by decide +kernel)) rfl
theorem ml_X6_1 : Cond.methodLink RX6 1 objectInit ∈ x_good := x_in (List.mem_of_getElem? (i := 528) (by decide +kernel)) rfl
theorem ml_X6_47 : Cond.methodLink RX6 47 yX6_resetRow ∈ x_good := x_in (List.mem_of_getElem? (i := 529) (by decide +kernel)) rfl
theorem ml_L_17 : Cond.methodLink RL 17 yX6_many ∈ x_good := x_in (List.mem_of_getElem? (i := 586) (by decide +kernel)) rfl
theorem ml_X6_50 : Cond.methodLink RX6 50 yX6_in ∈ x_good := x_in (List.mem_of_getElem? (i := 590) (by decide +kernel)) rfl
theorem ml_L_22 : Cond.methodLink RL 22 yX6_find ∈ x_good := x_in (List.mem_of_getElem? (i := 593) (by decide +kernel)) rfl
theorem ml_X6_58 : Cond.methodLink RX6 58 yX6_isGrave ∈ x_good := x_in (List.mem_of_getElem? (i := 597) (by decide +kernel)) rfl
theorem ml_X6_62 : Cond.methodLink RX6 62 yX6_isSort ∈ x_good := x_in (List.mem_of_getElem? (i := 601) (by decide +kernel)) rfl
theorem ml_X6_65 : Cond.methodLink RX6 65 yX6_bits ∈ x_good := x_in (List.mem_of_getElem? (i := 604) (by decide +kernel)) rfl
theorem ml_L_26 : Cond.methodLink RL 26 yX6_ahead ∈ x_good := x_in (List.mem_of_getElem? (i := 607) (by decide +kernel)) rfl
theorem ml_X6_69 : Cond.methodLink RX6 69 yX6_knownPairs ∈ x_good := x_in (List.mem_of_getElem? (i := 611) (by decide +kernel)) rfl
theorem ml_L_31 : Cond.methodLink RL 31 yX6_grave ∈ x_good := x_in (List.mem_of_getElem? (i := 615) (by decide +kernel)) rfl
theorem ml_X6_73 : Cond.methodLink RX6 73 yX6_has ∈ x_good := x_in (List.mem_of_getElem? (i := 619) (by decide +kernel)) rfl
theorem ml_X6_77 : Cond.methodLink RX6 77 yX6_placeInRow ∈ x_good := x_in (List.mem_of_getElem? (i := 622) (by decide +kernel)) rfl
theorem ml_L_39 : Cond.methodLink RL 39 yX6_alike ∈ x_good := x_in (List.mem_of_getElem? (i := 626) (by decide +kernel)) rfl
theorem ml_L_44 : Cond.methodLink RL 44 yX6_least ∈ x_good := x_in (List.mem_of_getElem? (i := 630) (by decide +kernel)) rfl
theorem ml_X6_104 : Cond.methodLink RX6 104 yX6_layFewest ∈ x_good := x_in (List.mem_of_getElem? (i := 634) (by decide +kernel)) rfl
theorem ml_X6_91 : Cond.methodLink RX6 91 yX6_begin ∈ x_good := x_in (List.mem_of_getElem? (i := 638) (by decide +kernel)) rfl
theorem ml_X6_94 : Cond.methodLink RX6 94 yX6_isAllowed ∈ x_good := x_in (List.mem_of_getElem? (i := 642) (by decide +kernel)) rfl
theorem ml_X6_98 : Cond.methodLink RX6 98 yX6_breaksNow ∈ x_good := x_in (List.mem_of_getElem? (i := 646) (by decide +kernel)) rfl
theorem ml_X6_80 : Cond.methodLink RX6 80 yX6_breaksOf ∈ x_good := x_in (List.mem_of_getElem? (i := 650) (by decide +kernel)) rfl
theorem ml_X6_101 : Cond.methodLink RX6 101 yX6_goOn ∈ x_good := x_in (List.mem_of_getElem? (i := 654) (by decide +kernel)) rfl
theorem ml_X6_83 : Cond.methodLink RX6 83 yX6_change ∈ x_good := x_in (List.mem_of_getElem? (i := 658) (by decide +kernel)) rfl
theorem ml_L_48 : Cond.methodLink RL 48 yX6_best ∈ x_good := x_in (List.mem_of_getElem? (i := 662) (by decide +kernel)) rfl
theorem ml_X6_132 : Cond.methodLink RX6 132 yX6_lookAtAll ∈ x_good := x_in (List.mem_of_getElem? (i := 666) (by decide +kernel)) rfl
theorem ml_X6_126 : Cond.methodLink RX6 126 yX6_isBest ∈ x_good := x_in (List.mem_of_getElem? (i := 670) (by decide +kernel)) rfl
theorem ml_X6_129 : Cond.methodLink RX6 129 yX6_look ∈ x_good := x_in (List.mem_of_getElem? (i := 674) (by decide +kernel)) rfl
theorem ml_X6_110 : Cond.methodLink RX6 110 yX6_lookAtSteps ∈ x_good := x_in (List.mem_of_getElem? (i := 678) (by decide +kernel)) rfl
theorem ml_X6_120 : Cond.methodLink RX6 120 yX6_placeOf ∈ x_good := x_in (List.mem_of_getElem? (i := 682) (by decide +kernel)) rfl
theorem ml_X6_116 : Cond.methodLink RX6 116 yX6_keep ∈ x_good := x_in (List.mem_of_getElem? (i := 686) (by decide +kernel)) rfl
theorem ml_L_52 : Cond.methodLink RL 52 yX6_order ∈ x_good := x_in (List.mem_of_getElem? (i := 690) (by decide +kernel)) rfl
theorem ml_L_56 : Cond.methodLink RL 56 yX6_beside ∈ x_good := x_in (List.mem_of_getElem? (i := 694) (by decide +kernel)) rfl
theorem ml_L_60 : Cond.methodLink RL 60 yX6_place ∈ x_good := x_in (List.mem_of_getElem? (i := 698) (by decide +kernel)) rfl
theorem ml_L_64 : Cond.methodLink RL 64 yX6_before ∈ x_good := x_in (List.mem_of_getElem? (i := 702) (by decide +kernel)) rfl
theorem ml_L_68 : Cond.methodLink RL 68 yX6_together ∈ x_good := x_in (List.mem_of_getElem? (i := 706) (by decide +kernel)) rfl
theorem ml_X6_136 : Cond.methodLink RX6 136 yX6_isTogether ∈ x_good := x_in (List.mem_of_getElem? (i := 710) (by decide +kernel)) rfl
theorem ml_L_72 : Cond.methodLink RL 72 yX6_clump ∈ x_good := x_in (List.mem_of_getElem? (i := 714) (by decide +kernel)) rfl
theorem ml_X6_139 : Cond.methodLink RX6 139 yX6_layClumps ∈ x_good := x_in (List.mem_of_getElem? (i := 718) (by decide +kernel)) rfl
theorem ml_L_35 : Cond.methodLink RL 35 yX6_sort ∈ x_good := x_in (List.mem_of_getElem? (i := 722) (by decide +kernel)) rfl
theorem ml_X6_142 : Cond.methodLink RX6 142 yX6_takeRow ∈ x_good := x_in (List.mem_of_getElem? (i := 726) (by decide +kernel)) rfl
theorem ml_L_76 : Cond.methodLink RL 76 yX6_row ∈ x_good := x_in (List.mem_of_getElem? (i := 730) (by decide +kernel)) rfl
theorem ml_L_80 : Cond.methodLink RL 80 yX6_breaks ∈ x_good := x_in (List.mem_of_getElem? (i := 734) (by decide +kernel)) rfl
theorem ml_L_84 : Cond.methodLink RL 84 yX6_swap ∈ x_good := x_in (List.mem_of_getElem? (i := 738) (by decide +kernel)) rfl
theorem ml_X6_145 : Cond.methodLink RX6 145 yX6_swapRow ∈ x_good := x_in (List.mem_of_getElem? (i := 742) (by decide +kernel)) rfl
theorem ml_X6_148 : Cond.methodLink RX6 148 yX6_rowBreaks ∈ x_good := x_in (List.mem_of_getElem? (i := 746) (by decide +kernel)) rfl
theorem ml_L_88 : Cond.methodLink RL 88 yX6_better ∈ x_good := x_in (List.mem_of_getElem? (i := 750) (by decide +kernel)) rfl
theorem ml_X6_151 : Cond.methodLink RX6 151 yX6_makeBest ∈ x_good := x_in (List.mem_of_getElem? (i := 754) (by decide +kernel)) rfl
theorem ml_L_92 : Cond.methodLink RL 92 yX6_climb ∈ x_good := x_in (List.mem_of_getElem? (i := 758) (by decide +kernel)) rfl
theorem ml_L_96 : Cond.methodLink RL 96 yX6_nearest ∈ x_good := x_in (List.mem_of_getElem? (i := 762) (by decide +kernel)) rfl
theorem ml_L_100 : Cond.methodLink RL 100 yX6_settle ∈ x_good := x_in (List.mem_of_getElem? (i := 766) (by decide +kernel)) rfl
theorem ml_L_104 : Cond.methodLink RL 104 yX6_count ∈ x_good := x_in (List.mem_of_getElem? (i := 770) (by decide +kernel)) rfl
theorem ml_L_108 : Cond.methodLink RL 108 yX6_image ∈ x_good := x_in (List.mem_of_getElem? (i := 774) (by decide +kernel)) rfl
theorem ml_L_112 : Cond.methodLink RL 112 yX6_restore ∈ x_good := x_in (List.mem_of_getElem? (i := 778) (by decide +kernel)) rfl
theorem fl_X2_9 : Cond.fieldLink RX2 9 (TX2 0).1 (TX2 0).2.1 (TX2 0).2.2.1 ∈ x_good := x_in (List.mem_of_getElem? (i := 67) (by decide +kernel)) rfl
theorem fl_X4_15 : Cond.fieldLink RX4 15 (TX2 0).1 (TX2 0).2.1 (TX2 0).2.2.1 ∈ x_good := x_in (List.mem_of_getElem? (i := 68) (by decide +kernel)) rfl
theorem fl_X5_38 : Cond.fieldLink RX5 38 (TX2 0).1 (TX2 0).2.1 (TX2 0).2.2.1 ∈ x_good := x_in (List.mem_of_getElem? (i := 69) (by decide +kernel)) rfl
theorem fl_X0_51 : Cond.fieldLink RX0 51 (TX2 0).1 (TX2 0).2.1 (TX2 0).2.2.1 ∈ x_good := x_in (List.mem_of_getElem? (i := 70) (by decide +kernel)) rfl
theorem fl_X2_15 : Cond.fieldLink RX2 15 (TX2 1).1 (TX2 1).2.1 (TX2 1).2.2.1 ∈ x_good := x_in (List.mem_of_getElem? (i := 71) (by decide +kernel)) rfl
theorem fl_X3_15 : Cond.fieldLink RX3 15 (TX2 1).1 (TX2 1).2.1 (TX2 1).2.2.1 ∈ x_good := x_in (List.mem_of_getElem? (i := 72) (by decide +kernel)) rfl
theorem fl_X5_58 : Cond.fieldLink RX5 58 (TX2 1).1 (TX2 1).2.1 (TX2 1).2.2.1 ∈ x_good := x_in (List.mem_of_getElem? (i := 73) (by decide +kernel)) rfl
theorem fl_X2_19 : Cond.fieldLink RX2 19 (TX2 2).1 (TX2 2).2.1 (TX2 2).2.2.1 ∈ x_good := x_in (List.mem_of_getElem? (i := 74) (by decide +kernel)) rfl
theorem fl_X5_72 : Cond.fieldLink RX5 72 (TX2 2).1 (TX2 2).2.1 (TX2 2).2.2.1 ∈ x_good := x_in (List.mem_of_getElem? (i := 75) (by decide +kernel)) rfl
theorem fl_X0_98 : Cond.fieldLink RX0 98 (TX2 2).1 (TX2 2).2.1 (TX2 2).2.2.1 ∈ x_good := x_in (List.mem_of_getElem? (i := 76) (by decide +kernel)) rfl
theorem fl_X2_22 : Cond.fieldLink RX2 22 (TX2 3).1 (TX2 3).2.1 (TX2 3).2.2.1 ∈ x_good := x_in (List.mem_of_getElem? (i := 77) (by decide +kernel)) rfl
theorem fl_X4_21 : Cond.fieldLink RX4 21 (TX2 3).1 (TX2 3).2.1 (TX2 3).2.2.1 ∈ x_good := x_in (List.mem_of_getElem? (i := 78) (by decide +kernel)) rfl
theorem fl_X5_140 : Cond.fieldLink RX5 140 (TX2 3).1 (TX2 3).2.1 (TX2 3).2.2.1 ∈ x_good := x_in (List.mem_of_getElem? (i := 79) (by decide +kernel)) rfl
theorem fl_X3_9 : Cond.fieldLink RX3 9 (TX3 0).1 (TX3 0).2.1 (TX3 0).2.2.1 ∈ x_good := x_in (List.mem_of_getElem? (i := 106) (by decide +kernel)) rfl
theorem fl_X4_9 : Cond.fieldLink RX4 9 (TX4 0).1 (TX4 0).2.1 (TX4 0).2.2.1 ∈ x_good := x_in (List.mem_of_getElem? (i := 116) (by decide +kernel)) rfl
theorem fl_X0_57 : Cond.fieldLink RX0 57 (TX0 0).1 (TX0 0).2.1 (TX0 0).2.2.1 ∈ x_good := x_in (List.mem_of_getElem? (i := 120) (by decide +kernel)) rfl
theorem fl_X0_58 : Cond.fieldLink RX0 58 (TX0 1).1 (TX0 1).2.1 (TX0 1).2.2.1 ∈ x_good := x_in (List.mem_of_getElem? (i := 121) (by decide +kernel)) rfl
theorem fl_X0_86 : Cond.fieldLink RX0 86 (TX0 2).1 (TX0 2).2.1 (TX0 2).2.2.1 ∈ x_good := x_in (List.mem_of_getElem? (i := 122) (by decide +kernel)) rfl
theorem fl_X5_103 : Cond.fieldLink RX5 103 (TX0 2).1 (TX0 2).2.1 (TX0 2).2.2.1 ∈ x_good := x_in (List.mem_of_getElem? (i := 123) (by decide +kernel)) rfl
theorem fl_X0_61 : Cond.fieldLink RX0 61 (TX0 3).1 (TX0 3).2.1 (TX0 3).2.2.1 ∈ x_good := x_in (List.mem_of_getElem? (i := 124) (by decide +kernel)) rfl
theorem fl_X5_134 : Cond.fieldLink RX5 134 (TX0 3).1 (TX0 3).2.1 (TX0 3).2.2.1 ∈ x_good := x_in (List.mem_of_getElem? (i := 125) (by decide +kernel)) rfl
theorem fl_X5_160 : Cond.fieldLink RX5 160 (TX0 4).1 (TX0 4).2.1 (TX0 4).2.2.1 ∈ x_good := x_in (List.mem_of_getElem? (i := 126) (by decide +kernel)) rfl
theorem fl_X0_162 : Cond.fieldLink RX0 162 (TX0 4).1 (TX0 4).2.1 (TX0 4).2.2.1 ∈ x_good := x_in (List.mem_of_getElem? (i := 127) (by decide +kernel)) rfl
theorem fl_X0_9 : Cond.fieldLink RX0 9 (TX0 5).1 (TX0 5).2.1 (TX0 5).2.2.1 ∈ x_good := x_in (List.mem_of_getElem? (i := 128) (by decide +kernel)) rfl
theorem fl_X0_15 : Cond.fieldLink RX0 15 (TX0 6).1 (TX0 6).2.1 (TX0 6).2.2.1 ∈ x_good := x_in (List.mem_of_getElem? (i := 129) (by decide +kernel)) rfl
theorem fl_X0_18 : Cond.fieldLink RX0 18 (TX0 7).1 (TX0 7).2.1 (TX0 7).2.2.1 ∈ x_good := x_in (List.mem_of_getElem? (i := 130) (by decide +kernel)) rfl
theorem fl_X0_21 : Cond.fieldLink RX0 21 (TX0 8).1 (TX0 8).2.1 (TX0 8).2.2.1 ∈ x_good := x_in (List.mem_of_getElem? (i := 131) (by decide +kernel)) rfl
theorem fl_X0_24 : Cond.fieldLink RX0 24 (TX0 9).1 (TX0 9).2.1 (TX0 9).2.2.1 ∈ x_good := x_in (List.mem_of_getElem? (i := 132) (by decide +kernel)) rfl
theorem fl_X0_27 : Cond.fieldLink RX0 27 (TX0 10).1 (TX0 10).2.1 (TX0 10).2.2.1 ∈ x_good := x_in (List.mem_of_getElem? (i := 133) (by decide +kernel)) rfl
theorem fl_X5_137 : Cond.fieldLink RX5 137 (TX0 10).1 (TX0 10).2.1 (TX0 10).2.2.1 ∈ x_good := x_in (List.mem_of_getElem? (i := 134) (by decide +kernel)) rfl
theorem fl_X0_30 : Cond.fieldLink RX0 30 (TX0 11).1 (TX0 11).2.1 (TX0 11).2.2.1 ∈ x_good := x_in (List.mem_of_getElem? (i := 135) (by decide +kernel)) rfl
theorem fl_X5_163 : Cond.fieldLink RX5 163 (TX0 11).1 (TX0 11).2.1 (TX0 11).2.2.1 ∈ x_good := x_in (List.mem_of_getElem? (i := 136) (by decide +kernel)) rfl
theorem fl_X0_36 : Cond.fieldLink RX0 36 (TX0 12).1 (TX0 12).2.1 (TX0 12).2.2.1 ∈ x_good := x_in (List.mem_of_getElem? (i := 137) (by decide +kernel)) rfl
theorem fl_X0_43 : Cond.fieldLink RX0 43 (TX0 13).1 (TX0 13).2.1 (TX0 13).2.2.1 ∈ x_good := x_in (List.mem_of_getElem? (i := 138) (by decide +kernel)) rfl
theorem fl_X5_12 : Cond.fieldLink RX5 12 (TX5 0).1 (TX5 0).2.1 (TX5 0).2.2.1 ∈ x_good := x_in (List.mem_of_getElem? (i := 168) (by decide +kernel)) rfl
theorem fl_X5_16 : Cond.fieldLink RX5 16 (TX5 1).1 (TX5 1).2.1 (TX5 1).2.2.1 ∈ x_good := x_in (List.mem_of_getElem? (i := 169) (by decide +kernel)) rfl
theorem fl_X5_20 : Cond.fieldLink RX5 20 (TX5 2).1 (TX5 2).2.1 (TX5 2).2.2.1 ∈ x_good := x_in (List.mem_of_getElem? (i := 170) (by decide +kernel)) rfl
theorem fl_X5_27 : Cond.fieldLink RX5 27 (TX5 3).1 (TX5 3).2.1 (TX5 3).2.2.1 ∈ x_good := x_in (List.mem_of_getElem? (i := 171) (by decide +kernel)) rfl
theorem fl_X5_31 : Cond.fieldLink RX5 31 (TX5 4).1 (TX5 4).2.1 (TX5 4).2.2.1 ∈ x_good := x_in (List.mem_of_getElem? (i := 172) (by decide +kernel)) rfl
theorem fl_X5_35 : Cond.fieldLink RX5 35 (TX5 5).1 (TX5 5).2.1 (TX5 5).2.2.1 ∈ x_good := x_in (List.mem_of_getElem? (i := 173) (by decide +kernel)) rfl
theorem fl_X6_7 : Cond.fieldLink RX6 7 (TX6 0).1 (TX6 0).2.1 (TX6 0).2.2.1 ∈ x_good := x_in (List.mem_of_getElem? (i := 533) (by decide +kernel)) rfl
theorem fl_X6_13 : Cond.fieldLink RX6 13 (TX6 1).1 (TX6 1).2.1 (TX6 1).2.2.1 ∈ x_good := x_in (List.mem_of_getElem? (i := 534) (by decide +kernel)) rfl
theorem fl_X6_16 : Cond.fieldLink RX6 16 (TX6 2).1 (TX6 2).2.1 (TX6 2).2.2.1 ∈ x_good := x_in (List.mem_of_getElem? (i := 535) (by decide +kernel)) rfl
theorem fl_X6_20 : Cond.fieldLink RX6 20 (TX6 3).1 (TX6 3).2.1 (TX6 3).2.2.1 ∈ x_good := x_in (List.mem_of_getElem? (i := 536) (by decide +kernel)) rfl
theorem fl_X6_54 : Cond.fieldLink RX6 54 (TX6 4).1 (TX6 4).2.1 (TX6 4).2.2.1 ∈ x_good := x_in (List.mem_of_getElem? (i := 537) (by decide +kernel)) rfl
theorem fl_X6_87 : Cond.fieldLink RX6 87 (TX6 5).1 (TX6 5).2.1 (TX6 5).2.2.1 ∈ x_good := x_in (List.mem_of_getElem? (i := 538) (by decide +kernel)) rfl
theorem fl_X6_107 : Cond.fieldLink RX6 107 (TX6 6).1 (TX6 6).2.1 (TX6 6).2.2.1 ∈ x_good := x_in (List.mem_of_getElem? (i := 539) (by decide +kernel)) rfl
theorem fl_X6_113 : Cond.fieldLink RX6 113 (TX6 7).1 (TX6 7).2.1 (TX6 7).2.2.1 ∈ x_good := x_in (List.mem_of_getElem? (i := 540) (by decide +kernel)) rfl
theorem fl_X6_23 : Cond.fieldLink RX6 23 (TX6 8).1 (TX6 8).2.1 (TX6 8).2.2.1 ∈ x_good := x_in (List.mem_of_getElem? (i := 541) (by decide +kernel)) rfl
theorem fl_X6_26 : Cond.fieldLink RX6 26 (TX6 9).1 (TX6 9).2.1 (TX6 9).2.2.1 ∈ x_good := x_in (List.mem_of_getElem? (i := 542) (by decide +kernel)) rfl
theorem fl_X6_29 : Cond.fieldLink RX6 29 (TX6 10).1 (TX6 10).2.1 (TX6 10).2.2.1 ∈ x_good := x_in (List.mem_of_getElem? (i := 543) (by decide +kernel)) rfl
theorem fl_X6_32 : Cond.fieldLink RX6 32 (TX6 11).1 (TX6 11).2.1 (TX6 11).2.2.1 ∈ x_good := x_in (List.mem_of_getElem? (i := 544) (by decide +kernel)) rfl
theorem fl_X6_35 : Cond.fieldLink RX6 35 (TX6 12).1 (TX6 12).2.1 (TX6 12).2.2.1 ∈ x_good := x_in (List.mem_of_getElem? (i := 545) (by decide +kernel)) rfl
theorem fl_X6_38 : Cond.fieldLink RX6 38 (TX6 13).1 (TX6 13).2.1 (TX6 13).2.2.1 ∈ x_good := x_in (List.mem_of_getElem? (i := 546) (by decide +kernel)) rfl
theorem fl_X6_41 : Cond.fieldLink RX6 41 (TX6 14).1 (TX6 14).2.1 (TX6 14).2.2.1 ∈ x_good := x_in (List.mem_of_getElem? (i := 547) (by decide +kernel)) rfl
theorem fl_X6_123 : Cond.fieldLink RX6 123 (TX6 15).1 (TX6 15).2.1 (TX6 15).2.2.1 ∈ x_good := x_in (List.mem_of_getElem? (i := 548) (by decide +kernel)) rfl
theorem fl_X6_44 : Cond.fieldLink RX6 44 (TX6 16).1 (TX6 16).2.1 (TX6 16).2.2.1 ∈ x_good := x_in (List.mem_of_getElem? (i := 549) (by decide +kernel)) rfl
theorem cn_J6_265 : Cond.constant RJ6 265 (1431655765) ∈ x_good := x_in (List.mem_of_getElem? (i := 219) (by decide +kernel)) rfl
theorem cn_J6_266 : Cond.constant RJ6 266 (858993459) ∈ x_good := x_in (List.mem_of_getElem? (i := 220) (by decide +kernel)) rfl
theorem cn_J6_267 : Cond.constant RJ6 267 (252645135) ∈ x_good := x_in (List.mem_of_getElem? (i := 221) (by decide +kernel)) rfl
theorem cn_X0_112 : Cond.constant RX0 112 (1000000) ∈ x_good := x_in (List.mem_of_getElem? (i := 292) (by decide +kernel)) rfl
theorem same_Next : Cond.sameMethod y_CostNext.cls "GraveRows$Cost" y_CostNext.name y_CostNext.desc ∈ x_good := x_in (List.mem_of_getElem? (i := 298) (by decide +kernel)) rfl
theorem nat_copy : Cond.native arraycopyName ∈ x_good := x_in (List.mem_of_getElem? (i := 501) (by decide +kernel)) rfl
theorem stat_copy : Cond.static arraycopyName ∈ x_good := x_in (List.mem_of_getElem? (i := 500) (by decide +kernel)) rfl
theorem stat_min : Cond.static Lib.Math.min.name ∈ x_good := x_in (List.mem_of_getElem? (i := 308) (by decide +kernel)) rfl
theorem code_min : Cond.code Lib.Math.min.name Lib.Math.min.code 2 (some .int) ∈ x_good := x_in (List.mem_of_getElem? (i := 309) (by decide +kernel)) rfl
theorem so_X3 : Cond.selects RX3 y_CostNext yX3_ofNext ∈ x_good := x_in (List.mem_of_getElem? (i := 299) (by decide +kernel)) rfl
theorem so_X4 : Cond.selects RX4 y_CostNext yX4_ofNext ∈ x_good := x_in (List.mem_of_getElem? (i := 303) (by decide +kernel)) rfl
end
section
theorem dJ6_bitCount_0f7a4_0 : decode cJ6_bitCount_0f7a4 0 = .ok (.iload_n 0, 1) := by decide +kernel
theorem dJ6_bitCount_0f7a4_1 : decode cJ6_bitCount_0f7a4 1 = .ok (.iload_n 0, 1) := by decide +kernel
theorem dJ6_bitCount_0f7a4_2 : decode cJ6_bitCount_0f7a4 2 = .ok (.iconst 1, 1) := by decide +kernel
theorem dJ6_bitCount_0f7a4_3 : decode cJ6_bitCount_0f7a4 3 = .ok (.iushr, 1) := by decide +kernel
theorem dJ6_bitCount_0f7a4_4 : decode cJ6_bitCount_0f7a4 4 = .ok (.ldc_w 265, 3) := by decide +kernel
theorem dJ6_bitCount_0f7a4_7 : decode cJ6_bitCount_0f7a4 7 = .ok (.iand, 1) := by decide +kernel
theorem dJ6_bitCount_0f7a4_8 : decode cJ6_bitCount_0f7a4 8 = .ok (.isub, 1) := by decide +kernel
theorem dJ6_bitCount_0f7a4_9 : decode cJ6_bitCount_0f7a4 9 = .ok (.istore_n 0, 1) := by decide +kernel
theorem dJ6_bitCount_0f7a4_10 : decode cJ6_bitCount_0f7a4 10 = .ok (.iload_n 0, 1) := by decide +kernel
theorem dJ6_bitCount_0f7a4_11 : decode cJ6_bitCount_0f7a4 11 = .ok (.ldc_w 266, 3) := by decide +kernel
theorem dJ6_bitCount_0f7a4_14 : decode cJ6_bitCount_0f7a4 14 = .ok (.iand, 1) := by decide +kernel
theorem dJ6_bitCount_0f7a4_15 : decode cJ6_bitCount_0f7a4 15 = .ok (.iload_n 0, 1) := by decide +kernel
theorem dJ6_bitCount_0f7a4_16 : decode cJ6_bitCount_0f7a4 16 = .ok (.iconst 2, 1) := by decide +kernel
theorem dJ6_bitCount_0f7a4_17 : decode cJ6_bitCount_0f7a4 17 = .ok (.iushr, 1) := by decide +kernel
theorem dJ6_bitCount_0f7a4_18 : decode cJ6_bitCount_0f7a4 18 = .ok (.ldc_w 266, 3) := by decide +kernel
theorem dJ6_bitCount_0f7a4_21 : decode cJ6_bitCount_0f7a4 21 = .ok (.iand, 1) := by decide +kernel
theorem dJ6_bitCount_0f7a4_22 : decode cJ6_bitCount_0f7a4 22 = .ok (.iadd, 1) := by decide +kernel
theorem dJ6_bitCount_0f7a4_23 : decode cJ6_bitCount_0f7a4 23 = .ok (.istore_n 0, 1) := by decide +kernel
theorem dJ6_bitCount_0f7a4_24 : decode cJ6_bitCount_0f7a4 24 = .ok (.iload_n 0, 1) := by decide +kernel
theorem dJ6_bitCount_0f7a4_25 : decode cJ6_bitCount_0f7a4 25 = .ok (.iload_n 0, 1) := by decide +kernel
theorem dJ6_bitCount_0f7a4_26 : decode cJ6_bitCount_0f7a4 26 = .ok (.iconst 4, 1) := by decide +kernel
theorem dJ6_bitCount_0f7a4_27 : decode cJ6_bitCount_0f7a4 27 = .ok (.iushr, 1) := by decide +kernel
theorem dJ6_bitCount_0f7a4_28 : decode cJ6_bitCount_0f7a4 28 = .ok (.iadd, 1) := by decide +kernel
theorem dJ6_bitCount_0f7a4_29 : decode cJ6_bitCount_0f7a4 29 = .ok (.ldc_w 267, 3) := by decide +kernel
theorem dJ6_bitCount_0f7a4_32 : decode cJ6_bitCount_0f7a4 32 = .ok (.iand, 1) := by decide +kernel
theorem dJ6_bitCount_0f7a4_33 : decode cJ6_bitCount_0f7a4 33 = .ok (.istore_n 0, 1) := by decide +kernel
theorem dJ6_bitCount_0f7a4_34 : decode cJ6_bitCount_0f7a4 34 = .ok (.iload_n 0, 1) := by decide +kernel
theorem dJ6_bitCount_0f7a4_35 : decode cJ6_bitCount_0f7a4 35 = .ok (.iload_n 0, 1) := by decide +kernel
theorem dJ6_bitCount_0f7a4_36 : decode cJ6_bitCount_0f7a4 36 = .ok (.bipush 8, 2) := by decide +kernel
theorem dJ6_bitCount_0f7a4_38 : decode cJ6_bitCount_0f7a4 38 = .ok (.iushr, 1) := by decide +kernel
theorem dJ6_bitCount_0f7a4_39 : decode cJ6_bitCount_0f7a4 39 = .ok (.iadd, 1) := by decide +kernel
theorem dJ6_bitCount_0f7a4_40 : decode cJ6_bitCount_0f7a4 40 = .ok (.istore_n 0, 1) := by decide +kernel
theorem dJ6_bitCount_0f7a4_41 : decode cJ6_bitCount_0f7a4 41 = .ok (.iload_n 0, 1) := by decide +kernel
theorem dJ6_bitCount_0f7a4_42 : decode cJ6_bitCount_0f7a4 42 = .ok (.iload_n 0, 1) := by decide +kernel
theorem dJ6_bitCount_0f7a4_43 : decode cJ6_bitCount_0f7a4 43 = .ok (.bipush 16, 2) := by decide +kernel
theorem dJ6_bitCount_0f7a4_45 : decode cJ6_bitCount_0f7a4 45 = .ok (.iushr, 1) := by decide +kernel
theorem dJ6_bitCount_0f7a4_46 : decode cJ6_bitCount_0f7a4 46 = .ok (.iadd, 1) := by decide +kernel
theorem dJ6_bitCount_0f7a4_47 : decode cJ6_bitCount_0f7a4 47 = .ok (.istore_n 0, 1) := by decide +kernel
theorem dJ6_bitCount_0f7a4_48 : decode cJ6_bitCount_0f7a4 48 = .ok (.iload_n 0, 1) := by decide +kernel
theorem dJ6_bitCount_0f7a4_49 : decode cJ6_bitCount_0f7a4 49 = .ok (.bipush 63, 2) := by decide +kernel
theorem dJ6_bitCount_0f7a4_51 : decode cJ6_bitCount_0f7a4 51 = .ok (.iand, 1) := by decide +kernel
theorem dJ6_bitCount_0f7a4_52 : decode cJ6_bitCount_0f7a4 52 = .ok (.ireturn, 1) := by decide +kernel
end
section
theorem dJ9_min_7cf53_0 : decode cJ9_min_7cf53 0 = .ok (.iload_n 0, 1) := by decide +kernel
theorem dJ9_min_7cf53_1 : decode cJ9_min_7cf53 1 = .ok (.iload_n 1, 1) := by decide +kernel
theorem dJ9_min_7cf53_2 : decode cJ9_min_7cf53 2 = .ok (.if_icmp .gt 7, 3) := by decide +kernel
theorem dJ9_min_7cf53_5 : decode cJ9_min_7cf53 5 = .ok (.iload_n 0, 1) := by decide +kernel
theorem dJ9_min_7cf53_6 : decode cJ9_min_7cf53 6 = .ok (.goto 4, 3) := by decide +kernel
theorem dJ9_min_7cf53_9 : decode cJ9_min_7cf53 9 = .ok (.iload_n 1, 1) := by decide +kernel
theorem dJ9_min_7cf53_10 : decode cJ9_min_7cf53 10 = .ok (.ireturn, 1) := by decide +kernel
end
section
theorem dX0_init_0 : decode cX0_init 0 = .ok (.aload_n 0, 1) := by decide +kernel
theorem dX0_init_1 : decode cX0_init 1 = .ok (.invokespecial 3, 3) := by decide +kernel
theorem dX0_init_4 : decode cX0_init 4 = .ok (.aload_n 0, 1) := by decide +kernel
theorem dX0_init_5 : decode cX0_init 5 = .ok (.sipush 2048, 3) := by decide +kernel
theorem dX0_init_8 : decode cX0_init 8 = .ok (.newarray .int, 2) := by decide +kernel
theorem dX0_init_10 : decode cX0_init 10 = .ok (.putfield 9, 3) := by decide +kernel
theorem dX0_init_13 : decode cX0_init 13 = .ok (.aload_n 0, 1) := by decide +kernel
theorem dX0_init_14 : decode cX0_init 14 = .ok (.sipush 2048, 3) := by decide +kernel
theorem dX0_init_17 : decode cX0_init 17 = .ok (.newarray .int, 2) := by decide +kernel
theorem dX0_init_19 : decode cX0_init 19 = .ok (.putfield 15, 3) := by decide +kernel
theorem dX0_init_22 : decode cX0_init 22 = .ok (.aload_n 0, 1) := by decide +kernel
theorem dX0_init_23 : decode cX0_init 23 = .ok (.sipush 2048, 3) := by decide +kernel
theorem dX0_init_26 : decode cX0_init 26 = .ok (.newarray .int, 2) := by decide +kernel
theorem dX0_init_28 : decode cX0_init 28 = .ok (.putfield 18, 3) := by decide +kernel
theorem dX0_init_31 : decode cX0_init 31 = .ok (.aload_n 0, 1) := by decide +kernel
theorem dX0_init_32 : decode cX0_init 32 = .ok (.sipush 2048, 3) := by decide +kernel
theorem dX0_init_35 : decode cX0_init 35 = .ok (.newarray .int, 2) := by decide +kernel
theorem dX0_init_37 : decode cX0_init 37 = .ok (.putfield 21, 3) := by decide +kernel
theorem dX0_init_40 : decode cX0_init 40 = .ok (.aload_n 0, 1) := by decide +kernel
theorem dX0_init_41 : decode cX0_init 41 = .ok (.sipush 256, 3) := by decide +kernel
theorem dX0_init_44 : decode cX0_init 44 = .ok (.newarray .int, 2) := by decide +kernel
theorem dX0_init_46 : decode cX0_init 46 = .ok (.putfield 24, 3) := by decide +kernel
theorem dX0_init_49 : decode cX0_init 49 = .ok (.aload_n 0, 1) := by decide +kernel
theorem dX0_init_50 : decode cX0_init 50 = .ok (.sipush 256, 3) := by decide +kernel
theorem dX0_init_53 : decode cX0_init 53 = .ok (.newarray .int, 2) := by decide +kernel
theorem dX0_init_55 : decode cX0_init 55 = .ok (.putfield 27, 3) := by decide +kernel
theorem dX0_init_58 : decode cX0_init 58 = .ok (.aload_n 0, 1) := by decide +kernel
theorem dX0_init_59 : decode cX0_init 59 = .ok (.bipush 8, 2) := by decide +kernel
theorem dX0_init_61 : decode cX0_init 61 = .ok (.newarray .int, 2) := by decide +kernel
theorem dX0_init_63 : decode cX0_init 63 = .ok (.putfield 30, 3) := by decide +kernel
theorem dX0_init_66 : decode cX0_init 66 = .ok (.aload_n 0, 1) := by decide +kernel
theorem dX0_init_67 : decode cX0_init 67 = .ok (.new 33, 3) := by decide +kernel
theorem dX0_init_70 : decode cX0_init 70 = .ok (.dup, 1) := by decide +kernel
theorem dX0_init_71 : decode cX0_init 71 = .ok (.invokespecial 35, 3) := by decide +kernel
theorem dX0_init_74 : decode cX0_init 74 = .ok (.putfield 36, 3) := by decide +kernel
theorem dX0_init_77 : decode cX0_init 77 = .ok (.aload_n 0, 1) := by decide +kernel
theorem dX0_init_78 : decode cX0_init 78 = .ok (.new 40, 3) := by decide +kernel
theorem dX0_init_81 : decode cX0_init 81 = .ok (.dup, 1) := by decide +kernel
theorem dX0_init_82 : decode cX0_init 82 = .ok (.invokespecial 42, 3) := by decide +kernel
theorem dX0_init_85 : decode cX0_init 85 = .ok (.putfield 43, 3) := by decide +kernel
theorem dX0_init_88 : decode cX0_init 88 = .ok (.return_, 1) := by decide +kernel
theorem dX0_stateOf_0 : decode cX0_stateOf 0 = .ok (.iload_n 0, 1) := by decide +kernel
theorem dX0_stateOf_1 : decode cX0_stateOf 1 = .ok (.bipush 8, 2) := by decide +kernel
theorem dX0_stateOf_3 : decode cX0_stateOf 3 = .ok (.imul, 1) := by decide +kernel
theorem dX0_stateOf_4 : decode cX0_stateOf 4 = .ok (.iload_n 1, 1) := by decide +kernel
theorem dX0_stateOf_5 : decode cX0_stateOf 5 = .ok (.iadd, 1) := by decide +kernel
theorem dX0_stateOf_6 : decode cX0_stateOf 6 = .ok (.ireturn, 1) := by decide +kernel
theorem dX0_stateAfter_0 : decode cX0_stateAfter 0 = .ok (.iload_n 0, 1) := by decide +kernel
theorem dX0_stateAfter_1 : decode cX0_stateAfter 1 = .ok (.iconst 1, 1) := by decide +kernel
theorem dX0_stateAfter_2 : decode cX0_stateAfter 2 = .ok (.iload_n 1, 1) := by decide +kernel
theorem dX0_stateAfter_3 : decode cX0_stateAfter 3 = .ok (.ishl, 1) := by decide +kernel
theorem dX0_stateAfter_4 : decode cX0_stateAfter 4 = .ok (.ior, 1) := by decide +kernel
theorem dX0_stateAfter_5 : decode cX0_stateAfter 5 = .ok (.bipush 8, 2) := by decide +kernel
theorem dX0_stateAfter_7 : decode cX0_stateAfter 7 = .ok (.imul, 1) := by decide +kernel
theorem dX0_stateAfter_8 : decode cX0_stateAfter 8 = .ok (.iload_n 1, 1) := by decide +kernel
theorem dX0_stateAfter_9 : decode cX0_stateAfter 9 = .ok (.iadd, 1) := by decide +kernel
theorem dX0_stateAfter_10 : decode cX0_stateAfter 10 = .ok (.ireturn, 1) := by decide +kernel
theorem dX0_isState_0 : decode cX0_isState 0 = .ok (.iload_n 0, 1) := by decide +kernel
theorem dX0_isState_1 : decode cX0_isState 1 = .ok (.ifCond .ne 15, 3) := by decide +kernel
theorem dX0_isState_4 : decode cX0_isState 4 = .ok (.iload_n 1, 1) := by decide +kernel
theorem dX0_isState_5 : decode cX0_isState 5 = .ok (.ifCond .ne 7, 3) := by decide +kernel
theorem dX0_isState_8 : decode cX0_isState 8 = .ok (.iconst 1, 1) := by decide +kernel
theorem dX0_isState_9 : decode cX0_isState 9 = .ok (.goto 12, 3) := by decide +kernel
theorem dX0_isState_12 : decode cX0_isState 12 = .ok (.iconst 0, 1) := by decide +kernel
theorem dX0_isState_13 : decode cX0_isState 13 = .ok (.goto 8, 3) := by decide +kernel
theorem dX0_isState_16 : decode cX0_isState 16 = .ok (.iload_n 0, 1) := by decide +kernel
theorem dX0_isState_17 : decode cX0_isState 17 = .ok (.iload_n 1, 1) := by decide +kernel
theorem dX0_isState_18 : decode cX0_isState 18 = .ok (.invokestatic 47, 3) := by decide +kernel
theorem dX0_isState_21 : decode cX0_isState 21 = .ok (.ireturn, 1) := by decide +kernel
theorem dX0_total_0 : decode cX0_total 0 = .ok (.aload_n 0, 1) := by decide +kernel
theorem dX0_total_1 : decode cX0_total 1 = .ok (.getfield 15, 3) := by decide +kernel
theorem dX0_total_4 : decode cX0_total 4 = .ok (.iconst 0, 1) := by decide +kernel
theorem dX0_total_5 : decode cX0_total 5 = .ok (.iaload, 1) := by decide +kernel
theorem dX0_total_6 : decode cX0_total 6 = .ok (.ireturn, 1) := by decide +kernel
theorem dX0_search_0 : decode cX0_search 0 = .ok (.aload_n 0, 1) := by decide +kernel
theorem dX0_search_1 : decode cX0_search 1 = .ok (.aload_n 1, 1) := by decide +kernel
theorem dX0_search_2 : decode cX0_search 2 = .ok (.getfield 51, 3) := by decide +kernel
theorem dX0_search_5 : decode cX0_search 5 = .ok (.putfield 57, 3) := by decide +kernel
theorem dX0_search_8 : decode cX0_search 8 = .ok (.aload_n 0, 1) := by decide +kernel
theorem dX0_search_9 : decode cX0_search 9 = .ok (.iconst 1, 1) := by decide +kernel
theorem dX0_search_10 : decode cX0_search 10 = .ok (.aload_n 0, 1) := by decide +kernel
theorem dX0_search_11 : decode cX0_search 11 = .ok (.getfield 57, 3) := by decide +kernel
theorem dX0_search_14 : decode cX0_search 14 = .ok (.ishl, 1) := by decide +kernel
theorem dX0_search_15 : decode cX0_search 15 = .ok (.iconst 1, 1) := by decide +kernel
theorem dX0_search_16 : decode cX0_search 16 = .ok (.isub, 1) := by decide +kernel
theorem dX0_search_17 : decode cX0_search 17 = .ok (.putfield 58, 3) := by decide +kernel
theorem dX0_search_20 : decode cX0_search 20 = .ok (.aload_n 0, 1) := by decide +kernel
theorem dX0_search_21 : decode cX0_search 21 = .ok (.bipush (-6), 2) := by decide +kernel
theorem dX0_search_23 : decode cX0_search 23 = .ok (.putfield 61, 3) := by decide +kernel
theorem dX0_search_26 : decode cX0_search 26 = .ok (.aload_n 0, 1) := by decide +kernel
theorem dX0_search_27 : decode cX0_search 27 = .ok (.aload_n 1, 1) := by decide +kernel
theorem dX0_search_28 : decode cX0_search 28 = .ok (.invokevirtual 64, 3) := by decide +kernel
theorem dX0_search_31 : decode cX0_search 31 = .ok (.aload_n 0, 1) := by decide +kernel
theorem dX0_search_32 : decode cX0_search 32 = .ok (.getfield 36, 3) := by decide +kernel
theorem dX0_search_35 : decode cX0_search 35 = .ok (.aload_n 1, 1) := by decide +kernel
theorem dX0_search_36 : decode cX0_search 36 = .ok (.sipush 1023, 3) := by decide +kernel
theorem dX0_search_39 : decode cX0_search 39 = .ok (.invokevirtual 68, 3) := by decide +kernel
theorem dX0_search_42 : decode cX0_search 42 = .ok (.aload_n 0, 1) := by decide +kernel
theorem dX0_search_43 : decode cX0_search 43 = .ok (.aload_n 0, 1) := by decide +kernel
theorem dX0_search_44 : decode cX0_search 44 = .ok (.getfield 36, 3) := by decide +kernel
theorem dX0_search_47 : decode cX0_search 47 = .ok (.invokevirtual 72, 3) := by decide +kernel
theorem dX0_search_50 : decode cX0_search 50 = .ok (.aload_n 0, 1) := by decide +kernel
theorem dX0_search_51 : decode cX0_search 51 = .ok (.aload_n 0, 1) := by decide +kernel
theorem dX0_search_52 : decode cX0_search 52 = .ok (.getfield 21, 3) := by decide +kernel
theorem dX0_search_55 : decode cX0_search 55 = .ok (.iconst 0, 1) := by decide +kernel
theorem dX0_search_56 : decode cX0_search 56 = .ok (.iaload, 1) := by decide +kernel
theorem dX0_search_57 : decode cX0_search 57 = .ok (.aload_n 1, 1) := by decide +kernel
theorem dX0_search_58 : decode cX0_search 58 = .ok (.invokevirtual 76, 3) := by decide +kernel
theorem dX0_search_61 : decode cX0_search 61 = .ok (.invokestatic 80, 3) := by decide +kernel
theorem dX0_search_64 : decode cX0_search 64 = .ok (.isub, 1) := by decide +kernel
theorem dX0_search_65 : decode cX0_search 65 = .ok (.putfield 86, 3) := by decide +kernel
theorem dX0_search_68 : decode cX0_search 68 = .ok (.aload_n 0, 1) := by decide +kernel
theorem dX0_search_69 : decode cX0_search 69 = .ok (.aload_n 0, 1) := by decide +kernel
theorem dX0_search_70 : decode cX0_search 70 = .ok (.getfield 36, 3) := by decide +kernel
theorem dX0_search_73 : decode cX0_search 73 = .ok (.invokevirtual 89, 3) := by decide +kernel
theorem dX0_search_76 : decode cX0_search 76 = .ok (.aload_n 0, 1) := by decide +kernel
theorem dX0_search_77 : decode cX0_search 77 = .ok (.invokevirtual 92, 3) := by decide +kernel
theorem dX0_search_80 : decode cX0_search 80 = .ok (.aload_n 0, 1) := by decide +kernel
theorem dX0_search_81 : decode cX0_search 81 = .ok (.invokevirtual 95, 3) := by decide +kernel
theorem dX0_search_84 : decode cX0_search 84 = .ok (.return_, 1) := by decide +kernel
theorem dX0_openAllowed_0 : decode cX0_openAllowed 0 = .ok (.iconst 0, 1) := by decide +kernel
theorem dX0_openAllowed_1 : decode cX0_openAllowed 1 = .ok (.istore_n 2, 1) := by decide +kernel
theorem dX0_openAllowed_2 : decode cX0_openAllowed 2 = .ok (.iload_n 2, 1) := by decide +kernel
theorem dX0_openAllowed_3 : decode cX0_openAllowed 3 = .ok (.aload_n 0, 1) := by decide +kernel
theorem dX0_openAllowed_4 : decode cX0_openAllowed 4 = .ok (.getfield 58, 3) := by decide +kernel
theorem dX0_openAllowed_7 : decode cX0_openAllowed 7 = .ok (.if_icmp .gt 87, 3) := by decide +kernel
theorem dX0_openAllowed_10 : decode cX0_openAllowed 10 = .ok (.iconst 0, 1) := by decide +kernel
theorem dX0_openAllowed_11 : decode cX0_openAllowed 11 = .ok (.istore_n 3, 1) := by decide +kernel
theorem dX0_openAllowed_12 : decode cX0_openAllowed 12 = .ok (.iconst 0, 1) := by decide +kernel
theorem dX0_openAllowed_13 : decode cX0_openAllowed 13 = .ok (.istore 4, 2) := by decide +kernel
theorem dX0_openAllowed_15 : decode cX0_openAllowed 15 = .ok (.iload 4, 2) := by decide +kernel
theorem dX0_openAllowed_17 : decode cX0_openAllowed 17 = .ok (.aload_n 0, 1) := by decide +kernel
theorem dX0_openAllowed_18 : decode cX0_openAllowed 18 = .ok (.getfield 57, 3) := by decide +kernel
theorem dX0_openAllowed_21 : decode cX0_openAllowed 21 = .ok (.if_icmp .ge 37, 3) := by decide +kernel
theorem dX0_openAllowed_24 : decode cX0_openAllowed 24 = .ok (.iload_n 2, 1) := by decide +kernel
theorem dX0_openAllowed_25 : decode cX0_openAllowed 25 = .ok (.iload 4, 2) := by decide +kernel
theorem dX0_openAllowed_27 : decode cX0_openAllowed 27 = .ok (.invokestatic 47, 3) := by decide +kernel
theorem dX0_openAllowed_30 : decode cX0_openAllowed 30 = .ok (.ifCond .ne 22, 3) := by decide +kernel
theorem dX0_openAllowed_33 : decode cX0_openAllowed 33 = .ok (.aload_n 1, 1) := by decide +kernel
theorem dX0_openAllowed_34 : decode cX0_openAllowed 34 = .ok (.getfield 98, 3) := by decide +kernel
theorem dX0_openAllowed_37 : decode cX0_openAllowed 37 = .ok (.iload 4, 2) := by decide +kernel
theorem dX0_openAllowed_39 : decode cX0_openAllowed 39 = .ok (.iaload, 1) := by decide +kernel
theorem dX0_openAllowed_40 : decode cX0_openAllowed 40 = .ok (.iload_n 2, 1) := by decide +kernel
theorem dX0_openAllowed_41 : decode cX0_openAllowed 41 = .ok (.iand, 1) := by decide +kernel
theorem dX0_openAllowed_42 : decode cX0_openAllowed 42 = .ok (.ifCond .ne 10, 3) := by decide +kernel
theorem dX0_openAllowed_45 : decode cX0_openAllowed 45 = .ok (.iload_n 3, 1) := by decide +kernel
theorem dX0_openAllowed_46 : decode cX0_openAllowed 46 = .ok (.iconst 1, 1) := by decide +kernel
theorem dX0_openAllowed_47 : decode cX0_openAllowed 47 = .ok (.iload 4, 2) := by decide +kernel
theorem dX0_openAllowed_49 : decode cX0_openAllowed 49 = .ok (.ishl, 1) := by decide +kernel
theorem dX0_openAllowed_50 : decode cX0_openAllowed 50 = .ok (.ior, 1) := by decide +kernel
theorem dX0_openAllowed_51 : decode cX0_openAllowed 51 = .ok (.istore_n 3, 1) := by decide +kernel
theorem dX0_openAllowed_52 : decode cX0_openAllowed 52 = .ok (.iinc 4 1, 3) := by decide +kernel
theorem dX0_openAllowed_55 : decode cX0_openAllowed 55 = .ok (.goto (-40), 3) := by decide +kernel
theorem dX0_openAllowed_58 : decode cX0_openAllowed 58 = .ok (.iconst 0, 1) := by decide +kernel
theorem dX0_openAllowed_59 : decode cX0_openAllowed 59 = .ok (.istore 4, 2) := by decide +kernel
theorem dX0_openAllowed_61 : decode cX0_openAllowed 61 = .ok (.iload 4, 2) := by decide +kernel
theorem dX0_openAllowed_63 : decode cX0_openAllowed 63 = .ok (.aload_n 0, 1) := by decide +kernel
theorem dX0_openAllowed_64 : decode cX0_openAllowed 64 = .ok (.getfield 57, 3) := by decide +kernel
theorem dX0_openAllowed_67 : decode cX0_openAllowed 67 = .ok (.if_icmp .ge 21, 3) := by decide +kernel
theorem dX0_openAllowed_70 : decode cX0_openAllowed 70 = .ok (.aload_n 0, 1) := by decide +kernel
theorem dX0_openAllowed_71 : decode cX0_openAllowed 71 = .ok (.getfield 9, 3) := by decide +kernel
theorem dX0_openAllowed_74 : decode cX0_openAllowed 74 = .ok (.iload_n 2, 1) := by decide +kernel
theorem dX0_openAllowed_75 : decode cX0_openAllowed 75 = .ok (.iload 4, 2) := by decide +kernel
theorem dX0_openAllowed_77 : decode cX0_openAllowed 77 = .ok (.invokestatic 101, 3) := by decide +kernel
theorem dX0_openAllowed_80 : decode cX0_openAllowed 80 = .ok (.iload_n 3, 1) := by decide +kernel
theorem dX0_openAllowed_81 : decode cX0_openAllowed 81 = .ok (.iastore, 1) := by decide +kernel
theorem dX0_openAllowed_82 : decode cX0_openAllowed 82 = .ok (.iinc 4 1, 3) := by decide +kernel
theorem dX0_openAllowed_85 : decode cX0_openAllowed 85 = .ok (.goto (-24), 3) := by decide +kernel
theorem dX0_openAllowed_88 : decode cX0_openAllowed 88 = .ok (.iinc 2 1, 3) := by decide +kernel
theorem dX0_openAllowed_91 : decode cX0_openAllowed 91 = .ok (.goto (-89), 3) := by decide +kernel
theorem dX0_openAllowed_94 : decode cX0_openAllowed 94 = .ok (.return_, 1) := by decide +kernel
theorem dX0_costRest_0 : decode cX0_costRest 0 = .ok (.aload_n 0, 1) := by decide +kernel
theorem dX0_costRest_1 : decode cX0_costRest 1 = .ok (.getfield 58, 3) := by decide +kernel
theorem dX0_costRest_4 : decode cX0_costRest 4 = .ok (.istore_n 2, 1) := by decide +kernel
theorem dX0_costRest_5 : decode cX0_costRest 5 = .ok (.iload_n 2, 1) := by decide +kernel
theorem dX0_costRest_6 : decode cX0_costRest 6 = .ok (.ifCond .lt 62, 3) := by decide +kernel
theorem dX0_costRest_9 : decode cX0_costRest 9 = .ok (.iconst 0, 1) := by decide +kernel
theorem dX0_costRest_10 : decode cX0_costRest 10 = .ok (.istore_n 3, 1) := by decide +kernel
theorem dX0_costRest_11 : decode cX0_costRest 11 = .ok (.iload_n 3, 1) := by decide +kernel
theorem dX0_costRest_12 : decode cX0_costRest 12 = .ok (.aload_n 0, 1) := by decide +kernel
theorem dX0_costRest_13 : decode cX0_costRest 13 = .ok (.getfield 57, 3) := by decide +kernel
theorem dX0_costRest_16 : decode cX0_costRest 16 = .ok (.if_icmp .ge 46, 3) := by decide +kernel
theorem dX0_costRest_19 : decode cX0_costRest 19 = .ok (.iload_n 2, 1) := by decide +kernel
theorem dX0_costRest_20 : decode cX0_costRest 20 = .ok (.iload_n 3, 1) := by decide +kernel
theorem dX0_costRest_21 : decode cX0_costRest 21 = .ok (.invokestatic 105, 3) := by decide +kernel
theorem dX0_costRest_24 : decode cX0_costRest 24 = .ok (.ifCond .eq 32, 3) := by decide +kernel
theorem dX0_costRest_27 : decode cX0_costRest 27 = .ok (.aload_n 0, 1) := by decide +kernel
theorem dX0_costRest_28 : decode cX0_costRest 28 = .ok (.getfield 21, 3) := by decide +kernel
theorem dX0_costRest_31 : decode cX0_costRest 31 = .ok (.iload_n 2, 1) := by decide +kernel
theorem dX0_costRest_32 : decode cX0_costRest 32 = .ok (.iload_n 3, 1) := by decide +kernel
theorem dX0_costRest_33 : decode cX0_costRest 33 = .ok (.invokestatic 101, 3) := by decide +kernel
theorem dX0_costRest_36 : decode cX0_costRest 36 = .ok (.iload_n 2, 1) := by decide +kernel
theorem dX0_costRest_37 : decode cX0_costRest 37 = .ok (.aload_n 0, 1) := by decide +kernel
theorem dX0_costRest_38 : decode cX0_costRest 38 = .ok (.getfield 58, 3) := by decide +kernel
theorem dX0_costRest_41 : decode cX0_costRest 41 = .ok (.if_icmp .ne 7, 3) := by decide +kernel
theorem dX0_costRest_44 : decode cX0_costRest 44 = .ok (.iconst 0, 1) := by decide +kernel
theorem dX0_costRest_45 : decode cX0_costRest 45 = .ok (.goto 10, 3) := by decide +kernel
theorem dX0_costRest_48 : decode cX0_costRest 48 = .ok (.aload_n 0, 1) := by decide +kernel
theorem dX0_costRest_49 : decode cX0_costRest 49 = .ok (.aload_n 1, 1) := by decide +kernel
theorem dX0_costRest_50 : decode cX0_costRest 50 = .ok (.iload_n 2, 1) := by decide +kernel
theorem dX0_costRest_51 : decode cX0_costRest 51 = .ok (.iload_n 3, 1) := by decide +kernel
theorem dX0_costRest_52 : decode cX0_costRest 52 = .ok (.invokevirtual 108, 3) := by decide +kernel
theorem dX0_costRest_55 : decode cX0_costRest 55 = .ok (.iastore, 1) := by decide +kernel
theorem dX0_costRest_56 : decode cX0_costRest 56 = .ok (.iinc 3 1, 3) := by decide +kernel
theorem dX0_costRest_59 : decode cX0_costRest 59 = .ok (.goto (-48), 3) := by decide +kernel
theorem dX0_costRest_62 : decode cX0_costRest 62 = .ok (.iinc 2 (-1), 3) := by decide +kernel
theorem dX0_costRest_65 : decode cX0_costRest 65 = .ok (.goto (-60), 3) := by decide +kernel
theorem dX0_costRest_68 : decode cX0_costRest 68 = .ok (.return_, 1) := by decide +kernel
theorem dX0_cheapestOn_0 : decode cX0_cheapestOn 0 = .ok (.aload_n 0, 1) := by decide +kernel
theorem dX0_cheapestOn_1 : decode cX0_cheapestOn 1 = .ok (.getfield 9, 3) := by decide +kernel
theorem dX0_cheapestOn_4 : decode cX0_cheapestOn 4 = .ok (.iload_n 2, 1) := by decide +kernel
theorem dX0_cheapestOn_5 : decode cX0_cheapestOn 5 = .ok (.iload_n 3, 1) := by decide +kernel
theorem dX0_cheapestOn_6 : decode cX0_cheapestOn 6 = .ok (.invokestatic 101, 3) := by decide +kernel
theorem dX0_cheapestOn_9 : decode cX0_cheapestOn 9 = .ok (.iaload, 1) := by decide +kernel
theorem dX0_cheapestOn_10 : decode cX0_cheapestOn 10 = .ok (.istore 4, 2) := by decide +kernel
theorem dX0_cheapestOn_12 : decode cX0_cheapestOn 12 = .ok (.ldc 112, 2) := by decide +kernel
theorem dX0_cheapestOn_14 : decode cX0_cheapestOn 14 = .ok (.istore 5, 2) := by decide +kernel
theorem dX0_cheapestOn_16 : decode cX0_cheapestOn 16 = .ok (.iconst 0, 1) := by decide +kernel
theorem dX0_cheapestOn_17 : decode cX0_cheapestOn 17 = .ok (.istore 6, 2) := by decide +kernel
theorem dX0_cheapestOn_19 : decode cX0_cheapestOn 19 = .ok (.iload 6, 2) := by decide +kernel
theorem dX0_cheapestOn_21 : decode cX0_cheapestOn 21 = .ok (.aload_n 0, 1) := by decide +kernel
theorem dX0_cheapestOn_22 : decode cX0_cheapestOn 22 = .ok (.getfield 57, 3) := by decide +kernel
theorem dX0_cheapestOn_25 : decode cX0_cheapestOn 25 = .ok (.if_icmp .ge 50, 3) := by decide +kernel
theorem dX0_cheapestOn_28 : decode cX0_cheapestOn 28 = .ok (.iload 4, 2) := by decide +kernel
theorem dX0_cheapestOn_30 : decode cX0_cheapestOn 30 = .ok (.iload 6, 2) := by decide +kernel
theorem dX0_cheapestOn_32 : decode cX0_cheapestOn 32 = .ok (.invokestatic 47, 3) := by decide +kernel
theorem dX0_cheapestOn_35 : decode cX0_cheapestOn 35 = .ok (.ifCond .eq 34, 3) := by decide +kernel
theorem dX0_cheapestOn_38 : decode cX0_cheapestOn 38 = .ok (.aload_n 0, 1) := by decide +kernel
theorem dX0_cheapestOn_39 : decode cX0_cheapestOn 39 = .ok (.getfield 21, 3) := by decide +kernel
theorem dX0_cheapestOn_42 : decode cX0_cheapestOn 42 = .ok (.iload_n 2, 1) := by decide +kernel
theorem dX0_cheapestOn_43 : decode cX0_cheapestOn 43 = .ok (.iload 6, 2) := by decide +kernel
theorem dX0_cheapestOn_45 : decode cX0_cheapestOn 45 = .ok (.invokestatic 113, 3) := by decide +kernel
theorem dX0_cheapestOn_48 : decode cX0_cheapestOn 48 = .ok (.iaload, 1) := by decide +kernel
theorem dX0_cheapestOn_49 : decode cX0_cheapestOn 49 = .ok (.aload_n 1, 1) := by decide +kernel
theorem dX0_cheapestOn_50 : decode cX0_cheapestOn 50 = .ok (.iload_n 2, 1) := by decide +kernel
theorem dX0_cheapestOn_51 : decode cX0_cheapestOn 51 = .ok (.iload_n 3, 1) := by decide +kernel
theorem dX0_cheapestOn_52 : decode cX0_cheapestOn 52 = .ok (.iload 6, 2) := by decide +kernel
theorem dX0_cheapestOn_54 : decode cX0_cheapestOn 54 = .ok (.invokevirtual 116, 3) := by decide +kernel
theorem dX0_cheapestOn_57 : decode cX0_cheapestOn 57 = .ok (.iadd, 1) := by decide +kernel
theorem dX0_cheapestOn_58 : decode cX0_cheapestOn 58 = .ok (.istore 7, 2) := by decide +kernel
theorem dX0_cheapestOn_60 : decode cX0_cheapestOn 60 = .ok (.iload 5, 2) := by decide +kernel
theorem dX0_cheapestOn_62 : decode cX0_cheapestOn 62 = .ok (.iload 7, 2) := by decide +kernel
theorem dX0_cheapestOn_64 : decode cX0_cheapestOn 64 = .ok (.invokestatic 122, 3) := by decide +kernel
theorem dX0_cheapestOn_67 : decode cX0_cheapestOn 67 = .ok (.istore 5, 2) := by decide +kernel
theorem dX0_cheapestOn_69 : decode cX0_cheapestOn 69 = .ok (.iinc 6 1, 3) := by decide +kernel
theorem dX0_cheapestOn_72 : decode cX0_cheapestOn 72 = .ok (.goto (-53), 3) := by decide +kernel
theorem dX0_cheapestOn_75 : decode cX0_cheapestOn 75 = .ok (.iload 5, 2) := by decide +kernel
theorem dX0_cheapestOn_77 : decode cX0_cheapestOn 77 = .ok (.ireturn, 1) := by decide +kernel
theorem dX0_keepCheapest_0 : decode cX0_keepCheapest 0 = .ok (.iconst 0, 1) := by decide +kernel
theorem dX0_keepCheapest_1 : decode cX0_keepCheapest 1 = .ok (.istore_n 2, 1) := by decide +kernel
theorem dX0_keepCheapest_2 : decode cX0_keepCheapest 2 = .ok (.iload_n 2, 1) := by decide +kernel
theorem dX0_keepCheapest_3 : decode cX0_keepCheapest 3 = .ok (.aload_n 0, 1) := by decide +kernel
theorem dX0_keepCheapest_4 : decode cX0_keepCheapest 4 = .ok (.getfield 58, 3) := by decide +kernel
theorem dX0_keepCheapest_7 : decode cX0_keepCheapest 7 = .ok (.if_icmp .gt 50, 3) := by decide +kernel
theorem dX0_keepCheapest_10 : decode cX0_keepCheapest 10 = .ok (.iconst 0, 1) := by decide +kernel
theorem dX0_keepCheapest_11 : decode cX0_keepCheapest 11 = .ok (.istore_n 3, 1) := by decide +kernel
theorem dX0_keepCheapest_12 : decode cX0_keepCheapest 12 = .ok (.iload_n 3, 1) := by decide +kernel
theorem dX0_keepCheapest_13 : decode cX0_keepCheapest 13 = .ok (.aload_n 0, 1) := by decide +kernel
theorem dX0_keepCheapest_14 : decode cX0_keepCheapest 14 = .ok (.getfield 57, 3) := by decide +kernel
theorem dX0_keepCheapest_17 : decode cX0_keepCheapest 17 = .ok (.if_icmp .ge 34, 3) := by decide +kernel
theorem dX0_keepCheapest_20 : decode cX0_keepCheapest 20 = .ok (.iload_n 2, 1) := by decide +kernel
theorem dX0_keepCheapest_21 : decode cX0_keepCheapest 21 = .ok (.iload_n 3, 1) := by decide +kernel
theorem dX0_keepCheapest_22 : decode cX0_keepCheapest 22 = .ok (.invokestatic 105, 3) := by decide +kernel
theorem dX0_keepCheapest_25 : decode cX0_keepCheapest 25 = .ok (.ifCond .eq 20, 3) := by decide +kernel
theorem dX0_keepCheapest_28 : decode cX0_keepCheapest 28 = .ok (.aload_n 0, 1) := by decide +kernel
theorem dX0_keepCheapest_29 : decode cX0_keepCheapest 29 = .ok (.getfield 9, 3) := by decide +kernel
theorem dX0_keepCheapest_32 : decode cX0_keepCheapest 32 = .ok (.iload_n 2, 1) := by decide +kernel
theorem dX0_keepCheapest_33 : decode cX0_keepCheapest 33 = .ok (.iload_n 3, 1) := by decide +kernel
theorem dX0_keepCheapest_34 : decode cX0_keepCheapest 34 = .ok (.invokestatic 101, 3) := by decide +kernel
theorem dX0_keepCheapest_37 : decode cX0_keepCheapest 37 = .ok (.aload_n 0, 1) := by decide +kernel
theorem dX0_keepCheapest_38 : decode cX0_keepCheapest 38 = .ok (.aload_n 1, 1) := by decide +kernel
theorem dX0_keepCheapest_39 : decode cX0_keepCheapest 39 = .ok (.iload_n 2, 1) := by decide +kernel
theorem dX0_keepCheapest_40 : decode cX0_keepCheapest 40 = .ok (.iload_n 3, 1) := by decide +kernel
theorem dX0_keepCheapest_41 : decode cX0_keepCheapest 41 = .ok (.invokevirtual 127, 3) := by decide +kernel
theorem dX0_keepCheapest_44 : decode cX0_keepCheapest 44 = .ok (.iastore, 1) := by decide +kernel
theorem dX0_keepCheapest_45 : decode cX0_keepCheapest 45 = .ok (.iinc 3 1, 3) := by decide +kernel
theorem dX0_keepCheapest_48 : decode cX0_keepCheapest 48 = .ok (.goto (-36), 3) := by decide +kernel
theorem dX0_keepCheapest_51 : decode cX0_keepCheapest 51 = .ok (.iinc 2 1, 3) := by decide +kernel
theorem dX0_keepCheapest_54 : decode cX0_keepCheapest 54 = .ok (.goto (-52), 3) := by decide +kernel
theorem dX0_keepCheapest_57 : decode cX0_keepCheapest 57 = .ok (.return_, 1) := by decide +kernel
theorem dX0_cheapestNext_0 : decode cX0_cheapestNext 0 = .ok (.iload_n 2, 1) := by decide +kernel
theorem dX0_cheapestNext_1 : decode cX0_cheapestNext 1 = .ok (.iload_n 3, 1) := by decide +kernel
theorem dX0_cheapestNext_2 : decode cX0_cheapestNext 2 = .ok (.invokestatic 101, 3) := by decide +kernel
theorem dX0_cheapestNext_5 : decode cX0_cheapestNext 5 = .ok (.istore 4, 2) := by decide +kernel
theorem dX0_cheapestNext_7 : decode cX0_cheapestNext 7 = .ok (.iconst 0, 1) := by decide +kernel
theorem dX0_cheapestNext_8 : decode cX0_cheapestNext 8 = .ok (.istore 5, 2) := by decide +kernel
theorem dX0_cheapestNext_10 : decode cX0_cheapestNext 10 = .ok (.iconst 0, 1) := by decide +kernel
theorem dX0_cheapestNext_11 : decode cX0_cheapestNext 11 = .ok (.istore 6, 2) := by decide +kernel
theorem dX0_cheapestNext_13 : decode cX0_cheapestNext 13 = .ok (.iload 6, 2) := by decide +kernel
theorem dX0_cheapestNext_15 : decode cX0_cheapestNext 15 = .ok (.aload_n 0, 1) := by decide +kernel
theorem dX0_cheapestNext_16 : decode cX0_cheapestNext 16 = .ok (.getfield 57, 3) := by decide +kernel
theorem dX0_cheapestNext_19 : decode cX0_cheapestNext 19 = .ok (.if_icmp .ge 75, 3) := by decide +kernel
theorem dX0_cheapestNext_22 : decode cX0_cheapestNext 22 = .ok (.aload_n 0, 1) := by decide +kernel
theorem dX0_cheapestNext_23 : decode cX0_cheapestNext 23 = .ok (.getfield 21, 3) := by decide +kernel
theorem dX0_cheapestNext_26 : decode cX0_cheapestNext 26 = .ok (.iload 4, 2) := by decide +kernel
theorem dX0_cheapestNext_28 : decode cX0_cheapestNext 28 = .ok (.iaload, 1) := by decide +kernel
theorem dX0_cheapestNext_29 : decode cX0_cheapestNext 29 = .ok (.ldc 112, 2) := by decide +kernel
theorem dX0_cheapestNext_31 : decode cX0_cheapestNext 31 = .ok (.if_icmp .ge 63, 3) := by decide +kernel
theorem dX0_cheapestNext_34 : decode cX0_cheapestNext 34 = .ok (.aload_n 0, 1) := by decide +kernel
theorem dX0_cheapestNext_35 : decode cX0_cheapestNext 35 = .ok (.getfield 9, 3) := by decide +kernel
theorem dX0_cheapestNext_38 : decode cX0_cheapestNext 38 = .ok (.iload 4, 2) := by decide +kernel
theorem dX0_cheapestNext_40 : decode cX0_cheapestNext 40 = .ok (.iaload, 1) := by decide +kernel
theorem dX0_cheapestNext_41 : decode cX0_cheapestNext 41 = .ok (.iload 6, 2) := by decide +kernel
theorem dX0_cheapestNext_43 : decode cX0_cheapestNext 43 = .ok (.invokestatic 47, 3) := by decide +kernel
theorem dX0_cheapestNext_46 : decode cX0_cheapestNext 46 = .ok (.ifCond .eq 42, 3) := by decide +kernel
theorem dX0_cheapestNext_49 : decode cX0_cheapestNext 49 = .ok (.aload_n 0, 1) := by decide +kernel
theorem dX0_cheapestNext_50 : decode cX0_cheapestNext 50 = .ok (.getfield 21, 3) := by decide +kernel
theorem dX0_cheapestNext_53 : decode cX0_cheapestNext 53 = .ok (.iload_n 2, 1) := by decide +kernel
theorem dX0_cheapestNext_54 : decode cX0_cheapestNext 54 = .ok (.iload 6, 2) := by decide +kernel
theorem dX0_cheapestNext_56 : decode cX0_cheapestNext 56 = .ok (.invokestatic 113, 3) := by decide +kernel
theorem dX0_cheapestNext_59 : decode cX0_cheapestNext 59 = .ok (.iaload, 1) := by decide +kernel
theorem dX0_cheapestNext_60 : decode cX0_cheapestNext 60 = .ok (.aload_n 1, 1) := by decide +kernel
theorem dX0_cheapestNext_61 : decode cX0_cheapestNext 61 = .ok (.iload_n 2, 1) := by decide +kernel
theorem dX0_cheapestNext_62 : decode cX0_cheapestNext 62 = .ok (.iload_n 3, 1) := by decide +kernel
theorem dX0_cheapestNext_63 : decode cX0_cheapestNext 63 = .ok (.iload 6, 2) := by decide +kernel
theorem dX0_cheapestNext_65 : decode cX0_cheapestNext 65 = .ok (.invokevirtual 116, 3) := by decide +kernel
theorem dX0_cheapestNext_68 : decode cX0_cheapestNext 68 = .ok (.iadd, 1) := by decide +kernel
theorem dX0_cheapestNext_69 : decode cX0_cheapestNext 69 = .ok (.aload_n 0, 1) := by decide +kernel
theorem dX0_cheapestNext_70 : decode cX0_cheapestNext 70 = .ok (.getfield 21, 3) := by decide +kernel
theorem dX0_cheapestNext_73 : decode cX0_cheapestNext 73 = .ok (.iload 4, 2) := by decide +kernel
theorem dX0_cheapestNext_75 : decode cX0_cheapestNext 75 = .ok (.iaload, 1) := by decide +kernel
theorem dX0_cheapestNext_76 : decode cX0_cheapestNext 76 = .ok (.if_icmp .ne 12, 3) := by decide +kernel
theorem dX0_cheapestNext_79 : decode cX0_cheapestNext 79 = .ok (.iload 5, 2) := by decide +kernel
theorem dX0_cheapestNext_81 : decode cX0_cheapestNext 81 = .ok (.iconst 1, 1) := by decide +kernel
theorem dX0_cheapestNext_82 : decode cX0_cheapestNext 82 = .ok (.iload 6, 2) := by decide +kernel
theorem dX0_cheapestNext_84 : decode cX0_cheapestNext 84 = .ok (.ishl, 1) := by decide +kernel
theorem dX0_cheapestNext_85 : decode cX0_cheapestNext 85 = .ok (.ior, 1) := by decide +kernel
theorem dX0_cheapestNext_86 : decode cX0_cheapestNext 86 = .ok (.istore 5, 2) := by decide +kernel
theorem dX0_cheapestNext_88 : decode cX0_cheapestNext 88 = .ok (.iinc 6 1, 3) := by decide +kernel
theorem dX0_cheapestNext_91 : decode cX0_cheapestNext 91 = .ok (.goto (-78), 3) := by decide +kernel
theorem dX0_cheapestNext_94 : decode cX0_cheapestNext 94 = .ok (.iload 5, 2) := by decide +kernel
theorem dX0_cheapestNext_96 : decode cX0_cheapestNext 96 = .ok (.ireturn, 1) := by decide +kernel
theorem dX0_countWaysOn_0 : decode cX0_countWaysOn 0 = .ok (.aload_n 0, 1) := by decide +kernel
theorem dX0_countWaysOn_1 : decode cX0_countWaysOn 1 = .ok (.getfield 58, 3) := by decide +kernel
theorem dX0_countWaysOn_4 : decode cX0_countWaysOn 4 = .ok (.istore_n 1, 1) := by decide +kernel
theorem dX0_countWaysOn_5 : decode cX0_countWaysOn 5 = .ok (.iload_n 1, 1) := by decide +kernel
theorem dX0_countWaysOn_6 : decode cX0_countWaysOn 6 = .ok (.ifCond .lt 72, 3) := by decide +kernel
theorem dX0_countWaysOn_9 : decode cX0_countWaysOn 9 = .ok (.iconst 0, 1) := by decide +kernel
theorem dX0_countWaysOn_10 : decode cX0_countWaysOn 10 = .ok (.istore_n 2, 1) := by decide +kernel
theorem dX0_countWaysOn_11 : decode cX0_countWaysOn 11 = .ok (.iload_n 2, 1) := by decide +kernel
theorem dX0_countWaysOn_12 : decode cX0_countWaysOn 12 = .ok (.aload_n 0, 1) := by decide +kernel
theorem dX0_countWaysOn_13 : decode cX0_countWaysOn 13 = .ok (.getfield 57, 3) := by decide +kernel
theorem dX0_countWaysOn_16 : decode cX0_countWaysOn 16 = .ok (.if_icmp .ge 56, 3) := by decide +kernel
theorem dX0_countWaysOn_19 : decode cX0_countWaysOn 19 = .ok (.iload_n 1, 1) := by decide +kernel
theorem dX0_countWaysOn_20 : decode cX0_countWaysOn 20 = .ok (.iload_n 2, 1) := by decide +kernel
theorem dX0_countWaysOn_21 : decode cX0_countWaysOn 21 = .ok (.invokestatic 105, 3) := by decide +kernel
theorem dX0_countWaysOn_24 : decode cX0_countWaysOn 24 = .ok (.ifCond .eq 42, 3) := by decide +kernel
theorem dX0_countWaysOn_27 : decode cX0_countWaysOn 27 = .ok (.iload_n 1, 1) := by decide +kernel
theorem dX0_countWaysOn_28 : decode cX0_countWaysOn 28 = .ok (.iload_n 2, 1) := by decide +kernel
theorem dX0_countWaysOn_29 : decode cX0_countWaysOn 29 = .ok (.invokestatic 101, 3) := by decide +kernel
theorem dX0_countWaysOn_32 : decode cX0_countWaysOn 32 = .ok (.istore_n 3, 1) := by decide +kernel
theorem dX0_countWaysOn_33 : decode cX0_countWaysOn 33 = .ok (.aload_n 0, 1) := by decide +kernel
theorem dX0_countWaysOn_34 : decode cX0_countWaysOn 34 = .ok (.getfield 15, 3) := by decide +kernel
theorem dX0_countWaysOn_37 : decode cX0_countWaysOn 37 = .ok (.iload_n 3, 1) := by decide +kernel
theorem dX0_countWaysOn_38 : decode cX0_countWaysOn 38 = .ok (.iload_n 1, 1) := by decide +kernel
theorem dX0_countWaysOn_39 : decode cX0_countWaysOn 39 = .ok (.aload_n 0, 1) := by decide +kernel
theorem dX0_countWaysOn_40 : decode cX0_countWaysOn 40 = .ok (.getfield 58, 3) := by decide +kernel
theorem dX0_countWaysOn_43 : decode cX0_countWaysOn 43 = .ok (.if_icmp .ne 7, 3) := by decide +kernel
theorem dX0_countWaysOn_46 : decode cX0_countWaysOn 46 = .ok (.iconst 1, 1) := by decide +kernel
theorem dX0_countWaysOn_47 : decode cX0_countWaysOn 47 = .ok (.goto 18, 3) := by decide +kernel
theorem dX0_countWaysOn_50 : decode cX0_countWaysOn 50 = .ok (.aload_n 0, 1) := by decide +kernel
theorem dX0_countWaysOn_51 : decode cX0_countWaysOn 51 = .ok (.aload_n 0, 1) := by decide +kernel
theorem dX0_countWaysOn_52 : decode cX0_countWaysOn 52 = .ok (.getfield 15, 3) := by decide +kernel
theorem dX0_countWaysOn_55 : decode cX0_countWaysOn 55 = .ok (.aload_n 0, 1) := by decide +kernel
theorem dX0_countWaysOn_56 : decode cX0_countWaysOn 56 = .ok (.getfield 9, 3) := by decide +kernel
theorem dX0_countWaysOn_59 : decode cX0_countWaysOn 59 = .ok (.iload_n 3, 1) := by decide +kernel
theorem dX0_countWaysOn_60 : decode cX0_countWaysOn 60 = .ok (.iaload, 1) := by decide +kernel
theorem dX0_countWaysOn_61 : decode cX0_countWaysOn 61 = .ok (.iload_n 1, 1) := by decide +kernel
theorem dX0_countWaysOn_62 : decode cX0_countWaysOn 62 = .ok (.invokevirtual 130, 3) := by decide +kernel
theorem dX0_countWaysOn_65 : decode cX0_countWaysOn 65 = .ok (.iastore, 1) := by decide +kernel
theorem dX0_countWaysOn_66 : decode cX0_countWaysOn 66 = .ok (.iinc 2 1, 3) := by decide +kernel
theorem dX0_countWaysOn_69 : decode cX0_countWaysOn 69 = .ok (.goto (-58), 3) := by decide +kernel
theorem dX0_countWaysOn_72 : decode cX0_countWaysOn 72 = .ok (.iinc 1 (-1), 3) := by decide +kernel
theorem dX0_countWaysOn_75 : decode cX0_countWaysOn 75 = .ok (.goto (-70), 3) := by decide +kernel
theorem dX0_countWaysOn_78 : decode cX0_countWaysOn 78 = .ok (.return_, 1) := by decide +kernel
theorem dX0_sumOver_0 : decode cX0_sumOver 0 = .ok (.iconst 0, 1) := by decide +kernel
theorem dX0_sumOver_1 : decode cX0_sumOver 1 = .ok (.istore 4, 2) := by decide +kernel
theorem dX0_sumOver_3 : decode cX0_sumOver 3 = .ok (.iconst 0, 1) := by decide +kernel
theorem dX0_sumOver_4 : decode cX0_sumOver 4 = .ok (.istore 5, 2) := by decide +kernel
theorem dX0_sumOver_6 : decode cX0_sumOver 6 = .ok (.iload 5, 2) := by decide +kernel
theorem dX0_sumOver_8 : decode cX0_sumOver 8 = .ok (.aload_n 0, 1) := by decide +kernel
theorem dX0_sumOver_9 : decode cX0_sumOver 9 = .ok (.getfield 57, 3) := by decide +kernel
theorem dX0_sumOver_12 : decode cX0_sumOver 12 = .ok (.if_icmp .ge 31, 3) := by decide +kernel
theorem dX0_sumOver_15 : decode cX0_sumOver 15 = .ok (.iload_n 2, 1) := by decide +kernel
theorem dX0_sumOver_16 : decode cX0_sumOver 16 = .ok (.iload 5, 2) := by decide +kernel
theorem dX0_sumOver_18 : decode cX0_sumOver 18 = .ok (.invokestatic 47, 3) := by decide +kernel
theorem dX0_sumOver_21 : decode cX0_sumOver 21 = .ok (.ifCond .eq 16, 3) := by decide +kernel
theorem dX0_sumOver_24 : decode cX0_sumOver 24 = .ok (.iload 4, 2) := by decide +kernel
theorem dX0_sumOver_26 : decode cX0_sumOver 26 = .ok (.aload_n 1, 1) := by decide +kernel
theorem dX0_sumOver_27 : decode cX0_sumOver 27 = .ok (.iload_n 3, 1) := by decide +kernel
theorem dX0_sumOver_28 : decode cX0_sumOver 28 = .ok (.iload 5, 2) := by decide +kernel
theorem dX0_sumOver_30 : decode cX0_sumOver 30 = .ok (.invokestatic 113, 3) := by decide +kernel
theorem dX0_sumOver_33 : decode cX0_sumOver 33 = .ok (.iaload, 1) := by decide +kernel
theorem dX0_sumOver_34 : decode cX0_sumOver 34 = .ok (.iadd, 1) := by decide +kernel
theorem dX0_sumOver_35 : decode cX0_sumOver 35 = .ok (.istore 4, 2) := by decide +kernel
theorem dX0_sumOver_37 : decode cX0_sumOver 37 = .ok (.iinc 5 1, 3) := by decide +kernel
theorem dX0_sumOver_40 : decode cX0_sumOver 40 = .ok (.goto (-34), 3) := by decide +kernel
theorem dX0_sumOver_43 : decode cX0_sumOver 43 = .ok (.iload 4, 2) := by decide +kernel
theorem dX0_sumOver_45 : decode cX0_sumOver 45 = .ok (.ireturn, 1) := by decide +kernel
theorem dX0_countWaysTo_0 : decode cX0_countWaysTo 0 = .ok (.iconst 0, 1) := by decide +kernel
theorem dX0_countWaysTo_1 : decode cX0_countWaysTo 1 = .ok (.istore_n 1, 1) := by decide +kernel
theorem dX0_countWaysTo_2 : decode cX0_countWaysTo 2 = .ok (.iload_n 1, 1) := by decide +kernel
theorem dX0_countWaysTo_3 : decode cX0_countWaysTo 3 = .ok (.aload_n 0, 1) := by decide +kernel
theorem dX0_countWaysTo_4 : decode cX0_countWaysTo 4 = .ok (.getfield 58, 3) := by decide +kernel
theorem dX0_countWaysTo_7 : decode cX0_countWaysTo 7 = .ok (.iconst 1, 1) := by decide +kernel
theorem dX0_countWaysTo_8 : decode cX0_countWaysTo 8 = .ok (.iadd, 1) := by decide +kernel
theorem dX0_countWaysTo_9 : decode cX0_countWaysTo 9 = .ok (.bipush 8, 2) := by decide +kernel
theorem dX0_countWaysTo_11 : decode cX0_countWaysTo 11 = .ok (.imul, 1) := by decide +kernel
theorem dX0_countWaysTo_12 : decode cX0_countWaysTo 12 = .ok (.if_icmp .ge 16, 3) := by decide +kernel
theorem dX0_countWaysTo_15 : decode cX0_countWaysTo 15 = .ok (.aload_n 0, 1) := by decide +kernel
theorem dX0_countWaysTo_16 : decode cX0_countWaysTo 16 = .ok (.getfield 18, 3) := by decide +kernel
theorem dX0_countWaysTo_19 : decode cX0_countWaysTo 19 = .ok (.iload_n 1, 1) := by decide +kernel
theorem dX0_countWaysTo_20 : decode cX0_countWaysTo 20 = .ok (.iconst 0, 1) := by decide +kernel
theorem dX0_countWaysTo_21 : decode cX0_countWaysTo 21 = .ok (.iastore, 1) := by decide +kernel
theorem dX0_countWaysTo_22 : decode cX0_countWaysTo 22 = .ok (.iinc 1 1, 3) := by decide +kernel
theorem dX0_countWaysTo_25 : decode cX0_countWaysTo 25 = .ok (.goto (-23), 3) := by decide +kernel
theorem dX0_countWaysTo_28 : decode cX0_countWaysTo 28 = .ok (.aload_n 0, 1) := by decide +kernel
theorem dX0_countWaysTo_29 : decode cX0_countWaysTo 29 = .ok (.getfield 18, 3) := by decide +kernel
theorem dX0_countWaysTo_32 : decode cX0_countWaysTo 32 = .ok (.iconst 0, 1) := by decide +kernel
theorem dX0_countWaysTo_33 : decode cX0_countWaysTo 33 = .ok (.aload_n 0, 1) := by decide +kernel
theorem dX0_countWaysTo_34 : decode cX0_countWaysTo 34 = .ok (.invokevirtual 134, 3) := by decide +kernel
theorem dX0_countWaysTo_37 : decode cX0_countWaysTo 37 = .ok (.ifCond .le 7, 3) := by decide +kernel
theorem dX0_countWaysTo_40 : decode cX0_countWaysTo 40 = .ok (.iconst 1, 1) := by decide +kernel
theorem dX0_countWaysTo_41 : decode cX0_countWaysTo 41 = .ok (.goto 4, 3) := by decide +kernel
theorem dX0_countWaysTo_44 : decode cX0_countWaysTo 44 = .ok (.iconst 0, 1) := by decide +kernel
theorem dX0_countWaysTo_45 : decode cX0_countWaysTo 45 = .ok (.iastore, 1) := by decide +kernel
theorem dX0_countWaysTo_46 : decode cX0_countWaysTo 46 = .ok (.iconst 0, 1) := by decide +kernel
theorem dX0_countWaysTo_47 : decode cX0_countWaysTo 47 = .ok (.istore_n 1, 1) := by decide +kernel
theorem dX0_countWaysTo_48 : decode cX0_countWaysTo 48 = .ok (.iload_n 1, 1) := by decide +kernel
theorem dX0_countWaysTo_49 : decode cX0_countWaysTo 49 = .ok (.aload_n 0, 1) := by decide +kernel
theorem dX0_countWaysTo_50 : decode cX0_countWaysTo 50 = .ok (.getfield 58, 3) := by decide +kernel
theorem dX0_countWaysTo_53 : decode cX0_countWaysTo 53 = .ok (.if_icmp .gt 46, 3) := by decide +kernel
theorem dX0_countWaysTo_56 : decode cX0_countWaysTo 56 = .ok (.aload_n 0, 1) := by decide +kernel
theorem dX0_countWaysTo_57 : decode cX0_countWaysTo 57 = .ok (.getfield 24, 3) := by decide +kernel
theorem dX0_countWaysTo_60 : decode cX0_countWaysTo 60 = .ok (.iload_n 1, 1) := by decide +kernel
theorem dX0_countWaysTo_61 : decode cX0_countWaysTo 61 = .ok (.iconst 0, 1) := by decide +kernel
theorem dX0_countWaysTo_62 : decode cX0_countWaysTo 62 = .ok (.iastore, 1) := by decide +kernel
theorem dX0_countWaysTo_63 : decode cX0_countWaysTo 63 = .ok (.iconst 0, 1) := by decide +kernel
theorem dX0_countWaysTo_64 : decode cX0_countWaysTo 64 = .ok (.istore_n 2, 1) := by decide +kernel
theorem dX0_countWaysTo_65 : decode cX0_countWaysTo 65 = .ok (.iload_n 2, 1) := by decide +kernel
theorem dX0_countWaysTo_66 : decode cX0_countWaysTo 66 = .ok (.aload_n 0, 1) := by decide +kernel
theorem dX0_countWaysTo_67 : decode cX0_countWaysTo 67 = .ok (.getfield 57, 3) := by decide +kernel
theorem dX0_countWaysTo_70 : decode cX0_countWaysTo 70 = .ok (.if_icmp .ge 23, 3) := by decide +kernel
theorem dX0_countWaysTo_73 : decode cX0_countWaysTo 73 = .ok (.iload_n 1, 1) := by decide +kernel
theorem dX0_countWaysTo_74 : decode cX0_countWaysTo 74 = .ok (.iload_n 2, 1) := by decide +kernel
theorem dX0_countWaysTo_75 : decode cX0_countWaysTo 75 = .ok (.invokestatic 105, 3) := by decide +kernel
theorem dX0_countWaysTo_78 : decode cX0_countWaysTo 78 = .ok (.ifCond .eq 9, 3) := by decide +kernel
theorem dX0_countWaysTo_81 : decode cX0_countWaysTo 81 = .ok (.aload_n 0, 1) := by decide +kernel
theorem dX0_countWaysTo_82 : decode cX0_countWaysTo 82 = .ok (.iload_n 1, 1) := by decide +kernel
theorem dX0_countWaysTo_83 : decode cX0_countWaysTo 83 = .ok (.iload_n 2, 1) := by decide +kernel
theorem dX0_countWaysTo_84 : decode cX0_countWaysTo 84 = .ok (.invokevirtual 137, 3) := by decide +kernel
theorem dX0_countWaysTo_87 : decode cX0_countWaysTo 87 = .ok (.iinc 2 1, 3) := by decide +kernel
theorem dX0_countWaysTo_90 : decode cX0_countWaysTo 90 = .ok (.goto (-25), 3) := by decide +kernel
theorem dX0_countWaysTo_93 : decode cX0_countWaysTo 93 = .ok (.iinc 1 1, 3) := by decide +kernel
theorem dX0_countWaysTo_96 : decode cX0_countWaysTo 96 = .ok (.goto (-48), 3) := by decide +kernel
theorem dX0_countWaysTo_99 : decode cX0_countWaysTo 99 = .ok (.return_, 1) := by decide +kernel
theorem dX0_passOn_0 : decode cX0_passOn 0 = .ok (.iload_n 1, 1) := by decide +kernel
theorem dX0_passOn_1 : decode cX0_passOn 1 = .ok (.iload_n 2, 1) := by decide +kernel
theorem dX0_passOn_2 : decode cX0_passOn 2 = .ok (.invokestatic 101, 3) := by decide +kernel
theorem dX0_passOn_5 : decode cX0_passOn 5 = .ok (.istore_n 3, 1) := by decide +kernel
theorem dX0_passOn_6 : decode cX0_passOn 6 = .ok (.aload_n 0, 1) := by decide +kernel
theorem dX0_passOn_7 : decode cX0_passOn 7 = .ok (.getfield 18, 3) := by decide +kernel
theorem dX0_passOn_10 : decode cX0_passOn 10 = .ok (.iload_n 3, 1) := by decide +kernel
theorem dX0_passOn_11 : decode cX0_passOn 11 = .ok (.iaload, 1) := by decide +kernel
theorem dX0_passOn_12 : decode cX0_passOn 12 = .ok (.ifCond .ne 10, 3) := by decide +kernel
theorem dX0_passOn_15 : decode cX0_passOn 15 = .ok (.aload_n 0, 1) := by decide +kernel
theorem dX0_passOn_16 : decode cX0_passOn 16 = .ok (.getfield 9, 3) := by decide +kernel
theorem dX0_passOn_19 : decode cX0_passOn 19 = .ok (.iload_n 3, 1) := by decide +kernel
theorem dX0_passOn_20 : decode cX0_passOn 20 = .ok (.iconst 0, 1) := by decide +kernel
theorem dX0_passOn_21 : decode cX0_passOn 21 = .ok (.iastore, 1) := by decide +kernel
theorem dX0_passOn_22 : decode cX0_passOn 22 = .ok (.aload_n 0, 1) := by decide +kernel
theorem dX0_passOn_23 : decode cX0_passOn 23 = .ok (.getfield 24, 3) := by decide +kernel
theorem dX0_passOn_26 : decode cX0_passOn 26 = .ok (.iload_n 1, 1) := by decide +kernel
theorem dX0_passOn_27 : decode cX0_passOn 27 = .ok (.dup2, 1) := by decide +kernel
theorem dX0_passOn_28 : decode cX0_passOn 28 = .ok (.iaload, 1) := by decide +kernel
theorem dX0_passOn_29 : decode cX0_passOn 29 = .ok (.aload_n 0, 1) := by decide +kernel
theorem dX0_passOn_30 : decode cX0_passOn 30 = .ok (.getfield 9, 3) := by decide +kernel
theorem dX0_passOn_33 : decode cX0_passOn 33 = .ok (.iload_n 3, 1) := by decide +kernel
theorem dX0_passOn_34 : decode cX0_passOn 34 = .ok (.iaload, 1) := by decide +kernel
theorem dX0_passOn_35 : decode cX0_passOn 35 = .ok (.ior, 1) := by decide +kernel
theorem dX0_passOn_36 : decode cX0_passOn 36 = .ok (.iastore, 1) := by decide +kernel
theorem dX0_passOn_37 : decode cX0_passOn 37 = .ok (.iconst 0, 1) := by decide +kernel
theorem dX0_passOn_38 : decode cX0_passOn 38 = .ok (.istore 4, 2) := by decide +kernel
theorem dX0_passOn_40 : decode cX0_passOn 40 = .ok (.iload 4, 2) := by decide +kernel
theorem dX0_passOn_42 : decode cX0_passOn 42 = .ok (.aload_n 0, 1) := by decide +kernel
theorem dX0_passOn_43 : decode cX0_passOn 43 = .ok (.getfield 57, 3) := by decide +kernel
theorem dX0_passOn_46 : decode cX0_passOn 46 = .ok (.if_icmp .ge 43, 3) := by decide +kernel
theorem dX0_passOn_49 : decode cX0_passOn 49 = .ok (.aload_n 0, 1) := by decide +kernel
theorem dX0_passOn_50 : decode cX0_passOn 50 = .ok (.getfield 9, 3) := by decide +kernel
theorem dX0_passOn_53 : decode cX0_passOn 53 = .ok (.iload_n 3, 1) := by decide +kernel
theorem dX0_passOn_54 : decode cX0_passOn 54 = .ok (.iaload, 1) := by decide +kernel
theorem dX0_passOn_55 : decode cX0_passOn 55 = .ok (.iload 4, 2) := by decide +kernel
theorem dX0_passOn_57 : decode cX0_passOn 57 = .ok (.invokestatic 47, 3) := by decide +kernel
theorem dX0_passOn_60 : decode cX0_passOn 60 = .ok (.ifCond .eq 23, 3) := by decide +kernel
theorem dX0_passOn_63 : decode cX0_passOn 63 = .ok (.aload_n 0, 1) := by decide +kernel
theorem dX0_passOn_64 : decode cX0_passOn 64 = .ok (.getfield 18, 3) := by decide +kernel
theorem dX0_passOn_67 : decode cX0_passOn 67 = .ok (.iload_n 1, 1) := by decide +kernel
theorem dX0_passOn_68 : decode cX0_passOn 68 = .ok (.iload 4, 2) := by decide +kernel
theorem dX0_passOn_70 : decode cX0_passOn 70 = .ok (.invokestatic 113, 3) := by decide +kernel
theorem dX0_passOn_73 : decode cX0_passOn 73 = .ok (.dup2, 1) := by decide +kernel
theorem dX0_passOn_74 : decode cX0_passOn 74 = .ok (.iaload, 1) := by decide +kernel
theorem dX0_passOn_75 : decode cX0_passOn 75 = .ok (.aload_n 0, 1) := by decide +kernel
theorem dX0_passOn_76 : decode cX0_passOn 76 = .ok (.getfield 18, 3) := by decide +kernel
theorem dX0_passOn_79 : decode cX0_passOn 79 = .ok (.iload_n 3, 1) := by decide +kernel
theorem dX0_passOn_80 : decode cX0_passOn 80 = .ok (.iaload, 1) := by decide +kernel
theorem dX0_passOn_81 : decode cX0_passOn 81 = .ok (.iadd, 1) := by decide +kernel
theorem dX0_passOn_82 : decode cX0_passOn 82 = .ok (.iastore, 1) := by decide +kernel
theorem dX0_passOn_83 : decode cX0_passOn 83 = .ok (.iinc 4 1, 3) := by decide +kernel
theorem dX0_passOn_86 : decode cX0_passOn 86 = .ok (.goto (-46), 3) := by decide +kernel
theorem dX0_passOn_89 : decode cX0_passOn 89 = .ok (.return_, 1) := by decide +kernel
theorem dX0_graveAt_0 : decode cX0_graveAt 0 = .ok (.iconst 0, 1) := by decide +kernel
theorem dX0_graveAt_1 : decode cX0_graveAt 1 = .ok (.istore_n 3, 1) := by decide +kernel
theorem dX0_graveAt_2 : decode cX0_graveAt 2 = .ok (.iconst 0, 1) := by decide +kernel
theorem dX0_graveAt_3 : decode cX0_graveAt 3 = .ok (.istore 4, 2) := by decide +kernel
theorem dX0_graveAt_5 : decode cX0_graveAt 5 = .ok (.iload_n 1, 1) := by decide +kernel
theorem dX0_graveAt_6 : decode cX0_graveAt 6 = .ok (.istore 5, 2) := by decide +kernel
theorem dX0_graveAt_8 : decode cX0_graveAt 8 = .ok (.iconst 0, 1) := by decide +kernel
theorem dX0_graveAt_9 : decode cX0_graveAt 9 = .ok (.istore 6, 2) := by decide +kernel
theorem dX0_graveAt_11 : decode cX0_graveAt 11 = .ok (.iload 6, 2) := by decide +kernel
theorem dX0_graveAt_13 : decode cX0_graveAt 13 = .ok (.iload_n 2, 1) := by decide +kernel
theorem dX0_graveAt_14 : decode cX0_graveAt 14 = .ok (.if_icmp .gt 106, 3) := by decide +kernel
theorem dX0_graveAt_17 : decode cX0_graveAt 17 = .ok (.aload_n 0, 1) := by decide +kernel
theorem dX0_graveAt_18 : decode cX0_graveAt 18 = .ok (.getfield 9, 3) := by decide +kernel
theorem dX0_graveAt_21 : decode cX0_graveAt 21 = .ok (.iload_n 3, 1) := by decide +kernel
theorem dX0_graveAt_22 : decode cX0_graveAt 22 = .ok (.iload 4, 2) := by decide +kernel
theorem dX0_graveAt_24 : decode cX0_graveAt 24 = .ok (.invokestatic 101, 3) := by decide +kernel
theorem dX0_graveAt_27 : decode cX0_graveAt 27 = .ok (.iaload, 1) := by decide +kernel
theorem dX0_graveAt_28 : decode cX0_graveAt 28 = .ok (.istore 7, 2) := by decide +kernel
theorem dX0_graveAt_30 : decode cX0_graveAt 30 = .ok (.iconst 0, 1) := by decide +kernel
theorem dX0_graveAt_31 : decode cX0_graveAt 31 = .ok (.istore 8, 2) := by decide +kernel
theorem dX0_graveAt_33 : decode cX0_graveAt 33 = .ok (.iconst 0, 1) := by decide +kernel
theorem dX0_graveAt_34 : decode cX0_graveAt 34 = .ok (.istore 9, 2) := by decide +kernel
theorem dX0_graveAt_36 : decode cX0_graveAt 36 = .ok (.iload 9, 2) := by decide +kernel
theorem dX0_graveAt_38 : decode cX0_graveAt 38 = .ok (.aload_n 0, 1) := by decide +kernel
theorem dX0_graveAt_39 : decode cX0_graveAt 39 = .ok (.getfield 57, 3) := by decide +kernel
theorem dX0_graveAt_42 : decode cX0_graveAt 42 = .ok (.if_icmp .ge 65, 3) := by decide +kernel
theorem dX0_graveAt_45 : decode cX0_graveAt 45 = .ok (.iload 8, 2) := by decide +kernel
theorem dX0_graveAt_47 : decode cX0_graveAt 47 = .ok (.ifCond .ne 60, 3) := by decide +kernel
theorem dX0_graveAt_50 : decode cX0_graveAt 50 = .ok (.iload 7, 2) := by decide +kernel
theorem dX0_graveAt_52 : decode cX0_graveAt 52 = .ok (.iload 9, 2) := by decide +kernel
theorem dX0_graveAt_54 : decode cX0_graveAt 54 = .ok (.invokestatic 47, 3) := by decide +kernel
theorem dX0_graveAt_57 : decode cX0_graveAt 57 = .ok (.ifCond .eq 17, 3) := by decide +kernel
theorem dX0_graveAt_60 : decode cX0_graveAt 60 = .ok (.aload_n 0, 1) := by decide +kernel
theorem dX0_graveAt_61 : decode cX0_graveAt 61 = .ok (.getfield 15, 3) := by decide +kernel
theorem dX0_graveAt_64 : decode cX0_graveAt 64 = .ok (.iload_n 3, 1) := by decide +kernel
theorem dX0_graveAt_65 : decode cX0_graveAt 65 = .ok (.iload 9, 2) := by decide +kernel
theorem dX0_graveAt_67 : decode cX0_graveAt 67 = .ok (.invokestatic 113, 3) := by decide +kernel
theorem dX0_graveAt_70 : decode cX0_graveAt 70 = .ok (.iaload, 1) := by decide +kernel
theorem dX0_graveAt_71 : decode cX0_graveAt 71 = .ok (.goto 4, 3) := by decide +kernel
theorem dX0_graveAt_74 : decode cX0_graveAt 74 = .ok (.iconst 0, 1) := by decide +kernel
theorem dX0_graveAt_75 : decode cX0_graveAt 75 = .ok (.istore 10, 2) := by decide +kernel
theorem dX0_graveAt_77 : decode cX0_graveAt 77 = .ok (.iload 5, 2) := by decide +kernel
theorem dX0_graveAt_79 : decode cX0_graveAt 79 = .ok (.iload 10, 2) := by decide +kernel
theorem dX0_graveAt_81 : decode cX0_graveAt 81 = .ok (.if_icmp .ge 13, 3) := by decide +kernel
theorem dX0_graveAt_84 : decode cX0_graveAt 84 = .ok (.iconst 1, 1) := by decide +kernel
theorem dX0_graveAt_85 : decode cX0_graveAt 85 = .ok (.istore 8, 2) := by decide +kernel
theorem dX0_graveAt_87 : decode cX0_graveAt 87 = .ok (.iload 9, 2) := by decide +kernel
theorem dX0_graveAt_89 : decode cX0_graveAt 89 = .ok (.istore 4, 2) := by decide +kernel
theorem dX0_graveAt_91 : decode cX0_graveAt 91 = .ok (.goto 10, 3) := by decide +kernel
theorem dX0_graveAt_94 : decode cX0_graveAt 94 = .ok (.iload 5, 2) := by decide +kernel
theorem dX0_graveAt_96 : decode cX0_graveAt 96 = .ok (.iload 10, 2) := by decide +kernel
theorem dX0_graveAt_98 : decode cX0_graveAt 98 = .ok (.isub, 1) := by decide +kernel
theorem dX0_graveAt_99 : decode cX0_graveAt 99 = .ok (.istore 5, 2) := by decide +kernel
theorem dX0_graveAt_101 : decode cX0_graveAt 101 = .ok (.iinc 9 1, 3) := by decide +kernel
theorem dX0_graveAt_104 : decode cX0_graveAt 104 = .ok (.goto (-68), 3) := by decide +kernel
theorem dX0_graveAt_107 : decode cX0_graveAt 107 = .ok (.iload_n 3, 1) := by decide +kernel
theorem dX0_graveAt_108 : decode cX0_graveAt 108 = .ok (.iconst 1, 1) := by decide +kernel
theorem dX0_graveAt_109 : decode cX0_graveAt 109 = .ok (.iload 4, 2) := by decide +kernel
theorem dX0_graveAt_111 : decode cX0_graveAt 111 = .ok (.ishl, 1) := by decide +kernel
theorem dX0_graveAt_112 : decode cX0_graveAt 112 = .ok (.ior, 1) := by decide +kernel
theorem dX0_graveAt_113 : decode cX0_graveAt 113 = .ok (.istore_n 3, 1) := by decide +kernel
theorem dX0_graveAt_114 : decode cX0_graveAt 114 = .ok (.iinc 6 1, 3) := by decide +kernel
theorem dX0_graveAt_117 : decode cX0_graveAt 117 = .ok (.goto (-106), 3) := by decide +kernel
theorem dX0_graveAt_120 : decode cX0_graveAt 120 = .ok (.iload 4, 2) := by decide +kernel
theorem dX0_graveAt_122 : decode cX0_graveAt 122 = .ok (.ireturn, 1) := by decide +kernel
theorem dX0_neighboursOf_0 : decode cX0_neighboursOf 0 = .ok (.iconst 0, 1) := by decide +kernel
theorem dX0_neighboursOf_1 : decode cX0_neighboursOf 1 = .ok (.istore_n 3, 1) := by decide +kernel
theorem dX0_neighboursOf_2 : decode cX0_neighboursOf 2 = .ok (.iconst 0, 1) := by decide +kernel
theorem dX0_neighboursOf_3 : decode cX0_neighboursOf 3 = .ok (.istore 4, 2) := by decide +kernel
theorem dX0_neighboursOf_5 : decode cX0_neighboursOf 5 = .ok (.iload 4, 2) := by decide +kernel
theorem dX0_neighboursOf_7 : decode cX0_neighboursOf 7 = .ok (.aload_n 0, 1) := by decide +kernel
theorem dX0_neighboursOf_8 : decode cX0_neighboursOf 8 = .ok (.getfield 57, 3) := by decide +kernel
theorem dX0_neighboursOf_11 : decode cX0_neighboursOf 11 = .ok (.if_icmp .ge 41, 3) := by decide +kernel
theorem dX0_neighboursOf_14 : decode cX0_neighboursOf 14 = .ok (.iload 4, 2) := by decide +kernel
theorem dX0_neighboursOf_16 : decode cX0_neighboursOf 16 = .ok (.iload_n 1, 1) := by decide +kernel
theorem dX0_neighboursOf_17 : decode cX0_neighboursOf 17 = .ok (.if_icmp .eq 29, 3) := by decide +kernel
theorem dX0_neighboursOf_20 : decode cX0_neighboursOf 20 = .ok (.aload_n 0, 1) := by decide +kernel
theorem dX0_neighboursOf_21 : decode cX0_neighboursOf 21 = .ok (.iload_n 1, 1) := by decide +kernel
theorem dX0_neighboursOf_22 : decode cX0_neighboursOf 22 = .ok (.iload 4, 2) := by decide +kernel
theorem dX0_neighboursOf_24 : decode cX0_neighboursOf 24 = .ok (.invokevirtual 141, 3) := by decide +kernel
theorem dX0_neighboursOf_27 : decode cX0_neighboursOf 27 = .ok (.aload_n 0, 1) := by decide +kernel
theorem dX0_neighboursOf_28 : decode cX0_neighboursOf 28 = .ok (.iload 4, 2) := by decide +kernel
theorem dX0_neighboursOf_30 : decode cX0_neighboursOf 30 = .ok (.iload_n 1, 1) := by decide +kernel
theorem dX0_neighboursOf_31 : decode cX0_neighboursOf 31 = .ok (.invokevirtual 141, 3) := by decide +kernel
theorem dX0_neighboursOf_34 : decode cX0_neighboursOf 34 = .ok (.iadd, 1) := by decide +kernel
theorem dX0_neighboursOf_35 : decode cX0_neighboursOf 35 = .ok (.iload_n 2, 1) := by decide +kernel
theorem dX0_neighboursOf_36 : decode cX0_neighboursOf 36 = .ok (.if_icmp .lt 10, 3) := by decide +kernel
theorem dX0_neighboursOf_39 : decode cX0_neighboursOf 39 = .ok (.iload_n 3, 1) := by decide +kernel
theorem dX0_neighboursOf_40 : decode cX0_neighboursOf 40 = .ok (.iconst 1, 1) := by decide +kernel
theorem dX0_neighboursOf_41 : decode cX0_neighboursOf 41 = .ok (.iload 4, 2) := by decide +kernel
theorem dX0_neighboursOf_43 : decode cX0_neighboursOf 43 = .ok (.ishl, 1) := by decide +kernel
theorem dX0_neighboursOf_44 : decode cX0_neighboursOf 44 = .ok (.ior, 1) := by decide +kernel
theorem dX0_neighboursOf_45 : decode cX0_neighboursOf 45 = .ok (.istore_n 3, 1) := by decide +kernel
theorem dX0_neighboursOf_46 : decode cX0_neighboursOf 46 = .ok (.iinc 4 1, 3) := by decide +kernel
theorem dX0_neighboursOf_49 : decode cX0_neighboursOf 49 = .ok (.goto (-44), 3) := by decide +kernel
theorem dX0_neighboursOf_52 : decode cX0_neighboursOf 52 = .ok (.iload_n 3, 1) := by decide +kernel
theorem dX0_neighboursOf_53 : decode cX0_neighboursOf 53 = .ok (.ireturn, 1) := by decide +kernel
theorem dX0_ordersWithNext_0 : decode cX0_ordersWithNext 0 = .ok (.iconst 0, 1) := by decide +kernel
theorem dX0_ordersWithNext_1 : decode cX0_ordersWithNext 1 = .ok (.istore_n 3, 1) := by decide +kernel
theorem dX0_ordersWithNext_2 : decode cX0_ordersWithNext 2 = .ok (.iconst 1, 1) := by decide +kernel
theorem dX0_ordersWithNext_3 : decode cX0_ordersWithNext 3 = .ok (.istore 4, 2) := by decide +kernel
theorem dX0_ordersWithNext_5 : decode cX0_ordersWithNext 5 = .ok (.iload 4, 2) := by decide +kernel
theorem dX0_ordersWithNext_7 : decode cX0_ordersWithNext 7 = .ok (.aload_n 0, 1) := by decide +kernel
theorem dX0_ordersWithNext_8 : decode cX0_ordersWithNext 8 = .ok (.getfield 58, 3) := by decide +kernel
theorem dX0_ordersWithNext_11 : decode cX0_ordersWithNext 11 = .ok (.if_icmp .gt 62, 3) := by decide +kernel
theorem dX0_ordersWithNext_14 : decode cX0_ordersWithNext 14 = .ok (.iload 4, 2) := by decide +kernel
theorem dX0_ordersWithNext_16 : decode cX0_ordersWithNext 16 = .ok (.iload_n 1, 1) := by decide +kernel
theorem dX0_ordersWithNext_17 : decode cX0_ordersWithNext 17 = .ok (.invokestatic 101, 3) := by decide +kernel
theorem dX0_ordersWithNext_20 : decode cX0_ordersWithNext 20 = .ok (.istore 5, 2) := by decide +kernel
theorem dX0_ordersWithNext_22 : decode cX0_ordersWithNext 22 = .ok (.iload 4, 2) := by decide +kernel
theorem dX0_ordersWithNext_24 : decode cX0_ordersWithNext 24 = .ok (.iload_n 1, 1) := by decide +kernel
theorem dX0_ordersWithNext_25 : decode cX0_ordersWithNext 25 = .ok (.invokestatic 47, 3) := by decide +kernel
theorem dX0_ordersWithNext_28 : decode cX0_ordersWithNext 28 = .ok (.ifCond .eq 39, 3) := by decide +kernel
theorem dX0_ordersWithNext_31 : decode cX0_ordersWithNext 31 = .ok (.aload_n 0, 1) := by decide +kernel
theorem dX0_ordersWithNext_32 : decode cX0_ordersWithNext 32 = .ok (.getfield 9, 3) := by decide +kernel
theorem dX0_ordersWithNext_35 : decode cX0_ordersWithNext 35 = .ok (.iload 5, 2) := by decide +kernel
theorem dX0_ordersWithNext_37 : decode cX0_ordersWithNext 37 = .ok (.iaload, 1) := by decide +kernel
theorem dX0_ordersWithNext_38 : decode cX0_ordersWithNext 38 = .ok (.iload_n 2, 1) := by decide +kernel
theorem dX0_ordersWithNext_39 : decode cX0_ordersWithNext 39 = .ok (.invokestatic 47, 3) := by decide +kernel
theorem dX0_ordersWithNext_42 : decode cX0_ordersWithNext 42 = .ok (.ifCond .eq 25, 3) := by decide +kernel
theorem dX0_ordersWithNext_45 : decode cX0_ordersWithNext 45 = .ok (.iload_n 3, 1) := by decide +kernel
theorem dX0_ordersWithNext_46 : decode cX0_ordersWithNext 46 = .ok (.aload_n 0, 1) := by decide +kernel
theorem dX0_ordersWithNext_47 : decode cX0_ordersWithNext 47 = .ok (.getfield 18, 3) := by decide +kernel
theorem dX0_ordersWithNext_50 : decode cX0_ordersWithNext 50 = .ok (.iload 5, 2) := by decide +kernel
theorem dX0_ordersWithNext_52 : decode cX0_ordersWithNext 52 = .ok (.iaload, 1) := by decide +kernel
theorem dX0_ordersWithNext_53 : decode cX0_ordersWithNext 53 = .ok (.aload_n 0, 1) := by decide +kernel
theorem dX0_ordersWithNext_54 : decode cX0_ordersWithNext 54 = .ok (.getfield 15, 3) := by decide +kernel
theorem dX0_ordersWithNext_57 : decode cX0_ordersWithNext 57 = .ok (.iload 4, 2) := by decide +kernel
theorem dX0_ordersWithNext_59 : decode cX0_ordersWithNext 59 = .ok (.iload_n 2, 1) := by decide +kernel
theorem dX0_ordersWithNext_60 : decode cX0_ordersWithNext 60 = .ok (.invokestatic 113, 3) := by decide +kernel
theorem dX0_ordersWithNext_63 : decode cX0_ordersWithNext 63 = .ok (.iaload, 1) := by decide +kernel
theorem dX0_ordersWithNext_64 : decode cX0_ordersWithNext 64 = .ok (.imul, 1) := by decide +kernel
theorem dX0_ordersWithNext_65 : decode cX0_ordersWithNext 65 = .ok (.iadd, 1) := by decide +kernel
theorem dX0_ordersWithNext_66 : decode cX0_ordersWithNext 66 = .ok (.istore_n 3, 1) := by decide +kernel
theorem dX0_ordersWithNext_67 : decode cX0_ordersWithNext 67 = .ok (.iinc 4 1, 3) := by decide +kernel
theorem dX0_ordersWithNext_70 : decode cX0_ordersWithNext 70 = .ok (.goto (-65), 3) := by decide +kernel
theorem dX0_ordersWithNext_73 : decode cX0_ordersWithNext 73 = .ok (.iload_n 3, 1) := by decide +kernel
theorem dX0_ordersWithNext_74 : decode cX0_ordersWithNext 74 = .ok (.ireturn, 1) := by decide +kernel
theorem dX0_leastPlaceOf_0 : decode cX0_leastPlaceOf 0 = .ok (.iconst 0, 1) := by decide +kernel
theorem dX0_leastPlaceOf_1 : decode cX0_leastPlaceOf 1 = .ok (.istore_n 2, 1) := by decide +kernel
theorem dX0_leastPlaceOf_2 : decode cX0_leastPlaceOf 2 = .ok (.iload_n 2, 1) := by decide +kernel
theorem dX0_leastPlaceOf_3 : decode cX0_leastPlaceOf 3 = .ok (.aload_n 0, 1) := by decide +kernel
theorem dX0_leastPlaceOf_4 : decode cX0_leastPlaceOf 4 = .ok (.getfield 57, 3) := by decide +kernel
theorem dX0_leastPlaceOf_7 : decode cX0_leastPlaceOf 7 = .ok (.if_icmp .ge 20, 3) := by decide +kernel
theorem dX0_leastPlaceOf_10 : decode cX0_leastPlaceOf 10 = .ok (.aload_n 0, 1) := by decide +kernel
theorem dX0_leastPlaceOf_11 : decode cX0_leastPlaceOf 11 = .ok (.iload_n 1, 1) := by decide +kernel
theorem dX0_leastPlaceOf_12 : decode cX0_leastPlaceOf 12 = .ok (.iload_n 2, 1) := by decide +kernel
theorem dX0_leastPlaceOf_13 : decode cX0_leastPlaceOf 13 = .ok (.invokevirtual 144, 3) := by decide +kernel
theorem dX0_leastPlaceOf_16 : decode cX0_leastPlaceOf 16 = .ok (.ifCond .le 5, 3) := by decide +kernel
theorem dX0_leastPlaceOf_19 : decode cX0_leastPlaceOf 19 = .ok (.iload_n 2, 1) := by decide +kernel
theorem dX0_leastPlaceOf_20 : decode cX0_leastPlaceOf 20 = .ok (.ireturn, 1) := by decide +kernel
theorem dX0_leastPlaceOf_21 : decode cX0_leastPlaceOf 21 = .ok (.iinc 2 1, 3) := by decide +kernel
theorem dX0_leastPlaceOf_24 : decode cX0_leastPlaceOf 24 = .ok (.goto (-22), 3) := by decide +kernel
theorem dX0_leastPlaceOf_27 : decode cX0_leastPlaceOf 27 = .ok (.bipush (-6), 2) := by decide +kernel
theorem dX0_leastPlaceOf_29 : decode cX0_leastPlaceOf 29 = .ok (.ireturn, 1) := by decide +kernel
theorem dX0_greatestPlaceOf_0 : decode cX0_greatestPlaceOf 0 = .ok (.aload_n 0, 1) := by decide +kernel
theorem dX0_greatestPlaceOf_1 : decode cX0_greatestPlaceOf 1 = .ok (.getfield 57, 3) := by decide +kernel
theorem dX0_greatestPlaceOf_4 : decode cX0_greatestPlaceOf 4 = .ok (.iconst 1, 1) := by decide +kernel
theorem dX0_greatestPlaceOf_5 : decode cX0_greatestPlaceOf 5 = .ok (.isub, 1) := by decide +kernel
theorem dX0_greatestPlaceOf_6 : decode cX0_greatestPlaceOf 6 = .ok (.istore_n 2, 1) := by decide +kernel
theorem dX0_greatestPlaceOf_7 : decode cX0_greatestPlaceOf 7 = .ok (.iload_n 2, 1) := by decide +kernel
theorem dX0_greatestPlaceOf_8 : decode cX0_greatestPlaceOf 8 = .ok (.ifCond .lt 20, 3) := by decide +kernel
theorem dX0_greatestPlaceOf_11 : decode cX0_greatestPlaceOf 11 = .ok (.aload_n 0, 1) := by decide +kernel
theorem dX0_greatestPlaceOf_12 : decode cX0_greatestPlaceOf 12 = .ok (.iload_n 1, 1) := by decide +kernel
theorem dX0_greatestPlaceOf_13 : decode cX0_greatestPlaceOf 13 = .ok (.iload_n 2, 1) := by decide +kernel
theorem dX0_greatestPlaceOf_14 : decode cX0_greatestPlaceOf 14 = .ok (.invokevirtual 144, 3) := by decide +kernel
theorem dX0_greatestPlaceOf_17 : decode cX0_greatestPlaceOf 17 = .ok (.ifCond .le 5, 3) := by decide +kernel
theorem dX0_greatestPlaceOf_20 : decode cX0_greatestPlaceOf 20 = .ok (.iload_n 2, 1) := by decide +kernel
theorem dX0_greatestPlaceOf_21 : decode cX0_greatestPlaceOf 21 = .ok (.ireturn, 1) := by decide +kernel
theorem dX0_greatestPlaceOf_22 : decode cX0_greatestPlaceOf 22 = .ok (.iinc 2 (-1), 3) := by decide +kernel
theorem dX0_greatestPlaceOf_25 : decode cX0_greatestPlaceOf 25 = .ok (.goto (-18), 3) := by decide +kernel
theorem dX0_greatestPlaceOf_28 : decode cX0_greatestPlaceOf 28 = .ok (.bipush (-6), 2) := by decide +kernel
theorem dX0_greatestPlaceOf_30 : decode cX0_greatestPlaceOf 30 = .ok (.ireturn, 1) := by decide +kernel
theorem dX0_ordersWithAt_0 : decode cX0_ordersWithAt 0 = .ok (.iconst 0, 1) := by decide +kernel
theorem dX0_ordersWithAt_1 : decode cX0_ordersWithAt 1 = .ok (.istore_n 3, 1) := by decide +kernel
theorem dX0_ordersWithAt_2 : decode cX0_ordersWithAt 2 = .ok (.iconst 1, 1) := by decide +kernel
theorem dX0_ordersWithAt_3 : decode cX0_ordersWithAt 3 = .ok (.istore 4, 2) := by decide +kernel
theorem dX0_ordersWithAt_5 : decode cX0_ordersWithAt 5 = .ok (.iload 4, 2) := by decide +kernel
theorem dX0_ordersWithAt_7 : decode cX0_ordersWithAt 7 = .ok (.aload_n 0, 1) := by decide +kernel
theorem dX0_ordersWithAt_8 : decode cX0_ordersWithAt 8 = .ok (.getfield 58, 3) := by decide +kernel
theorem dX0_ordersWithAt_11 : decode cX0_ordersWithAt 11 = .ok (.if_icmp .gt 39, 3) := by decide +kernel
theorem dX0_ordersWithAt_14 : decode cX0_ordersWithAt 14 = .ok (.iload 4, 2) := by decide +kernel
theorem dX0_ordersWithAt_16 : decode cX0_ordersWithAt 16 = .ok (.iload_n 1, 1) := by decide +kernel
theorem dX0_ordersWithAt_17 : decode cX0_ordersWithAt 17 = .ok (.invokestatic 47, 3) := by decide +kernel
theorem dX0_ordersWithAt_20 : decode cX0_ordersWithAt 20 = .ok (.ifCond .eq 24, 3) := by decide +kernel
theorem dX0_ordersWithAt_23 : decode cX0_ordersWithAt 23 = .ok (.iload 4, 2) := by decide +kernel
theorem dX0_ordersWithAt_25 : decode cX0_ordersWithAt 25 = .ok (.invokestatic 80, 3) := by decide +kernel
theorem dX0_ordersWithAt_28 : decode cX0_ordersWithAt 28 = .ok (.iload_n 2, 1) := by decide +kernel
theorem dX0_ordersWithAt_29 : decode cX0_ordersWithAt 29 = .ok (.iconst 1, 1) := by decide +kernel
theorem dX0_ordersWithAt_30 : decode cX0_ordersWithAt 30 = .ok (.iadd, 1) := by decide +kernel
theorem dX0_ordersWithAt_31 : decode cX0_ordersWithAt 31 = .ok (.if_icmp .ne 13, 3) := by decide +kernel
theorem dX0_ordersWithAt_34 : decode cX0_ordersWithAt 34 = .ok (.iload_n 3, 1) := by decide +kernel
theorem dX0_ordersWithAt_35 : decode cX0_ordersWithAt 35 = .ok (.aload_n 0, 1) := by decide +kernel
theorem dX0_ordersWithAt_36 : decode cX0_ordersWithAt 36 = .ok (.iload 4, 2) := by decide +kernel
theorem dX0_ordersWithAt_38 : decode cX0_ordersWithAt 38 = .ok (.iload_n 1, 1) := by decide +kernel
theorem dX0_ordersWithAt_39 : decode cX0_ordersWithAt 39 = .ok (.invokevirtual 147, 3) := by decide +kernel
theorem dX0_ordersWithAt_42 : decode cX0_ordersWithAt 42 = .ok (.iadd, 1) := by decide +kernel
theorem dX0_ordersWithAt_43 : decode cX0_ordersWithAt 43 = .ok (.istore_n 3, 1) := by decide +kernel
theorem dX0_ordersWithAt_44 : decode cX0_ordersWithAt 44 = .ok (.iinc 4 1, 3) := by decide +kernel
theorem dX0_ordersWithAt_47 : decode cX0_ordersWithAt 47 = .ok (.goto (-42), 3) := by decide +kernel
theorem dX0_ordersWithAt_50 : decode cX0_ordersWithAt 50 = .ok (.iload_n 3, 1) := by decide +kernel
theorem dX0_ordersWithAt_51 : decode cX0_ordersWithAt 51 = .ok (.ireturn, 1) := by decide +kernel
theorem dX0_ordersWithFirst_0 : decode cX0_ordersWithFirst 0 = .ok (.iconst 0, 1) := by decide +kernel
theorem dX0_ordersWithFirst_1 : decode cX0_ordersWithFirst 1 = .ok (.istore_n 3, 1) := by decide +kernel
theorem dX0_ordersWithFirst_2 : decode cX0_ordersWithFirst 2 = .ok (.iconst 1, 1) := by decide +kernel
theorem dX0_ordersWithFirst_3 : decode cX0_ordersWithFirst 3 = .ok (.istore 4, 2) := by decide +kernel
theorem dX0_ordersWithFirst_5 : decode cX0_ordersWithFirst 5 = .ok (.iload 4, 2) := by decide +kernel
theorem dX0_ordersWithFirst_7 : decode cX0_ordersWithFirst 7 = .ok (.aload_n 0, 1) := by decide +kernel
theorem dX0_ordersWithFirst_8 : decode cX0_ordersWithFirst 8 = .ok (.getfield 58, 3) := by decide +kernel
theorem dX0_ordersWithFirst_11 : decode cX0_ordersWithFirst 11 = .ok (.if_icmp .gt 37, 3) := by decide +kernel
theorem dX0_ordersWithFirst_14 : decode cX0_ordersWithFirst 14 = .ok (.iload 4, 2) := by decide +kernel
theorem dX0_ordersWithFirst_16 : decode cX0_ordersWithFirst 16 = .ok (.iload_n 1, 1) := by decide +kernel
theorem dX0_ordersWithFirst_17 : decode cX0_ordersWithFirst 17 = .ok (.invokestatic 47, 3) := by decide +kernel
theorem dX0_ordersWithFirst_20 : decode cX0_ordersWithFirst 20 = .ok (.ifCond .eq 22, 3) := by decide +kernel
theorem dX0_ordersWithFirst_23 : decode cX0_ordersWithFirst 23 = .ok (.iload 4, 2) := by decide +kernel
theorem dX0_ordersWithFirst_25 : decode cX0_ordersWithFirst 25 = .ok (.iload_n 2, 1) := by decide +kernel
theorem dX0_ordersWithFirst_26 : decode cX0_ordersWithFirst 26 = .ok (.invokestatic 47, 3) := by decide +kernel
theorem dX0_ordersWithFirst_29 : decode cX0_ordersWithFirst 29 = .ok (.ifCond .eq 13, 3) := by decide +kernel
theorem dX0_ordersWithFirst_32 : decode cX0_ordersWithFirst 32 = .ok (.iload_n 3, 1) := by decide +kernel
theorem dX0_ordersWithFirst_33 : decode cX0_ordersWithFirst 33 = .ok (.aload_n 0, 1) := by decide +kernel
theorem dX0_ordersWithFirst_34 : decode cX0_ordersWithFirst 34 = .ok (.iload 4, 2) := by decide +kernel
theorem dX0_ordersWithFirst_36 : decode cX0_ordersWithFirst 36 = .ok (.iload_n 2, 1) := by decide +kernel
theorem dX0_ordersWithFirst_37 : decode cX0_ordersWithFirst 37 = .ok (.invokevirtual 147, 3) := by decide +kernel
theorem dX0_ordersWithFirst_40 : decode cX0_ordersWithFirst 40 = .ok (.iadd, 1) := by decide +kernel
theorem dX0_ordersWithFirst_41 : decode cX0_ordersWithFirst 41 = .ok (.istore_n 3, 1) := by decide +kernel
theorem dX0_ordersWithFirst_42 : decode cX0_ordersWithFirst 42 = .ok (.iinc 4 1, 3) := by decide +kernel
theorem dX0_ordersWithFirst_45 : decode cX0_ordersWithFirst 45 = .ok (.goto (-40), 3) := by decide +kernel
theorem dX0_ordersWithFirst_48 : decode cX0_ordersWithFirst 48 = .ok (.iload_n 3, 1) := by decide +kernel
theorem dX0_ordersWithFirst_49 : decode cX0_ordersWithFirst 49 = .ok (.ireturn, 1) := by decide +kernel
theorem dX0_ordersBy_0 : decode cX0_ordersBy 0 = .ok (.iload_n 1, 1) := by decide +kernel
theorem dX0_ordersBy_1 : decode cX0_ordersBy 1 = .ok (.iload_n 2, 1) := by decide +kernel
theorem dX0_ordersBy_2 : decode cX0_ordersBy 2 = .ok (.invokestatic 101, 3) := by decide +kernel
theorem dX0_ordersBy_5 : decode cX0_ordersBy 5 = .ok (.istore_n 3, 1) := by decide +kernel
theorem dX0_ordersBy_6 : decode cX0_ordersBy 6 = .ok (.aload_n 0, 1) := by decide +kernel
theorem dX0_ordersBy_7 : decode cX0_ordersBy 7 = .ok (.getfield 18, 3) := by decide +kernel
theorem dX0_ordersBy_10 : decode cX0_ordersBy 10 = .ok (.iload_n 3, 1) := by decide +kernel
theorem dX0_ordersBy_11 : decode cX0_ordersBy 11 = .ok (.iaload, 1) := by decide +kernel
theorem dX0_ordersBy_12 : decode cX0_ordersBy 12 = .ok (.aload_n 0, 1) := by decide +kernel
theorem dX0_ordersBy_13 : decode cX0_ordersBy 13 = .ok (.getfield 15, 3) := by decide +kernel
theorem dX0_ordersBy_16 : decode cX0_ordersBy 16 = .ok (.iload_n 3, 1) := by decide +kernel
theorem dX0_ordersBy_17 : decode cX0_ordersBy 17 = .ok (.iaload, 1) := by decide +kernel
theorem dX0_ordersBy_18 : decode cX0_ordersBy 18 = .ok (.imul, 1) := by decide +kernel
theorem dX0_ordersBy_19 : decode cX0_ordersBy 19 = .ok (.ireturn, 1) := by decide +kernel
theorem dX0_ordersWithTogether_0 : decode cX0_ordersWithTogether 0 = .ok (.aload_n 0, 1) := by decide +kernel
theorem dX0_ordersWithTogether_1 : decode cX0_ordersWithTogether 1 = .ok (.getfield 58, 3) := by decide +kernel
theorem dX0_ordersWithTogether_4 : decode cX0_ordersWithTogether 4 = .ok (.istore_n 2, 1) := by decide +kernel
theorem dX0_ordersWithTogether_5 : decode cX0_ordersWithTogether 5 = .ok (.iload_n 2, 1) := by decide +kernel
theorem dX0_ordersWithTogether_6 : decode cX0_ordersWithTogether 6 = .ok (.ifCond .lt 89, 3) := by decide +kernel
theorem dX0_ordersWithTogether_9 : decode cX0_ordersWithTogether 9 = .ok (.iload_n 1, 1) := by decide +kernel
theorem dX0_ordersWithTogether_10 : decode cX0_ordersWithTogether 10 = .ok (.iload_n 2, 1) := by decide +kernel
theorem dX0_ordersWithTogether_11 : decode cX0_ordersWithTogether 11 = .ok (.invokestatic 150, 3) := by decide +kernel
theorem dX0_ordersWithTogether_14 : decode cX0_ordersWithTogether 14 = .ok (.istore_n 3, 1) := by decide +kernel
theorem dX0_ordersWithTogether_15 : decode cX0_ordersWithTogether 15 = .ok (.iconst 0, 1) := by decide +kernel
theorem dX0_ordersWithTogether_16 : decode cX0_ordersWithTogether 16 = .ok (.istore 4, 2) := by decide +kernel
theorem dX0_ordersWithTogether_18 : decode cX0_ordersWithTogether 18 = .ok (.iload 4, 2) := by decide +kernel
theorem dX0_ordersWithTogether_20 : decode cX0_ordersWithTogether 20 = .ok (.aload_n 0, 1) := by decide +kernel
theorem dX0_ordersWithTogether_21 : decode cX0_ordersWithTogether 21 = .ok (.getfield 57, 3) := by decide +kernel
theorem dX0_ordersWithTogether_24 : decode cX0_ordersWithTogether 24 = .ok (.if_icmp .ge 65, 3) := by decide +kernel
theorem dX0_ordersWithTogether_27 : decode cX0_ordersWithTogether 27 = .ok (.iload_n 2, 1) := by decide +kernel
theorem dX0_ordersWithTogether_28 : decode cX0_ordersWithTogether 28 = .ok (.iload 4, 2) := by decide +kernel
theorem dX0_ordersWithTogether_30 : decode cX0_ordersWithTogether 30 = .ok (.invokestatic 105, 3) := by decide +kernel
theorem dX0_ordersWithTogether_33 : decode cX0_ordersWithTogether 33 = .ok (.ifCond .eq 50, 3) := by decide +kernel
theorem dX0_ordersWithTogether_36 : decode cX0_ordersWithTogether 36 = .ok (.iload_n 2, 1) := by decide +kernel
theorem dX0_ordersWithTogether_37 : decode cX0_ordersWithTogether 37 = .ok (.iload 4, 2) := by decide +kernel
theorem dX0_ordersWithTogether_39 : decode cX0_ordersWithTogether 39 = .ok (.invokestatic 101, 3) := by decide +kernel
theorem dX0_ordersWithTogether_42 : decode cX0_ordersWithTogether 42 = .ok (.istore 5, 2) := by decide +kernel
theorem dX0_ordersWithTogether_44 : decode cX0_ordersWithTogether 44 = .ok (.aload_n 0, 1) := by decide +kernel
theorem dX0_ordersWithTogether_45 : decode cX0_ordersWithTogether 45 = .ok (.getfield 21, 3) := by decide +kernel
theorem dX0_ordersWithTogether_48 : decode cX0_ordersWithTogether 48 = .ok (.iload 5, 2) := by decide +kernel
theorem dX0_ordersWithTogether_50 : decode cX0_ordersWithTogether 50 = .ok (.iload_n 2, 1) := by decide +kernel
theorem dX0_ordersWithTogether_51 : decode cX0_ordersWithTogether 51 = .ok (.aload_n 0, 1) := by decide +kernel
theorem dX0_ordersWithTogether_52 : decode cX0_ordersWithTogether 52 = .ok (.getfield 58, 3) := by decide +kernel
theorem dX0_ordersWithTogether_55 : decode cX0_ordersWithTogether 55 = .ok (.if_icmp .ne 7, 3) := by decide +kernel
theorem dX0_ordersWithTogether_58 : decode cX0_ordersWithTogether 58 = .ok (.iconst 1, 1) := by decide +kernel
theorem dX0_ordersWithTogether_59 : decode cX0_ordersWithTogether 59 = .ok (.goto 23, 3) := by decide +kernel
theorem dX0_ordersWithTogether_62 : decode cX0_ordersWithTogether 62 = .ok (.aload_n 0, 1) := by decide +kernel
theorem dX0_ordersWithTogether_63 : decode cX0_ordersWithTogether 63 = .ok (.aload_n 0, 1) := by decide +kernel
theorem dX0_ordersWithTogether_64 : decode cX0_ordersWithTogether 64 = .ok (.getfield 21, 3) := by decide +kernel
theorem dX0_ordersWithTogether_67 : decode cX0_ordersWithTogether 67 = .ok (.aload_n 0, 1) := by decide +kernel
theorem dX0_ordersWithTogether_68 : decode cX0_ordersWithTogether 68 = .ok (.getfield 9, 3) := by decide +kernel
theorem dX0_ordersWithTogether_71 : decode cX0_ordersWithTogether 71 = .ok (.iload 5, 2) := by decide +kernel
theorem dX0_ordersWithTogether_73 : decode cX0_ordersWithTogether 73 = .ok (.iaload, 1) := by decide +kernel
theorem dX0_ordersWithTogether_74 : decode cX0_ordersWithTogether 74 = .ok (.iload_n 3, 1) := by decide +kernel
theorem dX0_ordersWithTogether_75 : decode cX0_ordersWithTogether 75 = .ok (.iconst (-1), 1) := by decide +kernel
theorem dX0_ordersWithTogether_76 : decode cX0_ordersWithTogether 76 = .ok (.ixor, 1) := by decide +kernel
theorem dX0_ordersWithTogether_77 : decode cX0_ordersWithTogether 77 = .ok (.iand, 1) := by decide +kernel
theorem dX0_ordersWithTogether_78 : decode cX0_ordersWithTogether 78 = .ok (.iload_n 2, 1) := by decide +kernel
theorem dX0_ordersWithTogether_79 : decode cX0_ordersWithTogether 79 = .ok (.invokevirtual 130, 3) := by decide +kernel
theorem dX0_ordersWithTogether_82 : decode cX0_ordersWithTogether 82 = .ok (.iastore, 1) := by decide +kernel
theorem dX0_ordersWithTogether_83 : decode cX0_ordersWithTogether 83 = .ok (.iinc 4 1, 3) := by decide +kernel
theorem dX0_ordersWithTogether_86 : decode cX0_ordersWithTogether 86 = .ok (.goto (-68), 3) := by decide +kernel
theorem dX0_ordersWithTogether_89 : decode cX0_ordersWithTogether 89 = .ok (.iinc 2 (-1), 3) := by decide +kernel
theorem dX0_ordersWithTogether_92 : decode cX0_ordersWithTogether 92 = .ok (.goto (-87), 3) := by decide +kernel
theorem dX0_ordersWithTogether_95 : decode cX0_ordersWithTogether 95 = .ok (.aload_n 0, 1) := by decide +kernel
theorem dX0_ordersWithTogether_96 : decode cX0_ordersWithTogether 96 = .ok (.getfield 21, 3) := by decide +kernel
theorem dX0_ordersWithTogether_99 : decode cX0_ordersWithTogether 99 = .ok (.iconst 0, 1) := by decide +kernel
theorem dX0_ordersWithTogether_100 : decode cX0_ordersWithTogether 100 = .ok (.iaload, 1) := by decide +kernel
theorem dX0_ordersWithTogether_101 : decode cX0_ordersWithTogether 101 = .ok (.ireturn, 1) := by decide +kernel
theorem dX0_nextThatPart_0 : decode cX0_nextThatPart 0 = .ok (.iload_n 1, 1) := by decide +kernel
theorem dX0_nextThatPart_1 : decode cX0_nextThatPart 1 = .ok (.iload_n 0, 1) := by decide +kernel
theorem dX0_nextThatPart_2 : decode cX0_nextThatPart 2 = .ok (.iand, 1) := by decide +kernel
theorem dX0_nextThatPart_3 : decode cX0_nextThatPart 3 = .ok (.istore_n 2, 1) := by decide +kernel
theorem dX0_nextThatPart_4 : decode cX0_nextThatPart 4 = .ok (.iload_n 2, 1) := by decide +kernel
theorem dX0_nextThatPart_5 : decode cX0_nextThatPart 5 = .ok (.ifCond .eq 8, 3) := by decide +kernel
theorem dX0_nextThatPart_8 : decode cX0_nextThatPart 8 = .ok (.iload_n 2, 1) := by decide +kernel
theorem dX0_nextThatPart_9 : decode cX0_nextThatPart 9 = .ok (.iload_n 0, 1) := by decide +kernel
theorem dX0_nextThatPart_10 : decode cX0_nextThatPart 10 = .ok (.if_icmp .ne 7, 3) := by decide +kernel
theorem dX0_nextThatPart_13 : decode cX0_nextThatPart 13 = .ok (.iconst 0, 1) := by decide +kernel
theorem dX0_nextThatPart_14 : decode cX0_nextThatPart 14 = .ok (.goto 6, 3) := by decide +kernel
theorem dX0_nextThatPart_17 : decode cX0_nextThatPart 17 = .ok (.iload_n 0, 1) := by decide +kernel
theorem dX0_nextThatPart_18 : decode cX0_nextThatPart 18 = .ok (.iconst (-1), 1) := by decide +kernel
theorem dX0_nextThatPart_19 : decode cX0_nextThatPart 19 = .ok (.ixor, 1) := by decide +kernel
theorem dX0_nextThatPart_20 : decode cX0_nextThatPart 20 = .ok (.ireturn, 1) := by decide +kernel
theorem dX0_gatherClumps_0 : decode cX0_gatherClumps 0 = .ok (.aload_n 0, 1) := by decide +kernel
theorem dX0_gatherClumps_1 : decode cX0_gatherClumps 1 = .ok (.getfield 61, 3) := by decide +kernel
theorem dX0_gatherClumps_4 : decode cX0_gatherClumps 4 = .ok (.bipush (-6), 2) := by decide +kernel
theorem dX0_gatherClumps_6 : decode cX0_gatherClumps 6 = .ok (.if_icmp .eq 4, 3) := by decide +kernel
theorem dX0_gatherClumps_9 : decode cX0_gatherClumps 9 = .ok (.return_, 1) := by decide +kernel
theorem dX0_gatherClumps_10 : decode cX0_gatherClumps 10 = .ok (.aload_n 0, 1) := by decide +kernel
theorem dX0_gatherClumps_11 : decode cX0_gatherClumps 11 = .ok (.iconst 0, 1) := by decide +kernel
theorem dX0_gatherClumps_12 : decode cX0_gatherClumps 12 = .ok (.putfield 61, 3) := by decide +kernel
theorem dX0_gatherClumps_15 : decode cX0_gatherClumps 15 = .ok (.iconst 1, 1) := by decide +kernel
theorem dX0_gatherClumps_16 : decode cX0_gatherClumps 16 = .ok (.istore_n 1, 1) := by decide +kernel
theorem dX0_gatherClumps_17 : decode cX0_gatherClumps 17 = .ok (.iload_n 1, 1) := by decide +kernel
theorem dX0_gatherClumps_18 : decode cX0_gatherClumps 18 = .ok (.aload_n 0, 1) := by decide +kernel
theorem dX0_gatherClumps_19 : decode cX0_gatherClumps 19 = .ok (.getfield 58, 3) := by decide +kernel
theorem dX0_gatherClumps_22 : decode cX0_gatherClumps 22 = .ok (.if_icmp .gt 52, 3) := by decide +kernel
theorem dX0_gatherClumps_25 : decode cX0_gatherClumps 25 = .ok (.aload_n 0, 1) := by decide +kernel
theorem dX0_gatherClumps_26 : decode cX0_gatherClumps 26 = .ok (.invokevirtual 134, 3) := by decide +kernel
theorem dX0_gatherClumps_29 : decode cX0_gatherClumps 29 = .ok (.ifCond .le 45, 3) := by decide +kernel
theorem dX0_gatherClumps_32 : decode cX0_gatherClumps 32 = .ok (.iload_n 1, 1) := by decide +kernel
theorem dX0_gatherClumps_33 : decode cX0_gatherClumps 33 = .ok (.invokestatic 80, 3) := by decide +kernel
theorem dX0_gatherClumps_36 : decode cX0_gatherClumps 36 = .ok (.iconst 1, 1) := by decide +kernel
theorem dX0_gatherClumps_37 : decode cX0_gatherClumps 37 = .ok (.if_icmp .le 31, 3) := by decide +kernel
theorem dX0_gatherClumps_40 : decode cX0_gatherClumps 40 = .ok (.aload_n 0, 1) := by decide +kernel
theorem dX0_gatherClumps_41 : decode cX0_gatherClumps 41 = .ok (.iload_n 1, 1) := by decide +kernel
theorem dX0_gatherClumps_42 : decode cX0_gatherClumps 42 = .ok (.invokevirtual 153, 3) := by decide +kernel
theorem dX0_gatherClumps_45 : decode cX0_gatherClumps 45 = .ok (.ifCond .eq 23, 3) := by decide +kernel
theorem dX0_gatherClumps_48 : decode cX0_gatherClumps 48 = .ok (.aload_n 0, 1) := by decide +kernel
theorem dX0_gatherClumps_49 : decode cX0_gatherClumps 49 = .ok (.getfield 27, 3) := by decide +kernel
theorem dX0_gatherClumps_52 : decode cX0_gatherClumps 52 = .ok (.aload_n 0, 1) := by decide +kernel
theorem dX0_gatherClumps_53 : decode cX0_gatherClumps 53 = .ok (.getfield 61, 3) := by decide +kernel
theorem dX0_gatherClumps_56 : decode cX0_gatherClumps 56 = .ok (.iload_n 1, 1) := by decide +kernel
theorem dX0_gatherClumps_57 : decode cX0_gatherClumps 57 = .ok (.iastore, 1) := by decide +kernel
theorem dX0_gatherClumps_58 : decode cX0_gatherClumps 58 = .ok (.aload_n 0, 1) := by decide +kernel
theorem dX0_gatherClumps_59 : decode cX0_gatherClumps 59 = .ok (.dup, 1) := by decide +kernel
theorem dX0_gatherClumps_60 : decode cX0_gatherClumps 60 = .ok (.getfield 61, 3) := by decide +kernel
theorem dX0_gatherClumps_63 : decode cX0_gatherClumps 63 = .ok (.iconst 1, 1) := by decide +kernel
theorem dX0_gatherClumps_64 : decode cX0_gatherClumps 64 = .ok (.iadd, 1) := by decide +kernel
theorem dX0_gatherClumps_65 : decode cX0_gatherClumps 65 = .ok (.putfield 61, 3) := by decide +kernel
theorem dX0_gatherClumps_68 : decode cX0_gatherClumps 68 = .ok (.iinc 1 1, 3) := by decide +kernel
theorem dX0_gatherClumps_71 : decode cX0_gatherClumps 71 = .ok (.goto (-54), 3) := by decide +kernel
theorem dX0_gatherClumps_74 : decode cX0_gatherClumps 74 = .ok (.return_, 1) := by decide +kernel
theorem dX0_liesTogetherInAll_0 : decode cX0_liesTogetherInAll 0 = .ok (.iconst 1, 1) := by decide +kernel
theorem dX0_liesTogetherInAll_1 : decode cX0_liesTogetherInAll 1 = .ok (.istore_n 2, 1) := by decide +kernel
theorem dX0_liesTogetherInAll_2 : decode cX0_liesTogetherInAll 2 = .ok (.iload_n 2, 1) := by decide +kernel
theorem dX0_liesTogetherInAll_3 : decode cX0_liesTogetherInAll 3 = .ok (.aload_n 0, 1) := by decide +kernel
theorem dX0_liesTogetherInAll_4 : decode cX0_liesTogetherInAll 4 = .ok (.getfield 58, 3) := by decide +kernel
theorem dX0_liesTogetherInAll_7 : decode cX0_liesTogetherInAll 7 = .ok (.if_icmp .gt 26, 3) := by decide +kernel
theorem dX0_liesTogetherInAll_10 : decode cX0_liesTogetherInAll 10 = .ok (.aload_n 0, 1) := by decide +kernel
theorem dX0_liesTogetherInAll_11 : decode cX0_liesTogetherInAll 11 = .ok (.getfield 24, 3) := by decide +kernel
theorem dX0_liesTogetherInAll_14 : decode cX0_liesTogetherInAll 14 = .ok (.iload_n 2, 1) := by decide +kernel
theorem dX0_liesTogetherInAll_15 : decode cX0_liesTogetherInAll 15 = .ok (.iaload, 1) := by decide +kernel
theorem dX0_liesTogetherInAll_16 : decode cX0_liesTogetherInAll 16 = .ok (.iload_n 1, 1) := by decide +kernel
theorem dX0_liesTogetherInAll_17 : decode cX0_liesTogetherInAll 17 = .ok (.iload_n 2, 1) := by decide +kernel
theorem dX0_liesTogetherInAll_18 : decode cX0_liesTogetherInAll 18 = .ok (.invokestatic 150, 3) := by decide +kernel
theorem dX0_liesTogetherInAll_21 : decode cX0_liesTogetherInAll 21 = .ok (.iand, 1) := by decide +kernel
theorem dX0_liesTogetherInAll_22 : decode cX0_liesTogetherInAll 22 = .ok (.ifCond .eq 5, 3) := by decide +kernel
theorem dX0_liesTogetherInAll_25 : decode cX0_liesTogetherInAll 25 = .ok (.iconst 0, 1) := by decide +kernel
theorem dX0_liesTogetherInAll_26 : decode cX0_liesTogetherInAll 26 = .ok (.ireturn, 1) := by decide +kernel
theorem dX0_liesTogetherInAll_27 : decode cX0_liesTogetherInAll 27 = .ok (.iinc 2 1, 3) := by decide +kernel
theorem dX0_liesTogetherInAll_30 : decode cX0_liesTogetherInAll 30 = .ok (.goto (-28), 3) := by decide +kernel
theorem dX0_liesTogetherInAll_33 : decode cX0_liesTogetherInAll 33 = .ok (.iconst 1, 1) := by decide +kernel
theorem dX0_liesTogetherInAll_34 : decode cX0_liesTogetherInAll 34 = .ok (.ireturn, 1) := by decide +kernel
theorem dX0_fewestBreaksOf_0 : decode cX0_fewestBreaksOf 0 = .ok (.aload_n 0, 1) := by decide +kernel
theorem dX0_fewestBreaksOf_1 : decode cX0_fewestBreaksOf 1 = .ok (.invokevirtual 134, 3) := by decide +kernel
theorem dX0_fewestBreaksOf_4 : decode cX0_fewestBreaksOf 4 = .ok (.ifCond .ne 6, 3) := by decide +kernel
theorem dX0_fewestBreaksOf_7 : decode cX0_fewestBreaksOf 7 = .ok (.bipush (-6), 2) := by decide +kernel
theorem dX0_fewestBreaksOf_9 : decode cX0_fewestBreaksOf 9 = .ok (.ireturn, 1) := by decide +kernel
theorem dX0_fewestBreaksOf_10 : decode cX0_fewestBreaksOf 10 = .ok (.aload_n 0, 1) := by decide +kernel
theorem dX0_fewestBreaksOf_11 : decode cX0_fewestBreaksOf 11 = .ok (.getfield 36, 3) := by decide +kernel
theorem dX0_fewestBreaksOf_14 : decode cX0_fewestBreaksOf 14 = .ok (.aload_n 2, 1) := by decide +kernel
theorem dX0_fewestBreaksOf_15 : decode cX0_fewestBreaksOf 15 = .ok (.iconst 1, 1) := by decide +kernel
theorem dX0_fewestBreaksOf_16 : decode cX0_fewestBreaksOf 16 = .ok (.iload_n 1, 1) := by decide +kernel
theorem dX0_fewestBreaksOf_17 : decode cX0_fewestBreaksOf 17 = .ok (.ishl, 1) := by decide +kernel
theorem dX0_fewestBreaksOf_18 : decode cX0_fewestBreaksOf 18 = .ok (.invokevirtual 68, 3) := by decide +kernel
theorem dX0_fewestBreaksOf_21 : decode cX0_fewestBreaksOf 21 = .ok (.aload_n 0, 1) := by decide +kernel
theorem dX0_fewestBreaksOf_22 : decode cX0_fewestBreaksOf 22 = .ok (.aload_n 0, 1) := by decide +kernel
theorem dX0_fewestBreaksOf_23 : decode cX0_fewestBreaksOf 23 = .ok (.getfield 36, 3) := by decide +kernel
theorem dX0_fewestBreaksOf_26 : decode cX0_fewestBreaksOf 26 = .ok (.invokevirtual 72, 3) := by decide +kernel
theorem dX0_fewestBreaksOf_29 : decode cX0_fewestBreaksOf 29 = .ok (.aload_n 0, 1) := by decide +kernel
theorem dX0_fewestBreaksOf_30 : decode cX0_fewestBreaksOf 30 = .ok (.getfield 21, 3) := by decide +kernel
theorem dX0_fewestBreaksOf_33 : decode cX0_fewestBreaksOf 33 = .ok (.iconst 0, 1) := by decide +kernel
theorem dX0_fewestBreaksOf_34 : decode cX0_fewestBreaksOf 34 = .ok (.iaload, 1) := by decide +kernel
theorem dX0_fewestBreaksOf_35 : decode cX0_fewestBreaksOf 35 = .ok (.aload_n 2, 1) := by decide +kernel
theorem dX0_fewestBreaksOf_36 : decode cX0_fewestBreaksOf 36 = .ok (.iload_n 1, 1) := by decide +kernel
theorem dX0_fewestBreaksOf_37 : decode cX0_fewestBreaksOf 37 = .ok (.invokevirtual 157, 3) := by decide +kernel
theorem dX0_fewestBreaksOf_40 : decode cX0_fewestBreaksOf 40 = .ok (.ifCond .le 7, 3) := by decide +kernel
theorem dX0_fewestBreaksOf_43 : decode cX0_fewestBreaksOf 43 = .ok (.iconst 1, 1) := by decide +kernel
theorem dX0_fewestBreaksOf_44 : decode cX0_fewestBreaksOf 44 = .ok (.goto 4, 3) := by decide +kernel
theorem dX0_fewestBreaksOf_47 : decode cX0_fewestBreaksOf 47 = .ok (.iconst 0, 1) := by decide +kernel
theorem dX0_fewestBreaksOf_48 : decode cX0_fewestBreaksOf 48 = .ok (.isub, 1) := by decide +kernel
theorem dX0_fewestBreaksOf_49 : decode cX0_fewestBreaksOf 49 = .ok (.ireturn, 1) := by decide +kernel
theorem dX0_seekGoal_0 : decode cX0_seekGoal 0 = .ok (.aload_n 0, 1) := by decide +kernel
theorem dX0_seekGoal_1 : decode cX0_seekGoal 1 = .ok (.getfield 43, 3) := by decide +kernel
theorem dX0_seekGoal_4 : decode cX0_seekGoal 4 = .ok (.aload_n 1, 1) := by decide +kernel
theorem dX0_seekGoal_5 : decode cX0_seekGoal 5 = .ok (.invokevirtual 160, 3) := by decide +kernel
theorem dX0_seekGoal_8 : decode cX0_seekGoal 8 = .ok (.aload_n 0, 1) := by decide +kernel
theorem dX0_seekGoal_9 : decode cX0_seekGoal 9 = .ok (.aload_n 0, 1) := by decide +kernel
theorem dX0_seekGoal_10 : decode cX0_seekGoal 10 = .ok (.getfield 43, 3) := by decide +kernel
theorem dX0_seekGoal_13 : decode cX0_seekGoal 13 = .ok (.invokevirtual 72, 3) := by decide +kernel
theorem dX0_seekGoal_16 : decode cX0_seekGoal 16 = .ok (.aload_n 0, 1) := by decide +kernel
theorem dX0_seekGoal_17 : decode cX0_seekGoal 17 = .ok (.aload_n 0, 1) := by decide +kernel
theorem dX0_seekGoal_18 : decode cX0_seekGoal 18 = .ok (.getfield 21, 3) := by decide +kernel
theorem dX0_seekGoal_21 : decode cX0_seekGoal 21 = .ok (.iconst 0, 1) := by decide +kernel
theorem dX0_seekGoal_22 : decode cX0_seekGoal 22 = .ok (.iaload, 1) := by decide +kernel
theorem dX0_seekGoal_23 : decode cX0_seekGoal 23 = .ok (.putfield 162, 3) := by decide +kernel
theorem dX0_seekGoal_26 : decode cX0_seekGoal 26 = .ok (.iconst 0, 1) := by decide +kernel
theorem dX0_seekGoal_27 : decode cX0_seekGoal 27 = .ok (.istore_n 2, 1) := by decide +kernel
theorem dX0_seekGoal_28 : decode cX0_seekGoal 28 = .ok (.iconst 0, 1) := by decide +kernel
theorem dX0_seekGoal_29 : decode cX0_seekGoal 29 = .ok (.istore_n 3, 1) := by decide +kernel
theorem dX0_seekGoal_30 : decode cX0_seekGoal 30 = .ok (.iconst 0, 1) := by decide +kernel
theorem dX0_seekGoal_31 : decode cX0_seekGoal 31 = .ok (.istore 4, 2) := by decide +kernel
theorem dX0_seekGoal_33 : decode cX0_seekGoal 33 = .ok (.iload 4, 2) := by decide +kernel
theorem dX0_seekGoal_35 : decode cX0_seekGoal 35 = .ok (.aload_n 0, 1) := by decide +kernel
theorem dX0_seekGoal_36 : decode cX0_seekGoal 36 = .ok (.getfield 57, 3) := by decide +kernel
theorem dX0_seekGoal_39 : decode cX0_seekGoal 39 = .ok (.if_icmp .ge 37, 3) := by decide +kernel
theorem dX0_seekGoal_42 : decode cX0_seekGoal 42 = .ok (.aload_n 0, 1) := by decide +kernel
theorem dX0_seekGoal_43 : decode cX0_seekGoal 43 = .ok (.aload_n 0, 1) := by decide +kernel
theorem dX0_seekGoal_44 : decode cX0_seekGoal 44 = .ok (.getfield 43, 3) := by decide +kernel
theorem dX0_seekGoal_47 : decode cX0_seekGoal 47 = .ok (.iload_n 2, 1) := by decide +kernel
theorem dX0_seekGoal_48 : decode cX0_seekGoal 48 = .ok (.iload_n 3, 1) := by decide +kernel
theorem dX0_seekGoal_49 : decode cX0_seekGoal 49 = .ok (.invokevirtual 127, 3) := by decide +kernel
theorem dX0_seekGoal_52 : decode cX0_seekGoal 52 = .ok (.invokestatic 165, 3) := by decide +kernel
theorem dX0_seekGoal_55 : decode cX0_seekGoal 55 = .ok (.istore_n 3, 1) := by decide +kernel
theorem dX0_seekGoal_56 : decode cX0_seekGoal 56 = .ok (.aload_n 0, 1) := by decide +kernel
theorem dX0_seekGoal_57 : decode cX0_seekGoal 57 = .ok (.getfield 30, 3) := by decide +kernel
theorem dX0_seekGoal_60 : decode cX0_seekGoal 60 = .ok (.iload 4, 2) := by decide +kernel
theorem dX0_seekGoal_62 : decode cX0_seekGoal 62 = .ok (.iload_n 3, 1) := by decide +kernel
theorem dX0_seekGoal_63 : decode cX0_seekGoal 63 = .ok (.iastore, 1) := by decide +kernel
theorem dX0_seekGoal_64 : decode cX0_seekGoal 64 = .ok (.iload_n 2, 1) := by decide +kernel
theorem dX0_seekGoal_65 : decode cX0_seekGoal 65 = .ok (.iconst 1, 1) := by decide +kernel
theorem dX0_seekGoal_66 : decode cX0_seekGoal 66 = .ok (.iload_n 3, 1) := by decide +kernel
theorem dX0_seekGoal_67 : decode cX0_seekGoal 67 = .ok (.ishl, 1) := by decide +kernel
theorem dX0_seekGoal_68 : decode cX0_seekGoal 68 = .ok (.ior, 1) := by decide +kernel
theorem dX0_seekGoal_69 : decode cX0_seekGoal 69 = .ok (.istore_n 2, 1) := by decide +kernel
theorem dX0_seekGoal_70 : decode cX0_seekGoal 70 = .ok (.iinc 4 1, 3) := by decide +kernel
theorem dX0_seekGoal_73 : decode cX0_seekGoal 73 = .ok (.goto (-40), 3) := by decide +kernel
theorem dX0_seekGoal_76 : decode cX0_seekGoal 76 = .ok (.return_, 1) := by decide +kernel
theorem dX0_leastMember_0 : decode cX0_leastMember 0 = .ok (.iconst 0, 1) := by decide +kernel
theorem dX0_leastMember_1 : decode cX0_leastMember 1 = .ok (.istore_n 1, 1) := by decide +kernel
theorem dX0_leastMember_2 : decode cX0_leastMember 2 = .ok (.iload_n 1, 1) := by decide +kernel
theorem dX0_leastMember_3 : decode cX0_leastMember 3 = .ok (.bipush 8, 2) := by decide +kernel
theorem dX0_leastMember_5 : decode cX0_leastMember 5 = .ok (.if_icmp .ge 19, 3) := by decide +kernel
theorem dX0_leastMember_8 : decode cX0_leastMember 8 = .ok (.iload_n 0, 1) := by decide +kernel
theorem dX0_leastMember_9 : decode cX0_leastMember 9 = .ok (.iload_n 1, 1) := by decide +kernel
theorem dX0_leastMember_10 : decode cX0_leastMember 10 = .ok (.invokestatic 47, 3) := by decide +kernel
theorem dX0_leastMember_13 : decode cX0_leastMember 13 = .ok (.ifCond .eq 5, 3) := by decide +kernel
theorem dX0_leastMember_16 : decode cX0_leastMember 16 = .ok (.iload_n 1, 1) := by decide +kernel
theorem dX0_leastMember_17 : decode cX0_leastMember 17 = .ok (.ireturn, 1) := by decide +kernel
theorem dX0_leastMember_18 : decode cX0_leastMember 18 = .ok (.iinc 1 1, 3) := by decide +kernel
theorem dX0_leastMember_21 : decode cX0_leastMember 21 = .ok (.goto (-19), 3) := by decide +kernel
theorem dX0_leastMember_24 : decode cX0_leastMember 24 = .ok (.iconst 0, 1) := by decide +kernel
theorem dX0_leastMember_25 : decode cX0_leastMember 25 = .ok (.ireturn, 1) := by decide +kernel
end
section
theorem dX1_init_0 : decode cX1_init 0 = .ok (.aload_n 0, 1) := by decide +kernel
theorem dX1_init_1 : decode cX1_init 1 = .ok (.invokespecial 1, 3) := by decide +kernel
theorem dX1_init_4 : decode cX1_init 4 = .ok (.return_, 1) := by decide +kernel
end
section
theorem dX2_init_0 : decode cX2_init 0 = .ok (.aload_n 0, 1) := by decide +kernel
theorem dX2_init_1 : decode cX2_init 1 = .ok (.invokespecial 3, 3) := by decide +kernel
theorem dX2_init_4 : decode cX2_init 4 = .ok (.aload_n 0, 1) := by decide +kernel
theorem dX2_init_5 : decode cX2_init 5 = .ok (.iconst 4, 1) := by decide +kernel
theorem dX2_init_6 : decode cX2_init 6 = .ok (.putfield 9, 3) := by decide +kernel
theorem dX2_init_9 : decode cX2_init 9 = .ok (.aload_n 0, 1) := by decide +kernel
theorem dX2_init_10 : decode cX2_init 10 = .ok (.bipush 8, 2) := by decide +kernel
theorem dX2_init_12 : decode cX2_init 12 = .ok (.newarray .int, 2) := by decide +kernel
theorem dX2_init_14 : decode cX2_init 14 = .ok (.putfield 15, 3) := by decide +kernel
theorem dX2_init_17 : decode cX2_init 17 = .ok (.aload_n 0, 1) := by decide +kernel
theorem dX2_init_18 : decode cX2_init 18 = .ok (.bipush 8, 2) := by decide +kernel
theorem dX2_init_20 : decode cX2_init 20 = .ok (.newarray .int, 2) := by decide +kernel
theorem dX2_init_22 : decode cX2_init 22 = .ok (.putfield 19, 3) := by decide +kernel
theorem dX2_init_25 : decode cX2_init 25 = .ok (.aload_n 0, 1) := by decide +kernel
theorem dX2_init_26 : decode cX2_init 26 = .ok (.bipush 8, 2) := by decide +kernel
theorem dX2_init_28 : decode cX2_init 28 = .ok (.newarray .int, 2) := by decide +kernel
theorem dX2_init_30 : decode cX2_init 30 = .ok (.putfield 22, 3) := by decide +kernel
theorem dX2_init_33 : decode cX2_init 33 = .ok (.iconst 0, 1) := by decide +kernel
theorem dX2_init_34 : decode cX2_init 34 = .ok (.istore_n 1, 1) := by decide +kernel
theorem dX2_init_35 : decode cX2_init 35 = .ok (.iload_n 1, 1) := by decide +kernel
theorem dX2_init_36 : decode cX2_init 36 = .ok (.bipush 8, 2) := by decide +kernel
theorem dX2_init_38 : decode cX2_init 38 = .ok (.if_icmp .ge 16, 3) := by decide +kernel
theorem dX2_init_41 : decode cX2_init 41 = .ok (.aload_n 0, 1) := by decide +kernel
theorem dX2_init_42 : decode cX2_init 42 = .ok (.getfield 22, 3) := by decide +kernel
theorem dX2_init_45 : decode cX2_init 45 = .ok (.iload_n 1, 1) := by decide +kernel
theorem dX2_init_46 : decode cX2_init 46 = .ok (.iload_n 1, 1) := by decide +kernel
theorem dX2_init_47 : decode cX2_init 47 = .ok (.iastore, 1) := by decide +kernel
theorem dX2_init_48 : decode cX2_init 48 = .ok (.iinc 1 1, 3) := by decide +kernel
theorem dX2_init_51 : decode cX2_init 51 = .ok (.goto (-16), 3) := by decide +kernel
theorem dX2_init_54 : decode cX2_init 54 = .ok (.return_, 1) := by decide +kernel
theorem dX2_resize_0 : decode cX2_resize 0 = .ok (.aload_n 0, 1) := by decide +kernel
theorem dX2_resize_1 : decode cX2_resize 1 = .ok (.iload_n 1, 1) := by decide +kernel
theorem dX2_resize_2 : decode cX2_resize 2 = .ok (.putfield 9, 3) := by decide +kernel
theorem dX2_resize_5 : decode cX2_resize 5 = .ok (.iconst 0, 1) := by decide +kernel
theorem dX2_resize_6 : decode cX2_resize 6 = .ok (.istore_n 2, 1) := by decide +kernel
theorem dX2_resize_7 : decode cX2_resize 7 = .ok (.iload_n 2, 1) := by decide +kernel
theorem dX2_resize_8 : decode cX2_resize 8 = .ok (.bipush 8, 2) := by decide +kernel
theorem dX2_resize_10 : decode cX2_resize 10 = .ok (.if_icmp .ge 73, 3) := by decide +kernel
theorem dX2_resize_13 : decode cX2_resize 13 = .ok (.iload_n 2, 1) := by decide +kernel
theorem dX2_resize_14 : decode cX2_resize 14 = .ok (.iload_n 1, 1) := by decide +kernel
theorem dX2_resize_15 : decode cX2_resize 15 = .ok (.if_icmp .ge 7, 3) := by decide +kernel
theorem dX2_resize_18 : decode cX2_resize 18 = .ok (.iconst 1, 1) := by decide +kernel
theorem dX2_resize_19 : decode cX2_resize 19 = .ok (.goto 4, 3) := by decide +kernel
theorem dX2_resize_22 : decode cX2_resize 22 = .ok (.iconst 0, 1) := by decide +kernel
theorem dX2_resize_23 : decode cX2_resize 23 = .ok (.istore_n 3, 1) := by decide +kernel
theorem dX2_resize_24 : decode cX2_resize 24 = .ok (.aload_n 0, 1) := by decide +kernel
theorem dX2_resize_25 : decode cX2_resize 25 = .ok (.getfield 15, 3) := by decide +kernel
theorem dX2_resize_28 : decode cX2_resize 28 = .ok (.iload_n 2, 1) := by decide +kernel
theorem dX2_resize_29 : decode cX2_resize 29 = .ok (.iload_n 3, 1) := by decide +kernel
theorem dX2_resize_30 : decode cX2_resize 30 = .ok (.ifCond .eq 12, 3) := by decide +kernel
theorem dX2_resize_33 : decode cX2_resize 33 = .ok (.aload_n 0, 1) := by decide +kernel
theorem dX2_resize_34 : decode cX2_resize 34 = .ok (.getfield 15, 3) := by decide +kernel
theorem dX2_resize_37 : decode cX2_resize 37 = .ok (.iload_n 2, 1) := by decide +kernel
theorem dX2_resize_38 : decode cX2_resize 38 = .ok (.iaload, 1) := by decide +kernel
theorem dX2_resize_39 : decode cX2_resize 39 = .ok (.goto 4, 3) := by decide +kernel
theorem dX2_resize_42 : decode cX2_resize 42 = .ok (.iconst 0, 1) := by decide +kernel
theorem dX2_resize_43 : decode cX2_resize 43 = .ok (.iastore, 1) := by decide +kernel
theorem dX2_resize_44 : decode cX2_resize 44 = .ok (.aload_n 0, 1) := by decide +kernel
theorem dX2_resize_45 : decode cX2_resize 45 = .ok (.getfield 19, 3) := by decide +kernel
theorem dX2_resize_48 : decode cX2_resize 48 = .ok (.iload_n 2, 1) := by decide +kernel
theorem dX2_resize_49 : decode cX2_resize 49 = .ok (.iload_n 3, 1) := by decide +kernel
theorem dX2_resize_50 : decode cX2_resize 50 = .ok (.ifCond .eq 18, 3) := by decide +kernel
theorem dX2_resize_53 : decode cX2_resize 53 = .ok (.aload_n 0, 1) := by decide +kernel
theorem dX2_resize_54 : decode cX2_resize 54 = .ok (.getfield 19, 3) := by decide +kernel
theorem dX2_resize_57 : decode cX2_resize 57 = .ok (.iload_n 2, 1) := by decide +kernel
theorem dX2_resize_58 : decode cX2_resize 58 = .ok (.iaload, 1) := by decide +kernel
theorem dX2_resize_59 : decode cX2_resize 59 = .ok (.iconst 1, 1) := by decide +kernel
theorem dX2_resize_60 : decode cX2_resize 60 = .ok (.iload_n 1, 1) := by decide +kernel
theorem dX2_resize_61 : decode cX2_resize 61 = .ok (.ishl, 1) := by decide +kernel
theorem dX2_resize_62 : decode cX2_resize 62 = .ok (.iconst 1, 1) := by decide +kernel
theorem dX2_resize_63 : decode cX2_resize 63 = .ok (.isub, 1) := by decide +kernel
theorem dX2_resize_64 : decode cX2_resize 64 = .ok (.iand, 1) := by decide +kernel
theorem dX2_resize_65 : decode cX2_resize 65 = .ok (.goto 4, 3) := by decide +kernel
theorem dX2_resize_68 : decode cX2_resize 68 = .ok (.iconst 0, 1) := by decide +kernel
theorem dX2_resize_69 : decode cX2_resize 69 = .ok (.iastore, 1) := by decide +kernel
theorem dX2_resize_70 : decode cX2_resize 70 = .ok (.aload_n 0, 1) := by decide +kernel
theorem dX2_resize_71 : decode cX2_resize 71 = .ok (.getfield 22, 3) := by decide +kernel
theorem dX2_resize_74 : decode cX2_resize 74 = .ok (.iload_n 2, 1) := by decide +kernel
theorem dX2_resize_75 : decode cX2_resize 75 = .ok (.iload_n 2, 1) := by decide +kernel
theorem dX2_resize_76 : decode cX2_resize 76 = .ok (.iastore, 1) := by decide +kernel
theorem dX2_resize_77 : decode cX2_resize 77 = .ok (.iinc 2 1, 3) := by decide +kernel
theorem dX2_resize_80 : decode cX2_resize 80 = .ok (.goto (-73), 3) := by decide +kernel
theorem dX2_resize_83 : decode cX2_resize 83 = .ok (.return_, 1) := by decide +kernel
theorem dX2_become_0 : decode cX2_become 0 = .ok (.aload_n 0, 1) := by decide +kernel
theorem dX2_become_1 : decode cX2_become 1 = .ok (.aload_n 1, 1) := by decide +kernel
theorem dX2_become_2 : decode cX2_become 2 = .ok (.getfield 9, 3) := by decide +kernel
theorem dX2_become_5 : decode cX2_become 5 = .ok (.putfield 9, 3) := by decide +kernel
theorem dX2_become_8 : decode cX2_become 8 = .ok (.aload_n 1, 1) := by decide +kernel
theorem dX2_become_9 : decode cX2_become 9 = .ok (.getfield 15, 3) := by decide +kernel
theorem dX2_become_12 : decode cX2_become 12 = .ok (.iconst 0, 1) := by decide +kernel
theorem dX2_become_13 : decode cX2_become 13 = .ok (.aload_n 0, 1) := by decide +kernel
theorem dX2_become_14 : decode cX2_become 14 = .ok (.getfield 15, 3) := by decide +kernel
theorem dX2_become_17 : decode cX2_become 17 = .ok (.iconst 0, 1) := by decide +kernel
theorem dX2_become_18 : decode cX2_become 18 = .ok (.bipush 8, 2) := by decide +kernel
theorem dX2_become_20 : decode cX2_become 20 = .ok (.invokestatic 25, 3) := by decide +kernel
theorem dX2_become_23 : decode cX2_become 23 = .ok (.aload_n 1, 1) := by decide +kernel
theorem dX2_become_24 : decode cX2_become 24 = .ok (.getfield 19, 3) := by decide +kernel
theorem dX2_become_27 : decode cX2_become 27 = .ok (.iconst 0, 1) := by decide +kernel
theorem dX2_become_28 : decode cX2_become 28 = .ok (.aload_n 0, 1) := by decide +kernel
theorem dX2_become_29 : decode cX2_become 29 = .ok (.getfield 19, 3) := by decide +kernel
theorem dX2_become_32 : decode cX2_become 32 = .ok (.iconst 0, 1) := by decide +kernel
theorem dX2_become_33 : decode cX2_become 33 = .ok (.bipush 8, 2) := by decide +kernel
theorem dX2_become_35 : decode cX2_become 35 = .ok (.invokestatic 25, 3) := by decide +kernel
theorem dX2_become_38 : decode cX2_become 38 = .ok (.aload_n 1, 1) := by decide +kernel
theorem dX2_become_39 : decode cX2_become 39 = .ok (.getfield 22, 3) := by decide +kernel
theorem dX2_become_42 : decode cX2_become 42 = .ok (.iconst 0, 1) := by decide +kernel
theorem dX2_become_43 : decode cX2_become 43 = .ok (.aload_n 0, 1) := by decide +kernel
theorem dX2_become_44 : decode cX2_become 44 = .ok (.getfield 22, 3) := by decide +kernel
theorem dX2_become_47 : decode cX2_become 47 = .ok (.iconst 0, 1) := by decide +kernel
theorem dX2_become_48 : decode cX2_become 48 = .ok (.bipush 8, 2) := by decide +kernel
theorem dX2_become_50 : decode cX2_become 50 = .ok (.invokestatic 25, 3) := by decide +kernel
theorem dX2_become_53 : decode cX2_become 53 = .ok (.return_, 1) := by decide +kernel
theorem dX2_earlierThan_0 : decode cX2_earlierThan 0 = .ok (.iconst 0, 1) := by decide +kernel
theorem dX2_earlierThan_1 : decode cX2_earlierThan 1 = .ok (.istore_n 2, 1) := by decide +kernel
theorem dX2_earlierThan_2 : decode cX2_earlierThan 2 = .ok (.iconst 0, 1) := by decide +kernel
theorem dX2_earlierThan_3 : decode cX2_earlierThan 3 = .ok (.istore_n 3, 1) := by decide +kernel
theorem dX2_earlierThan_4 : decode cX2_earlierThan 4 = .ok (.iload_n 3, 1) := by decide +kernel
theorem dX2_earlierThan_5 : decode cX2_earlierThan 5 = .ok (.aload_n 0, 1) := by decide +kernel
theorem dX2_earlierThan_6 : decode cX2_earlierThan 6 = .ok (.getfield 9, 3) := by decide +kernel
theorem dX2_earlierThan_9 : decode cX2_earlierThan 9 = .ok (.if_icmp .ge 28, 3) := by decide +kernel
theorem dX2_earlierThan_12 : decode cX2_earlierThan 12 = .ok (.aload_n 0, 1) := by decide +kernel
theorem dX2_earlierThan_13 : decode cX2_earlierThan 13 = .ok (.getfield 19, 3) := by decide +kernel
theorem dX2_earlierThan_16 : decode cX2_earlierThan 16 = .ok (.iload_n 3, 1) := by decide +kernel
theorem dX2_earlierThan_17 : decode cX2_earlierThan 17 = .ok (.iaload, 1) := by decide +kernel
theorem dX2_earlierThan_18 : decode cX2_earlierThan 18 = .ok (.iload_n 1, 1) := by decide +kernel
theorem dX2_earlierThan_19 : decode cX2_earlierThan 19 = .ok (.invokestatic 31, 3) := by decide +kernel
theorem dX2_earlierThan_22 : decode cX2_earlierThan 22 = .ok (.ifCond .eq 9, 3) := by decide +kernel
theorem dX2_earlierThan_25 : decode cX2_earlierThan 25 = .ok (.iload_n 2, 1) := by decide +kernel
theorem dX2_earlierThan_26 : decode cX2_earlierThan 26 = .ok (.iconst 1, 1) := by decide +kernel
theorem dX2_earlierThan_27 : decode cX2_earlierThan 27 = .ok (.iload_n 3, 1) := by decide +kernel
theorem dX2_earlierThan_28 : decode cX2_earlierThan 28 = .ok (.ishl, 1) := by decide +kernel
theorem dX2_earlierThan_29 : decode cX2_earlierThan 29 = .ok (.ior, 1) := by decide +kernel
theorem dX2_earlierThan_30 : decode cX2_earlierThan 30 = .ok (.istore_n 2, 1) := by decide +kernel
theorem dX2_earlierThan_31 : decode cX2_earlierThan 31 = .ok (.iinc 3 1, 3) := by decide +kernel
theorem dX2_earlierThan_34 : decode cX2_earlierThan 34 = .ok (.goto (-30), 3) := by decide +kernel
theorem dX2_earlierThan_37 : decode cX2_earlierThan 37 = .ok (.iload_n 2, 1) := by decide +kernel
theorem dX2_earlierThan_38 : decode cX2_earlierThan 38 = .ok (.ireturn, 1) := by decide +kernel
theorem dX2_gravesWith_0 : decode cX2_gravesWith 0 = .ok (.iconst 0, 1) := by decide +kernel
theorem dX2_gravesWith_1 : decode cX2_gravesWith 1 = .ok (.istore_n 2, 1) := by decide +kernel
theorem dX2_gravesWith_2 : decode cX2_gravesWith 2 = .ok (.iconst 0, 1) := by decide +kernel
theorem dX2_gravesWith_3 : decode cX2_gravesWith 3 = .ok (.istore_n 3, 1) := by decide +kernel
theorem dX2_gravesWith_4 : decode cX2_gravesWith 4 = .ok (.iload_n 3, 1) := by decide +kernel
theorem dX2_gravesWith_5 : decode cX2_gravesWith 5 = .ok (.aload_n 0, 1) := by decide +kernel
theorem dX2_gravesWith_6 : decode cX2_gravesWith 6 = .ok (.getfield 9, 3) := by decide +kernel
theorem dX2_gravesWith_9 : decode cX2_gravesWith 9 = .ok (.if_icmp .ge 25, 3) := by decide +kernel
theorem dX2_gravesWith_12 : decode cX2_gravesWith 12 = .ok (.aload_n 0, 1) := by decide +kernel
theorem dX2_gravesWith_13 : decode cX2_gravesWith 13 = .ok (.getfield 15, 3) := by decide +kernel
theorem dX2_gravesWith_16 : decode cX2_gravesWith 16 = .ok (.iload_n 3, 1) := by decide +kernel
theorem dX2_gravesWith_17 : decode cX2_gravesWith 17 = .ok (.iaload, 1) := by decide +kernel
theorem dX2_gravesWith_18 : decode cX2_gravesWith 18 = .ok (.iload_n 1, 1) := by decide +kernel
theorem dX2_gravesWith_19 : decode cX2_gravesWith 19 = .ok (.invokestatic 31, 3) := by decide +kernel
theorem dX2_gravesWith_22 : decode cX2_gravesWith 22 = .ok (.ifCond .eq 6, 3) := by decide +kernel
theorem dX2_gravesWith_25 : decode cX2_gravesWith 25 = .ok (.iinc 2 1, 3) := by decide +kernel
theorem dX2_gravesWith_28 : decode cX2_gravesWith 28 = .ok (.iinc 3 1, 3) := by decide +kernel
theorem dX2_gravesWith_31 : decode cX2_gravesWith 31 = .ok (.goto (-27), 3) := by decide +kernel
theorem dX2_gravesWith_34 : decode cX2_gravesWith 34 = .ok (.iload_n 2, 1) := by decide +kernel
theorem dX2_gravesWith_35 : decode cX2_gravesWith 35 = .ok (.ireturn, 1) := by decide +kernel
theorem dX2_sortsFound_0 : decode cX2_sortsFound 0 = .ok (.iconst 0, 1) := by decide +kernel
theorem dX2_sortsFound_1 : decode cX2_sortsFound 1 = .ok (.istore_n 1, 1) := by decide +kernel
theorem dX2_sortsFound_2 : decode cX2_sortsFound 2 = .ok (.iconst 0, 1) := by decide +kernel
theorem dX2_sortsFound_3 : decode cX2_sortsFound 3 = .ok (.istore_n 2, 1) := by decide +kernel
theorem dX2_sortsFound_4 : decode cX2_sortsFound 4 = .ok (.iload_n 2, 1) := by decide +kernel
theorem dX2_sortsFound_5 : decode cX2_sortsFound 5 = .ok (.aload_n 0, 1) := by decide +kernel
theorem dX2_sortsFound_6 : decode cX2_sortsFound 6 = .ok (.getfield 9, 3) := by decide +kernel
theorem dX2_sortsFound_9 : decode cX2_sortsFound 9 = .ok (.if_icmp .ge 18, 3) := by decide +kernel
theorem dX2_sortsFound_12 : decode cX2_sortsFound 12 = .ok (.iload_n 1, 1) := by decide +kernel
theorem dX2_sortsFound_13 : decode cX2_sortsFound 13 = .ok (.aload_n 0, 1) := by decide +kernel
theorem dX2_sortsFound_14 : decode cX2_sortsFound 14 = .ok (.getfield 15, 3) := by decide +kernel
theorem dX2_sortsFound_17 : decode cX2_sortsFound 17 = .ok (.iload_n 2, 1) := by decide +kernel
theorem dX2_sortsFound_18 : decode cX2_sortsFound 18 = .ok (.iaload, 1) := by decide +kernel
theorem dX2_sortsFound_19 : decode cX2_sortsFound 19 = .ok (.ior, 1) := by decide +kernel
theorem dX2_sortsFound_20 : decode cX2_sortsFound 20 = .ok (.istore_n 1, 1) := by decide +kernel
theorem dX2_sortsFound_21 : decode cX2_sortsFound 21 = .ok (.iinc 2 1, 3) := by decide +kernel
theorem dX2_sortsFound_24 : decode cX2_sortsFound 24 = .ok (.goto (-20), 3) := by decide +kernel
theorem dX2_sortsFound_27 : decode cX2_sortsFound 27 = .ok (.iload_n 1, 1) := by decide +kernel
theorem dX2_sortsFound_28 : decode cX2_sortsFound 28 = .ok (.ireturn, 1) := by decide +kernel
theorem dX2_placeInLine_0 : decode cX2_placeInLine 0 = .ok (.iconst 0, 1) := by decide +kernel
theorem dX2_placeInLine_1 : decode cX2_placeInLine 1 = .ok (.istore_n 2, 1) := by decide +kernel
theorem dX2_placeInLine_2 : decode cX2_placeInLine 2 = .ok (.iconst 0, 1) := by decide +kernel
theorem dX2_placeInLine_3 : decode cX2_placeInLine 3 = .ok (.istore_n 3, 1) := by decide +kernel
theorem dX2_placeInLine_4 : decode cX2_placeInLine 4 = .ok (.iload_n 3, 1) := by decide +kernel
theorem dX2_placeInLine_5 : decode cX2_placeInLine 5 = .ok (.aload_n 0, 1) := by decide +kernel
theorem dX2_placeInLine_6 : decode cX2_placeInLine 6 = .ok (.getfield 9, 3) := by decide +kernel
theorem dX2_placeInLine_9 : decode cX2_placeInLine 9 = .ok (.if_icmp .ge 21, 3) := by decide +kernel
theorem dX2_placeInLine_12 : decode cX2_placeInLine 12 = .ok (.aload_n 0, 1) := by decide +kernel
theorem dX2_placeInLine_13 : decode cX2_placeInLine 13 = .ok (.getfield 22, 3) := by decide +kernel
theorem dX2_placeInLine_16 : decode cX2_placeInLine 16 = .ok (.iload_n 3, 1) := by decide +kernel
theorem dX2_placeInLine_17 : decode cX2_placeInLine 17 = .ok (.iaload, 1) := by decide +kernel
theorem dX2_placeInLine_18 : decode cX2_placeInLine 18 = .ok (.iload_n 1, 1) := by decide +kernel
theorem dX2_placeInLine_19 : decode cX2_placeInLine 19 = .ok (.if_icmp .ne 5, 3) := by decide +kernel
theorem dX2_placeInLine_22 : decode cX2_placeInLine 22 = .ok (.iload_n 3, 1) := by decide +kernel
theorem dX2_placeInLine_23 : decode cX2_placeInLine 23 = .ok (.istore_n 2, 1) := by decide +kernel
theorem dX2_placeInLine_24 : decode cX2_placeInLine 24 = .ok (.iinc 3 1, 3) := by decide +kernel
theorem dX2_placeInLine_27 : decode cX2_placeInLine 27 = .ok (.goto (-23), 3) := by decide +kernel
theorem dX2_placeInLine_30 : decode cX2_placeInLine 30 = .ok (.iload_n 2, 1) := by decide +kernel
theorem dX2_placeInLine_31 : decode cX2_placeInLine 31 = .ok (.ireturn, 1) := by decide +kernel
theorem dX2_lineBreaks_0 : decode cX2_lineBreaks 0 = .ok (.iconst 0, 1) := by decide +kernel
theorem dX2_lineBreaks_1 : decode cX2_lineBreaks 1 = .ok (.istore_n 2, 1) := by decide +kernel
theorem dX2_lineBreaks_2 : decode cX2_lineBreaks 2 = .ok (.iconst 0, 1) := by decide +kernel
theorem dX2_lineBreaks_3 : decode cX2_lineBreaks 3 = .ok (.istore_n 3, 1) := by decide +kernel
theorem dX2_lineBreaks_4 : decode cX2_lineBreaks 4 = .ok (.iconst 0, 1) := by decide +kernel
theorem dX2_lineBreaks_5 : decode cX2_lineBreaks 5 = .ok (.istore 4, 2) := by decide +kernel
theorem dX2_lineBreaks_7 : decode cX2_lineBreaks 7 = .ok (.iload 4, 2) := by decide +kernel
theorem dX2_lineBreaks_9 : decode cX2_lineBreaks 9 = .ok (.aload_n 0, 1) := by decide +kernel
theorem dX2_lineBreaks_10 : decode cX2_lineBreaks 10 = .ok (.getfield 9, 3) := by decide +kernel
theorem dX2_lineBreaks_13 : decode cX2_lineBreaks 13 = .ok (.if_icmp .ge 40, 3) := by decide +kernel
theorem dX2_lineBreaks_16 : decode cX2_lineBreaks 16 = .ok (.aload_n 0, 1) := by decide +kernel
theorem dX2_lineBreaks_17 : decode cX2_lineBreaks 17 = .ok (.getfield 15, 3) := by decide +kernel
theorem dX2_lineBreaks_20 : decode cX2_lineBreaks 20 = .ok (.aload_n 0, 1) := by decide +kernel
theorem dX2_lineBreaks_21 : decode cX2_lineBreaks 21 = .ok (.getfield 22, 3) := by decide +kernel
theorem dX2_lineBreaks_24 : decode cX2_lineBreaks 24 = .ok (.iload 4, 2) := by decide +kernel
theorem dX2_lineBreaks_26 : decode cX2_lineBreaks 26 = .ok (.iaload, 1) := by decide +kernel
theorem dX2_lineBreaks_27 : decode cX2_lineBreaks 27 = .ok (.iaload, 1) := by decide +kernel
theorem dX2_lineBreaks_28 : decode cX2_lineBreaks 28 = .ok (.iload_n 1, 1) := by decide +kernel
theorem dX2_lineBreaks_29 : decode cX2_lineBreaks 29 = .ok (.iand, 1) := by decide +kernel
theorem dX2_lineBreaks_30 : decode cX2_lineBreaks 30 = .ok (.istore 5, 2) := by decide +kernel
theorem dX2_lineBreaks_32 : decode cX2_lineBreaks 32 = .ok (.iload_n 2, 1) := by decide +kernel
theorem dX2_lineBreaks_33 : decode cX2_lineBreaks 33 = .ok (.iload 5, 2) := by decide +kernel
theorem dX2_lineBreaks_35 : decode cX2_lineBreaks 35 = .ok (.iload_n 3, 1) := by decide +kernel
theorem dX2_lineBreaks_36 : decode cX2_lineBreaks 36 = .ok (.iconst (-1), 1) := by decide +kernel
theorem dX2_lineBreaks_37 : decode cX2_lineBreaks 37 = .ok (.ixor, 1) := by decide +kernel
theorem dX2_lineBreaks_38 : decode cX2_lineBreaks 38 = .ok (.iand, 1) := by decide +kernel
theorem dX2_lineBreaks_39 : decode cX2_lineBreaks 39 = .ok (.invokestatic 35, 3) := by decide +kernel
theorem dX2_lineBreaks_42 : decode cX2_lineBreaks 42 = .ok (.iadd, 1) := by decide +kernel
theorem dX2_lineBreaks_43 : decode cX2_lineBreaks 43 = .ok (.istore_n 2, 1) := by decide +kernel
theorem dX2_lineBreaks_44 : decode cX2_lineBreaks 44 = .ok (.iload 5, 2) := by decide +kernel
theorem dX2_lineBreaks_46 : decode cX2_lineBreaks 46 = .ok (.istore_n 3, 1) := by decide +kernel
theorem dX2_lineBreaks_47 : decode cX2_lineBreaks 47 = .ok (.iinc 4 1, 3) := by decide +kernel
theorem dX2_lineBreaks_50 : decode cX2_lineBreaks 50 = .ok (.goto (-43), 3) := by decide +kernel
theorem dX2_lineBreaks_53 : decode cX2_lineBreaks 53 = .ok (.iload_n 2, 1) := by decide +kernel
theorem dX2_lineBreaks_54 : decode cX2_lineBreaks 54 = .ok (.aload_n 0, 1) := by decide +kernel
theorem dX2_lineBreaks_55 : decode cX2_lineBreaks 55 = .ok (.invokevirtual 41, 3) := by decide +kernel
theorem dX2_lineBreaks_58 : decode cX2_lineBreaks 58 = .ok (.iload_n 1, 1) := by decide +kernel
theorem dX2_lineBreaks_59 : decode cX2_lineBreaks 59 = .ok (.iand, 1) := by decide +kernel
theorem dX2_lineBreaks_60 : decode cX2_lineBreaks 60 = .ok (.invokestatic 35, 3) := by decide +kernel
theorem dX2_lineBreaks_63 : decode cX2_lineBreaks 63 = .ok (.isub, 1) := by decide +kernel
theorem dX2_lineBreaks_64 : decode cX2_lineBreaks 64 = .ok (.ireturn, 1) := by decide +kernel
theorem dX2_lineIsAllowed_0 : decode cX2_lineIsAllowed 0 = .ok (.iconst 0, 1) := by decide +kernel
theorem dX2_lineIsAllowed_1 : decode cX2_lineIsAllowed 1 = .ok (.istore_n 1, 1) := by decide +kernel
theorem dX2_lineIsAllowed_2 : decode cX2_lineIsAllowed 2 = .ok (.iconst 0, 1) := by decide +kernel
theorem dX2_lineIsAllowed_3 : decode cX2_lineIsAllowed 3 = .ok (.istore_n 2, 1) := by decide +kernel
theorem dX2_lineIsAllowed_4 : decode cX2_lineIsAllowed 4 = .ok (.iload_n 2, 1) := by decide +kernel
theorem dX2_lineIsAllowed_5 : decode cX2_lineIsAllowed 5 = .ok (.aload_n 0, 1) := by decide +kernel
theorem dX2_lineIsAllowed_6 : decode cX2_lineIsAllowed 6 = .ok (.getfield 9, 3) := by decide +kernel
theorem dX2_lineIsAllowed_9 : decode cX2_lineIsAllowed 9 = .ok (.if_icmp .ge 38, 3) := by decide +kernel
theorem dX2_lineIsAllowed_12 : decode cX2_lineIsAllowed 12 = .ok (.aload_n 0, 1) := by decide +kernel
theorem dX2_lineIsAllowed_13 : decode cX2_lineIsAllowed 13 = .ok (.getfield 19, 3) := by decide +kernel
theorem dX2_lineIsAllowed_16 : decode cX2_lineIsAllowed 16 = .ok (.aload_n 0, 1) := by decide +kernel
theorem dX2_lineIsAllowed_17 : decode cX2_lineIsAllowed 17 = .ok (.getfield 22, 3) := by decide +kernel
theorem dX2_lineIsAllowed_20 : decode cX2_lineIsAllowed 20 = .ok (.iload_n 2, 1) := by decide +kernel
theorem dX2_lineIsAllowed_21 : decode cX2_lineIsAllowed 21 = .ok (.iaload, 1) := by decide +kernel
theorem dX2_lineIsAllowed_22 : decode cX2_lineIsAllowed 22 = .ok (.iaload, 1) := by decide +kernel
theorem dX2_lineIsAllowed_23 : decode cX2_lineIsAllowed 23 = .ok (.iload_n 1, 1) := by decide +kernel
theorem dX2_lineIsAllowed_24 : decode cX2_lineIsAllowed 24 = .ok (.iand, 1) := by decide +kernel
theorem dX2_lineIsAllowed_25 : decode cX2_lineIsAllowed 25 = .ok (.ifCond .eq 5, 3) := by decide +kernel
theorem dX2_lineIsAllowed_28 : decode cX2_lineIsAllowed 28 = .ok (.iconst 0, 1) := by decide +kernel
theorem dX2_lineIsAllowed_29 : decode cX2_lineIsAllowed 29 = .ok (.ireturn, 1) := by decide +kernel
theorem dX2_lineIsAllowed_30 : decode cX2_lineIsAllowed 30 = .ok (.iload_n 1, 1) := by decide +kernel
theorem dX2_lineIsAllowed_31 : decode cX2_lineIsAllowed 31 = .ok (.iconst 1, 1) := by decide +kernel
theorem dX2_lineIsAllowed_32 : decode cX2_lineIsAllowed 32 = .ok (.aload_n 0, 1) := by decide +kernel
theorem dX2_lineIsAllowed_33 : decode cX2_lineIsAllowed 33 = .ok (.getfield 22, 3) := by decide +kernel
theorem dX2_lineIsAllowed_36 : decode cX2_lineIsAllowed 36 = .ok (.iload_n 2, 1) := by decide +kernel
theorem dX2_lineIsAllowed_37 : decode cX2_lineIsAllowed 37 = .ok (.iaload, 1) := by decide +kernel
theorem dX2_lineIsAllowed_38 : decode cX2_lineIsAllowed 38 = .ok (.ishl, 1) := by decide +kernel
theorem dX2_lineIsAllowed_39 : decode cX2_lineIsAllowed 39 = .ok (.ior, 1) := by decide +kernel
theorem dX2_lineIsAllowed_40 : decode cX2_lineIsAllowed 40 = .ok (.istore_n 1, 1) := by decide +kernel
theorem dX2_lineIsAllowed_41 : decode cX2_lineIsAllowed 41 = .ok (.iinc 2 1, 3) := by decide +kernel
theorem dX2_lineIsAllowed_44 : decode cX2_lineIsAllowed 44 = .ok (.goto (-40), 3) := by decide +kernel
theorem dX2_lineIsAllowed_47 : decode cX2_lineIsAllowed 47 = .ok (.iconst 1, 1) := by decide +kernel
theorem dX2_lineIsAllowed_48 : decode cX2_lineIsAllowed 48 = .ok (.ireturn, 1) := by decide +kernel
theorem dX2_exchange_0 : decode cX2_exchange 0 = .ok (.aload_n 0, 1) := by decide +kernel
theorem dX2_exchange_1 : decode cX2_exchange 1 = .ok (.getfield 22, 3) := by decide +kernel
theorem dX2_exchange_4 : decode cX2_exchange 4 = .ok (.iload_n 1, 1) := by decide +kernel
theorem dX2_exchange_5 : decode cX2_exchange 5 = .ok (.iaload, 1) := by decide +kernel
theorem dX2_exchange_6 : decode cX2_exchange 6 = .ok (.istore_n 2, 1) := by decide +kernel
theorem dX2_exchange_7 : decode cX2_exchange 7 = .ok (.aload_n 0, 1) := by decide +kernel
theorem dX2_exchange_8 : decode cX2_exchange 8 = .ok (.getfield 22, 3) := by decide +kernel
theorem dX2_exchange_11 : decode cX2_exchange 11 = .ok (.iload_n 1, 1) := by decide +kernel
theorem dX2_exchange_12 : decode cX2_exchange 12 = .ok (.aload_n 0, 1) := by decide +kernel
theorem dX2_exchange_13 : decode cX2_exchange 13 = .ok (.getfield 22, 3) := by decide +kernel
theorem dX2_exchange_16 : decode cX2_exchange 16 = .ok (.iload_n 1, 1) := by decide +kernel
theorem dX2_exchange_17 : decode cX2_exchange 17 = .ok (.iconst 1, 1) := by decide +kernel
theorem dX2_exchange_18 : decode cX2_exchange 18 = .ok (.iadd, 1) := by decide +kernel
theorem dX2_exchange_19 : decode cX2_exchange 19 = .ok (.iaload, 1) := by decide +kernel
theorem dX2_exchange_20 : decode cX2_exchange 20 = .ok (.iastore, 1) := by decide +kernel
theorem dX2_exchange_21 : decode cX2_exchange 21 = .ok (.aload_n 0, 1) := by decide +kernel
theorem dX2_exchange_22 : decode cX2_exchange 22 = .ok (.getfield 22, 3) := by decide +kernel
theorem dX2_exchange_25 : decode cX2_exchange 25 = .ok (.iload_n 1, 1) := by decide +kernel
theorem dX2_exchange_26 : decode cX2_exchange 26 = .ok (.iconst 1, 1) := by decide +kernel
theorem dX2_exchange_27 : decode cX2_exchange 27 = .ok (.iadd, 1) := by decide +kernel
theorem dX2_exchange_28 : decode cX2_exchange 28 = .ok (.iload_n 2, 1) := by decide +kernel
theorem dX2_exchange_29 : decode cX2_exchange 29 = .ok (.iastore, 1) := by decide +kernel
theorem dX2_exchange_30 : decode cX2_exchange 30 = .ok (.return_, 1) := by decide +kernel
theorem dX2_bestExchange_0 : decode cX2_bestExchange 0 = .ok (.aload_n 0, 1) := by decide +kernel
theorem dX2_bestExchange_1 : decode cX2_bestExchange 1 = .ok (.sipush 1023, 3) := by decide +kernel
theorem dX2_bestExchange_4 : decode cX2_bestExchange 4 = .ok (.invokevirtual 45, 3) := by decide +kernel
theorem dX2_bestExchange_7 : decode cX2_bestExchange 7 = .ok (.istore_n 1, 1) := by decide +kernel
theorem dX2_bestExchange_8 : decode cX2_bestExchange 8 = .ok (.bipush (-6), 2) := by decide +kernel
theorem dX2_bestExchange_10 : decode cX2_bestExchange 10 = .ok (.istore_n 2, 1) := by decide +kernel
theorem dX2_bestExchange_11 : decode cX2_bestExchange 11 = .ok (.iconst 0, 1) := by decide +kernel
theorem dX2_bestExchange_12 : decode cX2_bestExchange 12 = .ok (.istore_n 3, 1) := by decide +kernel
theorem dX2_bestExchange_13 : decode cX2_bestExchange 13 = .ok (.iload_n 3, 1) := by decide +kernel
theorem dX2_bestExchange_14 : decode cX2_bestExchange 14 = .ok (.aload_n 0, 1) := by decide +kernel
theorem dX2_bestExchange_15 : decode cX2_bestExchange 15 = .ok (.getfield 9, 3) := by decide +kernel
theorem dX2_bestExchange_18 : decode cX2_bestExchange 18 = .ok (.iconst 1, 1) := by decide +kernel
theorem dX2_bestExchange_19 : decode cX2_bestExchange 19 = .ok (.isub, 1) := by decide +kernel
theorem dX2_bestExchange_20 : decode cX2_bestExchange 20 = .ok (.if_icmp .ge 39, 3) := by decide +kernel
theorem dX2_bestExchange_23 : decode cX2_bestExchange 23 = .ok (.aload_n 0, 1) := by decide +kernel
theorem dX2_bestExchange_24 : decode cX2_bestExchange 24 = .ok (.iload_n 3, 1) := by decide +kernel
theorem dX2_bestExchange_25 : decode cX2_bestExchange 25 = .ok (.invokevirtual 48, 3) := by decide +kernel
theorem dX2_bestExchange_28 : decode cX2_bestExchange 28 = .ok (.aload_n 0, 1) := by decide +kernel
theorem dX2_bestExchange_29 : decode cX2_bestExchange 29 = .ok (.sipush 1023, 3) := by decide +kernel
theorem dX2_bestExchange_32 : decode cX2_bestExchange 32 = .ok (.invokevirtual 45, 3) := by decide +kernel
theorem dX2_bestExchange_35 : decode cX2_bestExchange 35 = .ok (.istore 4, 2) := by decide +kernel
theorem dX2_bestExchange_37 : decode cX2_bestExchange 37 = .ok (.aload_n 0, 1) := by decide +kernel
theorem dX2_bestExchange_38 : decode cX2_bestExchange 38 = .ok (.iload_n 3, 1) := by decide +kernel
theorem dX2_bestExchange_39 : decode cX2_bestExchange 39 = .ok (.invokevirtual 48, 3) := by decide +kernel
theorem dX2_bestExchange_42 : decode cX2_bestExchange 42 = .ok (.iload 4, 2) := by decide +kernel
theorem dX2_bestExchange_44 : decode cX2_bestExchange 44 = .ok (.iload_n 1, 1) := by decide +kernel
theorem dX2_bestExchange_45 : decode cX2_bestExchange 45 = .ok (.if_icmp .ge 8, 3) := by decide +kernel
theorem dX2_bestExchange_48 : decode cX2_bestExchange 48 = .ok (.iload 4, 2) := by decide +kernel
theorem dX2_bestExchange_50 : decode cX2_bestExchange 50 = .ok (.istore_n 1, 1) := by decide +kernel
theorem dX2_bestExchange_51 : decode cX2_bestExchange 51 = .ok (.iload_n 3, 1) := by decide +kernel
theorem dX2_bestExchange_52 : decode cX2_bestExchange 52 = .ok (.istore_n 2, 1) := by decide +kernel
theorem dX2_bestExchange_53 : decode cX2_bestExchange 53 = .ok (.iinc 3 1, 3) := by decide +kernel
theorem dX2_bestExchange_56 : decode cX2_bestExchange 56 = .ok (.goto (-43), 3) := by decide +kernel
theorem dX2_bestExchange_59 : decode cX2_bestExchange 59 = .ok (.iload_n 2, 1) := by decide +kernel
theorem dX2_bestExchange_60 : decode cX2_bestExchange 60 = .ok (.ireturn, 1) := by decide +kernel
end
section
theorem dX3_init_0 : decode cX3_init 0 = .ok (.aload_n 0, 1) := by decide +kernel
theorem dX3_init_1 : decode cX3_init 1 = .ok (.invokespecial 3, 3) := by decide +kernel
theorem dX3_init_4 : decode cX3_init 4 = .ok (.aload_n 0, 1) := by decide +kernel
theorem dX3_init_5 : decode cX3_init 5 = .ok (.bipush 8, 2) := by decide +kernel
theorem dX3_init_7 : decode cX3_init 7 = .ok (.newarray .int, 2) := by decide +kernel
theorem dX3_init_9 : decode cX3_init 9 = .ok (.putfield 9, 3) := by decide +kernel
theorem dX3_init_12 : decode cX3_init 12 = .ok (.return_, 1) := by decide +kernel
theorem dX3_lookAt_0 : decode cX3_lookAt 0 = .ok (.iconst 0, 1) := by decide +kernel
theorem dX3_lookAt_1 : decode cX3_lookAt 1 = .ok (.istore_n 3, 1) := by decide +kernel
theorem dX3_lookAt_2 : decode cX3_lookAt 2 = .ok (.iload_n 3, 1) := by decide +kernel
theorem dX3_lookAt_3 : decode cX3_lookAt 3 = .ok (.bipush 8, 2) := by decide +kernel
theorem dX3_lookAt_5 : decode cX3_lookAt 5 = .ok (.if_icmp .ge 23, 3) := by decide +kernel
theorem dX3_lookAt_8 : decode cX3_lookAt 8 = .ok (.aload_n 0, 1) := by decide +kernel
theorem dX3_lookAt_9 : decode cX3_lookAt 9 = .ok (.getfield 9, 3) := by decide +kernel
theorem dX3_lookAt_12 : decode cX3_lookAt 12 = .ok (.iload_n 3, 1) := by decide +kernel
theorem dX3_lookAt_13 : decode cX3_lookAt 13 = .ok (.aload_n 1, 1) := by decide +kernel
theorem dX3_lookAt_14 : decode cX3_lookAt 14 = .ok (.getfield 15, 3) := by decide +kernel
theorem dX3_lookAt_17 : decode cX3_lookAt 17 = .ok (.iload_n 3, 1) := by decide +kernel
theorem dX3_lookAt_18 : decode cX3_lookAt 18 = .ok (.iaload, 1) := by decide +kernel
theorem dX3_lookAt_19 : decode cX3_lookAt 19 = .ok (.iload_n 2, 1) := by decide +kernel
theorem dX3_lookAt_20 : decode cX3_lookAt 20 = .ok (.iand, 1) := by decide +kernel
theorem dX3_lookAt_21 : decode cX3_lookAt 21 = .ok (.iastore, 1) := by decide +kernel
theorem dX3_lookAt_22 : decode cX3_lookAt 22 = .ok (.iinc 3 1, 3) := by decide +kernel
theorem dX3_lookAt_25 : decode cX3_lookAt 25 = .ok (.goto (-23), 3) := by decide +kernel
theorem dX3_lookAt_28 : decode cX3_lookAt 28 = .ok (.return_, 1) := by decide +kernel
theorem dX3_ofNext_0 : decode cX3_ofNext 0 = .ok (.iload_n 1, 1) := by decide +kernel
theorem dX3_ofNext_1 : decode cX3_ofNext 1 = .ok (.ifCond .ne 7, 3) := by decide +kernel
theorem dX3_ofNext_4 : decode cX3_ofNext 4 = .ok (.iconst 0, 1) := by decide +kernel
theorem dX3_ofNext_5 : decode cX3_ofNext 5 = .ok (.goto 9, 3) := by decide +kernel
theorem dX3_ofNext_8 : decode cX3_ofNext 8 = .ok (.aload_n 0, 1) := by decide +kernel
theorem dX3_ofNext_9 : decode cX3_ofNext 9 = .ok (.getfield 9, 3) := by decide +kernel
theorem dX3_ofNext_12 : decode cX3_ofNext 12 = .ok (.iload_n 2, 1) := by decide +kernel
theorem dX3_ofNext_13 : decode cX3_ofNext 13 = .ok (.iaload, 1) := by decide +kernel
theorem dX3_ofNext_14 : decode cX3_ofNext 14 = .ok (.istore 4, 2) := by decide +kernel
theorem dX3_ofNext_16 : decode cX3_ofNext 16 = .ok (.aload_n 0, 1) := by decide +kernel
theorem dX3_ofNext_17 : decode cX3_ofNext 17 = .ok (.getfield 9, 3) := by decide +kernel
theorem dX3_ofNext_20 : decode cX3_ofNext 20 = .ok (.iload_n 3, 1) := by decide +kernel
theorem dX3_ofNext_21 : decode cX3_ofNext 21 = .ok (.iaload, 1) := by decide +kernel
theorem dX3_ofNext_22 : decode cX3_ofNext 22 = .ok (.iload 4, 2) := by decide +kernel
theorem dX3_ofNext_24 : decode cX3_ofNext 24 = .ok (.iconst (-1), 1) := by decide +kernel
theorem dX3_ofNext_25 : decode cX3_ofNext 25 = .ok (.ixor, 1) := by decide +kernel
theorem dX3_ofNext_26 : decode cX3_ofNext 26 = .ok (.iand, 1) := by decide +kernel
theorem dX3_ofNext_27 : decode cX3_ofNext 27 = .ok (.invokestatic 18, 3) := by decide +kernel
theorem dX3_ofNext_30 : decode cX3_ofNext 30 = .ok (.ireturn, 1) := by decide +kernel
end
section
theorem dX4_init_0 : decode cX4_init 0 = .ok (.aload_n 0, 1) := by decide +kernel
theorem dX4_init_1 : decode cX4_init 1 = .ok (.invokespecial 3, 3) := by decide +kernel
theorem dX4_init_4 : decode cX4_init 4 = .ok (.aload_n 0, 1) := by decide +kernel
theorem dX4_init_5 : decode cX4_init 5 = .ok (.bipush 8, 2) := by decide +kernel
theorem dX4_init_7 : decode cX4_init 7 = .ok (.newarray .int, 2) := by decide +kernel
theorem dX4_init_9 : decode cX4_init 9 = .ok (.putfield 9, 3) := by decide +kernel
theorem dX4_init_12 : decode cX4_init 12 = .ok (.return_, 1) := by decide +kernel
theorem dX4_lookAt_0 : decode cX4_lookAt 0 = .ok (.iconst 0, 1) := by decide +kernel
theorem dX4_lookAt_1 : decode cX4_lookAt 1 = .ok (.istore_n 2, 1) := by decide +kernel
theorem dX4_lookAt_2 : decode cX4_lookAt 2 = .ok (.iconst 0, 1) := by decide +kernel
theorem dX4_lookAt_3 : decode cX4_lookAt 3 = .ok (.istore_n 3, 1) := by decide +kernel
theorem dX4_lookAt_4 : decode cX4_lookAt 4 = .ok (.iload_n 3, 1) := by decide +kernel
theorem dX4_lookAt_5 : decode cX4_lookAt 5 = .ok (.aload_n 1, 1) := by decide +kernel
theorem dX4_lookAt_6 : decode cX4_lookAt 6 = .ok (.getfield 15, 3) := by decide +kernel
theorem dX4_lookAt_9 : decode cX4_lookAt 9 = .ok (.if_icmp .ge 32, 3) := by decide +kernel
theorem dX4_lookAt_12 : decode cX4_lookAt 12 = .ok (.aload_n 0, 1) := by decide +kernel
theorem dX4_lookAt_13 : decode cX4_lookAt 13 = .ok (.getfield 9, 3) := by decide +kernel
theorem dX4_lookAt_16 : decode cX4_lookAt 16 = .ok (.aload_n 1, 1) := by decide +kernel
theorem dX4_lookAt_17 : decode cX4_lookAt 17 = .ok (.getfield 21, 3) := by decide +kernel
theorem dX4_lookAt_20 : decode cX4_lookAt 20 = .ok (.iload_n 3, 1) := by decide +kernel
theorem dX4_lookAt_21 : decode cX4_lookAt 21 = .ok (.iaload, 1) := by decide +kernel
theorem dX4_lookAt_22 : decode cX4_lookAt 22 = .ok (.iload_n 2, 1) := by decide +kernel
theorem dX4_lookAt_23 : decode cX4_lookAt 23 = .ok (.iastore, 1) := by decide +kernel
theorem dX4_lookAt_24 : decode cX4_lookAt 24 = .ok (.iload_n 2, 1) := by decide +kernel
theorem dX4_lookAt_25 : decode cX4_lookAt 25 = .ok (.iconst 1, 1) := by decide +kernel
theorem dX4_lookAt_26 : decode cX4_lookAt 26 = .ok (.aload_n 1, 1) := by decide +kernel
theorem dX4_lookAt_27 : decode cX4_lookAt 27 = .ok (.getfield 21, 3) := by decide +kernel
theorem dX4_lookAt_30 : decode cX4_lookAt 30 = .ok (.iload_n 3, 1) := by decide +kernel
theorem dX4_lookAt_31 : decode cX4_lookAt 31 = .ok (.iaload, 1) := by decide +kernel
theorem dX4_lookAt_32 : decode cX4_lookAt 32 = .ok (.ishl, 1) := by decide +kernel
theorem dX4_lookAt_33 : decode cX4_lookAt 33 = .ok (.ior, 1) := by decide +kernel
theorem dX4_lookAt_34 : decode cX4_lookAt 34 = .ok (.istore_n 2, 1) := by decide +kernel
theorem dX4_lookAt_35 : decode cX4_lookAt 35 = .ok (.iinc 3 1, 3) := by decide +kernel
theorem dX4_lookAt_38 : decode cX4_lookAt 38 = .ok (.goto (-34), 3) := by decide +kernel
theorem dX4_lookAt_41 : decode cX4_lookAt 41 = .ok (.return_, 1) := by decide +kernel
theorem dX4_ofNext_0 : decode cX4_ofNext 0 = .ok (.aload_n 0, 1) := by decide +kernel
theorem dX4_ofNext_1 : decode cX4_ofNext 1 = .ok (.getfield 9, 3) := by decide +kernel
theorem dX4_ofNext_4 : decode cX4_ofNext 4 = .ok (.iload_n 3, 1) := by decide +kernel
theorem dX4_ofNext_5 : decode cX4_ofNext 5 = .ok (.iaload, 1) := by decide +kernel
theorem dX4_ofNext_6 : decode cX4_ofNext 6 = .ok (.iload_n 1, 1) := by decide +kernel
theorem dX4_ofNext_7 : decode cX4_ofNext 7 = .ok (.iconst (-1), 1) := by decide +kernel
theorem dX4_ofNext_8 : decode cX4_ofNext 8 = .ok (.ixor, 1) := by decide +kernel
theorem dX4_ofNext_9 : decode cX4_ofNext 9 = .ok (.iand, 1) := by decide +kernel
theorem dX4_ofNext_10 : decode cX4_ofNext 10 = .ok (.invokestatic 24, 3) := by decide +kernel
theorem dX4_ofNext_13 : decode cX4_ofNext 13 = .ok (.ireturn, 1) := by decide +kernel
end
section
theorem dX5_init_0 : decode cX5_init 0 = .ok (.aload_n 0, 1) := by decide +kernel
theorem dX5_init_1 : decode cX5_init 1 = .ok (.invokespecial 3, 3) := by decide +kernel
theorem dX5_init_4 : decode cX5_init 4 = .ok (.aload_n 0, 1) := by decide +kernel
theorem dX5_init_5 : decode cX5_init 5 = .ok (.new 9, 3) := by decide +kernel
theorem dX5_init_8 : decode cX5_init 8 = .ok (.dup, 1) := by decide +kernel
theorem dX5_init_9 : decode cX5_init 9 = .ok (.invokespecial 11, 3) := by decide +kernel
theorem dX5_init_12 : decode cX5_init 12 = .ok (.putfield 12, 3) := by decide +kernel
theorem dX5_init_15 : decode cX5_init 15 = .ok (.aload_n 0, 1) := by decide +kernel
theorem dX5_init_16 : decode cX5_init 16 = .ok (.iconst 2, 1) := by decide +kernel
theorem dX5_init_17 : decode cX5_init 17 = .ok (.anewarray 9, 3) := by decide +kernel
theorem dX5_init_20 : decode cX5_init 20 = .ok (.putfield 16, 3) := by decide +kernel
theorem dX5_init_23 : decode cX5_init 23 = .ok (.iconst 0, 1) := by decide +kernel
theorem dX5_init_24 : decode cX5_init 24 = .ok (.istore_n 1, 1) := by decide +kernel
theorem dX5_init_25 : decode cX5_init 25 = .ok (.iload_n 1, 1) := by decide +kernel
theorem dX5_init_26 : decode cX5_init 26 = .ok (.iconst 2, 1) := by decide +kernel
theorem dX5_init_27 : decode cX5_init 27 = .ok (.if_icmp .ge 22, 3) := by decide +kernel
theorem dX5_init_30 : decode cX5_init 30 = .ok (.aload_n 0, 1) := by decide +kernel
theorem dX5_init_31 : decode cX5_init 31 = .ok (.getfield 16, 3) := by decide +kernel
theorem dX5_init_34 : decode cX5_init 34 = .ok (.iload_n 1, 1) := by decide +kernel
theorem dX5_init_35 : decode cX5_init 35 = .ok (.new 9, 3) := by decide +kernel
theorem dX5_init_38 : decode cX5_init 38 = .ok (.dup, 1) := by decide +kernel
theorem dX5_init_39 : decode cX5_init 39 = .ok (.invokespecial 11, 3) := by decide +kernel
theorem dX5_init_42 : decode cX5_init 42 = .ok (.aastore, 1) := by decide +kernel
theorem dX5_init_43 : decode cX5_init 43 = .ok (.iinc 1 1, 3) := by decide +kernel
theorem dX5_init_46 : decode cX5_init 46 = .ok (.goto (-21), 3) := by decide +kernel
theorem dX5_init_49 : decode cX5_init 49 = .ok (.aload_n 0, 1) := by decide +kernel
theorem dX5_init_50 : decode cX5_init 50 = .ok (.iconst 0, 1) := by decide +kernel
theorem dX5_init_51 : decode cX5_init 51 = .ok (.putfield 20, 3) := by decide +kernel
theorem dX5_init_54 : decode cX5_init 54 = .ok (.aload_n 0, 1) := by decide +kernel
theorem dX5_init_55 : decode cX5_init 55 = .ok (.new 24, 3) := by decide +kernel
theorem dX5_init_58 : decode cX5_init 58 = .ok (.dup, 1) := by decide +kernel
theorem dX5_init_59 : decode cX5_init 59 = .ok (.invokespecial 26, 3) := by decide +kernel
theorem dX5_init_62 : decode cX5_init 62 = .ok (.putfield 27, 3) := by decide +kernel
theorem dX5_init_65 : decode cX5_init 65 = .ok (.aload_n 0, 1) := by decide +kernel
theorem dX5_init_66 : decode cX5_init 66 = .ok (.iconst 0, 1) := by decide +kernel
theorem dX5_init_67 : decode cX5_init 67 = .ok (.putfield 31, 3) := by decide +kernel
theorem dX5_init_70 : decode cX5_init 70 = .ok (.aload_n 0, 1) := by decide +kernel
theorem dX5_init_71 : decode cX5_init 71 = .ok (.iconst 0, 1) := by decide +kernel
theorem dX5_init_72 : decode cX5_init 72 = .ok (.putfield 35, 3) := by decide +kernel
theorem dX5_init_75 : decode cX5_init 75 = .ok (.return_, 1) := by decide +kernel
theorem dX5_many_0 : decode cX5_many 0 = .ok (.iload_n 1, 1) := by decide +kernel
theorem dX5_many_1 : decode cX5_many 1 = .ok (.iconst 1, 1) := by decide +kernel
theorem dX5_many_2 : decode cX5_many 2 = .ok (.if_icmp .lt 9, 3) := by decide +kernel
theorem dX5_many_5 : decode cX5_many 5 = .ok (.iload_n 1, 1) := by decide +kernel
theorem dX5_many_6 : decode cX5_many 6 = .ok (.bipush 8, 2) := by decide +kernel
theorem dX5_many_8 : decode cX5_many 8 = .ok (.if_icmp .le 6, 3) := by decide +kernel
theorem dX5_many_11 : decode cX5_many 11 = .ok (.bipush (-2), 2) := by decide +kernel
theorem dX5_many_13 : decode cX5_many 13 = .ok (.ireturn, 1) := by decide +kernel
theorem dX5_many_14 : decode cX5_many 14 = .ok (.aload_n 0, 1) := by decide +kernel
theorem dX5_many_15 : decode cX5_many 15 = .ok (.getfield 12, 3) := by decide +kernel
theorem dX5_many_18 : decode cX5_many 18 = .ok (.getfield 38, 3) := by decide +kernel
theorem dX5_many_21 : decode cX5_many 21 = .ok (.istore_n 2, 1) := by decide +kernel
theorem dX5_many_22 : decode cX5_many 22 = .ok (.aload_n 0, 1) := by decide +kernel
theorem dX5_many_23 : decode cX5_many 23 = .ok (.getfield 12, 3) := by decide +kernel
theorem dX5_many_26 : decode cX5_many 26 = .ok (.iload_n 1, 1) := by decide +kernel
theorem dX5_many_27 : decode cX5_many 27 = .ok (.invokevirtual 41, 3) := by decide +kernel
theorem dX5_many_30 : decode cX5_many 30 = .ok (.aload_n 0, 1) := by decide +kernel
theorem dX5_many_31 : decode cX5_many 31 = .ok (.invokevirtual 45, 3) := by decide +kernel
theorem dX5_many_34 : decode cX5_many 34 = .ok (.iload_n 2, 1) := by decide +kernel
theorem dX5_many_35 : decode cX5_many 35 = .ok (.ireturn, 1) := by decide +kernel
theorem dX5_find_0 : decode cX5_find 0 = .ok (.aload_n 0, 1) := by decide +kernel
theorem dX5_find_1 : decode cX5_find 1 = .ok (.iload_n 1, 1) := by decide +kernel
theorem dX5_find_2 : decode cX5_find 2 = .ok (.invokevirtual 48, 3) := by decide +kernel
theorem dX5_find_5 : decode cX5_find 5 = .ok (.ifCond .eq 10, 3) := by decide +kernel
theorem dX5_find_8 : decode cX5_find 8 = .ok (.iload_n 2, 1) := by decide +kernel
theorem dX5_find_9 : decode cX5_find 9 = .ok (.invokestatic 52, 3) := by decide +kernel
theorem dX5_find_12 : decode cX5_find 12 = .ok (.ifCond .ne 5, 3) := by decide +kernel
theorem dX5_find_15 : decode cX5_find 15 = .ok (.iconst (-1), 1) := by decide +kernel
theorem dX5_find_16 : decode cX5_find 16 = .ok (.ireturn, 1) := by decide +kernel
theorem dX5_find_17 : decode cX5_find 17 = .ok (.iload_n 3, 1) := by decide +kernel
theorem dX5_find_18 : decode cX5_find 18 = .ok (.invokestatic 55, 3) := by decide +kernel
theorem dX5_find_21 : decode cX5_find 21 = .ok (.ifCond .ne 6, 3) := by decide +kernel
theorem dX5_find_24 : decode cX5_find 24 = .ok (.bipush (-2), 2) := by decide +kernel
theorem dX5_find_26 : decode cX5_find 26 = .ok (.ireturn, 1) := by decide +kernel
theorem dX5_find_27 : decode cX5_find 27 = .ok (.aload_n 0, 1) := by decide +kernel
theorem dX5_find_28 : decode cX5_find 28 = .ok (.getfield 12, 3) := by decide +kernel
theorem dX5_find_31 : decode cX5_find 31 = .ok (.getfield 58, 3) := by decide +kernel
theorem dX5_find_34 : decode cX5_find 34 = .ok (.iload_n 1, 1) := by decide +kernel
theorem dX5_find_35 : decode cX5_find 35 = .ok (.aload_n 0, 1) := by decide +kernel
theorem dX5_find_36 : decode cX5_find 36 = .ok (.getfield 12, 3) := by decide +kernel
theorem dX5_find_39 : decode cX5_find 39 = .ok (.getfield 58, 3) := by decide +kernel
theorem dX5_find_42 : decode cX5_find 42 = .ok (.iload_n 1, 1) := by decide +kernel
theorem dX5_find_43 : decode cX5_find 43 = .ok (.iaload, 1) := by decide +kernel
theorem dX5_find_44 : decode cX5_find 44 = .ok (.iload_n 2, 1) := by decide +kernel
theorem dX5_find_45 : decode cX5_find 45 = .ok (.iload_n 3, 1) := by decide +kernel
theorem dX5_find_46 : decode cX5_find 46 = .ok (.invokestatic 62, 3) := by decide +kernel
theorem dX5_find_49 : decode cX5_find 49 = .ok (.iastore, 1) := by decide +kernel
theorem dX5_find_50 : decode cX5_find 50 = .ok (.aload_n 0, 1) := by decide +kernel
theorem dX5_find_51 : decode cX5_find 51 = .ok (.invokevirtual 45, 3) := by decide +kernel
theorem dX5_find_54 : decode cX5_find 54 = .ok (.aload_n 0, 1) := by decide +kernel
theorem dX5_find_55 : decode cX5_find 55 = .ok (.getfield 12, 3) := by decide +kernel
theorem dX5_find_58 : decode cX5_find 58 = .ok (.getfield 58, 3) := by decide +kernel
theorem dX5_find_61 : decode cX5_find 61 = .ok (.iload_n 1, 1) := by decide +kernel
theorem dX5_find_62 : decode cX5_find 62 = .ok (.iaload, 1) := by decide +kernel
theorem dX5_find_63 : decode cX5_find 63 = .ok (.invokestatic 66, 3) := by decide +kernel
theorem dX5_find_66 : decode cX5_find 66 = .ok (.ireturn, 1) := by decide +kernel
theorem dX5_ahead_0 : decode cX5_ahead 0 = .ok (.aload_n 0, 1) := by decide +kernel
theorem dX5_ahead_1 : decode cX5_ahead 1 = .ok (.iload_n 1, 1) := by decide +kernel
theorem dX5_ahead_2 : decode cX5_ahead 2 = .ok (.invokevirtual 48, 3) := by decide +kernel
theorem dX5_ahead_5 : decode cX5_ahead 5 = .ok (.ifCond .eq 11, 3) := by decide +kernel
theorem dX5_ahead_8 : decode cX5_ahead 8 = .ok (.aload_n 0, 1) := by decide +kernel
theorem dX5_ahead_9 : decode cX5_ahead 9 = .ok (.iload_n 2, 1) := by decide +kernel
theorem dX5_ahead_10 : decode cX5_ahead 10 = .ok (.invokevirtual 48, 3) := by decide +kernel
theorem dX5_ahead_13 : decode cX5_ahead 13 = .ok (.ifCond .ne 5, 3) := by decide +kernel
theorem dX5_ahead_16 : decode cX5_ahead 16 = .ok (.iconst (-1), 1) := by decide +kernel
theorem dX5_ahead_17 : decode cX5_ahead 17 = .ok (.ireturn, 1) := by decide +kernel
theorem dX5_ahead_18 : decode cX5_ahead 18 = .ok (.iload_n 3, 1) := by decide +kernel
theorem dX5_ahead_19 : decode cX5_ahead 19 = .ok (.invokestatic 55, 3) := by decide +kernel
theorem dX5_ahead_22 : decode cX5_ahead 22 = .ok (.ifCond .eq 8, 3) := by decide +kernel
theorem dX5_ahead_25 : decode cX5_ahead 25 = .ok (.iload_n 1, 1) := by decide +kernel
theorem dX5_ahead_26 : decode cX5_ahead 26 = .ok (.iload_n 2, 1) := by decide +kernel
theorem dX5_ahead_27 : decode cX5_ahead 27 = .ok (.if_icmp .ne 6, 3) := by decide +kernel
theorem dX5_ahead_30 : decode cX5_ahead 30 = .ok (.bipush (-2), 2) := by decide +kernel
theorem dX5_ahead_32 : decode cX5_ahead 32 = .ok (.ireturn, 1) := by decide +kernel
theorem dX5_ahead_33 : decode cX5_ahead 33 = .ok (.aload_n 0, 1) := by decide +kernel
theorem dX5_ahead_34 : decode cX5_ahead 34 = .ok (.getfield 12, 3) := by decide +kernel
theorem dX5_ahead_37 : decode cX5_ahead 37 = .ok (.getfield 72, 3) := by decide +kernel
theorem dX5_ahead_40 : decode cX5_ahead 40 = .ok (.iload_n 1, 1) := by decide +kernel
theorem dX5_ahead_41 : decode cX5_ahead 41 = .ok (.aload_n 0, 1) := by decide +kernel
theorem dX5_ahead_42 : decode cX5_ahead 42 = .ok (.getfield 12, 3) := by decide +kernel
theorem dX5_ahead_45 : decode cX5_ahead 45 = .ok (.getfield 72, 3) := by decide +kernel
theorem dX5_ahead_48 : decode cX5_ahead 48 = .ok (.iload_n 1, 1) := by decide +kernel
theorem dX5_ahead_49 : decode cX5_ahead 49 = .ok (.iaload, 1) := by decide +kernel
theorem dX5_ahead_50 : decode cX5_ahead 50 = .ok (.iload_n 2, 1) := by decide +kernel
theorem dX5_ahead_51 : decode cX5_ahead 51 = .ok (.iload_n 3, 1) := by decide +kernel
theorem dX5_ahead_52 : decode cX5_ahead 52 = .ok (.invokestatic 62, 3) := by decide +kernel
theorem dX5_ahead_55 : decode cX5_ahead 55 = .ok (.iastore, 1) := by decide +kernel
theorem dX5_ahead_56 : decode cX5_ahead 56 = .ok (.aload_n 0, 1) := by decide +kernel
theorem dX5_ahead_57 : decode cX5_ahead 57 = .ok (.invokevirtual 45, 3) := by decide +kernel
theorem dX5_ahead_60 : decode cX5_ahead 60 = .ok (.aload_n 0, 1) := by decide +kernel
theorem dX5_ahead_61 : decode cX5_ahead 61 = .ok (.getfield 12, 3) := by decide +kernel
theorem dX5_ahead_64 : decode cX5_ahead 64 = .ok (.getfield 72, 3) := by decide +kernel
theorem dX5_ahead_67 : decode cX5_ahead 67 = .ok (.invokestatic 75, 3) := by decide +kernel
theorem dX5_ahead_70 : decode cX5_ahead 70 = .ok (.ireturn, 1) := by decide +kernel
theorem dX5_grave_0 : decode cX5_grave 0 = .ok (.aload_n 0, 1) := by decide +kernel
theorem dX5_grave_1 : decode cX5_grave 1 = .ok (.iload_n 1, 1) := by decide +kernel
theorem dX5_grave_2 : decode cX5_grave 2 = .ok (.invokevirtual 48, 3) := by decide +kernel
theorem dX5_grave_5 : decode cX5_grave 5 = .ok (.ifCond .ne 5, 3) := by decide +kernel
theorem dX5_grave_8 : decode cX5_grave 8 = .ok (.iconst (-1), 1) := by decide +kernel
theorem dX5_grave_9 : decode cX5_grave 9 = .ok (.ireturn, 1) := by decide +kernel
theorem dX5_grave_10 : decode cX5_grave 10 = .ok (.iload_n 2, 1) := by decide +kernel
theorem dX5_grave_11 : decode cX5_grave 11 = .ok (.tableswitch 67 0 3 #[29, 39, 49, 58], 29) := by decide +kernel
theorem dX5_grave_40 : decode cX5_grave 40 = .ok (.aload_n 0, 1) := by decide +kernel
theorem dX5_grave_41 : decode cX5_grave 41 = .ok (.getfield 12, 3) := by decide +kernel
theorem dX5_grave_44 : decode cX5_grave 44 = .ok (.getfield 58, 3) := by decide +kernel
theorem dX5_grave_47 : decode cX5_grave 47 = .ok (.iload_n 1, 1) := by decide +kernel
theorem dX5_grave_48 : decode cX5_grave 48 = .ok (.iaload, 1) := by decide +kernel
theorem dX5_grave_49 : decode cX5_grave 49 = .ok (.ireturn, 1) := by decide +kernel
theorem dX5_grave_50 : decode cX5_grave 50 = .ok (.aload_n 0, 1) := by decide +kernel
theorem dX5_grave_51 : decode cX5_grave 51 = .ok (.getfield 12, 3) := by decide +kernel
theorem dX5_grave_54 : decode cX5_grave 54 = .ok (.getfield 72, 3) := by decide +kernel
theorem dX5_grave_57 : decode cX5_grave 57 = .ok (.iload_n 1, 1) := by decide +kernel
theorem dX5_grave_58 : decode cX5_grave 58 = .ok (.iaload, 1) := by decide +kernel
theorem dX5_grave_59 : decode cX5_grave 59 = .ok (.ireturn, 1) := by decide +kernel
theorem dX5_grave_60 : decode cX5_grave 60 = .ok (.aload_n 0, 1) := by decide +kernel
theorem dX5_grave_61 : decode cX5_grave 61 = .ok (.getfield 12, 3) := by decide +kernel
theorem dX5_grave_64 : decode cX5_grave 64 = .ok (.iload_n 1, 1) := by decide +kernel
theorem dX5_grave_65 : decode cX5_grave 65 = .ok (.invokevirtual 79, 3) := by decide +kernel
theorem dX5_grave_68 : decode cX5_grave 68 = .ok (.ireturn, 1) := by decide +kernel
theorem dX5_grave_69 : decode cX5_grave 69 = .ok (.aload_n 0, 1) := by decide +kernel
theorem dX5_grave_70 : decode cX5_grave 70 = .ok (.getfield 12, 3) := by decide +kernel
theorem dX5_grave_73 : decode cX5_grave 73 = .ok (.iload_n 1, 1) := by decide +kernel
theorem dX5_grave_74 : decode cX5_grave 74 = .ok (.invokevirtual 82, 3) := by decide +kernel
theorem dX5_grave_77 : decode cX5_grave 77 = .ok (.ireturn, 1) := by decide +kernel
theorem dX5_grave_78 : decode cX5_grave 78 = .ok (.bipush (-2), 2) := by decide +kernel
theorem dX5_grave_80 : decode cX5_grave 80 = .ok (.ireturn, 1) := by decide +kernel
theorem dX5_sort_0 : decode cX5_sort 0 = .ok (.iload_n 1, 1) := by decide +kernel
theorem dX5_sort_1 : decode cX5_sort 1 = .ok (.invokestatic 52, 3) := by decide +kernel
theorem dX5_sort_4 : decode cX5_sort 4 = .ok (.ifCond .ne 5, 3) := by decide +kernel
theorem dX5_sort_7 : decode cX5_sort 7 = .ok (.iconst (-1), 1) := by decide +kernel
theorem dX5_sort_8 : decode cX5_sort 8 = .ok (.ireturn, 1) := by decide +kernel
theorem dX5_sort_9 : decode cX5_sort 9 = .ok (.iload_n 2, 1) := by decide +kernel
theorem dX5_sort_10 : decode cX5_sort 10 = .ok (.tableswitch 59 0 2 #[26, 35, 46], 26) := by decide +kernel
theorem dX5_sort_36 : decode cX5_sort 36 = .ok (.aload_n 0, 1) := by decide +kernel
theorem dX5_sort_37 : decode cX5_sort 37 = .ok (.getfield 12, 3) := by decide +kernel
theorem dX5_sort_40 : decode cX5_sort 40 = .ok (.iload_n 1, 1) := by decide +kernel
theorem dX5_sort_41 : decode cX5_sort 41 = .ok (.invokevirtual 85, 3) := by decide +kernel
theorem dX5_sort_44 : decode cX5_sort 44 = .ok (.ireturn, 1) := by decide +kernel
theorem dX5_sort_45 : decode cX5_sort 45 = .ok (.aload_n 0, 1) := by decide +kernel
theorem dX5_sort_46 : decode cX5_sort 46 = .ok (.getfield 12, 3) := by decide +kernel
theorem dX5_sort_49 : decode cX5_sort 49 = .ok (.iconst 1, 1) := by decide +kernel
theorem dX5_sort_50 : decode cX5_sort 50 = .ok (.iload_n 1, 1) := by decide +kernel
theorem dX5_sort_51 : decode cX5_sort 51 = .ok (.ishl, 1) := by decide +kernel
theorem dX5_sort_52 : decode cX5_sort 52 = .ok (.invokevirtual 88, 3) := by decide +kernel
theorem dX5_sort_55 : decode cX5_sort 55 = .ok (.ireturn, 1) := by decide +kernel
theorem dX5_sort_56 : decode cX5_sort 56 = .ok (.aload_n 0, 1) := by decide +kernel
theorem dX5_sort_57 : decode cX5_sort 57 = .ok (.invokevirtual 91, 3) := by decide +kernel
theorem dX5_sort_60 : decode cX5_sort 60 = .ok (.iload_n 1, 1) := by decide +kernel
theorem dX5_sort_61 : decode cX5_sort 61 = .ok (.aload_n 0, 1) := by decide +kernel
theorem dX5_sort_62 : decode cX5_sort 62 = .ok (.getfield 12, 3) := by decide +kernel
theorem dX5_sort_65 : decode cX5_sort 65 = .ok (.invokevirtual 95, 3) := by decide +kernel
theorem dX5_sort_68 : decode cX5_sort 68 = .ok (.ireturn, 1) := by decide +kernel
theorem dX5_sort_69 : decode cX5_sort 69 = .ok (.bipush (-2), 2) := by decide +kernel
theorem dX5_sort_71 : decode cX5_sort 71 = .ok (.ireturn, 1) := by decide +kernel
theorem dX5_alike_0 : decode cX5_alike 0 = .ok (.aload_n 0, 1) := by decide +kernel
theorem dX5_alike_1 : decode cX5_alike 1 = .ok (.iload_n 1, 1) := by decide +kernel
theorem dX5_alike_2 : decode cX5_alike 2 = .ok (.invokevirtual 48, 3) := by decide +kernel
theorem dX5_alike_5 : decode cX5_alike 5 = .ok (.ifCond .eq 11, 3) := by decide +kernel
theorem dX5_alike_8 : decode cX5_alike 8 = .ok (.aload_n 0, 1) := by decide +kernel
theorem dX5_alike_9 : decode cX5_alike 9 = .ok (.iload_n 2, 1) := by decide +kernel
theorem dX5_alike_10 : decode cX5_alike 10 = .ok (.invokevirtual 48, 3) := by decide +kernel
theorem dX5_alike_13 : decode cX5_alike 13 = .ok (.ifCond .ne 5, 3) := by decide +kernel
theorem dX5_alike_16 : decode cX5_alike 16 = .ok (.iconst (-1), 1) := by decide +kernel
theorem dX5_alike_17 : decode cX5_alike 17 = .ok (.ireturn, 1) := by decide +kernel
theorem dX5_alike_18 : decode cX5_alike 18 = .ok (.aload_n 0, 1) := by decide +kernel
theorem dX5_alike_19 : decode cX5_alike 19 = .ok (.getfield 12, 3) := by decide +kernel
theorem dX5_alike_22 : decode cX5_alike 22 = .ok (.getfield 58, 3) := by decide +kernel
theorem dX5_alike_25 : decode cX5_alike 25 = .ok (.iload_n 1, 1) := by decide +kernel
theorem dX5_alike_26 : decode cX5_alike 26 = .ok (.iaload, 1) := by decide +kernel
theorem dX5_alike_27 : decode cX5_alike 27 = .ok (.aload_n 0, 1) := by decide +kernel
theorem dX5_alike_28 : decode cX5_alike 28 = .ok (.getfield 12, 3) := by decide +kernel
theorem dX5_alike_31 : decode cX5_alike 31 = .ok (.getfield 58, 3) := by decide +kernel
theorem dX5_alike_34 : decode cX5_alike 34 = .ok (.iload_n 2, 1) := by decide +kernel
theorem dX5_alike_35 : decode cX5_alike 35 = .ok (.iaload, 1) := by decide +kernel
theorem dX5_alike_36 : decode cX5_alike 36 = .ok (.iand, 1) := by decide +kernel
theorem dX5_alike_37 : decode cX5_alike 37 = .ok (.invokestatic 66, 3) := by decide +kernel
theorem dX5_alike_40 : decode cX5_alike 40 = .ok (.ireturn, 1) := by decide +kernel
theorem dX5_least_0 : decode cX5_least 0 = .ok (.aload_n 0, 1) := by decide +kernel
theorem dX5_least_1 : decode cX5_least 1 = .ok (.invokevirtual 91, 3) := by decide +kernel
theorem dX5_least_4 : decode cX5_least 4 = .ok (.astore_n 1, 1) := by decide +kernel
theorem dX5_least_5 : decode cX5_least 5 = .ok (.aload_n 1, 1) := by decide +kernel
theorem dX5_least_6 : decode cX5_least 6 = .ok (.invokevirtual 99, 3) := by decide +kernel
theorem dX5_least_9 : decode cX5_least 9 = .ok (.ifCond .ne 8, 3) := by decide +kernel
theorem dX5_least_12 : decode cX5_least 12 = .ok (.bipush (-6), 2) := by decide +kernel
theorem dX5_least_14 : decode cX5_least 14 = .ok (.goto 7, 3) := by decide +kernel
theorem dX5_least_17 : decode cX5_least 17 = .ok (.aload_n 1, 1) := by decide +kernel
theorem dX5_least_18 : decode cX5_least 18 = .ok (.getfield 103, 3) := by decide +kernel
theorem dX5_least_21 : decode cX5_least 21 = .ok (.ireturn, 1) := by decide +kernel
theorem dX5_best_0 : decode cX5_best 0 = .ok (.aload_n 0, 1) := by decide +kernel
theorem dX5_best_1 : decode cX5_best 1 = .ok (.invokevirtual 91, 3) := by decide +kernel
theorem dX5_best_4 : decode cX5_best 4 = .ok (.invokevirtual 99, 3) := by decide +kernel
theorem dX5_best_7 : decode cX5_best 7 = .ok (.ireturn, 1) := by decide +kernel
theorem dX5_order_0 : decode cX5_order 0 = .ok (.iload_n 1, 1) := by decide +kernel
theorem dX5_order_1 : decode cX5_order 1 = .ok (.ifCond .lt 11, 3) := by decide +kernel
theorem dX5_order_4 : decode cX5_order 4 = .ok (.aload_n 0, 1) := by decide +kernel
theorem dX5_order_5 : decode cX5_order 5 = .ok (.iload_n 2, 1) := by decide +kernel
theorem dX5_order_6 : decode cX5_order 6 = .ok (.invokevirtual 106, 3) := by decide +kernel
theorem dX5_order_9 : decode cX5_order 9 = .ok (.ifCond .ne 6, 3) := by decide +kernel
theorem dX5_order_12 : decode cX5_order 12 = .ok (.bipush (-2), 2) := by decide +kernel
theorem dX5_order_14 : decode cX5_order 14 = .ok (.ireturn, 1) := by decide +kernel
theorem dX5_order_15 : decode cX5_order 15 = .ok (.aload_n 0, 1) := by decide +kernel
theorem dX5_order_16 : decode cX5_order 16 = .ok (.invokevirtual 91, 3) := by decide +kernel
theorem dX5_order_19 : decode cX5_order 19 = .ok (.astore_n 3, 1) := by decide +kernel
theorem dX5_order_20 : decode cX5_order 20 = .ok (.iload_n 1, 1) := by decide +kernel
theorem dX5_order_21 : decode cX5_order 21 = .ok (.aload_n 3, 1) := by decide +kernel
theorem dX5_order_22 : decode cX5_order 22 = .ok (.invokevirtual 99, 3) := by decide +kernel
theorem dX5_order_25 : decode cX5_order 25 = .ok (.if_icmp .lt 8, 3) := by decide +kernel
theorem dX5_order_28 : decode cX5_order 28 = .ok (.bipush (-6), 2) := by decide +kernel
theorem dX5_order_30 : decode cX5_order 30 = .ok (.goto 9, 3) := by decide +kernel
theorem dX5_order_33 : decode cX5_order 33 = .ok (.aload_n 3, 1) := by decide +kernel
theorem dX5_order_34 : decode cX5_order 34 = .ok (.iload_n 1, 1) := by decide +kernel
theorem dX5_order_35 : decode cX5_order 35 = .ok (.iload_n 2, 1) := by decide +kernel
theorem dX5_order_36 : decode cX5_order 36 = .ok (.invokevirtual 109, 3) := by decide +kernel
theorem dX5_order_39 : decode cX5_order 39 = .ok (.ireturn, 1) := by decide +kernel
theorem dX5_beside_0 : decode cX5_beside 0 = .ok (.aload_n 0, 1) := by decide +kernel
theorem dX5_beside_1 : decode cX5_beside 1 = .ok (.iload_n 1, 1) := by decide +kernel
theorem dX5_beside_2 : decode cX5_beside 2 = .ok (.invokevirtual 48, 3) := by decide +kernel
theorem dX5_beside_5 : decode cX5_beside 5 = .ok (.ifCond .ne 5, 3) := by decide +kernel
theorem dX5_beside_8 : decode cX5_beside 8 = .ok (.iconst (-1), 1) := by decide +kernel
theorem dX5_beside_9 : decode cX5_beside 9 = .ok (.ireturn, 1) := by decide +kernel
theorem dX5_beside_10 : decode cX5_beside 10 = .ok (.iload_n 2, 1) := by decide +kernel
theorem dX5_beside_11 : decode cX5_beside 11 = .ok (.ifCond .eq 11, 3) := by decide +kernel
theorem dX5_beside_14 : decode cX5_beside 14 = .ok (.iload_n 2, 1) := by decide +kernel
theorem dX5_beside_15 : decode cX5_beside 15 = .ok (.iconst 1, 1) := by decide +kernel
theorem dX5_beside_16 : decode cX5_beside 16 = .ok (.if_icmp .eq 6, 3) := by decide +kernel
theorem dX5_beside_19 : decode cX5_beside 19 = .ok (.bipush (-2), 2) := by decide +kernel
theorem dX5_beside_21 : decode cX5_beside 21 = .ok (.ireturn, 1) := by decide +kernel
theorem dX5_beside_22 : decode cX5_beside 22 = .ok (.aload_n 0, 1) := by decide +kernel
theorem dX5_beside_23 : decode cX5_beside 23 = .ok (.invokevirtual 91, 3) := by decide +kernel
theorem dX5_beside_26 : decode cX5_beside 26 = .ok (.astore_n 3, 1) := by decide +kernel
theorem dX5_beside_27 : decode cX5_beside 27 = .ok (.aload_n 3, 1) := by decide +kernel
theorem dX5_beside_28 : decode cX5_beside 28 = .ok (.invokevirtual 99, 3) := by decide +kernel
theorem dX5_beside_31 : decode cX5_beside 31 = .ok (.ifCond .ne 5, 3) := by decide +kernel
theorem dX5_beside_34 : decode cX5_beside 34 = .ok (.iconst 0, 1) := by decide +kernel
theorem dX5_beside_35 : decode cX5_beside 35 = .ok (.ireturn, 1) := by decide +kernel
theorem dX5_beside_36 : decode cX5_beside 36 = .ok (.aload_n 3, 1) := by decide +kernel
theorem dX5_beside_37 : decode cX5_beside 37 = .ok (.iload_n 1, 1) := by decide +kernel
theorem dX5_beside_38 : decode cX5_beside 38 = .ok (.iload_n 2, 1) := by decide +kernel
theorem dX5_beside_39 : decode cX5_beside 39 = .ok (.ifCond .ne 10, 3) := by decide +kernel
theorem dX5_beside_42 : decode cX5_beside 42 = .ok (.aload_n 3, 1) := by decide +kernel
theorem dX5_beside_43 : decode cX5_beside 43 = .ok (.invokevirtual 99, 3) := by decide +kernel
theorem dX5_beside_46 : decode cX5_beside 46 = .ok (.goto 4, 3) := by decide +kernel
theorem dX5_beside_49 : decode cX5_beside 49 = .ok (.iconst 1, 1) := by decide +kernel
theorem dX5_beside_50 : decode cX5_beside 50 = .ok (.invokevirtual 113, 3) := by decide +kernel
theorem dX5_beside_53 : decode cX5_beside 53 = .ok (.ireturn, 1) := by decide +kernel
theorem dX5_place_0 : decode cX5_place 0 = .ok (.aload_n 0, 1) := by decide +kernel
theorem dX5_place_1 : decode cX5_place 1 = .ok (.iload_n 1, 1) := by decide +kernel
theorem dX5_place_2 : decode cX5_place 2 = .ok (.invokevirtual 48, 3) := by decide +kernel
theorem dX5_place_5 : decode cX5_place 5 = .ok (.ifCond .ne 5, 3) := by decide +kernel
theorem dX5_place_8 : decode cX5_place 8 = .ok (.iconst (-1), 1) := by decide +kernel
theorem dX5_place_9 : decode cX5_place 9 = .ok (.ireturn, 1) := by decide +kernel
theorem dX5_place_10 : decode cX5_place 10 = .ok (.iload_n 2, 1) := by decide +kernel
theorem dX5_place_11 : decode cX5_place 11 = .ok (.ifCond .ne 12, 3) := by decide +kernel
theorem dX5_place_14 : decode cX5_place 14 = .ok (.aload_n 0, 1) := by decide +kernel
theorem dX5_place_15 : decode cX5_place 15 = .ok (.invokevirtual 91, 3) := by decide +kernel
theorem dX5_place_18 : decode cX5_place 18 = .ok (.iload_n 1, 1) := by decide +kernel
theorem dX5_place_19 : decode cX5_place 19 = .ok (.invokevirtual 116, 3) := by decide +kernel
theorem dX5_place_22 : decode cX5_place 22 = .ok (.ireturn, 1) := by decide +kernel
theorem dX5_place_23 : decode cX5_place 23 = .ok (.iload_n 2, 1) := by decide +kernel
theorem dX5_place_24 : decode cX5_place 24 = .ok (.iconst 1, 1) := by decide +kernel
theorem dX5_place_25 : decode cX5_place 25 = .ok (.if_icmp .ne 12, 3) := by decide +kernel
theorem dX5_place_28 : decode cX5_place 28 = .ok (.aload_n 0, 1) := by decide +kernel
theorem dX5_place_29 : decode cX5_place 29 = .ok (.invokevirtual 91, 3) := by decide +kernel
theorem dX5_place_32 : decode cX5_place 32 = .ok (.iload_n 1, 1) := by decide +kernel
theorem dX5_place_33 : decode cX5_place 33 = .ok (.invokevirtual 119, 3) := by decide +kernel
theorem dX5_place_36 : decode cX5_place 36 = .ok (.ireturn, 1) := by decide +kernel
theorem dX5_place_37 : decode cX5_place 37 = .ok (.iload_n 2, 1) := by decide +kernel
theorem dX5_place_38 : decode cX5_place 38 = .ok (.bipush 10, 2) := by decide +kernel
theorem dX5_place_40 : decode cX5_place 40 = .ok (.if_icmp .lt 14, 3) := by decide +kernel
theorem dX5_place_43 : decode cX5_place 43 = .ok (.aload_n 0, 1) := by decide +kernel
theorem dX5_place_44 : decode cX5_place 44 = .ok (.iload_n 2, 1) := by decide +kernel
theorem dX5_place_45 : decode cX5_place 45 = .ok (.bipush 10, 2) := by decide +kernel
theorem dX5_place_47 : decode cX5_place 47 = .ok (.isub, 1) := by decide +kernel
theorem dX5_place_48 : decode cX5_place 48 = .ok (.invokevirtual 106, 3) := by decide +kernel
theorem dX5_place_51 : decode cX5_place 51 = .ok (.ifCond .ne 6, 3) := by decide +kernel
theorem dX5_place_54 : decode cX5_place 54 = .ok (.bipush (-2), 2) := by decide +kernel
theorem dX5_place_56 : decode cX5_place 56 = .ok (.ireturn, 1) := by decide +kernel
theorem dX5_place_57 : decode cX5_place 57 = .ok (.aload_n 0, 1) := by decide +kernel
theorem dX5_place_58 : decode cX5_place 58 = .ok (.invokevirtual 91, 3) := by decide +kernel
theorem dX5_place_61 : decode cX5_place 61 = .ok (.iload_n 1, 1) := by decide +kernel
theorem dX5_place_62 : decode cX5_place 62 = .ok (.iload_n 2, 1) := by decide +kernel
theorem dX5_place_63 : decode cX5_place 63 = .ok (.bipush 10, 2) := by decide +kernel
theorem dX5_place_65 : decode cX5_place 65 = .ok (.isub, 1) := by decide +kernel
theorem dX5_place_66 : decode cX5_place 66 = .ok (.invokevirtual 122, 3) := by decide +kernel
theorem dX5_place_69 : decode cX5_place 69 = .ok (.ireturn, 1) := by decide +kernel
theorem dX5_before_0 : decode cX5_before 0 = .ok (.aload_n 0, 1) := by decide +kernel
theorem dX5_before_1 : decode cX5_before 1 = .ok (.iload_n 1, 1) := by decide +kernel
theorem dX5_before_2 : decode cX5_before 2 = .ok (.invokevirtual 48, 3) := by decide +kernel
theorem dX5_before_5 : decode cX5_before 5 = .ok (.ifCond .eq 11, 3) := by decide +kernel
theorem dX5_before_8 : decode cX5_before 8 = .ok (.aload_n 0, 1) := by decide +kernel
theorem dX5_before_9 : decode cX5_before 9 = .ok (.iload_n 2, 1) := by decide +kernel
theorem dX5_before_10 : decode cX5_before 10 = .ok (.invokevirtual 48, 3) := by decide +kernel
theorem dX5_before_13 : decode cX5_before 13 = .ok (.ifCond .ne 5, 3) := by decide +kernel
theorem dX5_before_16 : decode cX5_before 16 = .ok (.iconst (-1), 1) := by decide +kernel
theorem dX5_before_17 : decode cX5_before 17 = .ok (.ireturn, 1) := by decide +kernel
theorem dX5_before_18 : decode cX5_before 18 = .ok (.iload_n 1, 1) := by decide +kernel
theorem dX5_before_19 : decode cX5_before 19 = .ok (.iload_n 2, 1) := by decide +kernel
theorem dX5_before_20 : decode cX5_before 20 = .ok (.if_icmp .ne 6, 3) := by decide +kernel
theorem dX5_before_23 : decode cX5_before 23 = .ok (.bipush (-2), 2) := by decide +kernel
theorem dX5_before_25 : decode cX5_before 25 = .ok (.ireturn, 1) := by decide +kernel
theorem dX5_before_26 : decode cX5_before 26 = .ok (.aload_n 0, 1) := by decide +kernel
theorem dX5_before_27 : decode cX5_before 27 = .ok (.invokevirtual 91, 3) := by decide +kernel
theorem dX5_before_30 : decode cX5_before 30 = .ok (.iload_n 1, 1) := by decide +kernel
theorem dX5_before_31 : decode cX5_before 31 = .ok (.iload_n 2, 1) := by decide +kernel
theorem dX5_before_32 : decode cX5_before 32 = .ok (.invokevirtual 125, 3) := by decide +kernel
theorem dX5_before_35 : decode cX5_before 35 = .ok (.ireturn, 1) := by decide +kernel
theorem dX5_together_0 : decode cX5_together 0 = .ok (.iload_n 1, 1) := by decide +kernel
theorem dX5_together_1 : decode cX5_together 1 = .ok (.iconst 1, 1) := by decide +kernel
theorem dX5_together_2 : decode cX5_together 2 = .ok (.if_icmp .lt 16, 3) := by decide +kernel
theorem dX5_together_5 : decode cX5_together 5 = .ok (.iload_n 1, 1) := by decide +kernel
theorem dX5_together_6 : decode cX5_together 6 = .ok (.iconst 1, 1) := by decide +kernel
theorem dX5_together_7 : decode cX5_together 7 = .ok (.aload_n 0, 1) := by decide +kernel
theorem dX5_together_8 : decode cX5_together 8 = .ok (.getfield 12, 3) := by decide +kernel
theorem dX5_together_11 : decode cX5_together 11 = .ok (.getfield 38, 3) := by decide +kernel
theorem dX5_together_14 : decode cX5_together 14 = .ok (.ishl, 1) := by decide +kernel
theorem dX5_together_15 : decode cX5_together 15 = .ok (.if_icmp .lt 6, 3) := by decide +kernel
theorem dX5_together_18 : decode cX5_together 18 = .ok (.bipush (-2), 2) := by decide +kernel
theorem dX5_together_20 : decode cX5_together 20 = .ok (.ireturn, 1) := by decide +kernel
theorem dX5_together_21 : decode cX5_together 21 = .ok (.aload_n 0, 1) := by decide +kernel
theorem dX5_together_22 : decode cX5_together 22 = .ok (.invokevirtual 91, 3) := by decide +kernel
theorem dX5_together_25 : decode cX5_together 25 = .ok (.iload_n 1, 1) := by decide +kernel
theorem dX5_together_26 : decode cX5_together 26 = .ok (.invokevirtual 128, 3) := by decide +kernel
theorem dX5_together_29 : decode cX5_together 29 = .ok (.ireturn, 1) := by decide +kernel
theorem dX5_clump_0 : decode cX5_clump 0 = .ok (.iload_n 1, 1) := by decide +kernel
theorem dX5_clump_1 : decode cX5_clump 1 = .ok (.iconst (-1), 1) := by decide +kernel
theorem dX5_clump_2 : decode cX5_clump 2 = .ok (.if_icmp .ge 6, 3) := by decide +kernel
theorem dX5_clump_5 : decode cX5_clump 5 = .ok (.bipush (-2), 2) := by decide +kernel
theorem dX5_clump_7 : decode cX5_clump 7 = .ok (.ireturn, 1) := by decide +kernel
theorem dX5_clump_8 : decode cX5_clump 8 = .ok (.aload_n 0, 1) := by decide +kernel
theorem dX5_clump_9 : decode cX5_clump 9 = .ok (.invokevirtual 91, 3) := by decide +kernel
theorem dX5_clump_12 : decode cX5_clump 12 = .ok (.astore_n 2, 1) := by decide +kernel
theorem dX5_clump_13 : decode cX5_clump 13 = .ok (.aload_n 2, 1) := by decide +kernel
theorem dX5_clump_14 : decode cX5_clump 14 = .ok (.invokevirtual 131, 3) := by decide +kernel
theorem dX5_clump_17 : decode cX5_clump 17 = .ok (.iload_n 1, 1) := by decide +kernel
theorem dX5_clump_18 : decode cX5_clump 18 = .ok (.iconst (-1), 1) := by decide +kernel
theorem dX5_clump_19 : decode cX5_clump 19 = .ok (.if_icmp .ne 8, 3) := by decide +kernel
theorem dX5_clump_22 : decode cX5_clump 22 = .ok (.aload_n 2, 1) := by decide +kernel
theorem dX5_clump_23 : decode cX5_clump 23 = .ok (.getfield 134, 3) := by decide +kernel
theorem dX5_clump_26 : decode cX5_clump 26 = .ok (.ireturn, 1) := by decide +kernel
theorem dX5_clump_27 : decode cX5_clump 27 = .ok (.iload_n 1, 1) := by decide +kernel
theorem dX5_clump_28 : decode cX5_clump 28 = .ok (.aload_n 2, 1) := by decide +kernel
theorem dX5_clump_29 : decode cX5_clump 29 = .ok (.getfield 134, 3) := by decide +kernel
theorem dX5_clump_32 : decode cX5_clump 32 = .ok (.if_icmp .ge 12, 3) := by decide +kernel
theorem dX5_clump_35 : decode cX5_clump 35 = .ok (.aload_n 2, 1) := by decide +kernel
theorem dX5_clump_36 : decode cX5_clump 36 = .ok (.getfield 137, 3) := by decide +kernel
theorem dX5_clump_39 : decode cX5_clump 39 = .ok (.iload_n 1, 1) := by decide +kernel
theorem dX5_clump_40 : decode cX5_clump 40 = .ok (.iaload, 1) := by decide +kernel
theorem dX5_clump_41 : decode cX5_clump 41 = .ok (.goto 5, 3) := by decide +kernel
theorem dX5_clump_44 : decode cX5_clump 44 = .ok (.bipush (-6), 2) := by decide +kernel
theorem dX5_clump_46 : decode cX5_clump 46 = .ok (.ireturn, 1) := by decide +kernel
theorem dX5_row_0 : decode cX5_row 0 = .ok (.aload_n 0, 1) := by decide +kernel
theorem dX5_row_1 : decode cX5_row 1 = .ok (.iload_n 1, 1) := by decide +kernel
theorem dX5_row_2 : decode cX5_row 2 = .ok (.invokevirtual 106, 3) := by decide +kernel
theorem dX5_row_5 : decode cX5_row 5 = .ok (.ifCond .eq 15, 3) := by decide +kernel
theorem dX5_row_8 : decode cX5_row 8 = .ok (.aload_n 0, 1) := by decide +kernel
theorem dX5_row_9 : decode cX5_row 9 = .ok (.getfield 12, 3) := by decide +kernel
theorem dX5_row_12 : decode cX5_row 12 = .ok (.getfield 140, 3) := by decide +kernel
theorem dX5_row_15 : decode cX5_row 15 = .ok (.iload_n 1, 1) := by decide +kernel
theorem dX5_row_16 : decode cX5_row 16 = .ok (.iaload, 1) := by decide +kernel
theorem dX5_row_17 : decode cX5_row 17 = .ok (.goto 5, 3) := by decide +kernel
theorem dX5_row_20 : decode cX5_row 20 = .ok (.bipush (-2), 2) := by decide +kernel
theorem dX5_row_22 : decode cX5_row 22 = .ok (.ireturn, 1) := by decide +kernel
theorem dX5_breaks_0 : decode cX5_breaks 0 = .ok (.iload_n 1, 1) := by decide +kernel
theorem dX5_breaks_1 : decode cX5_breaks 1 = .ok (.tableswitch 67 0 2 #[27, 38, 54], 27) := by decide +kernel
theorem dX5_breaks_28 : decode cX5_breaks 28 = .ok (.aload_n 0, 1) := by decide +kernel
theorem dX5_breaks_29 : decode cX5_breaks 29 = .ok (.getfield 12, 3) := by decide +kernel
theorem dX5_breaks_32 : decode cX5_breaks 32 = .ok (.sipush 1023, 3) := by decide +kernel
theorem dX5_breaks_35 : decode cX5_breaks 35 = .ok (.invokevirtual 88, 3) := by decide +kernel
theorem dX5_breaks_38 : decode cX5_breaks 38 = .ok (.ireturn, 1) := by decide +kernel
theorem dX5_breaks_39 : decode cX5_breaks 39 = .ok (.aload_n 0, 1) := by decide +kernel
theorem dX5_breaks_40 : decode cX5_breaks 40 = .ok (.getfield 12, 3) := by decide +kernel
theorem dX5_breaks_43 : decode cX5_breaks 43 = .ok (.invokevirtual 143, 3) := by decide +kernel
theorem dX5_breaks_46 : decode cX5_breaks 46 = .ok (.ifCond .eq 7, 3) := by decide +kernel
theorem dX5_breaks_49 : decode cX5_breaks 49 = .ok (.iconst 1, 1) := by decide +kernel
theorem dX5_breaks_50 : decode cX5_breaks 50 = .ok (.goto 4, 3) := by decide +kernel
theorem dX5_breaks_53 : decode cX5_breaks 53 = .ok (.iconst 0, 1) := by decide +kernel
theorem dX5_breaks_54 : decode cX5_breaks 54 = .ok (.ireturn, 1) := by decide +kernel
theorem dX5_breaks_55 : decode cX5_breaks 55 = .ok (.aload_n 0, 1) := by decide +kernel
theorem dX5_breaks_56 : decode cX5_breaks 56 = .ok (.invokevirtual 147, 3) := by decide +kernel
theorem dX5_breaks_59 : decode cX5_breaks 59 = .ok (.ifCond .eq 7, 3) := by decide +kernel
theorem dX5_breaks_62 : decode cX5_breaks 62 = .ok (.iconst 1, 1) := by decide +kernel
theorem dX5_breaks_63 : decode cX5_breaks 63 = .ok (.goto 4, 3) := by decide +kernel
theorem dX5_breaks_66 : decode cX5_breaks 66 = .ok (.iconst 0, 1) := by decide +kernel
theorem dX5_breaks_67 : decode cX5_breaks 67 = .ok (.ireturn, 1) := by decide +kernel
theorem dX5_breaks_68 : decode cX5_breaks 68 = .ok (.bipush (-2), 2) := by decide +kernel
theorem dX5_breaks_70 : decode cX5_breaks 70 = .ok (.ireturn, 1) := by decide +kernel
theorem dX5_swap_0 : decode cX5_swap 0 = .ok (.iload_n 1, 1) := by decide +kernel
theorem dX5_swap_1 : decode cX5_swap 1 = .ok (.ifCond .lt 16, 3) := by decide +kernel
theorem dX5_swap_4 : decode cX5_swap 4 = .ok (.iload_n 1, 1) := by decide +kernel
theorem dX5_swap_5 : decode cX5_swap 5 = .ok (.aload_n 0, 1) := by decide +kernel
theorem dX5_swap_6 : decode cX5_swap 6 = .ok (.getfield 12, 3) := by decide +kernel
theorem dX5_swap_9 : decode cX5_swap 9 = .ok (.getfield 38, 3) := by decide +kernel
theorem dX5_swap_12 : decode cX5_swap 12 = .ok (.iconst 1, 1) := by decide +kernel
theorem dX5_swap_13 : decode cX5_swap 13 = .ok (.isub, 1) := by decide +kernel
theorem dX5_swap_14 : decode cX5_swap 14 = .ok (.if_icmp .lt 6, 3) := by decide +kernel
theorem dX5_swap_17 : decode cX5_swap 17 = .ok (.bipush (-2), 2) := by decide +kernel
theorem dX5_swap_19 : decode cX5_swap 19 = .ok (.ireturn, 1) := by decide +kernel
theorem dX5_swap_20 : decode cX5_swap 20 = .ok (.aload_n 0, 1) := by decide +kernel
theorem dX5_swap_21 : decode cX5_swap 21 = .ok (.getfield 12, 3) := by decide +kernel
theorem dX5_swap_24 : decode cX5_swap 24 = .ok (.iload_n 1, 1) := by decide +kernel
theorem dX5_swap_25 : decode cX5_swap 25 = .ok (.invokevirtual 150, 3) := by decide +kernel
theorem dX5_swap_28 : decode cX5_swap 28 = .ok (.aload_n 0, 1) := by decide +kernel
theorem dX5_swap_29 : decode cX5_swap 29 = .ok (.iconst 0, 1) := by decide +kernel
theorem dX5_swap_30 : decode cX5_swap 30 = .ok (.putfield 35, 3) := by decide +kernel
theorem dX5_swap_33 : decode cX5_swap 33 = .ok (.aload_n 0, 1) := by decide +kernel
theorem dX5_swap_34 : decode cX5_swap 34 = .ok (.getfield 12, 3) := by decide +kernel
theorem dX5_swap_37 : decode cX5_swap 37 = .ok (.sipush 1023, 3) := by decide +kernel
theorem dX5_swap_40 : decode cX5_swap 40 = .ok (.invokevirtual 88, 3) := by decide +kernel
theorem dX5_swap_43 : decode cX5_swap 43 = .ok (.ireturn, 1) := by decide +kernel
theorem dX5_better_0 : decode cX5_better 0 = .ok (.aload_n 0, 1) := by decide +kernel
theorem dX5_better_1 : decode cX5_better 1 = .ok (.invokevirtual 153, 3) := by decide +kernel
theorem dX5_better_4 : decode cX5_better 4 = .ok (.ireturn, 1) := by decide +kernel
theorem dX5_climb_0 : decode cX5_climb 0 = .ok (.iconst 0, 1) := by decide +kernel
theorem dX5_climb_1 : decode cX5_climb 1 = .ok (.istore_n 1, 1) := by decide +kernel
theorem dX5_climb_2 : decode cX5_climb 2 = .ok (.iload_n 1, 1) := by decide +kernel
theorem dX5_climb_3 : decode cX5_climb 3 = .ok (.sipush 1000, 3) := by decide +kernel
theorem dX5_climb_6 : decode cX5_climb 6 = .ok (.if_icmp .ge 18, 3) := by decide +kernel
theorem dX5_climb_9 : decode cX5_climb 9 = .ok (.aload_n 0, 1) := by decide +kernel
theorem dX5_climb_10 : decode cX5_climb 10 = .ok (.invokevirtual 153, 3) := by decide +kernel
theorem dX5_climb_13 : decode cX5_climb 13 = .ok (.bipush (-6), 2) := by decide +kernel
theorem dX5_climb_15 : decode cX5_climb 15 = .ok (.if_icmp .eq 9, 3) := by decide +kernel
theorem dX5_climb_18 : decode cX5_climb 18 = .ok (.iinc 1 1, 3) := by decide +kernel
theorem dX5_climb_21 : decode cX5_climb 21 = .ok (.goto (-19), 3) := by decide +kernel
theorem dX5_climb_24 : decode cX5_climb 24 = .ok (.iload_n 1, 1) := by decide +kernel
theorem dX5_climb_25 : decode cX5_climb 25 = .ok (.ireturn, 1) := by decide +kernel
theorem dX5_nearest_0 : decode cX5_nearest 0 = .ok (.iload_n 1, 1) := by decide +kernel
theorem dX5_nearest_1 : decode cX5_nearest 1 = .ok (.iconst (-1), 1) := by decide +kernel
theorem dX5_nearest_2 : decode cX5_nearest 2 = .ok (.if_icmp .eq 14, 3) := by decide +kernel
theorem dX5_nearest_5 : decode cX5_nearest 5 = .ok (.aload_n 0, 1) := by decide +kernel
theorem dX5_nearest_6 : decode cX5_nearest 6 = .ok (.iload_n 1, 1) := by decide +kernel
theorem dX5_nearest_7 : decode cX5_nearest 7 = .ok (.invokevirtual 106, 3) := by decide +kernel
theorem dX5_nearest_10 : decode cX5_nearest 10 = .ok (.ifCond .ne 6, 3) := by decide +kernel
theorem dX5_nearest_13 : decode cX5_nearest 13 = .ok (.bipush (-2), 2) := by decide +kernel
theorem dX5_nearest_15 : decode cX5_nearest 15 = .ok (.ireturn, 1) := by decide +kernel
theorem dX5_nearest_16 : decode cX5_nearest 16 = .ok (.aload_n 0, 1) := by decide +kernel
theorem dX5_nearest_17 : decode cX5_nearest 17 = .ok (.invokevirtual 91, 3) := by decide +kernel
theorem dX5_nearest_20 : decode cX5_nearest 20 = .ok (.astore_n 2, 1) := by decide +kernel
theorem dX5_nearest_21 : decode cX5_nearest 21 = .ok (.aload_n 2, 1) := by decide +kernel
theorem dX5_nearest_22 : decode cX5_nearest 22 = .ok (.invokevirtual 99, 3) := by decide +kernel
theorem dX5_nearest_25 : decode cX5_nearest 25 = .ok (.ifCond .ne 6, 3) := by decide +kernel
theorem dX5_nearest_28 : decode cX5_nearest 28 = .ok (.bipush (-6), 2) := by decide +kernel
theorem dX5_nearest_30 : decode cX5_nearest 30 = .ok (.ireturn, 1) := by decide +kernel
theorem dX5_nearest_31 : decode cX5_nearest 31 = .ok (.aload_n 0, 1) := by decide +kernel
theorem dX5_nearest_32 : decode cX5_nearest 32 = .ok (.aload_n 2, 1) := by decide +kernel
theorem dX5_nearest_33 : decode cX5_nearest 33 = .ok (.invokevirtual 156, 3) := by decide +kernel
theorem dX5_nearest_36 : decode cX5_nearest 36 = .ok (.iload_n 1, 1) := by decide +kernel
theorem dX5_nearest_37 : decode cX5_nearest 37 = .ok (.iconst (-1), 1) := by decide +kernel
theorem dX5_nearest_38 : decode cX5_nearest 38 = .ok (.if_icmp .ne 10, 3) := by decide +kernel
theorem dX5_nearest_41 : decode cX5_nearest 41 = .ok (.aload_n 2, 1) := by decide +kernel
theorem dX5_nearest_42 : decode cX5_nearest 42 = .ok (.getfield 160, 3) := by decide +kernel
theorem dX5_nearest_45 : decode cX5_nearest 45 = .ok (.goto 9, 3) := by decide +kernel
theorem dX5_nearest_48 : decode cX5_nearest 48 = .ok (.aload_n 2, 1) := by decide +kernel
theorem dX5_nearest_49 : decode cX5_nearest 49 = .ok (.getfield 163, 3) := by decide +kernel
theorem dX5_nearest_52 : decode cX5_nearest 52 = .ok (.iload_n 1, 1) := by decide +kernel
theorem dX5_nearest_53 : decode cX5_nearest 53 = .ok (.iaload, 1) := by decide +kernel
theorem dX5_nearest_54 : decode cX5_nearest 54 = .ok (.ireturn, 1) := by decide +kernel
theorem dX5_settle_0 : decode cX5_settle 0 = .ok (.aload_n 0, 1) := by decide +kernel
theorem dX5_settle_1 : decode cX5_settle 1 = .ok (.invokevirtual 91, 3) := by decide +kernel
theorem dX5_settle_4 : decode cX5_settle 4 = .ok (.astore_n 1, 1) := by decide +kernel
theorem dX5_settle_5 : decode cX5_settle 5 = .ok (.aload_n 1, 1) := by decide +kernel
theorem dX5_settle_6 : decode cX5_settle 6 = .ok (.invokevirtual 99, 3) := by decide +kernel
theorem dX5_settle_9 : decode cX5_settle 9 = .ok (.ifCond .ne 6, 3) := by decide +kernel
theorem dX5_settle_12 : decode cX5_settle 12 = .ok (.bipush (-3), 2) := by decide +kernel
theorem dX5_settle_14 : decode cX5_settle 14 = .ok (.ireturn, 1) := by decide +kernel
theorem dX5_settle_15 : decode cX5_settle 15 = .ok (.aload_n 0, 1) := by decide +kernel
theorem dX5_settle_16 : decode cX5_settle 16 = .ok (.aload_n 1, 1) := by decide +kernel
theorem dX5_settle_17 : decode cX5_settle 17 = .ok (.invokevirtual 156, 3) := by decide +kernel
theorem dX5_settle_20 : decode cX5_settle 20 = .ok (.aload_n 1, 1) := by decide +kernel
theorem dX5_settle_21 : decode cX5_settle 21 = .ok (.getfield 160, 3) := by decide +kernel
theorem dX5_settle_24 : decode cX5_settle 24 = .ok (.istore_n 2, 1) := by decide +kernel
theorem dX5_settle_25 : decode cX5_settle 25 = .ok (.aload_n 1, 1) := by decide +kernel
theorem dX5_settle_26 : decode cX5_settle 26 = .ok (.getfield 163, 3) := by decide +kernel
theorem dX5_settle_29 : decode cX5_settle 29 = .ok (.iconst 0, 1) := by decide +kernel
theorem dX5_settle_30 : decode cX5_settle 30 = .ok (.aload_n 0, 1) := by decide +kernel
theorem dX5_settle_31 : decode cX5_settle 31 = .ok (.getfield 12, 3) := by decide +kernel
theorem dX5_settle_34 : decode cX5_settle 34 = .ok (.getfield 140, 3) := by decide +kernel
theorem dX5_settle_37 : decode cX5_settle 37 = .ok (.iconst 0, 1) := by decide +kernel
theorem dX5_settle_38 : decode cX5_settle 38 = .ok (.aload_n 0, 1) := by decide +kernel
theorem dX5_settle_39 : decode cX5_settle 39 = .ok (.getfield 12, 3) := by decide +kernel
theorem dX5_settle_42 : decode cX5_settle 42 = .ok (.getfield 38, 3) := by decide +kernel
theorem dX5_settle_45 : decode cX5_settle 45 = .ok (.invokestatic 166, 3) := by decide +kernel
theorem dX5_settle_48 : decode cX5_settle 48 = .ok (.aload_n 0, 1) := by decide +kernel
theorem dX5_settle_49 : decode cX5_settle 49 = .ok (.iconst 0, 1) := by decide +kernel
theorem dX5_settle_50 : decode cX5_settle 50 = .ok (.putfield 35, 3) := by decide +kernel
theorem dX5_settle_53 : decode cX5_settle 53 = .ok (.iload_n 2, 1) := by decide +kernel
theorem dX5_settle_54 : decode cX5_settle 54 = .ok (.ireturn, 1) := by decide +kernel
theorem dX5_count_0 : decode cX5_count 0 = .ok (.iload_n 1, 1) := by decide +kernel
theorem dX5_count_1 : decode cX5_count 1 = .ok (.tableswitch 66 0 3 #[31, 39, 50, 61], 31) := by decide +kernel
theorem dX5_count_32 : decode cX5_count 32 = .ok (.aload_n 0, 1) := by decide +kernel
theorem dX5_count_33 : decode cX5_count 33 = .ok (.getfield 12, 3) := by decide +kernel
theorem dX5_count_36 : decode cX5_count 36 = .ok (.getfield 38, 3) := by decide +kernel
theorem dX5_count_39 : decode cX5_count 39 = .ok (.ireturn, 1) := by decide +kernel
theorem dX5_count_40 : decode cX5_count 40 = .ok (.aload_n 0, 1) := by decide +kernel
theorem dX5_count_41 : decode cX5_count 41 = .ok (.getfield 12, 3) := by decide +kernel
theorem dX5_count_44 : decode cX5_count 44 = .ok (.getfield 58, 3) := by decide +kernel
theorem dX5_count_47 : decode cX5_count 47 = .ok (.invokestatic 75, 3) := by decide +kernel
theorem dX5_count_50 : decode cX5_count 50 = .ok (.ireturn, 1) := by decide +kernel
theorem dX5_count_51 : decode cX5_count 51 = .ok (.aload_n 0, 1) := by decide +kernel
theorem dX5_count_52 : decode cX5_count 52 = .ok (.getfield 12, 3) := by decide +kernel
theorem dX5_count_55 : decode cX5_count 55 = .ok (.getfield 72, 3) := by decide +kernel
theorem dX5_count_58 : decode cX5_count 58 = .ok (.invokestatic 75, 3) := by decide +kernel
theorem dX5_count_61 : decode cX5_count 61 = .ok (.ireturn, 1) := by decide +kernel
theorem dX5_count_62 : decode cX5_count 62 = .ok (.aload_n 0, 1) := by decide +kernel
theorem dX5_count_63 : decode cX5_count 63 = .ok (.getfield 20, 3) := by decide +kernel
theorem dX5_count_66 : decode cX5_count 66 = .ok (.ireturn, 1) := by decide +kernel
theorem dX5_count_67 : decode cX5_count 67 = .ok (.bipush (-2), 2) := by decide +kernel
theorem dX5_count_69 : decode cX5_count 69 = .ok (.ireturn, 1) := by decide +kernel
theorem dX5_image_0 : decode cX5_image 0 = .ok (.iload_n 1, 1) := by decide +kernel
theorem dX5_image_1 : decode cX5_image 1 = .ok (.invokestatic 172, 3) := by decide +kernel
theorem dX5_image_4 : decode cX5_image 4 = .ok (.ifCond .ne 6, 3) := by decide +kernel
theorem dX5_image_7 : decode cX5_image 7 = .ok (.bipush (-2), 2) := by decide +kernel
theorem dX5_image_9 : decode cX5_image 9 = .ok (.ireturn, 1) := by decide +kernel
theorem dX5_image_10 : decode cX5_image 10 = .ok (.aload_n 0, 1) := by decide +kernel
theorem dX5_image_11 : decode cX5_image 11 = .ok (.getfield 16, 3) := by decide +kernel
theorem dX5_image_14 : decode cX5_image 14 = .ok (.iload_n 1, 1) := by decide +kernel
theorem dX5_image_15 : decode cX5_image 15 = .ok (.aaload, 1) := by decide +kernel
theorem dX5_image_16 : decode cX5_image 16 = .ok (.aload_n 0, 1) := by decide +kernel
theorem dX5_image_17 : decode cX5_image 17 = .ok (.getfield 12, 3) := by decide +kernel
theorem dX5_image_20 : decode cX5_image 20 = .ok (.invokevirtual 175, 3) := by decide +kernel
theorem dX5_image_23 : decode cX5_image 23 = .ok (.aload_n 0, 1) := by decide +kernel
theorem dX5_image_24 : decode cX5_image 24 = .ok (.aload_n 0, 1) := by decide +kernel
theorem dX5_image_25 : decode cX5_image 25 = .ok (.getfield 20, 3) := by decide +kernel
theorem dX5_image_28 : decode cX5_image 28 = .ok (.iload_n 1, 1) := by decide +kernel
theorem dX5_image_29 : decode cX5_image 29 = .ok (.iconst 1, 1) := by decide +kernel
theorem dX5_image_30 : decode cX5_image 30 = .ok (.invokestatic 62, 3) := by decide +kernel
theorem dX5_image_33 : decode cX5_image 33 = .ok (.putfield 20, 3) := by decide +kernel
theorem dX5_image_36 : decode cX5_image 36 = .ok (.iconst 1, 1) := by decide +kernel
theorem dX5_image_37 : decode cX5_image 37 = .ok (.ireturn, 1) := by decide +kernel
theorem dX5_restore_0 : decode cX5_restore 0 = .ok (.iload_n 1, 1) := by decide +kernel
theorem dX5_restore_1 : decode cX5_restore 1 = .ok (.invokestatic 172, 3) := by decide +kernel
theorem dX5_restore_4 : decode cX5_restore 4 = .ok (.ifCond .ne 6, 3) := by decide +kernel
theorem dX5_restore_7 : decode cX5_restore 7 = .ok (.bipush (-2), 2) := by decide +kernel
theorem dX5_restore_9 : decode cX5_restore 9 = .ok (.ireturn, 1) := by decide +kernel
theorem dX5_restore_10 : decode cX5_restore 10 = .ok (.aload_n 0, 1) := by decide +kernel
theorem dX5_restore_11 : decode cX5_restore 11 = .ok (.getfield 20, 3) := by decide +kernel
theorem dX5_restore_14 : decode cX5_restore 14 = .ok (.iload_n 1, 1) := by decide +kernel
theorem dX5_restore_15 : decode cX5_restore 15 = .ok (.invokestatic 179, 3) := by decide +kernel
theorem dX5_restore_18 : decode cX5_restore 18 = .ok (.ifCond .ne 6, 3) := by decide +kernel
theorem dX5_restore_21 : decode cX5_restore 21 = .ok (.bipush (-3), 2) := by decide +kernel
theorem dX5_restore_23 : decode cX5_restore 23 = .ok (.ireturn, 1) := by decide +kernel
theorem dX5_restore_24 : decode cX5_restore 24 = .ok (.aload_n 0, 1) := by decide +kernel
theorem dX5_restore_25 : decode cX5_restore 25 = .ok (.getfield 12, 3) := by decide +kernel
theorem dX5_restore_28 : decode cX5_restore 28 = .ok (.aload_n 0, 1) := by decide +kernel
theorem dX5_restore_29 : decode cX5_restore 29 = .ok (.getfield 16, 3) := by decide +kernel
theorem dX5_restore_32 : decode cX5_restore 32 = .ok (.iload_n 1, 1) := by decide +kernel
theorem dX5_restore_33 : decode cX5_restore 33 = .ok (.aaload, 1) := by decide +kernel
theorem dX5_restore_34 : decode cX5_restore 34 = .ok (.invokevirtual 175, 3) := by decide +kernel
theorem dX5_restore_37 : decode cX5_restore 37 = .ok (.aload_n 0, 1) := by decide +kernel
theorem dX5_restore_38 : decode cX5_restore 38 = .ok (.invokevirtual 45, 3) := by decide +kernel
theorem dX5_restore_41 : decode cX5_restore 41 = .ok (.iconst 1, 1) := by decide +kernel
theorem dX5_restore_42 : decode cX5_restore 42 = .ok (.ireturn, 1) := by decide +kernel
theorem dX5_isGrave_0 : decode cX5_isGrave 0 = .ok (.iload_n 1, 1) := by decide +kernel
theorem dX5_isGrave_1 : decode cX5_isGrave 1 = .ok (.ifCond .lt 18, 3) := by decide +kernel
theorem dX5_isGrave_4 : decode cX5_isGrave 4 = .ok (.iload_n 1, 1) := by decide +kernel
theorem dX5_isGrave_5 : decode cX5_isGrave 5 = .ok (.aload_n 0, 1) := by decide +kernel
theorem dX5_isGrave_6 : decode cX5_isGrave 6 = .ok (.getfield 12, 3) := by decide +kernel
theorem dX5_isGrave_9 : decode cX5_isGrave 9 = .ok (.getfield 38, 3) := by decide +kernel
theorem dX5_isGrave_12 : decode cX5_isGrave 12 = .ok (.if_icmp .ge 7, 3) := by decide +kernel
theorem dX5_isGrave_15 : decode cX5_isGrave 15 = .ok (.iconst 1, 1) := by decide +kernel
theorem dX5_isGrave_16 : decode cX5_isGrave 16 = .ok (.goto 4, 3) := by decide +kernel
theorem dX5_isGrave_19 : decode cX5_isGrave 19 = .ok (.iconst 0, 1) := by decide +kernel
theorem dX5_isGrave_20 : decode cX5_isGrave 20 = .ok (.ireturn, 1) := by decide +kernel
theorem dX5_isPlace_0 : decode cX5_isPlace 0 = .ok (.iload_n 1, 1) := by decide +kernel
theorem dX5_isPlace_1 : decode cX5_isPlace 1 = .ok (.ifCond .lt 18, 3) := by decide +kernel
theorem dX5_isPlace_4 : decode cX5_isPlace 4 = .ok (.iload_n 1, 1) := by decide +kernel
theorem dX5_isPlace_5 : decode cX5_isPlace 5 = .ok (.aload_n 0, 1) := by decide +kernel
theorem dX5_isPlace_6 : decode cX5_isPlace 6 = .ok (.getfield 12, 3) := by decide +kernel
theorem dX5_isPlace_9 : decode cX5_isPlace 9 = .ok (.getfield 38, 3) := by decide +kernel
theorem dX5_isPlace_12 : decode cX5_isPlace 12 = .ok (.if_icmp .ge 7, 3) := by decide +kernel
theorem dX5_isPlace_15 : decode cX5_isPlace 15 = .ok (.iconst 1, 1) := by decide +kernel
theorem dX5_isPlace_16 : decode cX5_isPlace 16 = .ok (.goto 4, 3) := by decide +kernel
theorem dX5_isPlace_19 : decode cX5_isPlace 19 = .ok (.iconst 0, 1) := by decide +kernel
theorem dX5_isPlace_20 : decode cX5_isPlace 20 = .ok (.ireturn, 1) := by decide +kernel
theorem dX5_isSort_0 : decode cX5_isSort 0 = .ok (.iload_n 0, 1) := by decide +kernel
theorem dX5_isSort_1 : decode cX5_isSort 1 = .ok (.ifCond .lt 13, 3) := by decide +kernel
theorem dX5_isSort_4 : decode cX5_isSort 4 = .ok (.iload_n 0, 1) := by decide +kernel
theorem dX5_isSort_5 : decode cX5_isSort 5 = .ok (.bipush 10, 2) := by decide +kernel
theorem dX5_isSort_7 : decode cX5_isSort 7 = .ok (.if_icmp .ge 7, 3) := by decide +kernel
theorem dX5_isSort_10 : decode cX5_isSort 10 = .ok (.iconst 1, 1) := by decide +kernel
theorem dX5_isSort_11 : decode cX5_isSort 11 = .ok (.goto 4, 3) := by decide +kernel
theorem dX5_isSort_14 : decode cX5_isSort 14 = .ok (.iconst 0, 1) := by decide +kernel
theorem dX5_isSort_15 : decode cX5_isSort 15 = .ok (.ireturn, 1) := by decide +kernel
theorem dX5_isOnOrOff_0 : decode cX5_isOnOrOff 0 = .ok (.iload_n 0, 1) := by decide +kernel
theorem dX5_isOnOrOff_1 : decode cX5_isOnOrOff 1 = .ok (.ifCond .eq 8, 3) := by decide +kernel
theorem dX5_isOnOrOff_4 : decode cX5_isOnOrOff 4 = .ok (.iload_n 0, 1) := by decide +kernel
theorem dX5_isOnOrOff_5 : decode cX5_isOnOrOff 5 = .ok (.iconst 1, 1) := by decide +kernel
theorem dX5_isOnOrOff_6 : decode cX5_isOnOrOff 6 = .ok (.if_icmp .ne 7, 3) := by decide +kernel
theorem dX5_isOnOrOff_9 : decode cX5_isOnOrOff 9 = .ok (.iconst 1, 1) := by decide +kernel
theorem dX5_isOnOrOff_10 : decode cX5_isOnOrOff 10 = .ok (.goto 4, 3) := by decide +kernel
theorem dX5_isOnOrOff_13 : decode cX5_isOnOrOff 13 = .ok (.iconst 0, 1) := by decide +kernel
theorem dX5_isOnOrOff_14 : decode cX5_isOnOrOff 14 = .ok (.ireturn, 1) := by decide +kernel
theorem dX5_isImage_0 : decode cX5_isImage 0 = .ok (.iload_n 0, 1) := by decide +kernel
theorem dX5_isImage_1 : decode cX5_isImage 1 = .ok (.ifCond .lt 12, 3) := by decide +kernel
theorem dX5_isImage_4 : decode cX5_isImage 4 = .ok (.iload_n 0, 1) := by decide +kernel
theorem dX5_isImage_5 : decode cX5_isImage 5 = .ok (.iconst 2, 1) := by decide +kernel
theorem dX5_isImage_6 : decode cX5_isImage 6 = .ok (.if_icmp .ge 7, 3) := by decide +kernel
theorem dX5_isImage_9 : decode cX5_isImage 9 = .ok (.iconst 1, 1) := by decide +kernel
theorem dX5_isImage_10 : decode cX5_isImage 10 = .ok (.goto 4, 3) := by decide +kernel
theorem dX5_isImage_13 : decode cX5_isImage 13 = .ok (.iconst 0, 1) := by decide +kernel
theorem dX5_isImage_14 : decode cX5_isImage 14 = .ok (.ireturn, 1) := by decide +kernel
theorem dX5_isMember_0 : decode cX5_isMember 0 = .ok (.iload_n 0, 1) := by decide +kernel
theorem dX5_isMember_1 : decode cX5_isMember 1 = .ok (.iload_n 1, 1) := by decide +kernel
theorem dX5_isMember_2 : decode cX5_isMember 2 = .ok (.ishr, 1) := by decide +kernel
theorem dX5_isMember_3 : decode cX5_isMember 3 = .ok (.iconst 1, 1) := by decide +kernel
theorem dX5_isMember_4 : decode cX5_isMember 4 = .ok (.iand, 1) := by decide +kernel
theorem dX5_isMember_5 : decode cX5_isMember 5 = .ok (.ifCond .eq 7, 3) := by decide +kernel
theorem dX5_isMember_8 : decode cX5_isMember 8 = .ok (.iconst 1, 1) := by decide +kernel
theorem dX5_isMember_9 : decode cX5_isMember 9 = .ok (.goto 4, 3) := by decide +kernel
theorem dX5_isMember_12 : decode cX5_isMember 12 = .ok (.iconst 0, 1) := by decide +kernel
theorem dX5_isMember_13 : decode cX5_isMember 13 = .ok (.ireturn, 1) := by decide +kernel
theorem dX5_withMember_0 : decode cX5_withMember 0 = .ok (.iload_n 0, 1) := by decide +kernel
theorem dX5_withMember_1 : decode cX5_withMember 1 = .ok (.iconst 1, 1) := by decide +kernel
theorem dX5_withMember_2 : decode cX5_withMember 2 = .ok (.iload_n 1, 1) := by decide +kernel
theorem dX5_withMember_3 : decode cX5_withMember 3 = .ok (.ishl, 1) := by decide +kernel
theorem dX5_withMember_4 : decode cX5_withMember 4 = .ok (.iconst (-1), 1) := by decide +kernel
theorem dX5_withMember_5 : decode cX5_withMember 5 = .ok (.ixor, 1) := by decide +kernel
theorem dX5_withMember_6 : decode cX5_withMember 6 = .ok (.iand, 1) := by decide +kernel
theorem dX5_withMember_7 : decode cX5_withMember 7 = .ok (.iload_n 2, 1) := by decide +kernel
theorem dX5_withMember_8 : decode cX5_withMember 8 = .ok (.iload_n 1, 1) := by decide +kernel
theorem dX5_withMember_9 : decode cX5_withMember 9 = .ok (.ishl, 1) := by decide +kernel
theorem dX5_withMember_10 : decode cX5_withMember 10 = .ok (.ior, 1) := by decide +kernel
theorem dX5_withMember_11 : decode cX5_withMember 11 = .ok (.ireturn, 1) := by decide +kernel
theorem dX5_membersOfAll_0 : decode cX5_membersOfAll 0 = .ok (.iconst 0, 1) := by decide +kernel
theorem dX5_membersOfAll_1 : decode cX5_membersOfAll 1 = .ok (.istore_n 1, 1) := by decide +kernel
theorem dX5_membersOfAll_2 : decode cX5_membersOfAll 2 = .ok (.aload_n 0, 1) := by decide +kernel
theorem dX5_membersOfAll_3 : decode cX5_membersOfAll 3 = .ok (.astore_n 2, 1) := by decide +kernel
theorem dX5_membersOfAll_4 : decode cX5_membersOfAll 4 = .ok (.aload_n 2, 1) := by decide +kernel
theorem dX5_membersOfAll_5 : decode cX5_membersOfAll 5 = .ok (.arraylength, 1) := by decide +kernel
theorem dX5_membersOfAll_6 : decode cX5_membersOfAll 6 = .ok (.istore_n 3, 1) := by decide +kernel
theorem dX5_membersOfAll_7 : decode cX5_membersOfAll 7 = .ok (.iconst 0, 1) := by decide +kernel
theorem dX5_membersOfAll_8 : decode cX5_membersOfAll 8 = .ok (.istore 4, 2) := by decide +kernel
theorem dX5_membersOfAll_10 : decode cX5_membersOfAll 10 = .ok (.iload 4, 2) := by decide +kernel
theorem dX5_membersOfAll_12 : decode cX5_membersOfAll 12 = .ok (.iload_n 3, 1) := by decide +kernel
theorem dX5_membersOfAll_13 : decode cX5_membersOfAll 13 = .ok (.if_icmp .ge 23, 3) := by decide +kernel
theorem dX5_membersOfAll_16 : decode cX5_membersOfAll 16 = .ok (.aload_n 2, 1) := by decide +kernel
theorem dX5_membersOfAll_17 : decode cX5_membersOfAll 17 = .ok (.iload 4, 2) := by decide +kernel
theorem dX5_membersOfAll_19 : decode cX5_membersOfAll 19 = .ok (.iaload, 1) := by decide +kernel
theorem dX5_membersOfAll_20 : decode cX5_membersOfAll 20 = .ok (.istore 5, 2) := by decide +kernel
theorem dX5_membersOfAll_22 : decode cX5_membersOfAll 22 = .ok (.iload_n 1, 1) := by decide +kernel
theorem dX5_membersOfAll_23 : decode cX5_membersOfAll 23 = .ok (.iload 5, 2) := by decide +kernel
theorem dX5_membersOfAll_25 : decode cX5_membersOfAll 25 = .ok (.invokestatic 66, 3) := by decide +kernel
theorem dX5_membersOfAll_28 : decode cX5_membersOfAll 28 = .ok (.iadd, 1) := by decide +kernel
theorem dX5_membersOfAll_29 : decode cX5_membersOfAll 29 = .ok (.istore_n 1, 1) := by decide +kernel
theorem dX5_membersOfAll_30 : decode cX5_membersOfAll 30 = .ok (.iinc 4 1, 3) := by decide +kernel
theorem dX5_membersOfAll_33 : decode cX5_membersOfAll 33 = .ok (.goto (-23), 3) := by decide +kernel
theorem dX5_membersOfAll_36 : decode cX5_membersOfAll 36 = .ok (.iload_n 1, 1) := by decide +kernel
theorem dX5_membersOfAll_37 : decode cX5_membersOfAll 37 = .ok (.ireturn, 1) := by decide +kernel
theorem dX5_forgetBest_0 : decode cX5_forgetBest 0 = .ok (.aload_n 0, 1) := by decide +kernel
theorem dX5_forgetBest_1 : decode cX5_forgetBest 1 = .ok (.iconst 0, 1) := by decide +kernel
theorem dX5_forgetBest_2 : decode cX5_forgetBest 2 = .ok (.putfield 31, 3) := by decide +kernel
theorem dX5_forgetBest_5 : decode cX5_forgetBest 5 = .ok (.aload_n 0, 1) := by decide +kernel
theorem dX5_forgetBest_6 : decode cX5_forgetBest 6 = .ok (.iconst 0, 1) := by decide +kernel
theorem dX5_forgetBest_7 : decode cX5_forgetBest 7 = .ok (.putfield 35, 3) := by decide +kernel
theorem dX5_forgetBest_10 : decode cX5_forgetBest 10 = .ok (.return_, 1) := by decide +kernel
theorem dX5_knownBest_0 : decode cX5_knownBest 0 = .ok (.aload_n 0, 1) := by decide +kernel
theorem dX5_knownBest_1 : decode cX5_knownBest 1 = .ok (.getfield 31, 3) := by decide +kernel
theorem dX5_knownBest_4 : decode cX5_knownBest 4 = .ok (.ifCond .ne 19, 3) := by decide +kernel
theorem dX5_knownBest_7 : decode cX5_knownBest 7 = .ok (.aload_n 0, 1) := by decide +kernel
theorem dX5_knownBest_8 : decode cX5_knownBest 8 = .ok (.getfield 27, 3) := by decide +kernel
theorem dX5_knownBest_11 : decode cX5_knownBest 11 = .ok (.aload_n 0, 1) := by decide +kernel
theorem dX5_knownBest_12 : decode cX5_knownBest 12 = .ok (.getfield 12, 3) := by decide +kernel
theorem dX5_knownBest_15 : decode cX5_knownBest 15 = .ok (.invokevirtual 183, 3) := by decide +kernel
theorem dX5_knownBest_18 : decode cX5_knownBest 18 = .ok (.aload_n 0, 1) := by decide +kernel
theorem dX5_knownBest_19 : decode cX5_knownBest 19 = .ok (.iconst 1, 1) := by decide +kernel
theorem dX5_knownBest_20 : decode cX5_knownBest 20 = .ok (.putfield 31, 3) := by decide +kernel
theorem dX5_knownBest_23 : decode cX5_knownBest 23 = .ok (.aload_n 0, 1) := by decide +kernel
theorem dX5_knownBest_24 : decode cX5_knownBest 24 = .ok (.getfield 27, 3) := by decide +kernel
theorem dX5_knownBest_27 : decode cX5_knownBest 27 = .ok (.areturn, 1) := by decide +kernel
theorem dX5_knowWay_0 : decode cX5_knowWay 0 = .ok (.aload_n 0, 1) := by decide +kernel
theorem dX5_knowWay_1 : decode cX5_knowWay 1 = .ok (.getfield 35, 3) := by decide +kernel
theorem dX5_knowWay_4 : decode cX5_knowWay 4 = .ok (.ifCond .ne 16, 3) := by decide +kernel
theorem dX5_knowWay_7 : decode cX5_knowWay 7 = .ok (.aload_n 1, 1) := by decide +kernel
theorem dX5_knowWay_8 : decode cX5_knowWay 8 = .ok (.aload_n 0, 1) := by decide +kernel
theorem dX5_knowWay_9 : decode cX5_knowWay 9 = .ok (.getfield 12, 3) := by decide +kernel
theorem dX5_knowWay_12 : decode cX5_knowWay 12 = .ok (.invokevirtual 186, 3) := by decide +kernel
theorem dX5_knowWay_15 : decode cX5_knowWay 15 = .ok (.aload_n 0, 1) := by decide +kernel
theorem dX5_knowWay_16 : decode cX5_knowWay 16 = .ok (.iconst 1, 1) := by decide +kernel
theorem dX5_knowWay_17 : decode cX5_knowWay 17 = .ok (.putfield 35, 3) := by decide +kernel
theorem dX5_knowWay_20 : decode cX5_knowWay 20 = .ok (.return_, 1) := by decide +kernel
theorem dX5_lineIsBest_0 : decode cX5_lineIsBest 0 = .ok (.aload_n 0, 1) := by decide +kernel
theorem dX5_lineIsBest_1 : decode cX5_lineIsBest 1 = .ok (.invokevirtual 91, 3) := by decide +kernel
theorem dX5_lineIsBest_4 : decode cX5_lineIsBest 4 = .ok (.astore_n 1, 1) := by decide +kernel
theorem dX5_lineIsBest_5 : decode cX5_lineIsBest 5 = .ok (.aload_n 1, 1) := by decide +kernel
theorem dX5_lineIsBest_6 : decode cX5_lineIsBest 6 = .ok (.invokevirtual 99, 3) := by decide +kernel
theorem dX5_lineIsBest_9 : decode cX5_lineIsBest 9 = .ok (.ifCond .le 34, 3) := by decide +kernel
theorem dX5_lineIsBest_12 : decode cX5_lineIsBest 12 = .ok (.aload_n 0, 1) := by decide +kernel
theorem dX5_lineIsBest_13 : decode cX5_lineIsBest 13 = .ok (.getfield 12, 3) := by decide +kernel
theorem dX5_lineIsBest_16 : decode cX5_lineIsBest 16 = .ok (.invokevirtual 143, 3) := by decide +kernel
theorem dX5_lineIsBest_19 : decode cX5_lineIsBest 19 = .ok (.ifCond .eq 24, 3) := by decide +kernel
theorem dX5_lineIsBest_22 : decode cX5_lineIsBest 22 = .ok (.aload_n 0, 1) := by decide +kernel
theorem dX5_lineIsBest_23 : decode cX5_lineIsBest 23 = .ok (.getfield 12, 3) := by decide +kernel
theorem dX5_lineIsBest_26 : decode cX5_lineIsBest 26 = .ok (.sipush 1023, 3) := by decide +kernel
theorem dX5_lineIsBest_29 : decode cX5_lineIsBest 29 = .ok (.invokevirtual 88, 3) := by decide +kernel
theorem dX5_lineIsBest_32 : decode cX5_lineIsBest 32 = .ok (.aload_n 1, 1) := by decide +kernel
theorem dX5_lineIsBest_33 : decode cX5_lineIsBest 33 = .ok (.getfield 103, 3) := by decide +kernel
theorem dX5_lineIsBest_36 : decode cX5_lineIsBest 36 = .ok (.if_icmp .ne 7, 3) := by decide +kernel
theorem dX5_lineIsBest_39 : decode cX5_lineIsBest 39 = .ok (.iconst 1, 1) := by decide +kernel
theorem dX5_lineIsBest_40 : decode cX5_lineIsBest 40 = .ok (.goto 4, 3) := by decide +kernel
theorem dX5_lineIsBest_43 : decode cX5_lineIsBest 43 = .ok (.iconst 0, 1) := by decide +kernel
theorem dX5_lineIsBest_44 : decode cX5_lineIsBest 44 = .ok (.ireturn, 1) := by decide +kernel
theorem dX5_makeBestSwap_0 : decode cX5_makeBestSwap 0 = .ok (.aload_n 0, 1) := by decide +kernel
theorem dX5_makeBestSwap_1 : decode cX5_makeBestSwap 1 = .ok (.getfield 12, 3) := by decide +kernel
theorem dX5_makeBestSwap_4 : decode cX5_makeBestSwap 4 = .ok (.invokevirtual 189, 3) := by decide +kernel
theorem dX5_makeBestSwap_7 : decode cX5_makeBestSwap 7 = .ok (.istore_n 1, 1) := by decide +kernel
theorem dX5_makeBestSwap_8 : decode cX5_makeBestSwap 8 = .ok (.iload_n 1, 1) := by decide +kernel
theorem dX5_makeBestSwap_9 : decode cX5_makeBestSwap 9 = .ok (.bipush (-6), 2) := by decide +kernel
theorem dX5_makeBestSwap_11 : decode cX5_makeBestSwap 11 = .ok (.if_icmp .eq 16, 3) := by decide +kernel
theorem dX5_makeBestSwap_14 : decode cX5_makeBestSwap 14 = .ok (.aload_n 0, 1) := by decide +kernel
theorem dX5_makeBestSwap_15 : decode cX5_makeBestSwap 15 = .ok (.getfield 12, 3) := by decide +kernel
theorem dX5_makeBestSwap_18 : decode cX5_makeBestSwap 18 = .ok (.iload_n 1, 1) := by decide +kernel
theorem dX5_makeBestSwap_19 : decode cX5_makeBestSwap 19 = .ok (.invokevirtual 150, 3) := by decide +kernel
theorem dX5_makeBestSwap_22 : decode cX5_makeBestSwap 22 = .ok (.aload_n 0, 1) := by decide +kernel
theorem dX5_makeBestSwap_23 : decode cX5_makeBestSwap 23 = .ok (.iconst 0, 1) := by decide +kernel
theorem dX5_makeBestSwap_24 : decode cX5_makeBestSwap 24 = .ok (.putfield 35, 3) := by decide +kernel
theorem dX5_makeBestSwap_27 : decode cX5_makeBestSwap 27 = .ok (.iload_n 1, 1) := by decide +kernel
theorem dX5_makeBestSwap_28 : decode cX5_makeBestSwap 28 = .ok (.ireturn, 1) := by decide +kernel
end
section
theorem dX6_init_0 : decode cX6_init 0 = .ok (.aload_n 0, 1) := by decide +kernel
theorem dX6_init_1 : decode cX6_init 1 = .ok (.invokespecial 1, 3) := by decide +kernel
theorem dX6_init_4 : decode cX6_init 4 = .ok (.aload_n 0, 1) := by decide +kernel
theorem dX6_init_5 : decode cX6_init 5 = .ok (.bipush 25, 2) := by decide +kernel
theorem dX6_init_7 : decode cX6_init 7 = .ok (.newarray .int, 2) := by decide +kernel
theorem dX6_init_9 : decode cX6_init 9 = .ok (.putfield 7, 3) := by decide +kernel
theorem dX6_init_12 : decode cX6_init 12 = .ok (.aload_n 0, 1) := by decide +kernel
theorem dX6_init_13 : decode cX6_init 13 = .ok (.bipush 50, 2) := by decide +kernel
theorem dX6_init_15 : decode cX6_init 15 = .ok (.newarray .int, 2) := by decide +kernel
theorem dX6_init_17 : decode cX6_init 17 = .ok (.putfield 13, 3) := by decide +kernel
theorem dX6_init_20 : decode cX6_init 20 = .ok (.aload_n 0, 1) := by decide +kernel
theorem dX6_init_21 : decode cX6_init 21 = .ok (.iconst 2, 1) := by decide +kernel
theorem dX6_init_22 : decode cX6_init 22 = .ok (.newarray .boolean, 2) := by decide +kernel
theorem dX6_init_24 : decode cX6_init 24 = .ok (.putfield 16, 3) := by decide +kernel
theorem dX6_init_27 : decode cX6_init 27 = .ok (.aload_n 0, 1) := by decide +kernel
theorem dX6_init_28 : decode cX6_init 28 = .ok (.bipush 8, 2) := by decide +kernel
theorem dX6_init_30 : decode cX6_init 30 = .ok (.newarray .int, 2) := by decide +kernel
theorem dX6_init_32 : decode cX6_init 32 = .ok (.putfield 20, 3) := by decide +kernel
theorem dX6_init_35 : decode cX6_init 35 = .ok (.aload_n 0, 1) := by decide +kernel
theorem dX6_init_36 : decode cX6_init 36 = .ok (.bipush 8, 2) := by decide +kernel
theorem dX6_init_38 : decode cX6_init 38 = .ok (.newarray .int, 2) := by decide +kernel
theorem dX6_init_40 : decode cX6_init 40 = .ok (.putfield 23, 3) := by decide +kernel
theorem dX6_init_43 : decode cX6_init 43 = .ok (.aload_n 0, 1) := by decide +kernel
theorem dX6_init_44 : decode cX6_init 44 = .ok (.bipush 64, 2) := by decide +kernel
theorem dX6_init_46 : decode cX6_init 46 = .ok (.newarray .int, 2) := by decide +kernel
theorem dX6_init_48 : decode cX6_init 48 = .ok (.putfield 26, 3) := by decide +kernel
theorem dX6_init_51 : decode cX6_init 51 = .ok (.aload_n 0, 1) := by decide +kernel
theorem dX6_init_52 : decode cX6_init 52 = .ok (.bipush 64, 2) := by decide +kernel
theorem dX6_init_54 : decode cX6_init 54 = .ok (.newarray .int, 2) := by decide +kernel
theorem dX6_init_56 : decode cX6_init 56 = .ok (.putfield 29, 3) := by decide +kernel
theorem dX6_init_59 : decode cX6_init 59 = .ok (.aload_n 0, 1) := by decide +kernel
theorem dX6_init_60 : decode cX6_init 60 = .ok (.bipush 8, 2) := by decide +kernel
theorem dX6_init_62 : decode cX6_init 62 = .ok (.newarray .int, 2) := by decide +kernel
theorem dX6_init_64 : decode cX6_init 64 = .ok (.putfield 32, 3) := by decide +kernel
theorem dX6_init_67 : decode cX6_init 67 = .ok (.aload_n 0, 1) := by decide +kernel
theorem dX6_init_68 : decode cX6_init 68 = .ok (.bipush 8, 2) := by decide +kernel
theorem dX6_init_70 : decode cX6_init 70 = .ok (.newarray .int, 2) := by decide +kernel
theorem dX6_init_72 : decode cX6_init 72 = .ok (.putfield 35, 3) := by decide +kernel
theorem dX6_init_75 : decode cX6_init 75 = .ok (.aload_n 0, 1) := by decide +kernel
theorem dX6_init_76 : decode cX6_init 76 = .ok (.bipush 10, 2) := by decide +kernel
theorem dX6_init_78 : decode cX6_init 78 = .ok (.newarray .int, 2) := by decide +kernel
theorem dX6_init_80 : decode cX6_init 80 = .ok (.putfield 38, 3) := by decide +kernel
theorem dX6_init_83 : decode cX6_init 83 = .ok (.aload_n 0, 1) := by decide +kernel
theorem dX6_init_84 : decode cX6_init 84 = .ok (.sipush 256, 3) := by decide +kernel
theorem dX6_init_87 : decode cX6_init 87 = .ok (.newarray .boolean, 2) := by decide +kernel
theorem dX6_init_89 : decode cX6_init 89 = .ok (.putfield 41, 3) := by decide +kernel
theorem dX6_init_92 : decode cX6_init 92 = .ok (.aload_n 0, 1) := by decide +kernel
theorem dX6_init_93 : decode cX6_init 93 = .ok (.bipush 8, 2) := by decide +kernel
theorem dX6_init_95 : decode cX6_init 95 = .ok (.newarray .int, 2) := by decide +kernel
theorem dX6_init_97 : decode cX6_init 97 = .ok (.putfield 44, 3) := by decide +kernel
theorem dX6_init_100 : decode cX6_init 100 = .ok (.aload_n 0, 1) := by decide +kernel
theorem dX6_init_101 : decode cX6_init 101 = .ok (.getfield 7, 3) := by decide +kernel
theorem dX6_init_104 : decode cX6_init 104 = .ok (.iconst 0, 1) := by decide +kernel
theorem dX6_init_105 : decode cX6_init 105 = .ok (.iconst 4, 1) := by decide +kernel
theorem dX6_init_106 : decode cX6_init 106 = .ok (.iastore, 1) := by decide +kernel
theorem dX6_init_107 : decode cX6_init 107 = .ok (.aload_n 0, 1) := by decide +kernel
theorem dX6_init_108 : decode cX6_init 108 = .ok (.invokevirtual 47, 3) := by decide +kernel
theorem dX6_init_111 : decode cX6_init 111 = .ok (.return_, 1) := by decide +kernel
theorem dX6_resetRow_0 : decode cX6_resetRow 0 = .ok (.iconst 0, 1) := by decide +kernel
theorem dX6_resetRow_1 : decode cX6_resetRow 1 = .ok (.istore_n 1, 1) := by decide +kernel
theorem dX6_resetRow_2 : decode cX6_resetRow 2 = .ok (.iload_n 1, 1) := by decide +kernel
theorem dX6_resetRow_3 : decode cX6_resetRow 3 = .ok (.bipush 8, 2) := by decide +kernel
theorem dX6_resetRow_5 : decode cX6_resetRow 5 = .ok (.if_icmp .ge 19, 3) := by decide +kernel
theorem dX6_resetRow_8 : decode cX6_resetRow 8 = .ok (.aload_n 0, 1) := by decide +kernel
theorem dX6_resetRow_9 : decode cX6_resetRow 9 = .ok (.getfield 7, 3) := by decide +kernel
theorem dX6_resetRow_12 : decode cX6_resetRow 12 = .ok (.bipush 17, 2) := by decide +kernel
theorem dX6_resetRow_14 : decode cX6_resetRow 14 = .ok (.iload_n 1, 1) := by decide +kernel
theorem dX6_resetRow_15 : decode cX6_resetRow 15 = .ok (.iadd, 1) := by decide +kernel
theorem dX6_resetRow_16 : decode cX6_resetRow 16 = .ok (.iload_n 1, 1) := by decide +kernel
theorem dX6_resetRow_17 : decode cX6_resetRow 17 = .ok (.iastore, 1) := by decide +kernel
theorem dX6_resetRow_18 : decode cX6_resetRow 18 = .ok (.iinc 1 1, 3) := by decide +kernel
theorem dX6_resetRow_21 : decode cX6_resetRow 21 = .ok (.goto (-19), 3) := by decide +kernel
theorem dX6_resetRow_24 : decode cX6_resetRow 24 = .ok (.return_, 1) := by decide +kernel
theorem dX6_in_0 : decode cX6_in 0 = .ok (.iload_n 0, 1) := by decide +kernel
theorem dX6_in_1 : decode cX6_in 1 = .ok (.iload_n 1, 1) := by decide +kernel
theorem dX6_in_2 : decode cX6_in 2 = .ok (.if_icmp .lt 12, 3) := by decide +kernel
theorem dX6_in_5 : decode cX6_in 5 = .ok (.iload_n 0, 1) := by decide +kernel
theorem dX6_in_6 : decode cX6_in 6 = .ok (.iload_n 2, 1) := by decide +kernel
theorem dX6_in_7 : decode cX6_in 7 = .ok (.if_icmp .gt 7, 3) := by decide +kernel
theorem dX6_in_10 : decode cX6_in 10 = .ok (.iconst 1, 1) := by decide +kernel
theorem dX6_in_11 : decode cX6_in 11 = .ok (.goto 4, 3) := by decide +kernel
theorem dX6_in_14 : decode cX6_in 14 = .ok (.iconst 0, 1) := by decide +kernel
theorem dX6_in_15 : decode cX6_in 15 = .ok (.ireturn, 1) := by decide +kernel
theorem dX6_isGrave_0 : decode cX6_isGrave 0 = .ok (.iload_n 1, 1) := by decide +kernel
theorem dX6_isGrave_1 : decode cX6_isGrave 1 = .ok (.iconst 0, 1) := by decide +kernel
theorem dX6_isGrave_2 : decode cX6_isGrave 2 = .ok (.aload_n 0, 1) := by decide +kernel
theorem dX6_isGrave_3 : decode cX6_isGrave 3 = .ok (.getfield 7, 3) := by decide +kernel
theorem dX6_isGrave_6 : decode cX6_isGrave 6 = .ok (.iconst 0, 1) := by decide +kernel
theorem dX6_isGrave_7 : decode cX6_isGrave 7 = .ok (.iaload, 1) := by decide +kernel
theorem dX6_isGrave_8 : decode cX6_isGrave 8 = .ok (.iconst 1, 1) := by decide +kernel
theorem dX6_isGrave_9 : decode cX6_isGrave 9 = .ok (.isub, 1) := by decide +kernel
theorem dX6_isGrave_10 : decode cX6_isGrave 10 = .ok (.invokestatic 50, 3) := by decide +kernel
theorem dX6_isGrave_13 : decode cX6_isGrave 13 = .ok (.ireturn, 1) := by decide +kernel
theorem dX6_isSort_0 : decode cX6_isSort 0 = .ok (.iload_n 0, 1) := by decide +kernel
theorem dX6_isSort_1 : decode cX6_isSort 1 = .ok (.iconst 0, 1) := by decide +kernel
theorem dX6_isSort_2 : decode cX6_isSort 2 = .ok (.bipush 9, 2) := by decide +kernel
theorem dX6_isSort_4 : decode cX6_isSort 4 = .ok (.invokestatic 50, 3) := by decide +kernel
theorem dX6_isSort_7 : decode cX6_isSort 7 = .ok (.ireturn, 1) := by decide +kernel
theorem dX6_has_0 : decode cX6_has 0 = .ok (.iload_n 0, 1) := by decide +kernel
theorem dX6_has_1 : decode cX6_has 1 = .ok (.iload_n 1, 1) := by decide +kernel
theorem dX6_has_2 : decode cX6_has 2 = .ok (.ishr, 1) := by decide +kernel
theorem dX6_has_3 : decode cX6_has 3 = .ok (.iconst 1, 1) := by decide +kernel
theorem dX6_has_4 : decode cX6_has 4 = .ok (.iand, 1) := by decide +kernel
theorem dX6_has_5 : decode cX6_has 5 = .ok (.iconst 1, 1) := by decide +kernel
theorem dX6_has_6 : decode cX6_has 6 = .ok (.if_icmp .ne 7, 3) := by decide +kernel
theorem dX6_has_9 : decode cX6_has 9 = .ok (.iconst 1, 1) := by decide +kernel
theorem dX6_has_10 : decode cX6_has 10 = .ok (.goto 4, 3) := by decide +kernel
theorem dX6_has_13 : decode cX6_has 13 = .ok (.iconst 0, 1) := by decide +kernel
theorem dX6_has_14 : decode cX6_has 14 = .ok (.ireturn, 1) := by decide +kernel
theorem dX6_bits_0 : decode cX6_bits 0 = .ok (.iconst 0, 1) := by decide +kernel
theorem dX6_bits_1 : decode cX6_bits 1 = .ok (.istore_n 1, 1) := by decide +kernel
theorem dX6_bits_2 : decode cX6_bits 2 = .ok (.iconst 0, 1) := by decide +kernel
theorem dX6_bits_3 : decode cX6_bits 3 = .ok (.istore_n 2, 1) := by decide +kernel
theorem dX6_bits_4 : decode cX6_bits 4 = .ok (.iload_n 2, 1) := by decide +kernel
theorem dX6_bits_5 : decode cX6_bits 5 = .ok (.bipush 10, 2) := by decide +kernel
theorem dX6_bits_7 : decode cX6_bits 7 = .ok (.if_icmp .ge 17, 3) := by decide +kernel
theorem dX6_bits_10 : decode cX6_bits 10 = .ok (.iload_n 1, 1) := by decide +kernel
theorem dX6_bits_11 : decode cX6_bits 11 = .ok (.iload_n 0, 1) := by decide +kernel
theorem dX6_bits_12 : decode cX6_bits 12 = .ok (.iload_n 2, 1) := by decide +kernel
theorem dX6_bits_13 : decode cX6_bits 13 = .ok (.ishr, 1) := by decide +kernel
theorem dX6_bits_14 : decode cX6_bits 14 = .ok (.iconst 1, 1) := by decide +kernel
theorem dX6_bits_15 : decode cX6_bits 15 = .ok (.iand, 1) := by decide +kernel
theorem dX6_bits_16 : decode cX6_bits 16 = .ok (.iadd, 1) := by decide +kernel
theorem dX6_bits_17 : decode cX6_bits 17 = .ok (.istore_n 1, 1) := by decide +kernel
theorem dX6_bits_18 : decode cX6_bits 18 = .ok (.iinc 2 1, 3) := by decide +kernel
theorem dX6_bits_21 : decode cX6_bits 21 = .ok (.goto (-17), 3) := by decide +kernel
theorem dX6_bits_24 : decode cX6_bits 24 = .ok (.iload_n 1, 1) := by decide +kernel
theorem dX6_bits_25 : decode cX6_bits 25 = .ok (.ireturn, 1) := by decide +kernel
theorem dX6_many_0 : decode cX6_many 0 = .ok (.iload_n 1, 1) := by decide +kernel
theorem dX6_many_1 : decode cX6_many 1 = .ok (.iconst 1, 1) := by decide +kernel
theorem dX6_many_2 : decode cX6_many 2 = .ok (.bipush 8, 2) := by decide +kernel
theorem dX6_many_4 : decode cX6_many 4 = .ok (.invokestatic 50, 3) := by decide +kernel
theorem dX6_many_7 : decode cX6_many 7 = .ok (.ifCond .ne 6, 3) := by decide +kernel
theorem dX6_many_10 : decode cX6_many 10 = .ok (.bipush (-2), 2) := by decide +kernel
theorem dX6_many_12 : decode cX6_many 12 = .ok (.ireturn, 1) := by decide +kernel
theorem dX6_many_13 : decode cX6_many 13 = .ok (.aload_n 0, 1) := by decide +kernel
theorem dX6_many_14 : decode cX6_many 14 = .ok (.getfield 7, 3) := by decide +kernel
theorem dX6_many_17 : decode cX6_many 17 = .ok (.iconst 0, 1) := by decide +kernel
theorem dX6_many_18 : decode cX6_many 18 = .ok (.iaload, 1) := by decide +kernel
theorem dX6_many_19 : decode cX6_many 19 = .ok (.istore_n 2, 1) := by decide +kernel
theorem dX6_many_20 : decode cX6_many 20 = .ok (.aload_n 0, 1) := by decide +kernel
theorem dX6_many_21 : decode cX6_many 21 = .ok (.getfield 7, 3) := by decide +kernel
theorem dX6_many_24 : decode cX6_many 24 = .ok (.iconst 0, 1) := by decide +kernel
theorem dX6_many_25 : decode cX6_many 25 = .ok (.iload_n 1, 1) := by decide +kernel
theorem dX6_many_26 : decode cX6_many 26 = .ok (.iastore, 1) := by decide +kernel
theorem dX6_many_27 : decode cX6_many 27 = .ok (.iconst 0, 1) := by decide +kernel
theorem dX6_many_28 : decode cX6_many 28 = .ok (.istore_n 3, 1) := by decide +kernel
theorem dX6_many_29 : decode cX6_many 29 = .ok (.iload_n 3, 1) := by decide +kernel
theorem dX6_many_30 : decode cX6_many 30 = .ok (.bipush 8, 2) := by decide +kernel
theorem dX6_many_32 : decode cX6_many 32 = .ok (.if_icmp .ge 67, 3) := by decide +kernel
theorem dX6_many_35 : decode cX6_many 35 = .ok (.aload_n 0, 1) := by decide +kernel
theorem dX6_many_36 : decode cX6_many 36 = .ok (.getfield 7, 3) := by decide +kernel
theorem dX6_many_39 : decode cX6_many 39 = .ok (.iconst 1, 1) := by decide +kernel
theorem dX6_many_40 : decode cX6_many 40 = .ok (.iload_n 3, 1) := by decide +kernel
theorem dX6_many_41 : decode cX6_many 41 = .ok (.iadd, 1) := by decide +kernel
theorem dX6_many_42 : decode cX6_many 42 = .ok (.iload_n 3, 1) := by decide +kernel
theorem dX6_many_43 : decode cX6_many 43 = .ok (.iload_n 1, 1) := by decide +kernel
theorem dX6_many_44 : decode cX6_many 44 = .ok (.if_icmp .ge 14, 3) := by decide +kernel
theorem dX6_many_47 : decode cX6_many 47 = .ok (.aload_n 0, 1) := by decide +kernel
theorem dX6_many_48 : decode cX6_many 48 = .ok (.getfield 7, 3) := by decide +kernel
theorem dX6_many_51 : decode cX6_many 51 = .ok (.iconst 1, 1) := by decide +kernel
theorem dX6_many_52 : decode cX6_many 52 = .ok (.iload_n 3, 1) := by decide +kernel
theorem dX6_many_53 : decode cX6_many 53 = .ok (.iadd, 1) := by decide +kernel
theorem dX6_many_54 : decode cX6_many 54 = .ok (.iaload, 1) := by decide +kernel
theorem dX6_many_55 : decode cX6_many 55 = .ok (.goto 4, 3) := by decide +kernel
theorem dX6_many_58 : decode cX6_many 58 = .ok (.iconst 0, 1) := by decide +kernel
theorem dX6_many_59 : decode cX6_many 59 = .ok (.iastore, 1) := by decide +kernel
theorem dX6_many_60 : decode cX6_many 60 = .ok (.aload_n 0, 1) := by decide +kernel
theorem dX6_many_61 : decode cX6_many 61 = .ok (.getfield 7, 3) := by decide +kernel
theorem dX6_many_64 : decode cX6_many 64 = .ok (.bipush 9, 2) := by decide +kernel
theorem dX6_many_66 : decode cX6_many 66 = .ok (.iload_n 3, 1) := by decide +kernel
theorem dX6_many_67 : decode cX6_many 67 = .ok (.iadd, 1) := by decide +kernel
theorem dX6_many_68 : decode cX6_many 68 = .ok (.iload_n 3, 1) := by decide +kernel
theorem dX6_many_69 : decode cX6_many 69 = .ok (.iload_n 1, 1) := by decide +kernel
theorem dX6_many_70 : decode cX6_many 70 = .ok (.if_icmp .ge 21, 3) := by decide +kernel
theorem dX6_many_73 : decode cX6_many 73 = .ok (.aload_n 0, 1) := by decide +kernel
theorem dX6_many_74 : decode cX6_many 74 = .ok (.getfield 7, 3) := by decide +kernel
theorem dX6_many_77 : decode cX6_many 77 = .ok (.bipush 9, 2) := by decide +kernel
theorem dX6_many_79 : decode cX6_many 79 = .ok (.iload_n 3, 1) := by decide +kernel
theorem dX6_many_80 : decode cX6_many 80 = .ok (.iadd, 1) := by decide +kernel
theorem dX6_many_81 : decode cX6_many 81 = .ok (.iaload, 1) := by decide +kernel
theorem dX6_many_82 : decode cX6_many 82 = .ok (.iconst 1, 1) := by decide +kernel
theorem dX6_many_83 : decode cX6_many 83 = .ok (.iload_n 1, 1) := by decide +kernel
theorem dX6_many_84 : decode cX6_many 84 = .ok (.ishl, 1) := by decide +kernel
theorem dX6_many_85 : decode cX6_many 85 = .ok (.iconst 1, 1) := by decide +kernel
theorem dX6_many_86 : decode cX6_many 86 = .ok (.isub, 1) := by decide +kernel
theorem dX6_many_87 : decode cX6_many 87 = .ok (.iand, 1) := by decide +kernel
theorem dX6_many_88 : decode cX6_many 88 = .ok (.goto 4, 3) := by decide +kernel
theorem dX6_many_91 : decode cX6_many 91 = .ok (.iconst 0, 1) := by decide +kernel
theorem dX6_many_92 : decode cX6_many 92 = .ok (.iastore, 1) := by decide +kernel
theorem dX6_many_93 : decode cX6_many 93 = .ok (.iinc 3 1, 3) := by decide +kernel
theorem dX6_many_96 : decode cX6_many 96 = .ok (.goto (-67), 3) := by decide +kernel
theorem dX6_many_99 : decode cX6_many 99 = .ok (.aload_n 0, 1) := by decide +kernel
theorem dX6_many_100 : decode cX6_many 100 = .ok (.invokevirtual 47, 3) := by decide +kernel
theorem dX6_many_103 : decode cX6_many 103 = .ok (.aload_n 0, 1) := by decide +kernel
theorem dX6_many_104 : decode cX6_many 104 = .ok (.iconst 0, 1) := by decide +kernel
theorem dX6_many_105 : decode cX6_many 105 = .ok (.putfield 54, 3) := by decide +kernel
theorem dX6_many_108 : decode cX6_many 108 = .ok (.iload_n 2, 1) := by decide +kernel
theorem dX6_many_109 : decode cX6_many 109 = .ok (.ireturn, 1) := by decide +kernel
theorem dX6_find_0 : decode cX6_find 0 = .ok (.aload_n 0, 1) := by decide +kernel
theorem dX6_find_1 : decode cX6_find 1 = .ok (.iload_n 1, 1) := by decide +kernel
theorem dX6_find_2 : decode cX6_find 2 = .ok (.invokevirtual 58, 3) := by decide +kernel
theorem dX6_find_5 : decode cX6_find 5 = .ok (.ifCond .eq 10, 3) := by decide +kernel
theorem dX6_find_8 : decode cX6_find 8 = .ok (.iload_n 2, 1) := by decide +kernel
theorem dX6_find_9 : decode cX6_find 9 = .ok (.invokestatic 62, 3) := by decide +kernel
theorem dX6_find_12 : decode cX6_find 12 = .ok (.ifCond .ne 5, 3) := by decide +kernel
theorem dX6_find_15 : decode cX6_find 15 = .ok (.iconst (-1), 1) := by decide +kernel
theorem dX6_find_16 : decode cX6_find 16 = .ok (.ireturn, 1) := by decide +kernel
theorem dX6_find_17 : decode cX6_find 17 = .ok (.iload_n 3, 1) := by decide +kernel
theorem dX6_find_18 : decode cX6_find 18 = .ok (.iconst 0, 1) := by decide +kernel
theorem dX6_find_19 : decode cX6_find 19 = .ok (.iconst 1, 1) := by decide +kernel
theorem dX6_find_20 : decode cX6_find 20 = .ok (.invokestatic 50, 3) := by decide +kernel
theorem dX6_find_23 : decode cX6_find 23 = .ok (.ifCond .ne 6, 3) := by decide +kernel
theorem dX6_find_26 : decode cX6_find 26 = .ok (.bipush (-2), 2) := by decide +kernel
theorem dX6_find_28 : decode cX6_find 28 = .ok (.ireturn, 1) := by decide +kernel
theorem dX6_find_29 : decode cX6_find 29 = .ok (.aload_n 0, 1) := by decide +kernel
theorem dX6_find_30 : decode cX6_find 30 = .ok (.getfield 7, 3) := by decide +kernel
theorem dX6_find_33 : decode cX6_find 33 = .ok (.iconst 1, 1) := by decide +kernel
theorem dX6_find_34 : decode cX6_find 34 = .ok (.iload_n 1, 1) := by decide +kernel
theorem dX6_find_35 : decode cX6_find 35 = .ok (.iadd, 1) := by decide +kernel
theorem dX6_find_36 : decode cX6_find 36 = .ok (.iload_n 3, 1) := by decide +kernel
theorem dX6_find_37 : decode cX6_find 37 = .ok (.iconst 1, 1) := by decide +kernel
theorem dX6_find_38 : decode cX6_find 38 = .ok (.if_icmp .ne 18, 3) := by decide +kernel
theorem dX6_find_41 : decode cX6_find 41 = .ok (.aload_n 0, 1) := by decide +kernel
theorem dX6_find_42 : decode cX6_find 42 = .ok (.getfield 7, 3) := by decide +kernel
theorem dX6_find_45 : decode cX6_find 45 = .ok (.iconst 1, 1) := by decide +kernel
theorem dX6_find_46 : decode cX6_find 46 = .ok (.iload_n 1, 1) := by decide +kernel
theorem dX6_find_47 : decode cX6_find 47 = .ok (.iadd, 1) := by decide +kernel
theorem dX6_find_48 : decode cX6_find 48 = .ok (.iaload, 1) := by decide +kernel
theorem dX6_find_49 : decode cX6_find 49 = .ok (.iconst 1, 1) := by decide +kernel
theorem dX6_find_50 : decode cX6_find 50 = .ok (.iload_n 2, 1) := by decide +kernel
theorem dX6_find_51 : decode cX6_find 51 = .ok (.ishl, 1) := by decide +kernel
theorem dX6_find_52 : decode cX6_find 52 = .ok (.ior, 1) := by decide +kernel
theorem dX6_find_53 : decode cX6_find 53 = .ok (.goto 17, 3) := by decide +kernel
theorem dX6_find_56 : decode cX6_find 56 = .ok (.aload_n 0, 1) := by decide +kernel
theorem dX6_find_57 : decode cX6_find 57 = .ok (.getfield 7, 3) := by decide +kernel
theorem dX6_find_60 : decode cX6_find 60 = .ok (.iconst 1, 1) := by decide +kernel
theorem dX6_find_61 : decode cX6_find 61 = .ok (.iload_n 1, 1) := by decide +kernel
theorem dX6_find_62 : decode cX6_find 62 = .ok (.iadd, 1) := by decide +kernel
theorem dX6_find_63 : decode cX6_find 63 = .ok (.iaload, 1) := by decide +kernel
theorem dX6_find_64 : decode cX6_find 64 = .ok (.iconst 1, 1) := by decide +kernel
theorem dX6_find_65 : decode cX6_find 65 = .ok (.iload_n 2, 1) := by decide +kernel
theorem dX6_find_66 : decode cX6_find 66 = .ok (.ishl, 1) := by decide +kernel
theorem dX6_find_67 : decode cX6_find 67 = .ok (.iconst (-1), 1) := by decide +kernel
theorem dX6_find_68 : decode cX6_find 68 = .ok (.ixor, 1) := by decide +kernel
theorem dX6_find_69 : decode cX6_find 69 = .ok (.iand, 1) := by decide +kernel
theorem dX6_find_70 : decode cX6_find 70 = .ok (.iastore, 1) := by decide +kernel
theorem dX6_find_71 : decode cX6_find 71 = .ok (.aload_n 0, 1) := by decide +kernel
theorem dX6_find_72 : decode cX6_find 72 = .ok (.iconst 0, 1) := by decide +kernel
theorem dX6_find_73 : decode cX6_find 73 = .ok (.putfield 54, 3) := by decide +kernel
theorem dX6_find_76 : decode cX6_find 76 = .ok (.aload_n 0, 1) := by decide +kernel
theorem dX6_find_77 : decode cX6_find 77 = .ok (.getfield 7, 3) := by decide +kernel
theorem dX6_find_80 : decode cX6_find 80 = .ok (.iconst 1, 1) := by decide +kernel
theorem dX6_find_81 : decode cX6_find 81 = .ok (.iload_n 1, 1) := by decide +kernel
theorem dX6_find_82 : decode cX6_find 82 = .ok (.iadd, 1) := by decide +kernel
theorem dX6_find_83 : decode cX6_find 83 = .ok (.iaload, 1) := by decide +kernel
theorem dX6_find_84 : decode cX6_find 84 = .ok (.invokestatic 65, 3) := by decide +kernel
theorem dX6_find_87 : decode cX6_find 87 = .ok (.ireturn, 1) := by decide +kernel
theorem dX6_knownPairs_0 : decode cX6_knownPairs 0 = .ok (.iconst 0, 1) := by decide +kernel
theorem dX6_knownPairs_1 : decode cX6_knownPairs 1 = .ok (.istore_n 1, 1) := by decide +kernel
theorem dX6_knownPairs_2 : decode cX6_knownPairs 2 = .ok (.iconst 0, 1) := by decide +kernel
theorem dX6_knownPairs_3 : decode cX6_knownPairs 3 = .ok (.istore_n 2, 1) := by decide +kernel
theorem dX6_knownPairs_4 : decode cX6_knownPairs 4 = .ok (.iload_n 2, 1) := by decide +kernel
theorem dX6_knownPairs_5 : decode cX6_knownPairs 5 = .ok (.bipush 8, 2) := by decide +kernel
theorem dX6_knownPairs_7 : decode cX6_knownPairs 7 = .ok (.if_icmp .ge 24, 3) := by decide +kernel
theorem dX6_knownPairs_10 : decode cX6_knownPairs 10 = .ok (.iload_n 1, 1) := by decide +kernel
theorem dX6_knownPairs_11 : decode cX6_knownPairs 11 = .ok (.aload_n 0, 1) := by decide +kernel
theorem dX6_knownPairs_12 : decode cX6_knownPairs 12 = .ok (.getfield 7, 3) := by decide +kernel
theorem dX6_knownPairs_15 : decode cX6_knownPairs 15 = .ok (.bipush 9, 2) := by decide +kernel
theorem dX6_knownPairs_17 : decode cX6_knownPairs 17 = .ok (.iload_n 2, 1) := by decide +kernel
theorem dX6_knownPairs_18 : decode cX6_knownPairs 18 = .ok (.iadd, 1) := by decide +kernel
theorem dX6_knownPairs_19 : decode cX6_knownPairs 19 = .ok (.iaload, 1) := by decide +kernel
theorem dX6_knownPairs_20 : decode cX6_knownPairs 20 = .ok (.invokestatic 65, 3) := by decide +kernel
theorem dX6_knownPairs_23 : decode cX6_knownPairs 23 = .ok (.iadd, 1) := by decide +kernel
theorem dX6_knownPairs_24 : decode cX6_knownPairs 24 = .ok (.istore_n 1, 1) := by decide +kernel
theorem dX6_knownPairs_25 : decode cX6_knownPairs 25 = .ok (.iinc 2 1, 3) := by decide +kernel
theorem dX6_knownPairs_28 : decode cX6_knownPairs 28 = .ok (.goto (-24), 3) := by decide +kernel
theorem dX6_knownPairs_31 : decode cX6_knownPairs 31 = .ok (.iload_n 1, 1) := by decide +kernel
theorem dX6_knownPairs_32 : decode cX6_knownPairs 32 = .ok (.ireturn, 1) := by decide +kernel
theorem dX6_ahead_0 : decode cX6_ahead 0 = .ok (.aload_n 0, 1) := by decide +kernel
theorem dX6_ahead_1 : decode cX6_ahead 1 = .ok (.iload_n 1, 1) := by decide +kernel
theorem dX6_ahead_2 : decode cX6_ahead 2 = .ok (.invokevirtual 58, 3) := by decide +kernel
theorem dX6_ahead_5 : decode cX6_ahead 5 = .ok (.ifCond .eq 11, 3) := by decide +kernel
theorem dX6_ahead_8 : decode cX6_ahead 8 = .ok (.aload_n 0, 1) := by decide +kernel
theorem dX6_ahead_9 : decode cX6_ahead 9 = .ok (.iload_n 2, 1) := by decide +kernel
theorem dX6_ahead_10 : decode cX6_ahead 10 = .ok (.invokevirtual 58, 3) := by decide +kernel
theorem dX6_ahead_13 : decode cX6_ahead 13 = .ok (.ifCond .ne 5, 3) := by decide +kernel
theorem dX6_ahead_16 : decode cX6_ahead 16 = .ok (.iconst (-1), 1) := by decide +kernel
theorem dX6_ahead_17 : decode cX6_ahead 17 = .ok (.ireturn, 1) := by decide +kernel
theorem dX6_ahead_18 : decode cX6_ahead 18 = .ok (.iload_n 3, 1) := by decide +kernel
theorem dX6_ahead_19 : decode cX6_ahead 19 = .ok (.iconst 0, 1) := by decide +kernel
theorem dX6_ahead_20 : decode cX6_ahead 20 = .ok (.iconst 1, 1) := by decide +kernel
theorem dX6_ahead_21 : decode cX6_ahead 21 = .ok (.invokestatic 50, 3) := by decide +kernel
theorem dX6_ahead_24 : decode cX6_ahead 24 = .ok (.ifCond .eq 8, 3) := by decide +kernel
theorem dX6_ahead_27 : decode cX6_ahead 27 = .ok (.iload_n 1, 1) := by decide +kernel
theorem dX6_ahead_28 : decode cX6_ahead 28 = .ok (.iload_n 2, 1) := by decide +kernel
theorem dX6_ahead_29 : decode cX6_ahead 29 = .ok (.if_icmp .ne 6, 3) := by decide +kernel
theorem dX6_ahead_32 : decode cX6_ahead 32 = .ok (.bipush (-2), 2) := by decide +kernel
theorem dX6_ahead_34 : decode cX6_ahead 34 = .ok (.ireturn, 1) := by decide +kernel
theorem dX6_ahead_35 : decode cX6_ahead 35 = .ok (.aload_n 0, 1) := by decide +kernel
theorem dX6_ahead_36 : decode cX6_ahead 36 = .ok (.getfield 7, 3) := by decide +kernel
theorem dX6_ahead_39 : decode cX6_ahead 39 = .ok (.bipush 9, 2) := by decide +kernel
theorem dX6_ahead_41 : decode cX6_ahead 41 = .ok (.iload_n 1, 1) := by decide +kernel
theorem dX6_ahead_42 : decode cX6_ahead 42 = .ok (.iadd, 1) := by decide +kernel
theorem dX6_ahead_43 : decode cX6_ahead 43 = .ok (.iload_n 3, 1) := by decide +kernel
theorem dX6_ahead_44 : decode cX6_ahead 44 = .ok (.iconst 1, 1) := by decide +kernel
theorem dX6_ahead_45 : decode cX6_ahead 45 = .ok (.if_icmp .ne 19, 3) := by decide +kernel
theorem dX6_ahead_48 : decode cX6_ahead 48 = .ok (.aload_n 0, 1) := by decide +kernel
theorem dX6_ahead_49 : decode cX6_ahead 49 = .ok (.getfield 7, 3) := by decide +kernel
theorem dX6_ahead_52 : decode cX6_ahead 52 = .ok (.bipush 9, 2) := by decide +kernel
theorem dX6_ahead_54 : decode cX6_ahead 54 = .ok (.iload_n 1, 1) := by decide +kernel
theorem dX6_ahead_55 : decode cX6_ahead 55 = .ok (.iadd, 1) := by decide +kernel
theorem dX6_ahead_56 : decode cX6_ahead 56 = .ok (.iaload, 1) := by decide +kernel
theorem dX6_ahead_57 : decode cX6_ahead 57 = .ok (.iconst 1, 1) := by decide +kernel
theorem dX6_ahead_58 : decode cX6_ahead 58 = .ok (.iload_n 2, 1) := by decide +kernel
theorem dX6_ahead_59 : decode cX6_ahead 59 = .ok (.ishl, 1) := by decide +kernel
theorem dX6_ahead_60 : decode cX6_ahead 60 = .ok (.ior, 1) := by decide +kernel
theorem dX6_ahead_61 : decode cX6_ahead 61 = .ok (.goto 18, 3) := by decide +kernel
theorem dX6_ahead_64 : decode cX6_ahead 64 = .ok (.aload_n 0, 1) := by decide +kernel
theorem dX6_ahead_65 : decode cX6_ahead 65 = .ok (.getfield 7, 3) := by decide +kernel
theorem dX6_ahead_68 : decode cX6_ahead 68 = .ok (.bipush 9, 2) := by decide +kernel
theorem dX6_ahead_70 : decode cX6_ahead 70 = .ok (.iload_n 1, 1) := by decide +kernel
theorem dX6_ahead_71 : decode cX6_ahead 71 = .ok (.iadd, 1) := by decide +kernel
theorem dX6_ahead_72 : decode cX6_ahead 72 = .ok (.iaload, 1) := by decide +kernel
theorem dX6_ahead_73 : decode cX6_ahead 73 = .ok (.iconst 1, 1) := by decide +kernel
theorem dX6_ahead_74 : decode cX6_ahead 74 = .ok (.iload_n 2, 1) := by decide +kernel
theorem dX6_ahead_75 : decode cX6_ahead 75 = .ok (.ishl, 1) := by decide +kernel
theorem dX6_ahead_76 : decode cX6_ahead 76 = .ok (.iconst (-1), 1) := by decide +kernel
theorem dX6_ahead_77 : decode cX6_ahead 77 = .ok (.ixor, 1) := by decide +kernel
theorem dX6_ahead_78 : decode cX6_ahead 78 = .ok (.iand, 1) := by decide +kernel
theorem dX6_ahead_79 : decode cX6_ahead 79 = .ok (.iastore, 1) := by decide +kernel
theorem dX6_ahead_80 : decode cX6_ahead 80 = .ok (.aload_n 0, 1) := by decide +kernel
theorem dX6_ahead_81 : decode cX6_ahead 81 = .ok (.iconst 0, 1) := by decide +kernel
theorem dX6_ahead_82 : decode cX6_ahead 82 = .ok (.putfield 54, 3) := by decide +kernel
theorem dX6_ahead_85 : decode cX6_ahead 85 = .ok (.aload_n 0, 1) := by decide +kernel
theorem dX6_ahead_86 : decode cX6_ahead 86 = .ok (.invokevirtual 69, 3) := by decide +kernel
theorem dX6_ahead_89 : decode cX6_ahead 89 = .ok (.ireturn, 1) := by decide +kernel
theorem dX6_placeInRow_0 : decode cX6_placeInRow 0 = .ok (.bipush (-6), 2) := by decide +kernel
theorem dX6_placeInRow_2 : decode cX6_placeInRow 2 = .ok (.istore_n 2, 1) := by decide +kernel
theorem dX6_placeInRow_3 : decode cX6_placeInRow 3 = .ok (.iconst 0, 1) := by decide +kernel
theorem dX6_placeInRow_4 : decode cX6_placeInRow 4 = .ok (.istore_n 3, 1) := by decide +kernel
theorem dX6_placeInRow_5 : decode cX6_placeInRow 5 = .ok (.iload_n 3, 1) := by decide +kernel
theorem dX6_placeInRow_6 : decode cX6_placeInRow 6 = .ok (.aload_n 0, 1) := by decide +kernel
theorem dX6_placeInRow_7 : decode cX6_placeInRow 7 = .ok (.getfield 7, 3) := by decide +kernel
theorem dX6_placeInRow_10 : decode cX6_placeInRow 10 = .ok (.iconst 0, 1) := by decide +kernel
theorem dX6_placeInRow_11 : decode cX6_placeInRow 11 = .ok (.iaload, 1) := by decide +kernel
theorem dX6_placeInRow_12 : decode cX6_placeInRow 12 = .ok (.if_icmp .ge 28, 3) := by decide +kernel
theorem dX6_placeInRow_15 : decode cX6_placeInRow 15 = .ok (.aload_n 0, 1) := by decide +kernel
theorem dX6_placeInRow_16 : decode cX6_placeInRow 16 = .ok (.getfield 7, 3) := by decide +kernel
theorem dX6_placeInRow_19 : decode cX6_placeInRow 19 = .ok (.bipush 17, 2) := by decide +kernel
theorem dX6_placeInRow_21 : decode cX6_placeInRow 21 = .ok (.iload_n 3, 1) := by decide +kernel
theorem dX6_placeInRow_22 : decode cX6_placeInRow 22 = .ok (.iadd, 1) := by decide +kernel
theorem dX6_placeInRow_23 : decode cX6_placeInRow 23 = .ok (.iaload, 1) := by decide +kernel
theorem dX6_placeInRow_24 : decode cX6_placeInRow 24 = .ok (.iload_n 1, 1) := by decide +kernel
theorem dX6_placeInRow_25 : decode cX6_placeInRow 25 = .ok (.if_icmp .ne 7, 3) := by decide +kernel
theorem dX6_placeInRow_28 : decode cX6_placeInRow 28 = .ok (.iload_n 3, 1) := by decide +kernel
theorem dX6_placeInRow_29 : decode cX6_placeInRow 29 = .ok (.goto 4, 3) := by decide +kernel
theorem dX6_placeInRow_32 : decode cX6_placeInRow 32 = .ok (.iload_n 2, 1) := by decide +kernel
theorem dX6_placeInRow_33 : decode cX6_placeInRow 33 = .ok (.istore_n 2, 1) := by decide +kernel
theorem dX6_placeInRow_34 : decode cX6_placeInRow 34 = .ok (.iinc 3 1, 3) := by decide +kernel
theorem dX6_placeInRow_37 : decode cX6_placeInRow 37 = .ok (.goto (-32), 3) := by decide +kernel
theorem dX6_placeInRow_40 : decode cX6_placeInRow 40 = .ok (.iload_n 2, 1) := by decide +kernel
theorem dX6_placeInRow_41 : decode cX6_placeInRow 41 = .ok (.ireturn, 1) := by decide +kernel
theorem dX6_grave_0 : decode cX6_grave 0 = .ok (.aload_n 0, 1) := by decide +kernel
theorem dX6_grave_1 : decode cX6_grave 1 = .ok (.iload_n 1, 1) := by decide +kernel
theorem dX6_grave_2 : decode cX6_grave 2 = .ok (.invokevirtual 58, 3) := by decide +kernel
theorem dX6_grave_5 : decode cX6_grave 5 = .ok (.ifCond .ne 5, 3) := by decide +kernel
theorem dX6_grave_8 : decode cX6_grave 8 = .ok (.iconst (-1), 1) := by decide +kernel
theorem dX6_grave_9 : decode cX6_grave 9 = .ok (.ireturn, 1) := by decide +kernel
theorem dX6_grave_10 : decode cX6_grave 10 = .ok (.iload_n 2, 1) := by decide +kernel
theorem dX6_grave_11 : decode cX6_grave 11 = .ok (.iconst 0, 1) := by decide +kernel
theorem dX6_grave_12 : decode cX6_grave 12 = .ok (.iconst 3, 1) := by decide +kernel
theorem dX6_grave_13 : decode cX6_grave 13 = .ok (.invokestatic 50, 3) := by decide +kernel
theorem dX6_grave_16 : decode cX6_grave 16 = .ok (.ifCond .ne 6, 3) := by decide +kernel
theorem dX6_grave_19 : decode cX6_grave 19 = .ok (.bipush (-2), 2) := by decide +kernel
theorem dX6_grave_21 : decode cX6_grave 21 = .ok (.ireturn, 1) := by decide +kernel
theorem dX6_grave_22 : decode cX6_grave 22 = .ok (.iconst 0, 1) := by decide +kernel
theorem dX6_grave_23 : decode cX6_grave 23 = .ok (.istore_n 3, 1) := by decide +kernel
theorem dX6_grave_24 : decode cX6_grave 24 = .ok (.iconst 0, 1) := by decide +kernel
theorem dX6_grave_25 : decode cX6_grave 25 = .ok (.istore 4, 2) := by decide +kernel
theorem dX6_grave_27 : decode cX6_grave 27 = .ok (.iload 4, 2) := by decide +kernel
theorem dX6_grave_29 : decode cX6_grave 29 = .ok (.aload_n 0, 1) := by decide +kernel
theorem dX6_grave_30 : decode cX6_grave 30 = .ok (.getfield 7, 3) := by decide +kernel
theorem dX6_grave_33 : decode cX6_grave 33 = .ok (.iconst 0, 1) := by decide +kernel
theorem dX6_grave_34 : decode cX6_grave 34 = .ok (.iaload, 1) := by decide +kernel
theorem dX6_grave_35 : decode cX6_grave 35 = .ok (.if_icmp .ge 37, 3) := by decide +kernel
theorem dX6_grave_38 : decode cX6_grave 38 = .ok (.iload_n 3, 1) := by decide +kernel
theorem dX6_grave_39 : decode cX6_grave 39 = .ok (.aload_n 0, 1) := by decide +kernel
theorem dX6_grave_40 : decode cX6_grave 40 = .ok (.getfield 7, 3) := by decide +kernel
theorem dX6_grave_43 : decode cX6_grave 43 = .ok (.bipush 9, 2) := by decide +kernel
theorem dX6_grave_45 : decode cX6_grave 45 = .ok (.iload 4, 2) := by decide +kernel
theorem dX6_grave_47 : decode cX6_grave 47 = .ok (.iadd, 1) := by decide +kernel
theorem dX6_grave_48 : decode cX6_grave 48 = .ok (.iaload, 1) := by decide +kernel
theorem dX6_grave_49 : decode cX6_grave 49 = .ok (.iload_n 1, 1) := by decide +kernel
theorem dX6_grave_50 : decode cX6_grave 50 = .ok (.invokestatic 73, 3) := by decide +kernel
theorem dX6_grave_53 : decode cX6_grave 53 = .ok (.ifCond .eq 10, 3) := by decide +kernel
theorem dX6_grave_56 : decode cX6_grave 56 = .ok (.iconst 1, 1) := by decide +kernel
theorem dX6_grave_57 : decode cX6_grave 57 = .ok (.iload 4, 2) := by decide +kernel
theorem dX6_grave_59 : decode cX6_grave 59 = .ok (.ishl, 1) := by decide +kernel
theorem dX6_grave_60 : decode cX6_grave 60 = .ok (.goto 4, 3) := by decide +kernel
theorem dX6_grave_63 : decode cX6_grave 63 = .ok (.iconst 0, 1) := by decide +kernel
theorem dX6_grave_64 : decode cX6_grave 64 = .ok (.ior, 1) := by decide +kernel
theorem dX6_grave_65 : decode cX6_grave 65 = .ok (.istore_n 3, 1) := by decide +kernel
theorem dX6_grave_66 : decode cX6_grave 66 = .ok (.iinc 4 1, 3) := by decide +kernel
theorem dX6_grave_69 : decode cX6_grave 69 = .ok (.goto (-42), 3) := by decide +kernel
theorem dX6_grave_72 : decode cX6_grave 72 = .ok (.iload_n 2, 1) := by decide +kernel
theorem dX6_grave_73 : decode cX6_grave 73 = .ok (.ifCond .ne 14, 3) := by decide +kernel
theorem dX6_grave_76 : decode cX6_grave 76 = .ok (.aload_n 0, 1) := by decide +kernel
theorem dX6_grave_77 : decode cX6_grave 77 = .ok (.getfield 7, 3) := by decide +kernel
theorem dX6_grave_80 : decode cX6_grave 80 = .ok (.iconst 1, 1) := by decide +kernel
theorem dX6_grave_81 : decode cX6_grave 81 = .ok (.iload_n 1, 1) := by decide +kernel
theorem dX6_grave_82 : decode cX6_grave 82 = .ok (.iadd, 1) := by decide +kernel
theorem dX6_grave_83 : decode cX6_grave 83 = .ok (.iaload, 1) := by decide +kernel
theorem dX6_grave_84 : decode cX6_grave 84 = .ok (.goto 34, 3) := by decide +kernel
theorem dX6_grave_87 : decode cX6_grave 87 = .ok (.iload_n 2, 1) := by decide +kernel
theorem dX6_grave_88 : decode cX6_grave 88 = .ok (.iconst 1, 1) := by decide +kernel
theorem dX6_grave_89 : decode cX6_grave 89 = .ok (.if_icmp .ne 15, 3) := by decide +kernel
theorem dX6_grave_92 : decode cX6_grave 92 = .ok (.aload_n 0, 1) := by decide +kernel
theorem dX6_grave_93 : decode cX6_grave 93 = .ok (.getfield 7, 3) := by decide +kernel
theorem dX6_grave_96 : decode cX6_grave 96 = .ok (.bipush 9, 2) := by decide +kernel
theorem dX6_grave_98 : decode cX6_grave 98 = .ok (.iload_n 1, 1) := by decide +kernel
theorem dX6_grave_99 : decode cX6_grave 99 = .ok (.iadd, 1) := by decide +kernel
theorem dX6_grave_100 : decode cX6_grave 100 = .ok (.iaload, 1) := by decide +kernel
theorem dX6_grave_101 : decode cX6_grave 101 = .ok (.goto 17, 3) := by decide +kernel
theorem dX6_grave_104 : decode cX6_grave 104 = .ok (.iload_n 2, 1) := by decide +kernel
theorem dX6_grave_105 : decode cX6_grave 105 = .ok (.iconst 2, 1) := by decide +kernel
theorem dX6_grave_106 : decode cX6_grave 106 = .ok (.if_icmp .ne 7, 3) := by decide +kernel
theorem dX6_grave_109 : decode cX6_grave 109 = .ok (.iload_n 3, 1) := by decide +kernel
theorem dX6_grave_110 : decode cX6_grave 110 = .ok (.goto 8, 3) := by decide +kernel
theorem dX6_grave_113 : decode cX6_grave 113 = .ok (.aload_n 0, 1) := by decide +kernel
theorem dX6_grave_114 : decode cX6_grave 114 = .ok (.iload_n 1, 1) := by decide +kernel
theorem dX6_grave_115 : decode cX6_grave 115 = .ok (.invokevirtual 77, 3) := by decide +kernel
theorem dX6_grave_118 : decode cX6_grave 118 = .ok (.ireturn, 1) := by decide +kernel
theorem dX6_alike_0 : decode cX6_alike 0 = .ok (.aload_n 0, 1) := by decide +kernel
theorem dX6_alike_1 : decode cX6_alike 1 = .ok (.iload_n 1, 1) := by decide +kernel
theorem dX6_alike_2 : decode cX6_alike 2 = .ok (.invokevirtual 58, 3) := by decide +kernel
theorem dX6_alike_5 : decode cX6_alike 5 = .ok (.ifCond .eq 34, 3) := by decide +kernel
theorem dX6_alike_8 : decode cX6_alike 8 = .ok (.aload_n 0, 1) := by decide +kernel
theorem dX6_alike_9 : decode cX6_alike 9 = .ok (.iload_n 2, 1) := by decide +kernel
theorem dX6_alike_10 : decode cX6_alike 10 = .ok (.invokevirtual 58, 3) := by decide +kernel
theorem dX6_alike_13 : decode cX6_alike 13 = .ok (.ifCond .eq 26, 3) := by decide +kernel
theorem dX6_alike_16 : decode cX6_alike 16 = .ok (.aload_n 0, 1) := by decide +kernel
theorem dX6_alike_17 : decode cX6_alike 17 = .ok (.getfield 7, 3) := by decide +kernel
theorem dX6_alike_20 : decode cX6_alike 20 = .ok (.iconst 1, 1) := by decide +kernel
theorem dX6_alike_21 : decode cX6_alike 21 = .ok (.iload_n 1, 1) := by decide +kernel
theorem dX6_alike_22 : decode cX6_alike 22 = .ok (.iadd, 1) := by decide +kernel
theorem dX6_alike_23 : decode cX6_alike 23 = .ok (.iaload, 1) := by decide +kernel
theorem dX6_alike_24 : decode cX6_alike 24 = .ok (.aload_n 0, 1) := by decide +kernel
theorem dX6_alike_25 : decode cX6_alike 25 = .ok (.getfield 7, 3) := by decide +kernel
theorem dX6_alike_28 : decode cX6_alike 28 = .ok (.iconst 1, 1) := by decide +kernel
theorem dX6_alike_29 : decode cX6_alike 29 = .ok (.iload_n 2, 1) := by decide +kernel
theorem dX6_alike_30 : decode cX6_alike 30 = .ok (.iadd, 1) := by decide +kernel
theorem dX6_alike_31 : decode cX6_alike 31 = .ok (.iaload, 1) := by decide +kernel
theorem dX6_alike_32 : decode cX6_alike 32 = .ok (.iand, 1) := by decide +kernel
theorem dX6_alike_33 : decode cX6_alike 33 = .ok (.invokestatic 65, 3) := by decide +kernel
theorem dX6_alike_36 : decode cX6_alike 36 = .ok (.goto 4, 3) := by decide +kernel
theorem dX6_alike_39 : decode cX6_alike 39 = .ok (.iconst (-1), 1) := by decide +kernel
theorem dX6_alike_40 : decode cX6_alike 40 = .ok (.ireturn, 1) := by decide +kernel
theorem dX6_breaksOf_0 : decode cX6_breaksOf 0 = .ok (.iconst 0, 1) := by decide +kernel
theorem dX6_breaksOf_1 : decode cX6_breaksOf 1 = .ok (.istore_n 2, 1) := by decide +kernel
theorem dX6_breaksOf_2 : decode cX6_breaksOf 2 = .ok (.iconst 0, 1) := by decide +kernel
theorem dX6_breaksOf_3 : decode cX6_breaksOf 3 = .ok (.istore_n 3, 1) := by decide +kernel
theorem dX6_breaksOf_4 : decode cX6_breaksOf 4 = .ok (.iconst 0, 1) := by decide +kernel
theorem dX6_breaksOf_5 : decode cX6_breaksOf 5 = .ok (.istore 4, 2) := by decide +kernel
theorem dX6_breaksOf_7 : decode cX6_breaksOf 7 = .ok (.iload 4, 2) := by decide +kernel
theorem dX6_breaksOf_9 : decode cX6_breaksOf 9 = .ok (.aload_n 0, 1) := by decide +kernel
theorem dX6_breaksOf_10 : decode cX6_breaksOf 10 = .ok (.getfield 7, 3) := by decide +kernel
theorem dX6_breaksOf_13 : decode cX6_breaksOf 13 = .ok (.iconst 0, 1) := by decide +kernel
theorem dX6_breaksOf_14 : decode cX6_breaksOf 14 = .ok (.iaload, 1) := by decide +kernel
theorem dX6_breaksOf_15 : decode cX6_breaksOf 15 = .ok (.if_icmp .ge 49, 3) := by decide +kernel
theorem dX6_breaksOf_18 : decode cX6_breaksOf 18 = .ok (.aload_n 0, 1) := by decide +kernel
theorem dX6_breaksOf_19 : decode cX6_breaksOf 19 = .ok (.getfield 7, 3) := by decide +kernel
theorem dX6_breaksOf_22 : decode cX6_breaksOf 22 = .ok (.iconst 1, 1) := by decide +kernel
theorem dX6_breaksOf_23 : decode cX6_breaksOf 23 = .ok (.aload_n 0, 1) := by decide +kernel
theorem dX6_breaksOf_24 : decode cX6_breaksOf 24 = .ok (.getfield 20, 3) := by decide +kernel
theorem dX6_breaksOf_27 : decode cX6_breaksOf 27 = .ok (.iload 4, 2) := by decide +kernel
theorem dX6_breaksOf_29 : decode cX6_breaksOf 29 = .ok (.iaload, 1) := by decide +kernel
theorem dX6_breaksOf_30 : decode cX6_breaksOf 30 = .ok (.iadd, 1) := by decide +kernel
theorem dX6_breaksOf_31 : decode cX6_breaksOf 31 = .ok (.iaload, 1) := by decide +kernel
theorem dX6_breaksOf_32 : decode cX6_breaksOf 32 = .ok (.iload_n 1, 1) := by decide +kernel
theorem dX6_breaksOf_33 : decode cX6_breaksOf 33 = .ok (.invokestatic 73, 3) := by decide +kernel
theorem dX6_breaksOf_36 : decode cX6_breaksOf 36 = .ok (.istore 5, 2) := by decide +kernel
theorem dX6_breaksOf_38 : decode cX6_breaksOf 38 = .ok (.iload_n 2, 1) := by decide +kernel
theorem dX6_breaksOf_39 : decode cX6_breaksOf 39 = .ok (.iload 5, 2) := by decide +kernel
theorem dX6_breaksOf_41 : decode cX6_breaksOf 41 = .ok (.ifCond .eq 11, 3) := by decide +kernel
theorem dX6_breaksOf_44 : decode cX6_breaksOf 44 = .ok (.iload_n 3, 1) := by decide +kernel
theorem dX6_breaksOf_45 : decode cX6_breaksOf 45 = .ok (.ifCond .ne 7, 3) := by decide +kernel
theorem dX6_breaksOf_48 : decode cX6_breaksOf 48 = .ok (.iconst 1, 1) := by decide +kernel
theorem dX6_breaksOf_49 : decode cX6_breaksOf 49 = .ok (.goto 4, 3) := by decide +kernel
theorem dX6_breaksOf_52 : decode cX6_breaksOf 52 = .ok (.iconst 0, 1) := by decide +kernel
theorem dX6_breaksOf_53 : decode cX6_breaksOf 53 = .ok (.iadd, 1) := by decide +kernel
theorem dX6_breaksOf_54 : decode cX6_breaksOf 54 = .ok (.istore_n 2, 1) := by decide +kernel
theorem dX6_breaksOf_55 : decode cX6_breaksOf 55 = .ok (.iload 5, 2) := by decide +kernel
theorem dX6_breaksOf_57 : decode cX6_breaksOf 57 = .ok (.istore_n 3, 1) := by decide +kernel
theorem dX6_breaksOf_58 : decode cX6_breaksOf 58 = .ok (.iinc 4 1, 3) := by decide +kernel
theorem dX6_breaksOf_61 : decode cX6_breaksOf 61 = .ok (.goto (-54), 3) := by decide +kernel
theorem dX6_breaksOf_64 : decode cX6_breaksOf 64 = .ok (.iload_n 2, 1) := by decide +kernel
theorem dX6_breaksOf_65 : decode cX6_breaksOf 65 = .ok (.ifCond .ne 7, 3) := by decide +kernel
theorem dX6_breaksOf_68 : decode cX6_breaksOf 68 = .ok (.iconst 0, 1) := by decide +kernel
theorem dX6_breaksOf_69 : decode cX6_breaksOf 69 = .ok (.goto 6, 3) := by decide +kernel
theorem dX6_breaksOf_72 : decode cX6_breaksOf 72 = .ok (.iload_n 2, 1) := by decide +kernel
theorem dX6_breaksOf_73 : decode cX6_breaksOf 73 = .ok (.iconst 1, 1) := by decide +kernel
theorem dX6_breaksOf_74 : decode cX6_breaksOf 74 = .ok (.isub, 1) := by decide +kernel
theorem dX6_breaksOf_75 : decode cX6_breaksOf 75 = .ok (.ireturn, 1) := by decide +kernel
theorem dX6_breaksNow_0 : decode cX6_breaksNow 0 = .ok (.iconst 0, 1) := by decide +kernel
theorem dX6_breaksNow_1 : decode cX6_breaksNow 1 = .ok (.istore_n 1, 1) := by decide +kernel
theorem dX6_breaksNow_2 : decode cX6_breaksNow 2 = .ok (.iconst 0, 1) := by decide +kernel
theorem dX6_breaksNow_3 : decode cX6_breaksNow 3 = .ok (.istore_n 2, 1) := by decide +kernel
theorem dX6_breaksNow_4 : decode cX6_breaksNow 4 = .ok (.iload_n 2, 1) := by decide +kernel
theorem dX6_breaksNow_5 : decode cX6_breaksNow 5 = .ok (.bipush 10, 2) := by decide +kernel
theorem dX6_breaksNow_7 : decode cX6_breaksNow 7 = .ok (.if_icmp .ge 17, 3) := by decide +kernel
theorem dX6_breaksNow_10 : decode cX6_breaksNow 10 = .ok (.iload_n 1, 1) := by decide +kernel
theorem dX6_breaksNow_11 : decode cX6_breaksNow 11 = .ok (.aload_n 0, 1) := by decide +kernel
theorem dX6_breaksNow_12 : decode cX6_breaksNow 12 = .ok (.iload_n 2, 1) := by decide +kernel
theorem dX6_breaksNow_13 : decode cX6_breaksNow 13 = .ok (.invokevirtual 80, 3) := by decide +kernel
theorem dX6_breaksNow_16 : decode cX6_breaksNow 16 = .ok (.iadd, 1) := by decide +kernel
theorem dX6_breaksNow_17 : decode cX6_breaksNow 17 = .ok (.istore_n 1, 1) := by decide +kernel
theorem dX6_breaksNow_18 : decode cX6_breaksNow 18 = .ok (.iinc 2 1, 3) := by decide +kernel
theorem dX6_breaksNow_21 : decode cX6_breaksNow 21 = .ok (.goto (-17), 3) := by decide +kernel
theorem dX6_breaksNow_24 : decode cX6_breaksNow 24 = .ok (.iload_n 1, 1) := by decide +kernel
theorem dX6_breaksNow_25 : decode cX6_breaksNow 25 = .ok (.ireturn, 1) := by decide +kernel
theorem dX6_isAllowed_0 : decode cX6_isAllowed 0 = .ok (.iconst 0, 1) := by decide +kernel
theorem dX6_isAllowed_1 : decode cX6_isAllowed 1 = .ok (.istore_n 1, 1) := by decide +kernel
theorem dX6_isAllowed_2 : decode cX6_isAllowed 2 = .ok (.iconst 0, 1) := by decide +kernel
theorem dX6_isAllowed_3 : decode cX6_isAllowed 3 = .ok (.istore_n 2, 1) := by decide +kernel
theorem dX6_isAllowed_4 : decode cX6_isAllowed 4 = .ok (.iload_n 2, 1) := by decide +kernel
theorem dX6_isAllowed_5 : decode cX6_isAllowed 5 = .ok (.aload_n 0, 1) := by decide +kernel
theorem dX6_isAllowed_6 : decode cX6_isAllowed 6 = .ok (.getfield 7, 3) := by decide +kernel
theorem dX6_isAllowed_9 : decode cX6_isAllowed 9 = .ok (.iconst 0, 1) := by decide +kernel
theorem dX6_isAllowed_10 : decode cX6_isAllowed 10 = .ok (.iaload, 1) := by decide +kernel
theorem dX6_isAllowed_11 : decode cX6_isAllowed 11 = .ok (.if_icmp .ge 41, 3) := by decide +kernel
theorem dX6_isAllowed_14 : decode cX6_isAllowed 14 = .ok (.aload_n 0, 1) := by decide +kernel
theorem dX6_isAllowed_15 : decode cX6_isAllowed 15 = .ok (.getfield 7, 3) := by decide +kernel
theorem dX6_isAllowed_18 : decode cX6_isAllowed 18 = .ok (.bipush 9, 2) := by decide +kernel
theorem dX6_isAllowed_20 : decode cX6_isAllowed 20 = .ok (.aload_n 0, 1) := by decide +kernel
theorem dX6_isAllowed_21 : decode cX6_isAllowed 21 = .ok (.getfield 20, 3) := by decide +kernel
theorem dX6_isAllowed_24 : decode cX6_isAllowed 24 = .ok (.iload_n 2, 1) := by decide +kernel
theorem dX6_isAllowed_25 : decode cX6_isAllowed 25 = .ok (.iaload, 1) := by decide +kernel
theorem dX6_isAllowed_26 : decode cX6_isAllowed 26 = .ok (.iadd, 1) := by decide +kernel
theorem dX6_isAllowed_27 : decode cX6_isAllowed 27 = .ok (.iaload, 1) := by decide +kernel
theorem dX6_isAllowed_28 : decode cX6_isAllowed 28 = .ok (.iload_n 1, 1) := by decide +kernel
theorem dX6_isAllowed_29 : decode cX6_isAllowed 29 = .ok (.iand, 1) := by decide +kernel
theorem dX6_isAllowed_30 : decode cX6_isAllowed 30 = .ok (.ifCond .eq 5, 3) := by decide +kernel
theorem dX6_isAllowed_33 : decode cX6_isAllowed 33 = .ok (.iconst 0, 1) := by decide +kernel
theorem dX6_isAllowed_34 : decode cX6_isAllowed 34 = .ok (.ireturn, 1) := by decide +kernel
theorem dX6_isAllowed_35 : decode cX6_isAllowed 35 = .ok (.iload_n 1, 1) := by decide +kernel
theorem dX6_isAllowed_36 : decode cX6_isAllowed 36 = .ok (.iconst 1, 1) := by decide +kernel
theorem dX6_isAllowed_37 : decode cX6_isAllowed 37 = .ok (.aload_n 0, 1) := by decide +kernel
theorem dX6_isAllowed_38 : decode cX6_isAllowed 38 = .ok (.getfield 20, 3) := by decide +kernel
theorem dX6_isAllowed_41 : decode cX6_isAllowed 41 = .ok (.iload_n 2, 1) := by decide +kernel
theorem dX6_isAllowed_42 : decode cX6_isAllowed 42 = .ok (.iaload, 1) := by decide +kernel
theorem dX6_isAllowed_43 : decode cX6_isAllowed 43 = .ok (.ishl, 1) := by decide +kernel
theorem dX6_isAllowed_44 : decode cX6_isAllowed 44 = .ok (.ior, 1) := by decide +kernel
theorem dX6_isAllowed_45 : decode cX6_isAllowed 45 = .ok (.istore_n 1, 1) := by decide +kernel
theorem dX6_isAllowed_46 : decode cX6_isAllowed 46 = .ok (.iinc 2 1, 3) := by decide +kernel
theorem dX6_isAllowed_49 : decode cX6_isAllowed 49 = .ok (.goto (-45), 3) := by decide +kernel
theorem dX6_isAllowed_52 : decode cX6_isAllowed 52 = .ok (.iconst 1, 1) := by decide +kernel
theorem dX6_isAllowed_53 : decode cX6_isAllowed 53 = .ok (.ireturn, 1) := by decide +kernel
theorem dX6_takeRow_0 : decode cX6_takeRow 0 = .ok (.iconst 0, 1) := by decide +kernel
theorem dX6_takeRow_1 : decode cX6_takeRow 1 = .ok (.istore_n 1, 1) := by decide +kernel
theorem dX6_takeRow_2 : decode cX6_takeRow 2 = .ok (.iload_n 1, 1) := by decide +kernel
theorem dX6_takeRow_3 : decode cX6_takeRow 3 = .ok (.bipush 8, 2) := by decide +kernel
theorem dX6_takeRow_5 : decode cX6_takeRow 5 = .ok (.if_icmp .ge 24, 3) := by decide +kernel
theorem dX6_takeRow_8 : decode cX6_takeRow 8 = .ok (.aload_n 0, 1) := by decide +kernel
theorem dX6_takeRow_9 : decode cX6_takeRow 9 = .ok (.getfield 20, 3) := by decide +kernel
theorem dX6_takeRow_12 : decode cX6_takeRow 12 = .ok (.iload_n 1, 1) := by decide +kernel
theorem dX6_takeRow_13 : decode cX6_takeRow 13 = .ok (.aload_n 0, 1) := by decide +kernel
theorem dX6_takeRow_14 : decode cX6_takeRow 14 = .ok (.getfield 7, 3) := by decide +kernel
theorem dX6_takeRow_17 : decode cX6_takeRow 17 = .ok (.bipush 17, 2) := by decide +kernel
theorem dX6_takeRow_19 : decode cX6_takeRow 19 = .ok (.iload_n 1, 1) := by decide +kernel
theorem dX6_takeRow_20 : decode cX6_takeRow 20 = .ok (.iadd, 1) := by decide +kernel
theorem dX6_takeRow_21 : decode cX6_takeRow 21 = .ok (.iaload, 1) := by decide +kernel
theorem dX6_takeRow_22 : decode cX6_takeRow 22 = .ok (.iastore, 1) := by decide +kernel
theorem dX6_takeRow_23 : decode cX6_takeRow 23 = .ok (.iinc 1 1, 3) := by decide +kernel
theorem dX6_takeRow_26 : decode cX6_takeRow 26 = .ok (.goto (-24), 3) := by decide +kernel
theorem dX6_takeRow_29 : decode cX6_takeRow 29 = .ok (.return_, 1) := by decide +kernel
theorem dX6_begin_0 : decode cX6_begin 0 = .ok (.iconst 0, 1) := by decide +kernel
theorem dX6_begin_1 : decode cX6_begin 1 = .ok (.istore_n 1, 1) := by decide +kernel
theorem dX6_begin_2 : decode cX6_begin 2 = .ok (.iload_n 1, 1) := by decide +kernel
theorem dX6_begin_3 : decode cX6_begin 3 = .ok (.bipush 8, 2) := by decide +kernel
theorem dX6_begin_5 : decode cX6_begin 5 = .ok (.if_icmp .ge 16, 3) := by decide +kernel
theorem dX6_begin_8 : decode cX6_begin 8 = .ok (.aload_n 0, 1) := by decide +kernel
theorem dX6_begin_9 : decode cX6_begin 9 = .ok (.getfield 20, 3) := by decide +kernel
theorem dX6_begin_12 : decode cX6_begin 12 = .ok (.iload_n 1, 1) := by decide +kernel
theorem dX6_begin_13 : decode cX6_begin 13 = .ok (.iload_n 1, 1) := by decide +kernel
theorem dX6_begin_14 : decode cX6_begin 14 = .ok (.iastore, 1) := by decide +kernel
theorem dX6_begin_15 : decode cX6_begin 15 = .ok (.iinc 1 1, 3) := by decide +kernel
theorem dX6_begin_18 : decode cX6_begin 18 = .ok (.goto (-16), 3) := by decide +kernel
theorem dX6_begin_21 : decode cX6_begin 21 = .ok (.return_, 1) := by decide +kernel
theorem dX6_change_0 : decode cX6_change 0 = .ok (.aload_n 0, 1) := by decide +kernel
theorem dX6_change_1 : decode cX6_change 1 = .ok (.getfield 20, 3) := by decide +kernel
theorem dX6_change_4 : decode cX6_change 4 = .ok (.iload_n 1, 1) := by decide +kernel
theorem dX6_change_5 : decode cX6_change 5 = .ok (.iaload, 1) := by decide +kernel
theorem dX6_change_6 : decode cX6_change 6 = .ok (.istore_n 3, 1) := by decide +kernel
theorem dX6_change_7 : decode cX6_change 7 = .ok (.aload_n 0, 1) := by decide +kernel
theorem dX6_change_8 : decode cX6_change 8 = .ok (.getfield 20, 3) := by decide +kernel
theorem dX6_change_11 : decode cX6_change 11 = .ok (.iload_n 1, 1) := by decide +kernel
theorem dX6_change_12 : decode cX6_change 12 = .ok (.aload_n 0, 1) := by decide +kernel
theorem dX6_change_13 : decode cX6_change 13 = .ok (.getfield 20, 3) := by decide +kernel
theorem dX6_change_16 : decode cX6_change 16 = .ok (.iload_n 2, 1) := by decide +kernel
theorem dX6_change_17 : decode cX6_change 17 = .ok (.iaload, 1) := by decide +kernel
theorem dX6_change_18 : decode cX6_change 18 = .ok (.iastore, 1) := by decide +kernel
theorem dX6_change_19 : decode cX6_change 19 = .ok (.aload_n 0, 1) := by decide +kernel
theorem dX6_change_20 : decode cX6_change 20 = .ok (.getfield 20, 3) := by decide +kernel
theorem dX6_change_23 : decode cX6_change 23 = .ok (.iload_n 2, 1) := by decide +kernel
theorem dX6_change_24 : decode cX6_change 24 = .ok (.iload_n 3, 1) := by decide +kernel
theorem dX6_change_25 : decode cX6_change 25 = .ok (.iastore, 1) := by decide +kernel
theorem dX6_change_26 : decode cX6_change 26 = .ok (.return_, 1) := by decide +kernel
theorem dX6_goOn_0 : decode cX6_goOn 0 = .ok (.aload_n 0, 1) := by decide +kernel
theorem dX6_goOn_1 : decode cX6_goOn 1 = .ok (.getfield 7, 3) := by decide +kernel
theorem dX6_goOn_4 : decode cX6_goOn 4 = .ok (.iconst 0, 1) := by decide +kernel
theorem dX6_goOn_5 : decode cX6_goOn 5 = .ok (.iaload, 1) := by decide +kernel
theorem dX6_goOn_6 : decode cX6_goOn 6 = .ok (.iconst 1, 1) := by decide +kernel
theorem dX6_goOn_7 : decode cX6_goOn 7 = .ok (.isub, 1) := by decide +kernel
theorem dX6_goOn_8 : decode cX6_goOn 8 = .ok (.istore_n 1, 1) := by decide +kernel
theorem dX6_goOn_9 : decode cX6_goOn 9 = .ok (.iload_n 1, 1) := by decide +kernel
theorem dX6_goOn_10 : decode cX6_goOn 10 = .ok (.iconst 1, 1) := by decide +kernel
theorem dX6_goOn_11 : decode cX6_goOn 11 = .ok (.isub, 1) := by decide +kernel
theorem dX6_goOn_12 : decode cX6_goOn 12 = .ok (.istore_n 2, 1) := by decide +kernel
theorem dX6_goOn_13 : decode cX6_goOn 13 = .ok (.iload_n 2, 1) := by decide +kernel
theorem dX6_goOn_14 : decode cX6_goOn 14 = .ok (.ifCond .lt 26, 3) := by decide +kernel
theorem dX6_goOn_17 : decode cX6_goOn 17 = .ok (.aload_n 0, 1) := by decide +kernel
theorem dX6_goOn_18 : decode cX6_goOn 18 = .ok (.getfield 20, 3) := by decide +kernel
theorem dX6_goOn_21 : decode cX6_goOn 21 = .ok (.iload_n 2, 1) := by decide +kernel
theorem dX6_goOn_22 : decode cX6_goOn 22 = .ok (.iaload, 1) := by decide +kernel
theorem dX6_goOn_23 : decode cX6_goOn 23 = .ok (.aload_n 0, 1) := by decide +kernel
theorem dX6_goOn_24 : decode cX6_goOn 24 = .ok (.getfield 20, 3) := by decide +kernel
theorem dX6_goOn_27 : decode cX6_goOn 27 = .ok (.iload_n 2, 1) := by decide +kernel
theorem dX6_goOn_28 : decode cX6_goOn 28 = .ok (.iconst 1, 1) := by decide +kernel
theorem dX6_goOn_29 : decode cX6_goOn 29 = .ok (.iadd, 1) := by decide +kernel
theorem dX6_goOn_30 : decode cX6_goOn 30 = .ok (.iaload, 1) := by decide +kernel
theorem dX6_goOn_31 : decode cX6_goOn 31 = .ok (.if_icmp .le 9, 3) := by decide +kernel
theorem dX6_goOn_34 : decode cX6_goOn 34 = .ok (.iinc 2 (-1), 3) := by decide +kernel
theorem dX6_goOn_37 : decode cX6_goOn 37 = .ok (.goto (-24), 3) := by decide +kernel
theorem dX6_goOn_40 : decode cX6_goOn 40 = .ok (.iload_n 2, 1) := by decide +kernel
theorem dX6_goOn_41 : decode cX6_goOn 41 = .ok (.ifCond .ge 5, 3) := by decide +kernel
theorem dX6_goOn_44 : decode cX6_goOn 44 = .ok (.iconst 0, 1) := by decide +kernel
theorem dX6_goOn_45 : decode cX6_goOn 45 = .ok (.ireturn, 1) := by decide +kernel
theorem dX6_goOn_46 : decode cX6_goOn 46 = .ok (.iload_n 1, 1) := by decide +kernel
theorem dX6_goOn_47 : decode cX6_goOn 47 = .ok (.istore_n 3, 1) := by decide +kernel
theorem dX6_goOn_48 : decode cX6_goOn 48 = .ok (.aload_n 0, 1) := by decide +kernel
theorem dX6_goOn_49 : decode cX6_goOn 49 = .ok (.getfield 20, 3) := by decide +kernel
theorem dX6_goOn_52 : decode cX6_goOn 52 = .ok (.iload_n 3, 1) := by decide +kernel
theorem dX6_goOn_53 : decode cX6_goOn 53 = .ok (.iaload, 1) := by decide +kernel
theorem dX6_goOn_54 : decode cX6_goOn 54 = .ok (.aload_n 0, 1) := by decide +kernel
theorem dX6_goOn_55 : decode cX6_goOn 55 = .ok (.getfield 20, 3) := by decide +kernel
theorem dX6_goOn_58 : decode cX6_goOn 58 = .ok (.iload_n 2, 1) := by decide +kernel
theorem dX6_goOn_59 : decode cX6_goOn 59 = .ok (.iaload, 1) := by decide +kernel
theorem dX6_goOn_60 : decode cX6_goOn 60 = .ok (.if_icmp .ge 9, 3) := by decide +kernel
theorem dX6_goOn_63 : decode cX6_goOn 63 = .ok (.iinc 3 (-1), 3) := by decide +kernel
theorem dX6_goOn_66 : decode cX6_goOn 66 = .ok (.goto (-18), 3) := by decide +kernel
theorem dX6_goOn_69 : decode cX6_goOn 69 = .ok (.aload_n 0, 1) := by decide +kernel
theorem dX6_goOn_70 : decode cX6_goOn 70 = .ok (.iload_n 2, 1) := by decide +kernel
theorem dX6_goOn_71 : decode cX6_goOn 71 = .ok (.iload_n 3, 1) := by decide +kernel
theorem dX6_goOn_72 : decode cX6_goOn 72 = .ok (.invokevirtual 83, 3) := by decide +kernel
theorem dX6_goOn_75 : decode cX6_goOn 75 = .ok (.iload_n 2, 1) := by decide +kernel
theorem dX6_goOn_76 : decode cX6_goOn 76 = .ok (.iconst 1, 1) := by decide +kernel
theorem dX6_goOn_77 : decode cX6_goOn 77 = .ok (.iadd, 1) := by decide +kernel
theorem dX6_goOn_78 : decode cX6_goOn 78 = .ok (.istore 4, 2) := by decide +kernel
theorem dX6_goOn_80 : decode cX6_goOn 80 = .ok (.iload_n 1, 1) := by decide +kernel
theorem dX6_goOn_81 : decode cX6_goOn 81 = .ok (.istore 5, 2) := by decide +kernel
theorem dX6_goOn_83 : decode cX6_goOn 83 = .ok (.iload 4, 2) := by decide +kernel
theorem dX6_goOn_85 : decode cX6_goOn 85 = .ok (.iload 5, 2) := by decide +kernel
theorem dX6_goOn_87 : decode cX6_goOn 87 = .ok (.if_icmp .ge 20, 3) := by decide +kernel
theorem dX6_goOn_90 : decode cX6_goOn 90 = .ok (.aload_n 0, 1) := by decide +kernel
theorem dX6_goOn_91 : decode cX6_goOn 91 = .ok (.iload 4, 2) := by decide +kernel
theorem dX6_goOn_93 : decode cX6_goOn 93 = .ok (.iload 5, 2) := by decide +kernel
theorem dX6_goOn_95 : decode cX6_goOn 95 = .ok (.invokevirtual 83, 3) := by decide +kernel
theorem dX6_goOn_98 : decode cX6_goOn 98 = .ok (.iinc 4 1, 3) := by decide +kernel
theorem dX6_goOn_101 : decode cX6_goOn 101 = .ok (.iinc 5 (-1), 3) := by decide +kernel
theorem dX6_goOn_104 : decode cX6_goOn 104 = .ok (.goto (-21), 3) := by decide +kernel
theorem dX6_goOn_107 : decode cX6_goOn 107 = .ok (.iconst 1, 1) := by decide +kernel
theorem dX6_goOn_108 : decode cX6_goOn 108 = .ok (.ireturn, 1) := by decide +kernel
theorem dX6_layFewest_0 : decode cX6_layFewest 0 = .ok (.aload_n 0, 1) := by decide +kernel
theorem dX6_layFewest_1 : decode cX6_layFewest 1 = .ok (.getfield 54, 3) := by decide +kernel
theorem dX6_layFewest_4 : decode cX6_layFewest 4 = .ok (.ifCond .eq 4, 3) := by decide +kernel
theorem dX6_layFewest_7 : decode cX6_layFewest 7 = .ok (.return_, 1) := by decide +kernel
theorem dX6_layFewest_8 : decode cX6_layFewest 8 = .ok (.aload_n 0, 1) := by decide +kernel
theorem dX6_layFewest_9 : decode cX6_layFewest 9 = .ok (.iconst 1, 1) := by decide +kernel
theorem dX6_layFewest_10 : decode cX6_layFewest 10 = .ok (.putfield 54, 3) := by decide +kernel
theorem dX6_layFewest_13 : decode cX6_layFewest 13 = .ok (.aload_n 0, 1) := by decide +kernel
theorem dX6_layFewest_14 : decode cX6_layFewest 14 = .ok (.bipush (-6), 2) := by decide +kernel
theorem dX6_layFewest_16 : decode cX6_layFewest 16 = .ok (.putfield 87, 3) := by decide +kernel
theorem dX6_layFewest_19 : decode cX6_layFewest 19 = .ok (.aload_n 0, 1) := by decide +kernel
theorem dX6_layFewest_20 : decode cX6_layFewest 20 = .ok (.invokevirtual 91, 3) := by decide +kernel
theorem dX6_layFewest_23 : decode cX6_layFewest 23 = .ok (.iconst 1, 1) := by decide +kernel
theorem dX6_layFewest_24 : decode cX6_layFewest 24 = .ok (.istore_n 1, 1) := by decide +kernel
theorem dX6_layFewest_25 : decode cX6_layFewest 25 = .ok (.iload_n 1, 1) := by decide +kernel
theorem dX6_layFewest_26 : decode cX6_layFewest 26 = .ok (.ifCond .eq 50, 3) := by decide +kernel
theorem dX6_layFewest_29 : decode cX6_layFewest 29 = .ok (.aload_n 0, 1) := by decide +kernel
theorem dX6_layFewest_30 : decode cX6_layFewest 30 = .ok (.invokevirtual 94, 3) := by decide +kernel
theorem dX6_layFewest_33 : decode cX6_layFewest 33 = .ok (.ifCond .eq 35, 3) := by decide +kernel
theorem dX6_layFewest_36 : decode cX6_layFewest 36 = .ok (.aload_n 0, 1) := by decide +kernel
theorem dX6_layFewest_37 : decode cX6_layFewest 37 = .ok (.invokevirtual 98, 3) := by decide +kernel
theorem dX6_layFewest_40 : decode cX6_layFewest 40 = .ok (.istore_n 2, 1) := by decide +kernel
theorem dX6_layFewest_41 : decode cX6_layFewest 41 = .ok (.aload_n 0, 1) := by decide +kernel
theorem dX6_layFewest_42 : decode cX6_layFewest 42 = .ok (.aload_n 0, 1) := by decide +kernel
theorem dX6_layFewest_43 : decode cX6_layFewest 43 = .ok (.getfield 87, 3) := by decide +kernel
theorem dX6_layFewest_46 : decode cX6_layFewest 46 = .ok (.ifCond .lt 11, 3) := by decide +kernel
theorem dX6_layFewest_49 : decode cX6_layFewest 49 = .ok (.iload_n 2, 1) := by decide +kernel
theorem dX6_layFewest_50 : decode cX6_layFewest 50 = .ok (.aload_n 0, 1) := by decide +kernel
theorem dX6_layFewest_51 : decode cX6_layFewest 51 = .ok (.getfield 87, 3) := by decide +kernel
theorem dX6_layFewest_54 : decode cX6_layFewest 54 = .ok (.if_icmp .ge 7, 3) := by decide +kernel
theorem dX6_layFewest_57 : decode cX6_layFewest 57 = .ok (.iload_n 2, 1) := by decide +kernel
theorem dX6_layFewest_58 : decode cX6_layFewest 58 = .ok (.goto 7, 3) := by decide +kernel
theorem dX6_layFewest_61 : decode cX6_layFewest 61 = .ok (.aload_n 0, 1) := by decide +kernel
theorem dX6_layFewest_62 : decode cX6_layFewest 62 = .ok (.getfield 87, 3) := by decide +kernel
theorem dX6_layFewest_65 : decode cX6_layFewest 65 = .ok (.putfield 87, 3) := by decide +kernel
theorem dX6_layFewest_68 : decode cX6_layFewest 68 = .ok (.aload_n 0, 1) := by decide +kernel
theorem dX6_layFewest_69 : decode cX6_layFewest 69 = .ok (.invokevirtual 101, 3) := by decide +kernel
theorem dX6_layFewest_72 : decode cX6_layFewest 72 = .ok (.istore_n 1, 1) := by decide +kernel
theorem dX6_layFewest_73 : decode cX6_layFewest 73 = .ok (.goto (-48), 3) := by decide +kernel
theorem dX6_layFewest_76 : decode cX6_layFewest 76 = .ok (.return_, 1) := by decide +kernel
theorem dX6_isBest_0 : decode cX6_isBest 0 = .ok (.aload_n 0, 1) := by decide +kernel
theorem dX6_isBest_1 : decode cX6_isBest 1 = .ok (.getfield 87, 3) := by decide +kernel
theorem dX6_isBest_4 : decode cX6_isBest 4 = .ok (.ifCond .lt 25, 3) := by decide +kernel
theorem dX6_isBest_7 : decode cX6_isBest 7 = .ok (.aload_n 0, 1) := by decide +kernel
theorem dX6_isBest_8 : decode cX6_isBest 8 = .ok (.invokevirtual 94, 3) := by decide +kernel
theorem dX6_isBest_11 : decode cX6_isBest 11 = .ok (.ifCond .eq 18, 3) := by decide +kernel
theorem dX6_isBest_14 : decode cX6_isBest 14 = .ok (.aload_n 0, 1) := by decide +kernel
theorem dX6_isBest_15 : decode cX6_isBest 15 = .ok (.invokevirtual 98, 3) := by decide +kernel
theorem dX6_isBest_18 : decode cX6_isBest 18 = .ok (.aload_n 0, 1) := by decide +kernel
theorem dX6_isBest_19 : decode cX6_isBest 19 = .ok (.getfield 87, 3) := by decide +kernel
theorem dX6_isBest_22 : decode cX6_isBest 22 = .ok (.if_icmp .ne 7, 3) := by decide +kernel
theorem dX6_isBest_25 : decode cX6_isBest 25 = .ok (.iconst 1, 1) := by decide +kernel
theorem dX6_isBest_26 : decode cX6_isBest 26 = .ok (.goto 4, 3) := by decide +kernel
theorem dX6_isBest_29 : decode cX6_isBest 29 = .ok (.iconst 0, 1) := by decide +kernel
theorem dX6_isBest_30 : decode cX6_isBest 30 = .ok (.ireturn, 1) := by decide +kernel
theorem dX6_least_0 : decode cX6_least 0 = .ok (.aload_n 0, 1) := by decide +kernel
theorem dX6_least_1 : decode cX6_least 1 = .ok (.invokevirtual 104, 3) := by decide +kernel
theorem dX6_least_4 : decode cX6_least 4 = .ok (.aload_n 0, 1) := by decide +kernel
theorem dX6_least_5 : decode cX6_least 5 = .ok (.getfield 87, 3) := by decide +kernel
theorem dX6_least_8 : decode cX6_least 8 = .ok (.ireturn, 1) := by decide +kernel
theorem dX6_placeOf_0 : decode cX6_placeOf 0 = .ok (.iconst 0, 1) := by decide +kernel
theorem dX6_placeOf_1 : decode cX6_placeOf 1 = .ok (.istore_n 2, 1) := by decide +kernel
theorem dX6_placeOf_2 : decode cX6_placeOf 2 = .ok (.aload_n 0, 1) := by decide +kernel
theorem dX6_placeOf_3 : decode cX6_placeOf 3 = .ok (.getfield 20, 3) := by decide +kernel
theorem dX6_placeOf_6 : decode cX6_placeOf 6 = .ok (.iload_n 2, 1) := by decide +kernel
theorem dX6_placeOf_7 : decode cX6_placeOf 7 = .ok (.iaload, 1) := by decide +kernel
theorem dX6_placeOf_8 : decode cX6_placeOf 8 = .ok (.iload_n 1, 1) := by decide +kernel
theorem dX6_placeOf_9 : decode cX6_placeOf 9 = .ok (.if_icmp .eq 9, 3) := by decide +kernel
theorem dX6_placeOf_12 : decode cX6_placeOf 12 = .ok (.iinc 2 1, 3) := by decide +kernel
theorem dX6_placeOf_15 : decode cX6_placeOf 15 = .ok (.goto (-13), 3) := by decide +kernel
theorem dX6_placeOf_18 : decode cX6_placeOf 18 = .ok (.iload_n 2, 1) := by decide +kernel
theorem dX6_placeOf_19 : decode cX6_placeOf 19 = .ok (.ireturn, 1) := by decide +kernel
theorem dX6_isTogether_0 : decode cX6_isTogether 0 = .ok (.bipush (-6), 2) := by decide +kernel
theorem dX6_isTogether_2 : decode cX6_isTogether 2 = .ok (.istore_n 2, 1) := by decide +kernel
theorem dX6_isTogether_3 : decode cX6_isTogether 3 = .ok (.bipush (-6), 2) := by decide +kernel
theorem dX6_isTogether_5 : decode cX6_isTogether 5 = .ok (.istore_n 3, 1) := by decide +kernel
theorem dX6_isTogether_6 : decode cX6_isTogether 6 = .ok (.iconst 0, 1) := by decide +kernel
theorem dX6_isTogether_7 : decode cX6_isTogether 7 = .ok (.istore 4, 2) := by decide +kernel
theorem dX6_isTogether_9 : decode cX6_isTogether 9 = .ok (.iload 4, 2) := by decide +kernel
theorem dX6_isTogether_11 : decode cX6_isTogether 11 = .ok (.aload_n 0, 1) := by decide +kernel
theorem dX6_isTogether_12 : decode cX6_isTogether 12 = .ok (.getfield 7, 3) := by decide +kernel
theorem dX6_isTogether_15 : decode cX6_isTogether 15 = .ok (.iconst 0, 1) := by decide +kernel
theorem dX6_isTogether_16 : decode cX6_isTogether 16 = .ok (.iaload, 1) := by decide +kernel
theorem dX6_isTogether_17 : decode cX6_isTogether 17 = .ok (.if_icmp .ge 37, 3) := by decide +kernel
theorem dX6_isTogether_20 : decode cX6_isTogether 20 = .ok (.iload_n 1, 1) := by decide +kernel
theorem dX6_isTogether_21 : decode cX6_isTogether 21 = .ok (.aload_n 0, 1) := by decide +kernel
theorem dX6_isTogether_22 : decode cX6_isTogether 22 = .ok (.getfield 20, 3) := by decide +kernel
theorem dX6_isTogether_25 : decode cX6_isTogether 25 = .ok (.iload 4, 2) := by decide +kernel
theorem dX6_isTogether_27 : decode cX6_isTogether 27 = .ok (.iaload, 1) := by decide +kernel
theorem dX6_isTogether_28 : decode cX6_isTogether 28 = .ok (.invokestatic 73, 3) := by decide +kernel
theorem dX6_isTogether_31 : decode cX6_isTogether 31 = .ok (.ifCond .eq 17, 3) := by decide +kernel
theorem dX6_isTogether_34 : decode cX6_isTogether 34 = .ok (.iload_n 2, 1) := by decide +kernel
theorem dX6_isTogether_35 : decode cX6_isTogether 35 = .ok (.ifCond .ge 8, 3) := by decide +kernel
theorem dX6_isTogether_38 : decode cX6_isTogether 38 = .ok (.iload 4, 2) := by decide +kernel
theorem dX6_isTogether_40 : decode cX6_isTogether 40 = .ok (.goto 4, 3) := by decide +kernel
theorem dX6_isTogether_43 : decode cX6_isTogether 43 = .ok (.iload_n 2, 1) := by decide +kernel
theorem dX6_isTogether_44 : decode cX6_isTogether 44 = .ok (.istore_n 2, 1) := by decide +kernel
theorem dX6_isTogether_45 : decode cX6_isTogether 45 = .ok (.iload 4, 2) := by decide +kernel
theorem dX6_isTogether_47 : decode cX6_isTogether 47 = .ok (.istore_n 3, 1) := by decide +kernel
theorem dX6_isTogether_48 : decode cX6_isTogether 48 = .ok (.iinc 4 1, 3) := by decide +kernel
theorem dX6_isTogether_51 : decode cX6_isTogether 51 = .ok (.goto (-42), 3) := by decide +kernel
theorem dX6_isTogether_54 : decode cX6_isTogether 54 = .ok (.iload_n 3, 1) := by decide +kernel
theorem dX6_isTogether_55 : decode cX6_isTogether 55 = .ok (.iload_n 2, 1) := by decide +kernel
theorem dX6_isTogether_56 : decode cX6_isTogether 56 = .ok (.isub, 1) := by decide +kernel
theorem dX6_isTogether_57 : decode cX6_isTogether 57 = .ok (.iconst 1, 1) := by decide +kernel
theorem dX6_isTogether_58 : decode cX6_isTogether 58 = .ok (.iadd, 1) := by decide +kernel
theorem dX6_isTogether_59 : decode cX6_isTogether 59 = .ok (.iload_n 1, 1) := by decide +kernel
theorem dX6_isTogether_60 : decode cX6_isTogether 60 = .ok (.invokestatic 65, 3) := by decide +kernel
theorem dX6_isTogether_63 : decode cX6_isTogether 63 = .ok (.if_icmp .ne 7, 3) := by decide +kernel
theorem dX6_isTogether_66 : decode cX6_isTogether 66 = .ok (.iconst 1, 1) := by decide +kernel
theorem dX6_isTogether_67 : decode cX6_isTogether 67 = .ok (.goto 4, 3) := by decide +kernel
theorem dX6_isTogether_70 : decode cX6_isTogether 70 = .ok (.iconst 0, 1) := by decide +kernel
theorem dX6_isTogether_71 : decode cX6_isTogether 71 = .ok (.ireturn, 1) := by decide +kernel
theorem dX6_look_0 : decode cX6_look 0 = .ok (.aload_n 0, 1) := by decide +kernel
theorem dX6_look_1 : decode cX6_look 1 = .ok (.getfield 7, 3) := by decide +kernel
theorem dX6_look_4 : decode cX6_look 4 = .ok (.iconst 0, 1) := by decide +kernel
theorem dX6_look_5 : decode cX6_look 5 = .ok (.iaload, 1) := by decide +kernel
theorem dX6_look_6 : decode cX6_look 6 = .ok (.istore_n 1, 1) := by decide +kernel
theorem dX6_look_7 : decode cX6_look 7 = .ok (.iconst 0, 1) := by decide +kernel
theorem dX6_look_8 : decode cX6_look 8 = .ok (.istore_n 2, 1) := by decide +kernel
theorem dX6_look_9 : decode cX6_look 9 = .ok (.iload_n 2, 1) := by decide +kernel
theorem dX6_look_10 : decode cX6_look 10 = .ok (.iload_n 1, 1) := by decide +kernel
theorem dX6_look_11 : decode cX6_look 11 = .ok (.if_icmp .ge 149, 3) := by decide +kernel
theorem dX6_look_14 : decode cX6_look 14 = .ok (.aload_n 0, 1) := by decide +kernel
theorem dX6_look_15 : decode cX6_look 15 = .ok (.getfield 20, 3) := by decide +kernel
theorem dX6_look_18 : decode cX6_look 18 = .ok (.iload_n 2, 1) := by decide +kernel
theorem dX6_look_19 : decode cX6_look 19 = .ok (.iaload, 1) := by decide +kernel
theorem dX6_look_20 : decode cX6_look 20 = .ok (.istore_n 3, 1) := by decide +kernel
theorem dX6_look_21 : decode cX6_look 21 = .ok (.iload_n 2, 1) := by decide +kernel
theorem dX6_look_22 : decode cX6_look 22 = .ok (.ifCond .le 16, 3) := by decide +kernel
theorem dX6_look_25 : decode cX6_look 25 = .ok (.iconst 1, 1) := by decide +kernel
theorem dX6_look_26 : decode cX6_look 26 = .ok (.aload_n 0, 1) := by decide +kernel
theorem dX6_look_27 : decode cX6_look 27 = .ok (.getfield 20, 3) := by decide +kernel
theorem dX6_look_30 : decode cX6_look 30 = .ok (.iload_n 2, 1) := by decide +kernel
theorem dX6_look_31 : decode cX6_look 31 = .ok (.iconst 1, 1) := by decide +kernel
theorem dX6_look_32 : decode cX6_look 32 = .ok (.isub, 1) := by decide +kernel
theorem dX6_look_33 : decode cX6_look 33 = .ok (.iaload, 1) := by decide +kernel
theorem dX6_look_34 : decode cX6_look 34 = .ok (.ishl, 1) := by decide +kernel
theorem dX6_look_35 : decode cX6_look 35 = .ok (.goto 4, 3) := by decide +kernel
theorem dX6_look_38 : decode cX6_look 38 = .ok (.iconst 0, 1) := by decide +kernel
theorem dX6_look_39 : decode cX6_look 39 = .ok (.iload_n 2, 1) := by decide +kernel
theorem dX6_look_40 : decode cX6_look 40 = .ok (.iload_n 1, 1) := by decide +kernel
theorem dX6_look_41 : decode cX6_look 41 = .ok (.iconst 1, 1) := by decide +kernel
theorem dX6_look_42 : decode cX6_look 42 = .ok (.isub, 1) := by decide +kernel
theorem dX6_look_43 : decode cX6_look 43 = .ok (.if_icmp .ge 16, 3) := by decide +kernel
theorem dX6_look_46 : decode cX6_look 46 = .ok (.iconst 1, 1) := by decide +kernel
theorem dX6_look_47 : decode cX6_look 47 = .ok (.aload_n 0, 1) := by decide +kernel
theorem dX6_look_48 : decode cX6_look 48 = .ok (.getfield 20, 3) := by decide +kernel
theorem dX6_look_51 : decode cX6_look 51 = .ok (.iload_n 2, 1) := by decide +kernel
theorem dX6_look_52 : decode cX6_look 52 = .ok (.iconst 1, 1) := by decide +kernel
theorem dX6_look_53 : decode cX6_look 53 = .ok (.iadd, 1) := by decide +kernel
theorem dX6_look_54 : decode cX6_look 54 = .ok (.iaload, 1) := by decide +kernel
theorem dX6_look_55 : decode cX6_look 55 = .ok (.ishl, 1) := by decide +kernel
theorem dX6_look_56 : decode cX6_look 56 = .ok (.goto 4, 3) := by decide +kernel
theorem dX6_look_59 : decode cX6_look 59 = .ok (.iconst 0, 1) := by decide +kernel
theorem dX6_look_60 : decode cX6_look 60 = .ok (.ior, 1) := by decide +kernel
theorem dX6_look_61 : decode cX6_look 61 = .ok (.istore 4, 2) := by decide +kernel
theorem dX6_look_63 : decode cX6_look 63 = .ok (.aload_n 0, 1) := by decide +kernel
theorem dX6_look_64 : decode cX6_look 64 = .ok (.getfield 32, 3) := by decide +kernel
theorem dX6_look_67 : decode cX6_look 67 = .ok (.iload_n 3, 1) := by decide +kernel
theorem dX6_look_68 : decode cX6_look 68 = .ok (.aload_n 0, 1) := by decide +kernel
theorem dX6_look_69 : decode cX6_look 69 = .ok (.getfield 107, 3) := by decide +kernel
theorem dX6_look_72 : decode cX6_look 72 = .ok (.ifCond .ne 8, 3) := by decide +kernel
theorem dX6_look_75 : decode cX6_look 75 = .ok (.iload 4, 2) := by decide +kernel
theorem dX6_look_77 : decode cX6_look 77 = .ok (.goto 12, 3) := by decide +kernel
theorem dX6_look_80 : decode cX6_look 80 = .ok (.aload_n 0, 1) := by decide +kernel
theorem dX6_look_81 : decode cX6_look 81 = .ok (.getfield 32, 3) := by decide +kernel
theorem dX6_look_84 : decode cX6_look 84 = .ok (.iload_n 3, 1) := by decide +kernel
theorem dX6_look_85 : decode cX6_look 85 = .ok (.iaload, 1) := by decide +kernel
theorem dX6_look_86 : decode cX6_look 86 = .ok (.iload 4, 2) := by decide +kernel
theorem dX6_look_88 : decode cX6_look 88 = .ok (.iand, 1) := by decide +kernel
theorem dX6_look_89 : decode cX6_look 89 = .ok (.iastore, 1) := by decide +kernel
theorem dX6_look_90 : decode cX6_look 90 = .ok (.aload_n 0, 1) := by decide +kernel
theorem dX6_look_91 : decode cX6_look 91 = .ok (.getfield 35, 3) := by decide +kernel
theorem dX6_look_94 : decode cX6_look 94 = .ok (.iload_n 3, 1) := by decide +kernel
theorem dX6_look_95 : decode cX6_look 95 = .ok (.dup2, 1) := by decide +kernel
theorem dX6_look_96 : decode cX6_look 96 = .ok (.iaload, 1) := by decide +kernel
theorem dX6_look_97 : decode cX6_look 97 = .ok (.iload 4, 2) := by decide +kernel
theorem dX6_look_99 : decode cX6_look 99 = .ok (.ior, 1) := by decide +kernel
theorem dX6_look_100 : decode cX6_look 100 = .ok (.iastore, 1) := by decide +kernel
theorem dX6_look_101 : decode cX6_look 101 = .ok (.aload_n 0, 1) := by decide +kernel
theorem dX6_look_102 : decode cX6_look 102 = .ok (.getfield 26, 3) := by decide +kernel
theorem dX6_look_105 : decode cX6_look 105 = .ok (.bipush 8, 2) := by decide +kernel
theorem dX6_look_107 : decode cX6_look 107 = .ok (.iload_n 3, 1) := by decide +kernel
theorem dX6_look_108 : decode cX6_look 108 = .ok (.imul, 1) := by decide +kernel
theorem dX6_look_109 : decode cX6_look 109 = .ok (.iload_n 2, 1) := by decide +kernel
theorem dX6_look_110 : decode cX6_look 110 = .ok (.iadd, 1) := by decide +kernel
theorem dX6_look_111 : decode cX6_look 111 = .ok (.dup2, 1) := by decide +kernel
theorem dX6_look_112 : decode cX6_look 112 = .ok (.iaload, 1) := by decide +kernel
theorem dX6_look_113 : decode cX6_look 113 = .ok (.iconst 1, 1) := by decide +kernel
theorem dX6_look_114 : decode cX6_look 114 = .ok (.iadd, 1) := by decide +kernel
theorem dX6_look_115 : decode cX6_look 115 = .ok (.iastore, 1) := by decide +kernel
theorem dX6_look_116 : decode cX6_look 116 = .ok (.iload_n 2, 1) := by decide +kernel
theorem dX6_look_117 : decode cX6_look 117 = .ok (.iconst 1, 1) := by decide +kernel
theorem dX6_look_118 : decode cX6_look 118 = .ok (.iadd, 1) := by decide +kernel
theorem dX6_look_119 : decode cX6_look 119 = .ok (.istore 5, 2) := by decide +kernel
theorem dX6_look_121 : decode cX6_look 121 = .ok (.iload 5, 2) := by decide +kernel
theorem dX6_look_123 : decode cX6_look 123 = .ok (.iload_n 1, 1) := by decide +kernel
theorem dX6_look_124 : decode cX6_look 124 = .ok (.if_icmp .ge 30, 3) := by decide +kernel
theorem dX6_look_127 : decode cX6_look 127 = .ok (.aload_n 0, 1) := by decide +kernel
theorem dX6_look_128 : decode cX6_look 128 = .ok (.getfield 29, 3) := by decide +kernel
theorem dX6_look_131 : decode cX6_look 131 = .ok (.bipush 8, 2) := by decide +kernel
theorem dX6_look_133 : decode cX6_look 133 = .ok (.iload_n 3, 1) := by decide +kernel
theorem dX6_look_134 : decode cX6_look 134 = .ok (.imul, 1) := by decide +kernel
theorem dX6_look_135 : decode cX6_look 135 = .ok (.aload_n 0, 1) := by decide +kernel
theorem dX6_look_136 : decode cX6_look 136 = .ok (.getfield 20, 3) := by decide +kernel
theorem dX6_look_139 : decode cX6_look 139 = .ok (.iload 5, 2) := by decide +kernel
theorem dX6_look_141 : decode cX6_look 141 = .ok (.iaload, 1) := by decide +kernel
theorem dX6_look_142 : decode cX6_look 142 = .ok (.iadd, 1) := by decide +kernel
theorem dX6_look_143 : decode cX6_look 143 = .ok (.dup2, 1) := by decide +kernel
theorem dX6_look_144 : decode cX6_look 144 = .ok (.iaload, 1) := by decide +kernel
theorem dX6_look_145 : decode cX6_look 145 = .ok (.iconst 1, 1) := by decide +kernel
theorem dX6_look_146 : decode cX6_look 146 = .ok (.iadd, 1) := by decide +kernel
theorem dX6_look_147 : decode cX6_look 147 = .ok (.iastore, 1) := by decide +kernel
theorem dX6_look_148 : decode cX6_look 148 = .ok (.iinc 5 1, 3) := by decide +kernel
theorem dX6_look_151 : decode cX6_look 151 = .ok (.goto (-30), 3) := by decide +kernel
theorem dX6_look_154 : decode cX6_look 154 = .ok (.iinc 2 1, 3) := by decide +kernel
theorem dX6_look_157 : decode cX6_look 157 = .ok (.goto (-148), 3) := by decide +kernel
theorem dX6_look_160 : decode cX6_look 160 = .ok (.iconst 0, 1) := by decide +kernel
theorem dX6_look_161 : decode cX6_look 161 = .ok (.istore_n 2, 1) := by decide +kernel
theorem dX6_look_162 : decode cX6_look 162 = .ok (.iload_n 2, 1) := by decide +kernel
theorem dX6_look_163 : decode cX6_look 163 = .ok (.bipush 10, 2) := by decide +kernel
theorem dX6_look_165 : decode cX6_look 165 = .ok (.if_icmp .ge 50, 3) := by decide +kernel
theorem dX6_look_168 : decode cX6_look 168 = .ok (.aload_n 0, 1) := by decide +kernel
theorem dX6_look_169 : decode cX6_look 169 = .ok (.iload_n 2, 1) := by decide +kernel
theorem dX6_look_170 : decode cX6_look 170 = .ok (.invokevirtual 80, 3) := by decide +kernel
theorem dX6_look_173 : decode cX6_look 173 = .ok (.istore_n 3, 1) := by decide +kernel
theorem dX6_look_174 : decode cX6_look 174 = .ok (.aload_n 0, 1) := by decide +kernel
theorem dX6_look_175 : decode cX6_look 175 = .ok (.getfield 38, 3) := by decide +kernel
theorem dX6_look_178 : decode cX6_look 178 = .ok (.iload_n 2, 1) := by decide +kernel
theorem dX6_look_179 : decode cX6_look 179 = .ok (.aload_n 0, 1) := by decide +kernel
theorem dX6_look_180 : decode cX6_look 180 = .ok (.getfield 38, 3) := by decide +kernel
theorem dX6_look_183 : decode cX6_look 183 = .ok (.iload_n 2, 1) := by decide +kernel
theorem dX6_look_184 : decode cX6_look 184 = .ok (.iaload, 1) := by decide +kernel
theorem dX6_look_185 : decode cX6_look 185 = .ok (.ifCond .lt 13, 3) := by decide +kernel
theorem dX6_look_188 : decode cX6_look 188 = .ok (.iload_n 3, 1) := by decide +kernel
theorem dX6_look_189 : decode cX6_look 189 = .ok (.aload_n 0, 1) := by decide +kernel
theorem dX6_look_190 : decode cX6_look 190 = .ok (.getfield 38, 3) := by decide +kernel
theorem dX6_look_193 : decode cX6_look 193 = .ok (.iload_n 2, 1) := by decide +kernel
theorem dX6_look_194 : decode cX6_look 194 = .ok (.iaload, 1) := by decide +kernel
theorem dX6_look_195 : decode cX6_look 195 = .ok (.if_icmp .ge 7, 3) := by decide +kernel
theorem dX6_look_198 : decode cX6_look 198 = .ok (.iload_n 3, 1) := by decide +kernel
theorem dX6_look_199 : decode cX6_look 199 = .ok (.goto 9, 3) := by decide +kernel
theorem dX6_look_202 : decode cX6_look 202 = .ok (.aload_n 0, 1) := by decide +kernel
theorem dX6_look_203 : decode cX6_look 203 = .ok (.getfield 38, 3) := by decide +kernel
theorem dX6_look_206 : decode cX6_look 206 = .ok (.iload_n 2, 1) := by decide +kernel
theorem dX6_look_207 : decode cX6_look 207 = .ok (.iaload, 1) := by decide +kernel
theorem dX6_look_208 : decode cX6_look 208 = .ok (.iastore, 1) := by decide +kernel
theorem dX6_look_209 : decode cX6_look 209 = .ok (.iinc 2 1, 3) := by decide +kernel
theorem dX6_look_212 : decode cX6_look 212 = .ok (.goto (-50), 3) := by decide +kernel
theorem dX6_look_215 : decode cX6_look 215 = .ok (.aload_n 0, 1) := by decide +kernel
theorem dX6_look_216 : decode cX6_look 216 = .ok (.invokevirtual 110, 3) := by decide +kernel
theorem dX6_look_219 : decode cX6_look 219 = .ok (.aload_n 0, 1) := by decide +kernel
theorem dX6_look_220 : decode cX6_look 220 = .ok (.getfield 107, 3) := by decide +kernel
theorem dX6_look_223 : decode cX6_look 223 = .ok (.aload_n 0, 1) := by decide +kernel
theorem dX6_look_224 : decode cX6_look 224 = .ok (.getfield 113, 3) := by decide +kernel
theorem dX6_look_227 : decode cX6_look 227 = .ok (.if_icmp .ne 11, 3) := by decide +kernel
theorem dX6_look_230 : decode cX6_look 230 = .ok (.aload_n 0, 1) := by decide +kernel
theorem dX6_look_231 : decode cX6_look 231 = .ok (.aload_n 0, 1) := by decide +kernel
theorem dX6_look_232 : decode cX6_look 232 = .ok (.getfield 23, 3) := by decide +kernel
theorem dX6_look_235 : decode cX6_look 235 = .ok (.invokevirtual 116, 3) := by decide +kernel
theorem dX6_look_238 : decode cX6_look 238 = .ok (.aload_n 0, 1) := by decide +kernel
theorem dX6_look_239 : decode cX6_look 239 = .ok (.dup, 1) := by decide +kernel
theorem dX6_look_240 : decode cX6_look 240 = .ok (.getfield 107, 3) := by decide +kernel
theorem dX6_look_243 : decode cX6_look 243 = .ok (.iconst 1, 1) := by decide +kernel
theorem dX6_look_244 : decode cX6_look 244 = .ok (.iadd, 1) := by decide +kernel
theorem dX6_look_245 : decode cX6_look 245 = .ok (.putfield 107, 3) := by decide +kernel
theorem dX6_look_248 : decode cX6_look 248 = .ok (.return_, 1) := by decide +kernel
theorem dX6_keep_0 : decode cX6_keep 0 = .ok (.iconst 0, 1) := by decide +kernel
theorem dX6_keep_1 : decode cX6_keep 1 = .ok (.istore_n 2, 1) := by decide +kernel
theorem dX6_keep_2 : decode cX6_keep 2 = .ok (.iload_n 2, 1) := by decide +kernel
theorem dX6_keep_3 : decode cX6_keep 3 = .ok (.bipush 8, 2) := by decide +kernel
theorem dX6_keep_5 : decode cX6_keep 5 = .ok (.if_icmp .ge 18, 3) := by decide +kernel
theorem dX6_keep_8 : decode cX6_keep 8 = .ok (.aload_n 1, 1) := by decide +kernel
theorem dX6_keep_9 : decode cX6_keep 9 = .ok (.iload_n 2, 1) := by decide +kernel
theorem dX6_keep_10 : decode cX6_keep 10 = .ok (.aload_n 0, 1) := by decide +kernel
theorem dX6_keep_11 : decode cX6_keep 11 = .ok (.getfield 20, 3) := by decide +kernel
theorem dX6_keep_14 : decode cX6_keep 14 = .ok (.iload_n 2, 1) := by decide +kernel
theorem dX6_keep_15 : decode cX6_keep 15 = .ok (.iaload, 1) := by decide +kernel
theorem dX6_keep_16 : decode cX6_keep 16 = .ok (.iastore, 1) := by decide +kernel
theorem dX6_keep_17 : decode cX6_keep 17 = .ok (.iinc 2 1, 3) := by decide +kernel
theorem dX6_keep_20 : decode cX6_keep 20 = .ok (.goto (-18), 3) := by decide +kernel
theorem dX6_keep_23 : decode cX6_keep 23 = .ok (.return_, 1) := by decide +kernel
theorem dX6_lookAtSteps_0 : decode cX6_lookAtSteps 0 = .ok (.iconst 0, 1) := by decide +kernel
theorem dX6_lookAtSteps_1 : decode cX6_lookAtSteps 1 = .ok (.istore_n 1, 1) := by decide +kernel
theorem dX6_lookAtSteps_2 : decode cX6_lookAtSteps 2 = .ok (.iconst 0, 1) := by decide +kernel
theorem dX6_lookAtSteps_3 : decode cX6_lookAtSteps 3 = .ok (.istore_n 2, 1) := by decide +kernel
theorem dX6_lookAtSteps_4 : decode cX6_lookAtSteps 4 = .ok (.iload_n 2, 1) := by decide +kernel
theorem dX6_lookAtSteps_5 : decode cX6_lookAtSteps 5 = .ok (.aload_n 0, 1) := by decide +kernel
theorem dX6_lookAtSteps_6 : decode cX6_lookAtSteps 6 = .ok (.getfield 7, 3) := by decide +kernel
theorem dX6_lookAtSteps_9 : decode cX6_lookAtSteps 9 = .ok (.iconst 0, 1) := by decide +kernel
theorem dX6_lookAtSteps_10 : decode cX6_lookAtSteps 10 = .ok (.iaload, 1) := by decide +kernel
theorem dX6_lookAtSteps_11 : decode cX6_lookAtSteps 11 = .ok (.if_icmp .ge 66, 3) := by decide +kernel
theorem dX6_lookAtSteps_14 : decode cX6_lookAtSteps 14 = .ok (.iload_n 2, 1) := by decide +kernel
theorem dX6_lookAtSteps_15 : decode cX6_lookAtSteps 15 = .ok (.iconst 1, 1) := by decide +kernel
theorem dX6_lookAtSteps_16 : decode cX6_lookAtSteps 16 = .ok (.iadd, 1) := by decide +kernel
theorem dX6_lookAtSteps_17 : decode cX6_lookAtSteps 17 = .ok (.istore_n 3, 1) := by decide +kernel
theorem dX6_lookAtSteps_18 : decode cX6_lookAtSteps 18 = .ok (.iload_n 3, 1) := by decide +kernel
theorem dX6_lookAtSteps_19 : decode cX6_lookAtSteps 19 = .ok (.aload_n 0, 1) := by decide +kernel
theorem dX6_lookAtSteps_20 : decode cX6_lookAtSteps 20 = .ok (.getfield 7, 3) := by decide +kernel
theorem dX6_lookAtSteps_23 : decode cX6_lookAtSteps 23 = .ok (.iconst 0, 1) := by decide +kernel
theorem dX6_lookAtSteps_24 : decode cX6_lookAtSteps 24 = .ok (.iaload, 1) := by decide +kernel
theorem dX6_lookAtSteps_25 : decode cX6_lookAtSteps 25 = .ok (.if_icmp .ge 46, 3) := by decide +kernel
theorem dX6_lookAtSteps_28 : decode cX6_lookAtSteps 28 = .ok (.iload_n 1, 1) := by decide +kernel
theorem dX6_lookAtSteps_29 : decode cX6_lookAtSteps 29 = .ok (.aload_n 0, 1) := by decide +kernel
theorem dX6_lookAtSteps_30 : decode cX6_lookAtSteps 30 = .ok (.aload_n 0, 1) := by decide +kernel
theorem dX6_lookAtSteps_31 : decode cX6_lookAtSteps 31 = .ok (.getfield 7, 3) := by decide +kernel
theorem dX6_lookAtSteps_34 : decode cX6_lookAtSteps 34 = .ok (.bipush 17, 2) := by decide +kernel
theorem dX6_lookAtSteps_36 : decode cX6_lookAtSteps 36 = .ok (.iload_n 2, 1) := by decide +kernel
theorem dX6_lookAtSteps_37 : decode cX6_lookAtSteps 37 = .ok (.iadd, 1) := by decide +kernel
theorem dX6_lookAtSteps_38 : decode cX6_lookAtSteps 38 = .ok (.iaload, 1) := by decide +kernel
theorem dX6_lookAtSteps_39 : decode cX6_lookAtSteps 39 = .ok (.invokevirtual 120, 3) := by decide +kernel
theorem dX6_lookAtSteps_42 : decode cX6_lookAtSteps 42 = .ok (.aload_n 0, 1) := by decide +kernel
theorem dX6_lookAtSteps_43 : decode cX6_lookAtSteps 43 = .ok (.aload_n 0, 1) := by decide +kernel
theorem dX6_lookAtSteps_44 : decode cX6_lookAtSteps 44 = .ok (.getfield 7, 3) := by decide +kernel
theorem dX6_lookAtSteps_47 : decode cX6_lookAtSteps 47 = .ok (.bipush 17, 2) := by decide +kernel
theorem dX6_lookAtSteps_49 : decode cX6_lookAtSteps 49 = .ok (.iload_n 3, 1) := by decide +kernel
theorem dX6_lookAtSteps_50 : decode cX6_lookAtSteps 50 = .ok (.iadd, 1) := by decide +kernel
theorem dX6_lookAtSteps_51 : decode cX6_lookAtSteps 51 = .ok (.iaload, 1) := by decide +kernel
theorem dX6_lookAtSteps_52 : decode cX6_lookAtSteps 52 = .ok (.invokevirtual 120, 3) := by decide +kernel
theorem dX6_lookAtSteps_55 : decode cX6_lookAtSteps 55 = .ok (.if_icmp .le 7, 3) := by decide +kernel
theorem dX6_lookAtSteps_58 : decode cX6_lookAtSteps 58 = .ok (.iconst 1, 1) := by decide +kernel
theorem dX6_lookAtSteps_59 : decode cX6_lookAtSteps 59 = .ok (.goto 4, 3) := by decide +kernel
theorem dX6_lookAtSteps_62 : decode cX6_lookAtSteps 62 = .ok (.iconst 0, 1) := by decide +kernel
theorem dX6_lookAtSteps_63 : decode cX6_lookAtSteps 63 = .ok (.iadd, 1) := by decide +kernel
theorem dX6_lookAtSteps_64 : decode cX6_lookAtSteps 64 = .ok (.istore_n 1, 1) := by decide +kernel
theorem dX6_lookAtSteps_65 : decode cX6_lookAtSteps 65 = .ok (.iinc 3 1, 3) := by decide +kernel
end
section
theorem dX6_lookAtSteps_68 : decode cX6_lookAtSteps 68 = .ok (.goto (-50), 3) := by decide +kernel
theorem dX6_lookAtSteps_71 : decode cX6_lookAtSteps 71 = .ok (.iinc 2 1, 3) := by decide +kernel
theorem dX6_lookAtSteps_74 : decode cX6_lookAtSteps 74 = .ok (.goto (-70), 3) := by decide +kernel
theorem dX6_lookAtSteps_77 : decode cX6_lookAtSteps 77 = .ok (.aload_n 0, 1) := by decide +kernel
theorem dX6_lookAtSteps_78 : decode cX6_lookAtSteps 78 = .ok (.getfield 123, 3) := by decide +kernel
theorem dX6_lookAtSteps_81 : decode cX6_lookAtSteps 81 = .ok (.ifCond .lt 11, 3) := by decide +kernel
theorem dX6_lookAtSteps_84 : decode cX6_lookAtSteps 84 = .ok (.iload_n 1, 1) := by decide +kernel
theorem dX6_lookAtSteps_85 : decode cX6_lookAtSteps 85 = .ok (.aload_n 0, 1) := by decide +kernel
theorem dX6_lookAtSteps_86 : decode cX6_lookAtSteps 86 = .ok (.getfield 123, 3) := by decide +kernel
theorem dX6_lookAtSteps_89 : decode cX6_lookAtSteps 89 = .ok (.if_icmp .ge 16, 3) := by decide +kernel
theorem dX6_lookAtSteps_92 : decode cX6_lookAtSteps 92 = .ok (.aload_n 0, 1) := by decide +kernel
theorem dX6_lookAtSteps_93 : decode cX6_lookAtSteps 93 = .ok (.iload_n 1, 1) := by decide +kernel
theorem dX6_lookAtSteps_94 : decode cX6_lookAtSteps 94 = .ok (.putfield 123, 3) := by decide +kernel
theorem dX6_lookAtSteps_97 : decode cX6_lookAtSteps 97 = .ok (.aload_n 0, 1) := by decide +kernel
theorem dX6_lookAtSteps_98 : decode cX6_lookAtSteps 98 = .ok (.aload_n 0, 1) := by decide +kernel
theorem dX6_lookAtSteps_99 : decode cX6_lookAtSteps 99 = .ok (.getfield 44, 3) := by decide +kernel
theorem dX6_lookAtSteps_102 : decode cX6_lookAtSteps 102 = .ok (.invokevirtual 116, 3) := by decide +kernel
theorem dX6_lookAtSteps_105 : decode cX6_lookAtSteps 105 = .ok (.return_, 1) := by decide +kernel
theorem dX6_lookAtAll_0 : decode cX6_lookAtAll 0 = .ok (.aload_n 0, 1) := by decide +kernel
theorem dX6_lookAtAll_1 : decode cX6_lookAtAll 1 = .ok (.invokevirtual 104, 3) := by decide +kernel
theorem dX6_lookAtAll_4 : decode cX6_lookAtAll 4 = .ok (.aload_n 0, 1) := by decide +kernel
theorem dX6_lookAtAll_5 : decode cX6_lookAtAll 5 = .ok (.iconst 0, 1) := by decide +kernel
theorem dX6_lookAtAll_6 : decode cX6_lookAtAll 6 = .ok (.putfield 107, 3) := by decide +kernel
theorem dX6_lookAtAll_9 : decode cX6_lookAtAll 9 = .ok (.aload_n 0, 1) := by decide +kernel
theorem dX6_lookAtAll_10 : decode cX6_lookAtAll 10 = .ok (.iload_n 1, 1) := by decide +kernel
theorem dX6_lookAtAll_11 : decode cX6_lookAtAll 11 = .ok (.putfield 113, 3) := by decide +kernel
theorem dX6_lookAtAll_14 : decode cX6_lookAtAll 14 = .ok (.aload_n 0, 1) := by decide +kernel
theorem dX6_lookAtAll_15 : decode cX6_lookAtAll 15 = .ok (.bipush (-6), 2) := by decide +kernel
theorem dX6_lookAtAll_17 : decode cX6_lookAtAll 17 = .ok (.putfield 123, 3) := by decide +kernel
theorem dX6_lookAtAll_20 : decode cX6_lookAtAll 20 = .ok (.iconst 0, 1) := by decide +kernel
theorem dX6_lookAtAll_21 : decode cX6_lookAtAll 21 = .ok (.istore_n 2, 1) := by decide +kernel
theorem dX6_lookAtAll_22 : decode cX6_lookAtAll 22 = .ok (.iload_n 2, 1) := by decide +kernel
theorem dX6_lookAtAll_23 : decode cX6_lookAtAll 23 = .ok (.bipush 64, 2) := by decide +kernel
theorem dX6_lookAtAll_25 : decode cX6_lookAtAll 25 = .ok (.if_icmp .ge 23, 3) := by decide +kernel
theorem dX6_lookAtAll_28 : decode cX6_lookAtAll 28 = .ok (.aload_n 0, 1) := by decide +kernel
theorem dX6_lookAtAll_29 : decode cX6_lookAtAll 29 = .ok (.getfield 26, 3) := by decide +kernel
theorem dX6_lookAtAll_32 : decode cX6_lookAtAll 32 = .ok (.iload_n 2, 1) := by decide +kernel
theorem dX6_lookAtAll_33 : decode cX6_lookAtAll 33 = .ok (.iconst 0, 1) := by decide +kernel
theorem dX6_lookAtAll_34 : decode cX6_lookAtAll 34 = .ok (.iastore, 1) := by decide +kernel
theorem dX6_lookAtAll_35 : decode cX6_lookAtAll 35 = .ok (.aload_n 0, 1) := by decide +kernel
theorem dX6_lookAtAll_36 : decode cX6_lookAtAll 36 = .ok (.getfield 29, 3) := by decide +kernel
theorem dX6_lookAtAll_39 : decode cX6_lookAtAll 39 = .ok (.iload_n 2, 1) := by decide +kernel
theorem dX6_lookAtAll_40 : decode cX6_lookAtAll 40 = .ok (.iconst 0, 1) := by decide +kernel
theorem dX6_lookAtAll_41 : decode cX6_lookAtAll 41 = .ok (.iastore, 1) := by decide +kernel
theorem dX6_lookAtAll_42 : decode cX6_lookAtAll 42 = .ok (.iinc 2 1, 3) := by decide +kernel
theorem dX6_lookAtAll_45 : decode cX6_lookAtAll 45 = .ok (.goto (-23), 3) := by decide +kernel
theorem dX6_lookAtAll_48 : decode cX6_lookAtAll 48 = .ok (.iconst 0, 1) := by decide +kernel
theorem dX6_lookAtAll_49 : decode cX6_lookAtAll 49 = .ok (.istore_n 2, 1) := by decide +kernel
theorem dX6_lookAtAll_50 : decode cX6_lookAtAll 50 = .ok (.iload_n 2, 1) := by decide +kernel
theorem dX6_lookAtAll_51 : decode cX6_lookAtAll 51 = .ok (.bipush 8, 2) := by decide +kernel
theorem dX6_lookAtAll_53 : decode cX6_lookAtAll 53 = .ok (.if_icmp .ge 23, 3) := by decide +kernel
theorem dX6_lookAtAll_56 : decode cX6_lookAtAll 56 = .ok (.aload_n 0, 1) := by decide +kernel
theorem dX6_lookAtAll_57 : decode cX6_lookAtAll 57 = .ok (.getfield 32, 3) := by decide +kernel
theorem dX6_lookAtAll_60 : decode cX6_lookAtAll 60 = .ok (.iload_n 2, 1) := by decide +kernel
theorem dX6_lookAtAll_61 : decode cX6_lookAtAll 61 = .ok (.iconst 0, 1) := by decide +kernel
theorem dX6_lookAtAll_62 : decode cX6_lookAtAll 62 = .ok (.iastore, 1) := by decide +kernel
theorem dX6_lookAtAll_63 : decode cX6_lookAtAll 63 = .ok (.aload_n 0, 1) := by decide +kernel
theorem dX6_lookAtAll_64 : decode cX6_lookAtAll 64 = .ok (.getfield 35, 3) := by decide +kernel
theorem dX6_lookAtAll_67 : decode cX6_lookAtAll 67 = .ok (.iload_n 2, 1) := by decide +kernel
theorem dX6_lookAtAll_68 : decode cX6_lookAtAll 68 = .ok (.iconst 0, 1) := by decide +kernel
theorem dX6_lookAtAll_69 : decode cX6_lookAtAll 69 = .ok (.iastore, 1) := by decide +kernel
theorem dX6_lookAtAll_70 : decode cX6_lookAtAll 70 = .ok (.iinc 2 1, 3) := by decide +kernel
theorem dX6_lookAtAll_73 : decode cX6_lookAtAll 73 = .ok (.goto (-23), 3) := by decide +kernel
theorem dX6_lookAtAll_76 : decode cX6_lookAtAll 76 = .ok (.iconst 0, 1) := by decide +kernel
theorem dX6_lookAtAll_77 : decode cX6_lookAtAll 77 = .ok (.istore_n 2, 1) := by decide +kernel
theorem dX6_lookAtAll_78 : decode cX6_lookAtAll 78 = .ok (.iload_n 2, 1) := by decide +kernel
theorem dX6_lookAtAll_79 : decode cX6_lookAtAll 79 = .ok (.bipush 10, 2) := by decide +kernel
theorem dX6_lookAtAll_81 : decode cX6_lookAtAll 81 = .ok (.if_icmp .ge 17, 3) := by decide +kernel
theorem dX6_lookAtAll_84 : decode cX6_lookAtAll 84 = .ok (.aload_n 0, 1) := by decide +kernel
theorem dX6_lookAtAll_85 : decode cX6_lookAtAll 85 = .ok (.getfield 38, 3) := by decide +kernel
theorem dX6_lookAtAll_88 : decode cX6_lookAtAll 88 = .ok (.iload_n 2, 1) := by decide +kernel
theorem dX6_lookAtAll_89 : decode cX6_lookAtAll 89 = .ok (.bipush (-6), 2) := by decide +kernel
theorem dX6_lookAtAll_91 : decode cX6_lookAtAll 91 = .ok (.iastore, 1) := by decide +kernel
theorem dX6_lookAtAll_92 : decode cX6_lookAtAll 92 = .ok (.iinc 2 1, 3) := by decide +kernel
theorem dX6_lookAtAll_95 : decode cX6_lookAtAll 95 = .ok (.goto (-17), 3) := by decide +kernel
theorem dX6_lookAtAll_98 : decode cX6_lookAtAll 98 = .ok (.aload_n 0, 1) := by decide +kernel
theorem dX6_lookAtAll_99 : decode cX6_lookAtAll 99 = .ok (.invokevirtual 91, 3) := by decide +kernel
theorem dX6_lookAtAll_102 : decode cX6_lookAtAll 102 = .ok (.iconst 1, 1) := by decide +kernel
theorem dX6_lookAtAll_103 : decode cX6_lookAtAll 103 = .ok (.istore_n 2, 1) := by decide +kernel
theorem dX6_lookAtAll_104 : decode cX6_lookAtAll 104 = .ok (.iload_n 2, 1) := by decide +kernel
theorem dX6_lookAtAll_105 : decode cX6_lookAtAll 105 = .ok (.ifCond .eq 22, 3) := by decide +kernel
theorem dX6_lookAtAll_108 : decode cX6_lookAtAll 108 = .ok (.aload_n 0, 1) := by decide +kernel
theorem dX6_lookAtAll_109 : decode cX6_lookAtAll 109 = .ok (.invokevirtual 126, 3) := by decide +kernel
theorem dX6_lookAtAll_112 : decode cX6_lookAtAll 112 = .ok (.ifCond .eq 7, 3) := by decide +kernel
theorem dX6_lookAtAll_115 : decode cX6_lookAtAll 115 = .ok (.aload_n 0, 1) := by decide +kernel
theorem dX6_lookAtAll_116 : decode cX6_lookAtAll 116 = .ok (.invokevirtual 129, 3) := by decide +kernel
theorem dX6_lookAtAll_119 : decode cX6_lookAtAll 119 = .ok (.aload_n 0, 1) := by decide +kernel
theorem dX6_lookAtAll_120 : decode cX6_lookAtAll 120 = .ok (.invokevirtual 101, 3) := by decide +kernel
theorem dX6_lookAtAll_123 : decode cX6_lookAtAll 123 = .ok (.istore_n 2, 1) := by decide +kernel
theorem dX6_lookAtAll_124 : decode cX6_lookAtAll 124 = .ok (.goto (-20), 3) := by decide +kernel
theorem dX6_lookAtAll_127 : decode cX6_lookAtAll 127 = .ok (.return_, 1) := by decide +kernel
theorem dX6_best_0 : decode cX6_best 0 = .ok (.aload_n 0, 1) := by decide +kernel
theorem dX6_best_1 : decode cX6_best 1 = .ok (.iconst 0, 1) := by decide +kernel
theorem dX6_best_2 : decode cX6_best 2 = .ok (.invokevirtual 132, 3) := by decide +kernel
theorem dX6_best_5 : decode cX6_best 5 = .ok (.aload_n 0, 1) := by decide +kernel
theorem dX6_best_6 : decode cX6_best 6 = .ok (.getfield 107, 3) := by decide +kernel
theorem dX6_best_9 : decode cX6_best 9 = .ok (.ireturn, 1) := by decide +kernel
theorem dX6_order_0 : decode cX6_order 0 = .ok (.iload_n 1, 1) := by decide +kernel
theorem dX6_order_1 : decode cX6_order 1 = .ok (.ifCond .lt 19, 3) := by decide +kernel
theorem dX6_order_4 : decode cX6_order 4 = .ok (.iload_n 2, 1) := by decide +kernel
theorem dX6_order_5 : decode cX6_order 5 = .ok (.iconst 0, 1) := by decide +kernel
theorem dX6_order_6 : decode cX6_order 6 = .ok (.aload_n 0, 1) := by decide +kernel
theorem dX6_order_7 : decode cX6_order 7 = .ok (.getfield 7, 3) := by decide +kernel
theorem dX6_order_10 : decode cX6_order 10 = .ok (.iconst 0, 1) := by decide +kernel
theorem dX6_order_11 : decode cX6_order 11 = .ok (.iaload, 1) := by decide +kernel
theorem dX6_order_12 : decode cX6_order 12 = .ok (.iconst 1, 1) := by decide +kernel
theorem dX6_order_13 : decode cX6_order 13 = .ok (.isub, 1) := by decide +kernel
theorem dX6_order_14 : decode cX6_order 14 = .ok (.invokestatic 50, 3) := by decide +kernel
theorem dX6_order_17 : decode cX6_order 17 = .ok (.ifCond .ne 6, 3) := by decide +kernel
theorem dX6_order_20 : decode cX6_order 20 = .ok (.bipush (-2), 2) := by decide +kernel
theorem dX6_order_22 : decode cX6_order 22 = .ok (.ireturn, 1) := by decide +kernel
theorem dX6_order_23 : decode cX6_order 23 = .ok (.aload_n 0, 1) := by decide +kernel
theorem dX6_order_24 : decode cX6_order 24 = .ok (.iload_n 1, 1) := by decide +kernel
theorem dX6_order_25 : decode cX6_order 25 = .ok (.invokevirtual 132, 3) := by decide +kernel
theorem dX6_order_28 : decode cX6_order 28 = .ok (.iload_n 1, 1) := by decide +kernel
theorem dX6_order_29 : decode cX6_order 29 = .ok (.aload_n 0, 1) := by decide +kernel
theorem dX6_order_30 : decode cX6_order 30 = .ok (.getfield 107, 3) := by decide +kernel
theorem dX6_order_33 : decode cX6_order 33 = .ok (.if_icmp .ge 12, 3) := by decide +kernel
theorem dX6_order_36 : decode cX6_order 36 = .ok (.aload_n 0, 1) := by decide +kernel
theorem dX6_order_37 : decode cX6_order 37 = .ok (.getfield 23, 3) := by decide +kernel
theorem dX6_order_40 : decode cX6_order 40 = .ok (.iload_n 2, 1) := by decide +kernel
theorem dX6_order_41 : decode cX6_order 41 = .ok (.iaload, 1) := by decide +kernel
theorem dX6_order_42 : decode cX6_order 42 = .ok (.goto 5, 3) := by decide +kernel
theorem dX6_order_45 : decode cX6_order 45 = .ok (.bipush (-6), 2) := by decide +kernel
theorem dX6_order_47 : decode cX6_order 47 = .ok (.ireturn, 1) := by decide +kernel
theorem dX6_beside_0 : decode cX6_beside 0 = .ok (.aload_n 0, 1) := by decide +kernel
theorem dX6_beside_1 : decode cX6_beside 1 = .ok (.iload_n 1, 1) := by decide +kernel
theorem dX6_beside_2 : decode cX6_beside 2 = .ok (.invokevirtual 58, 3) := by decide +kernel
theorem dX6_beside_5 : decode cX6_beside 5 = .ok (.ifCond .ne 5, 3) := by decide +kernel
theorem dX6_beside_8 : decode cX6_beside 8 = .ok (.iconst (-1), 1) := by decide +kernel
theorem dX6_beside_9 : decode cX6_beside 9 = .ok (.ireturn, 1) := by decide +kernel
theorem dX6_beside_10 : decode cX6_beside 10 = .ok (.iload_n 2, 1) := by decide +kernel
theorem dX6_beside_11 : decode cX6_beside 11 = .ok (.iconst 0, 1) := by decide +kernel
theorem dX6_beside_12 : decode cX6_beside 12 = .ok (.iconst 1, 1) := by decide +kernel
theorem dX6_beside_13 : decode cX6_beside 13 = .ok (.invokestatic 50, 3) := by decide +kernel
theorem dX6_beside_16 : decode cX6_beside 16 = .ok (.ifCond .ne 6, 3) := by decide +kernel
theorem dX6_beside_19 : decode cX6_beside 19 = .ok (.bipush (-2), 2) := by decide +kernel
theorem dX6_beside_21 : decode cX6_beside 21 = .ok (.ireturn, 1) := by decide +kernel
theorem dX6_beside_22 : decode cX6_beside 22 = .ok (.aload_n 0, 1) := by decide +kernel
theorem dX6_beside_23 : decode cX6_beside 23 = .ok (.iconst 0, 1) := by decide +kernel
theorem dX6_beside_24 : decode cX6_beside 24 = .ok (.invokevirtual 132, 3) := by decide +kernel
theorem dX6_beside_27 : decode cX6_beside 27 = .ok (.iload_n 2, 1) := by decide +kernel
theorem dX6_beside_28 : decode cX6_beside 28 = .ok (.ifCond .ne 12, 3) := by decide +kernel
theorem dX6_beside_31 : decode cX6_beside 31 = .ok (.aload_n 0, 1) := by decide +kernel
theorem dX6_beside_32 : decode cX6_beside 32 = .ok (.getfield 32, 3) := by decide +kernel
theorem dX6_beside_35 : decode cX6_beside 35 = .ok (.iload_n 1, 1) := by decide +kernel
theorem dX6_beside_36 : decode cX6_beside 36 = .ok (.iaload, 1) := by decide +kernel
theorem dX6_beside_37 : decode cX6_beside 37 = .ok (.goto 9, 3) := by decide +kernel
theorem dX6_beside_40 : decode cX6_beside 40 = .ok (.aload_n 0, 1) := by decide +kernel
theorem dX6_beside_41 : decode cX6_beside 41 = .ok (.getfield 35, 3) := by decide +kernel
theorem dX6_beside_44 : decode cX6_beside 44 = .ok (.iload_n 1, 1) := by decide +kernel
theorem dX6_beside_45 : decode cX6_beside 45 = .ok (.iaload, 1) := by decide +kernel
theorem dX6_beside_46 : decode cX6_beside 46 = .ok (.ireturn, 1) := by decide +kernel
theorem dX6_place_0 : decode cX6_place 0 = .ok (.aload_n 0, 1) := by decide +kernel
theorem dX6_place_1 : decode cX6_place 1 = .ok (.iload_n 1, 1) := by decide +kernel
theorem dX6_place_2 : decode cX6_place 2 = .ok (.invokevirtual 58, 3) := by decide +kernel
theorem dX6_place_5 : decode cX6_place 5 = .ok (.ifCond .ne 5, 3) := by decide +kernel
theorem dX6_place_8 : decode cX6_place 8 = .ok (.iconst (-1), 1) := by decide +kernel
theorem dX6_place_9 : decode cX6_place 9 = .ok (.ireturn, 1) := by decide +kernel
theorem dX6_place_10 : decode cX6_place 10 = .ok (.iload_n 2, 1) := by decide +kernel
theorem dX6_place_11 : decode cX6_place 11 = .ok (.iconst 0, 1) := by decide +kernel
theorem dX6_place_12 : decode cX6_place 12 = .ok (.iconst 1, 1) := by decide +kernel
theorem dX6_place_13 : decode cX6_place 13 = .ok (.invokestatic 50, 3) := by decide +kernel
theorem dX6_place_16 : decode cX6_place 16 = .ok (.ifCond .ne 24, 3) := by decide +kernel
theorem dX6_place_19 : decode cX6_place 19 = .ok (.iload_n 2, 1) := by decide +kernel
theorem dX6_place_20 : decode cX6_place 20 = .ok (.bipush 10, 2) := by decide +kernel
theorem dX6_place_22 : decode cX6_place 22 = .ok (.bipush 9, 2) := by decide +kernel
theorem dX6_place_24 : decode cX6_place 24 = .ok (.aload_n 0, 1) := by decide +kernel
theorem dX6_place_25 : decode cX6_place 25 = .ok (.getfield 7, 3) := by decide +kernel
theorem dX6_place_28 : decode cX6_place 28 = .ok (.iconst 0, 1) := by decide +kernel
theorem dX6_place_29 : decode cX6_place 29 = .ok (.iaload, 1) := by decide +kernel
theorem dX6_place_30 : decode cX6_place 30 = .ok (.iadd, 1) := by decide +kernel
theorem dX6_place_31 : decode cX6_place 31 = .ok (.invokestatic 50, 3) := by decide +kernel
theorem dX6_place_34 : decode cX6_place 34 = .ok (.ifCond .ne 6, 3) := by decide +kernel
theorem dX6_place_37 : decode cX6_place 37 = .ok (.bipush (-2), 2) := by decide +kernel
theorem dX6_place_39 : decode cX6_place 39 = .ok (.ireturn, 1) := by decide +kernel
theorem dX6_place_40 : decode cX6_place 40 = .ok (.aload_n 0, 1) := by decide +kernel
theorem dX6_place_41 : decode cX6_place 41 = .ok (.iconst 0, 1) := by decide +kernel
theorem dX6_place_42 : decode cX6_place 42 = .ok (.invokevirtual 132, 3) := by decide +kernel
theorem dX6_place_45 : decode cX6_place 45 = .ok (.iload_n 2, 1) := by decide +kernel
theorem dX6_place_46 : decode cX6_place 46 = .ok (.bipush 9, 2) := by decide +kernel
theorem dX6_place_48 : decode cX6_place 48 = .ok (.if_icmp .le 18, 3) := by decide +kernel
theorem dX6_place_51 : decode cX6_place 51 = .ok (.aload_n 0, 1) := by decide +kernel
theorem dX6_place_52 : decode cX6_place 52 = .ok (.getfield 26, 3) := by decide +kernel
theorem dX6_place_55 : decode cX6_place 55 = .ok (.bipush 8, 2) := by decide +kernel
theorem dX6_place_57 : decode cX6_place 57 = .ok (.iload_n 1, 1) := by decide +kernel
theorem dX6_place_58 : decode cX6_place 58 = .ok (.imul, 1) := by decide +kernel
theorem dX6_place_59 : decode cX6_place 59 = .ok (.iload_n 2, 1) := by decide +kernel
theorem dX6_place_60 : decode cX6_place 60 = .ok (.iadd, 1) := by decide +kernel
theorem dX6_place_61 : decode cX6_place 61 = .ok (.bipush 10, 2) := by decide +kernel
theorem dX6_place_63 : decode cX6_place 63 = .ok (.isub, 1) := by decide +kernel
theorem dX6_place_64 : decode cX6_place 64 = .ok (.iaload, 1) := by decide +kernel
theorem dX6_place_65 : decode cX6_place 65 = .ok (.ireturn, 1) := by decide +kernel
theorem dX6_place_66 : decode cX6_place 66 = .ok (.bipush (-6), 2) := by decide +kernel
theorem dX6_place_68 : decode cX6_place 68 = .ok (.istore_n 3, 1) := by decide +kernel
theorem dX6_place_69 : decode cX6_place 69 = .ok (.bipush (-6), 2) := by decide +kernel
theorem dX6_place_71 : decode cX6_place 71 = .ok (.istore 4, 2) := by decide +kernel
theorem dX6_place_73 : decode cX6_place 73 = .ok (.iconst 0, 1) := by decide +kernel
theorem dX6_place_74 : decode cX6_place 74 = .ok (.istore 5, 2) := by decide +kernel
theorem dX6_place_76 : decode cX6_place 76 = .ok (.iload 5, 2) := by decide +kernel
theorem dX6_place_78 : decode cX6_place 78 = .ok (.bipush 8, 2) := by decide +kernel
theorem dX6_place_80 : decode cX6_place 80 = .ok (.if_icmp .ge 39, 3) := by decide +kernel
theorem dX6_place_83 : decode cX6_place 83 = .ok (.aload_n 0, 1) := by decide +kernel
theorem dX6_place_84 : decode cX6_place 84 = .ok (.getfield 26, 3) := by decide +kernel
theorem dX6_place_87 : decode cX6_place 87 = .ok (.bipush 8, 2) := by decide +kernel
theorem dX6_place_89 : decode cX6_place 89 = .ok (.iload_n 1, 1) := by decide +kernel
theorem dX6_place_90 : decode cX6_place 90 = .ok (.imul, 1) := by decide +kernel
theorem dX6_place_91 : decode cX6_place 91 = .ok (.iload 5, 2) := by decide +kernel
theorem dX6_place_93 : decode cX6_place 93 = .ok (.iadd, 1) := by decide +kernel
theorem dX6_place_94 : decode cX6_place 94 = .ok (.iaload, 1) := by decide +kernel
theorem dX6_place_95 : decode cX6_place 95 = .ok (.ifCond .le 18, 3) := by decide +kernel
theorem dX6_place_98 : decode cX6_place 98 = .ok (.iload_n 3, 1) := by decide +kernel
theorem dX6_place_99 : decode cX6_place 99 = .ok (.ifCond .ge 8, 3) := by decide +kernel
theorem dX6_place_102 : decode cX6_place 102 = .ok (.iload 5, 2) := by decide +kernel
theorem dX6_place_104 : decode cX6_place 104 = .ok (.goto 4, 3) := by decide +kernel
theorem dX6_place_107 : decode cX6_place 107 = .ok (.iload_n 3, 1) := by decide +kernel
theorem dX6_place_108 : decode cX6_place 108 = .ok (.istore_n 3, 1) := by decide +kernel
theorem dX6_place_109 : decode cX6_place 109 = .ok (.iload 5, 2) := by decide +kernel
theorem dX6_place_111 : decode cX6_place 111 = .ok (.istore 4, 2) := by decide +kernel
theorem dX6_place_113 : decode cX6_place 113 = .ok (.iinc 5 1, 3) := by decide +kernel
theorem dX6_place_116 : decode cX6_place 116 = .ok (.goto (-40), 3) := by decide +kernel
theorem dX6_place_119 : decode cX6_place 119 = .ok (.iload_n 2, 1) := by decide +kernel
theorem dX6_place_120 : decode cX6_place 120 = .ok (.ifCond .ne 7, 3) := by decide +kernel
theorem dX6_place_123 : decode cX6_place 123 = .ok (.iload_n 3, 1) := by decide +kernel
theorem dX6_place_124 : decode cX6_place 124 = .ok (.goto 5, 3) := by decide +kernel
theorem dX6_place_127 : decode cX6_place 127 = .ok (.iload 4, 2) := by decide +kernel
theorem dX6_place_129 : decode cX6_place 129 = .ok (.ireturn, 1) := by decide +kernel
theorem dX6_before_0 : decode cX6_before 0 = .ok (.aload_n 0, 1) := by decide +kernel
theorem dX6_before_1 : decode cX6_before 1 = .ok (.iload_n 1, 1) := by decide +kernel
theorem dX6_before_2 : decode cX6_before 2 = .ok (.invokevirtual 58, 3) := by decide +kernel
theorem dX6_before_5 : decode cX6_before 5 = .ok (.ifCond .eq 11, 3) := by decide +kernel
theorem dX6_before_8 : decode cX6_before 8 = .ok (.aload_n 0, 1) := by decide +kernel
theorem dX6_before_9 : decode cX6_before 9 = .ok (.iload_n 2, 1) := by decide +kernel
theorem dX6_before_10 : decode cX6_before 10 = .ok (.invokevirtual 58, 3) := by decide +kernel
theorem dX6_before_13 : decode cX6_before 13 = .ok (.ifCond .ne 5, 3) := by decide +kernel
theorem dX6_before_16 : decode cX6_before 16 = .ok (.iconst (-1), 1) := by decide +kernel
theorem dX6_before_17 : decode cX6_before 17 = .ok (.ireturn, 1) := by decide +kernel
theorem dX6_before_18 : decode cX6_before 18 = .ok (.iload_n 1, 1) := by decide +kernel
theorem dX6_before_19 : decode cX6_before 19 = .ok (.iload_n 2, 1) := by decide +kernel
theorem dX6_before_20 : decode cX6_before 20 = .ok (.if_icmp .ne 6, 3) := by decide +kernel
theorem dX6_before_23 : decode cX6_before 23 = .ok (.bipush (-2), 2) := by decide +kernel
theorem dX6_before_25 : decode cX6_before 25 = .ok (.ireturn, 1) := by decide +kernel
theorem dX6_before_26 : decode cX6_before 26 = .ok (.aload_n 0, 1) := by decide +kernel
theorem dX6_before_27 : decode cX6_before 27 = .ok (.iconst 0, 1) := by decide +kernel
theorem dX6_before_28 : decode cX6_before 28 = .ok (.invokevirtual 132, 3) := by decide +kernel
theorem dX6_before_31 : decode cX6_before 31 = .ok (.aload_n 0, 1) := by decide +kernel
theorem dX6_before_32 : decode cX6_before 32 = .ok (.getfield 29, 3) := by decide +kernel
theorem dX6_before_35 : decode cX6_before 35 = .ok (.bipush 8, 2) := by decide +kernel
theorem dX6_before_37 : decode cX6_before 37 = .ok (.iload_n 1, 1) := by decide +kernel
theorem dX6_before_38 : decode cX6_before 38 = .ok (.imul, 1) := by decide +kernel
theorem dX6_before_39 : decode cX6_before 39 = .ok (.iload_n 2, 1) := by decide +kernel
theorem dX6_before_40 : decode cX6_before 40 = .ok (.iadd, 1) := by decide +kernel
theorem dX6_before_41 : decode cX6_before 41 = .ok (.iaload, 1) := by decide +kernel
theorem dX6_before_42 : decode cX6_before 42 = .ok (.ireturn, 1) := by decide +kernel
theorem dX6_together_0 : decode cX6_together 0 = .ok (.iload_n 1, 1) := by decide +kernel
theorem dX6_together_1 : decode cX6_together 1 = .ok (.iconst 1, 1) := by decide +kernel
theorem dX6_together_2 : decode cX6_together 2 = .ok (.iconst 1, 1) := by decide +kernel
theorem dX6_together_3 : decode cX6_together 3 = .ok (.aload_n 0, 1) := by decide +kernel
theorem dX6_together_4 : decode cX6_together 4 = .ok (.getfield 7, 3) := by decide +kernel
theorem dX6_together_7 : decode cX6_together 7 = .ok (.iconst 0, 1) := by decide +kernel
theorem dX6_together_8 : decode cX6_together 8 = .ok (.iaload, 1) := by decide +kernel
theorem dX6_together_9 : decode cX6_together 9 = .ok (.ishl, 1) := by decide +kernel
theorem dX6_together_10 : decode cX6_together 10 = .ok (.iconst 1, 1) := by decide +kernel
theorem dX6_together_11 : decode cX6_together 11 = .ok (.isub, 1) := by decide +kernel
theorem dX6_together_12 : decode cX6_together 12 = .ok (.invokestatic 50, 3) := by decide +kernel
theorem dX6_together_15 : decode cX6_together 15 = .ok (.ifCond .ne 6, 3) := by decide +kernel
theorem dX6_together_18 : decode cX6_together 18 = .ok (.bipush (-2), 2) := by decide +kernel
theorem dX6_together_20 : decode cX6_together 20 = .ok (.ireturn, 1) := by decide +kernel
theorem dX6_together_21 : decode cX6_together 21 = .ok (.aload_n 0, 1) := by decide +kernel
theorem dX6_together_22 : decode cX6_together 22 = .ok (.invokevirtual 104, 3) := by decide +kernel
theorem dX6_together_25 : decode cX6_together 25 = .ok (.aload_n 0, 1) := by decide +kernel
theorem dX6_together_26 : decode cX6_together 26 = .ok (.invokevirtual 91, 3) := by decide +kernel
theorem dX6_together_29 : decode cX6_together 29 = .ok (.iconst 0, 1) := by decide +kernel
theorem dX6_together_30 : decode cX6_together 30 = .ok (.istore_n 2, 1) := by decide +kernel
theorem dX6_together_31 : decode cX6_together 31 = .ok (.iconst 1, 1) := by decide +kernel
theorem dX6_together_32 : decode cX6_together 32 = .ok (.istore_n 3, 1) := by decide +kernel
theorem dX6_together_33 : decode cX6_together 33 = .ok (.iload_n 3, 1) := by decide +kernel
theorem dX6_together_34 : decode cX6_together 34 = .ok (.ifCond .eq 34, 3) := by decide +kernel
theorem dX6_together_37 : decode cX6_together 37 = .ok (.iload_n 2, 1) := by decide +kernel
theorem dX6_together_38 : decode cX6_together 38 = .ok (.aload_n 0, 1) := by decide +kernel
theorem dX6_together_39 : decode cX6_together 39 = .ok (.invokevirtual 126, 3) := by decide +kernel
theorem dX6_together_42 : decode cX6_together 42 = .ok (.ifCond .eq 15, 3) := by decide +kernel
theorem dX6_together_45 : decode cX6_together 45 = .ok (.aload_n 0, 1) := by decide +kernel
theorem dX6_together_46 : decode cX6_together 46 = .ok (.iload_n 1, 1) := by decide +kernel
theorem dX6_together_47 : decode cX6_together 47 = .ok (.invokevirtual 136, 3) := by decide +kernel
theorem dX6_together_50 : decode cX6_together 50 = .ok (.ifCond .eq 7, 3) := by decide +kernel
theorem dX6_together_53 : decode cX6_together 53 = .ok (.iconst 1, 1) := by decide +kernel
theorem dX6_together_54 : decode cX6_together 54 = .ok (.goto 4, 3) := by decide +kernel
theorem dX6_together_57 : decode cX6_together 57 = .ok (.iconst 0, 1) := by decide +kernel
theorem dX6_together_58 : decode cX6_together 58 = .ok (.iadd, 1) := by decide +kernel
theorem dX6_together_59 : decode cX6_together 59 = .ok (.istore_n 2, 1) := by decide +kernel
theorem dX6_together_60 : decode cX6_together 60 = .ok (.aload_n 0, 1) := by decide +kernel
theorem dX6_together_61 : decode cX6_together 61 = .ok (.invokevirtual 101, 3) := by decide +kernel
theorem dX6_together_64 : decode cX6_together 64 = .ok (.istore_n 3, 1) := by decide +kernel
theorem dX6_together_65 : decode cX6_together 65 = .ok (.goto (-32), 3) := by decide +kernel
theorem dX6_together_68 : decode cX6_together 68 = .ok (.iload_n 2, 1) := by decide +kernel
theorem dX6_together_69 : decode cX6_together 69 = .ok (.ireturn, 1) := by decide +kernel
theorem dX6_layClumps_0 : decode cX6_layClumps 0 = .ok (.aload_n 0, 1) := by decide +kernel
theorem dX6_layClumps_1 : decode cX6_layClumps 1 = .ok (.invokevirtual 104, 3) := by decide +kernel
theorem dX6_layClumps_4 : decode cX6_layClumps 4 = .ok (.iconst 0, 1) := by decide +kernel
theorem dX6_layClumps_5 : decode cX6_layClumps 5 = .ok (.istore_n 1, 1) := by decide +kernel
theorem dX6_layClumps_6 : decode cX6_layClumps 6 = .ok (.iload_n 1, 1) := by decide +kernel
theorem dX6_layClumps_7 : decode cX6_layClumps 7 = .ok (.sipush 256, 3) := by decide +kernel
theorem dX6_layClumps_10 : decode cX6_layClumps 10 = .ok (.if_icmp .ge 47, 3) := by decide +kernel
theorem dX6_layClumps_13 : decode cX6_layClumps 13 = .ok (.aload_n 0, 1) := by decide +kernel
theorem dX6_layClumps_14 : decode cX6_layClumps 14 = .ok (.getfield 41, 3) := by decide +kernel
theorem dX6_layClumps_17 : decode cX6_layClumps 17 = .ok (.iload_n 1, 1) := by decide +kernel
theorem dX6_layClumps_18 : decode cX6_layClumps 18 = .ok (.aload_n 0, 1) := by decide +kernel
theorem dX6_layClumps_19 : decode cX6_layClumps 19 = .ok (.getfield 87, 3) := by decide +kernel
theorem dX6_layClumps_22 : decode cX6_layClumps 22 = .ok (.ifCond .lt 27, 3) := by decide +kernel
theorem dX6_layClumps_25 : decode cX6_layClumps 25 = .ok (.iload_n 1, 1) := by decide +kernel
theorem dX6_layClumps_26 : decode cX6_layClumps 26 = .ok (.iconst 1, 1) := by decide +kernel
theorem dX6_layClumps_27 : decode cX6_layClumps 27 = .ok (.aload_n 0, 1) := by decide +kernel
theorem dX6_layClumps_28 : decode cX6_layClumps 28 = .ok (.getfield 7, 3) := by decide +kernel
theorem dX6_layClumps_31 : decode cX6_layClumps 31 = .ok (.iconst 0, 1) := by decide +kernel
theorem dX6_layClumps_32 : decode cX6_layClumps 32 = .ok (.iaload, 1) := by decide +kernel
theorem dX6_layClumps_33 : decode cX6_layClumps 33 = .ok (.ishl, 1) := by decide +kernel
theorem dX6_layClumps_34 : decode cX6_layClumps 34 = .ok (.if_icmp .ge 15, 3) := by decide +kernel
theorem dX6_layClumps_37 : decode cX6_layClumps 37 = .ok (.iload_n 1, 1) := by decide +kernel
theorem dX6_layClumps_38 : decode cX6_layClumps 38 = .ok (.invokestatic 65, 3) := by decide +kernel
theorem dX6_layClumps_41 : decode cX6_layClumps 41 = .ok (.iconst 1, 1) := by decide +kernel
theorem dX6_layClumps_42 : decode cX6_layClumps 42 = .ok (.if_icmp .le 7, 3) := by decide +kernel
theorem dX6_layClumps_45 : decode cX6_layClumps 45 = .ok (.iconst 1, 1) := by decide +kernel
theorem dX6_layClumps_46 : decode cX6_layClumps 46 = .ok (.goto 4, 3) := by decide +kernel
theorem dX6_layClumps_49 : decode cX6_layClumps 49 = .ok (.iconst 0, 1) := by decide +kernel
theorem dX6_layClumps_50 : decode cX6_layClumps 50 = .ok (.bastore, 1) := by decide +kernel
theorem dX6_layClumps_51 : decode cX6_layClumps 51 = .ok (.iinc 1 1, 3) := by decide +kernel
theorem dX6_layClumps_54 : decode cX6_layClumps 54 = .ok (.goto (-48), 3) := by decide +kernel
theorem dX6_layClumps_57 : decode cX6_layClumps 57 = .ok (.aload_n 0, 1) := by decide +kernel
theorem dX6_layClumps_58 : decode cX6_layClumps 58 = .ok (.invokevirtual 91, 3) := by decide +kernel
theorem dX6_layClumps_61 : decode cX6_layClumps 61 = .ok (.iconst 1, 1) := by decide +kernel
theorem dX6_layClumps_62 : decode cX6_layClumps 62 = .ok (.istore_n 1, 1) := by decide +kernel
theorem dX6_layClumps_63 : decode cX6_layClumps 63 = .ok (.iload_n 1, 1) := by decide +kernel
theorem dX6_layClumps_64 : decode cX6_layClumps 64 = .ok (.ifCond .eq 61, 3) := by decide +kernel
theorem dX6_layClumps_67 : decode cX6_layClumps 67 = .ok (.aload_n 0, 1) := by decide +kernel
theorem dX6_layClumps_68 : decode cX6_layClumps 68 = .ok (.invokevirtual 126, 3) := by decide +kernel
theorem dX6_layClumps_71 : decode cX6_layClumps 71 = .ok (.ifCond .eq 46, 3) := by decide +kernel
theorem dX6_layClumps_74 : decode cX6_layClumps 74 = .ok (.iconst 0, 1) := by decide +kernel
theorem dX6_layClumps_75 : decode cX6_layClumps 75 = .ok (.istore_n 2, 1) := by decide +kernel
theorem dX6_layClumps_76 : decode cX6_layClumps 76 = .ok (.iload_n 2, 1) := by decide +kernel
theorem dX6_layClumps_77 : decode cX6_layClumps 77 = .ok (.sipush 256, 3) := by decide +kernel
theorem dX6_layClumps_80 : decode cX6_layClumps 80 = .ok (.if_icmp .ge 37, 3) := by decide +kernel
theorem dX6_layClumps_83 : decode cX6_layClumps 83 = .ok (.aload_n 0, 1) := by decide +kernel
theorem dX6_layClumps_84 : decode cX6_layClumps 84 = .ok (.getfield 41, 3) := by decide +kernel
theorem dX6_layClumps_87 : decode cX6_layClumps 87 = .ok (.iload_n 2, 1) := by decide +kernel
theorem dX6_layClumps_88 : decode cX6_layClumps 88 = .ok (.aload_n 0, 1) := by decide +kernel
theorem dX6_layClumps_89 : decode cX6_layClumps 89 = .ok (.getfield 41, 3) := by decide +kernel
theorem dX6_layClumps_92 : decode cX6_layClumps 92 = .ok (.iload_n 2, 1) := by decide +kernel
theorem dX6_layClumps_93 : decode cX6_layClumps 93 = .ok (.baload, 1) := by decide +kernel
theorem dX6_layClumps_94 : decode cX6_layClumps 94 = .ok (.ifCond .eq 15, 3) := by decide +kernel
theorem dX6_layClumps_97 : decode cX6_layClumps 97 = .ok (.aload_n 0, 1) := by decide +kernel
theorem dX6_layClumps_98 : decode cX6_layClumps 98 = .ok (.iload_n 2, 1) := by decide +kernel
theorem dX6_layClumps_99 : decode cX6_layClumps 99 = .ok (.invokevirtual 136, 3) := by decide +kernel
theorem dX6_layClumps_102 : decode cX6_layClumps 102 = .ok (.ifCond .eq 7, 3) := by decide +kernel
theorem dX6_layClumps_105 : decode cX6_layClumps 105 = .ok (.iconst 1, 1) := by decide +kernel
theorem dX6_layClumps_106 : decode cX6_layClumps 106 = .ok (.goto 4, 3) := by decide +kernel
theorem dX6_layClumps_109 : decode cX6_layClumps 109 = .ok (.iconst 0, 1) := by decide +kernel
theorem dX6_layClumps_110 : decode cX6_layClumps 110 = .ok (.bastore, 1) := by decide +kernel
theorem dX6_layClumps_111 : decode cX6_layClumps 111 = .ok (.iinc 2 1, 3) := by decide +kernel
theorem dX6_layClumps_114 : decode cX6_layClumps 114 = .ok (.goto (-38), 3) := by decide +kernel
theorem dX6_layClumps_117 : decode cX6_layClumps 117 = .ok (.aload_n 0, 1) := by decide +kernel
theorem dX6_layClumps_118 : decode cX6_layClumps 118 = .ok (.invokevirtual 101, 3) := by decide +kernel
theorem dX6_layClumps_121 : decode cX6_layClumps 121 = .ok (.istore_n 1, 1) := by decide +kernel
theorem dX6_layClumps_122 : decode cX6_layClumps 122 = .ok (.goto (-59), 3) := by decide +kernel
theorem dX6_layClumps_125 : decode cX6_layClumps 125 = .ok (.return_, 1) := by decide +kernel
theorem dX6_clump_0 : decode cX6_clump 0 = .ok (.iload_n 1, 1) := by decide +kernel
theorem dX6_clump_1 : decode cX6_clump 1 = .ok (.iconst (-1), 1) := by decide +kernel
theorem dX6_clump_2 : decode cX6_clump 2 = .ok (.if_icmp .ge 6, 3) := by decide +kernel
theorem dX6_clump_5 : decode cX6_clump 5 = .ok (.bipush (-2), 2) := by decide +kernel
theorem dX6_clump_7 : decode cX6_clump 7 = .ok (.ireturn, 1) := by decide +kernel
theorem dX6_clump_8 : decode cX6_clump 8 = .ok (.aload_n 0, 1) := by decide +kernel
theorem dX6_clump_9 : decode cX6_clump 9 = .ok (.invokevirtual 139, 3) := by decide +kernel
theorem dX6_clump_12 : decode cX6_clump 12 = .ok (.iconst 0, 1) := by decide +kernel
theorem dX6_clump_13 : decode cX6_clump 13 = .ok (.istore_n 2, 1) := by decide +kernel
theorem dX6_clump_14 : decode cX6_clump 14 = .ok (.iconst 0, 1) := by decide +kernel
theorem dX6_clump_15 : decode cX6_clump 15 = .ok (.istore_n 3, 1) := by decide +kernel
theorem dX6_clump_16 : decode cX6_clump 16 = .ok (.iload_n 3, 1) := by decide +kernel
theorem dX6_clump_17 : decode cX6_clump 17 = .ok (.sipush 256, 3) := by decide +kernel
theorem dX6_clump_20 : decode cX6_clump 20 = .ok (.if_icmp .ge 28, 3) := by decide +kernel
theorem dX6_clump_23 : decode cX6_clump 23 = .ok (.aload_n 0, 1) := by decide +kernel
theorem dX6_clump_24 : decode cX6_clump 24 = .ok (.getfield 41, 3) := by decide +kernel
theorem dX6_clump_27 : decode cX6_clump 27 = .ok (.iload_n 3, 1) := by decide +kernel
theorem dX6_clump_28 : decode cX6_clump 28 = .ok (.baload, 1) := by decide +kernel
theorem dX6_clump_29 : decode cX6_clump 29 = .ok (.ifCond .eq 13, 3) := by decide +kernel
theorem dX6_clump_32 : decode cX6_clump 32 = .ok (.iload_n 2, 1) := by decide +kernel
theorem dX6_clump_33 : decode cX6_clump 33 = .ok (.iload_n 1, 1) := by decide +kernel
theorem dX6_clump_34 : decode cX6_clump 34 = .ok (.if_icmp .ne 5, 3) := by decide +kernel
theorem dX6_clump_37 : decode cX6_clump 37 = .ok (.iload_n 3, 1) := by decide +kernel
theorem dX6_clump_38 : decode cX6_clump 38 = .ok (.ireturn, 1) := by decide +kernel
theorem dX6_clump_39 : decode cX6_clump 39 = .ok (.iinc 2 1, 3) := by decide +kernel
theorem dX6_clump_42 : decode cX6_clump 42 = .ok (.iinc 3 1, 3) := by decide +kernel
theorem dX6_clump_45 : decode cX6_clump 45 = .ok (.goto (-29), 3) := by decide +kernel
theorem dX6_clump_48 : decode cX6_clump 48 = .ok (.iload_n 1, 1) := by decide +kernel
theorem dX6_clump_49 : decode cX6_clump 49 = .ok (.iconst (-1), 1) := by decide +kernel
theorem dX6_clump_50 : decode cX6_clump 50 = .ok (.if_icmp .ne 7, 3) := by decide +kernel
theorem dX6_clump_53 : decode cX6_clump 53 = .ok (.iload_n 2, 1) := by decide +kernel
theorem dX6_clump_54 : decode cX6_clump 54 = .ok (.goto 5, 3) := by decide +kernel
theorem dX6_clump_57 : decode cX6_clump 57 = .ok (.bipush (-6), 2) := by decide +kernel
theorem dX6_clump_59 : decode cX6_clump 59 = .ok (.ireturn, 1) := by decide +kernel
theorem dX6_sort_0 : decode cX6_sort 0 = .ok (.iload_n 1, 1) := by decide +kernel
theorem dX6_sort_1 : decode cX6_sort 1 = .ok (.invokestatic 62, 3) := by decide +kernel
theorem dX6_sort_4 : decode cX6_sort 4 = .ok (.ifCond .ne 5, 3) := by decide +kernel
theorem dX6_sort_7 : decode cX6_sort 7 = .ok (.iconst (-1), 1) := by decide +kernel
theorem dX6_sort_8 : decode cX6_sort 8 = .ok (.ireturn, 1) := by decide +kernel
theorem dX6_sort_9 : decode cX6_sort 9 = .ok (.iload_n 2, 1) := by decide +kernel
theorem dX6_sort_10 : decode cX6_sort 10 = .ok (.iconst 0, 1) := by decide +kernel
theorem dX6_sort_11 : decode cX6_sort 11 = .ok (.iconst 2, 1) := by decide +kernel
theorem dX6_sort_12 : decode cX6_sort 12 = .ok (.invokestatic 50, 3) := by decide +kernel
theorem dX6_sort_15 : decode cX6_sort 15 = .ok (.ifCond .ne 6, 3) := by decide +kernel
theorem dX6_sort_18 : decode cX6_sort 18 = .ok (.bipush (-2), 2) := by decide +kernel
theorem dX6_sort_20 : decode cX6_sort 20 = .ok (.ireturn, 1) := by decide +kernel
theorem dX6_sort_21 : decode cX6_sort 21 = .ok (.iconst 0, 1) := by decide +kernel
theorem dX6_sort_22 : decode cX6_sort 22 = .ok (.istore_n 3, 1) := by decide +kernel
theorem dX6_sort_23 : decode cX6_sort 23 = .ok (.iconst 0, 1) := by decide +kernel
theorem dX6_sort_24 : decode cX6_sort 24 = .ok (.istore 4, 2) := by decide +kernel
theorem dX6_sort_26 : decode cX6_sort 26 = .ok (.iload 4, 2) := by decide +kernel
theorem dX6_sort_28 : decode cX6_sort 28 = .ok (.aload_n 0, 1) := by decide +kernel
theorem dX6_sort_29 : decode cX6_sort 29 = .ok (.getfield 7, 3) := by decide +kernel
theorem dX6_sort_32 : decode cX6_sort 32 = .ok (.iconst 0, 1) := by decide +kernel
theorem dX6_sort_33 : decode cX6_sort 33 = .ok (.iaload, 1) := by decide +kernel
theorem dX6_sort_34 : decode cX6_sort 34 = .ok (.if_icmp .ge 33, 3) := by decide +kernel
theorem dX6_sort_37 : decode cX6_sort 37 = .ok (.iload_n 3, 1) := by decide +kernel
theorem dX6_sort_38 : decode cX6_sort 38 = .ok (.aload_n 0, 1) := by decide +kernel
theorem dX6_sort_39 : decode cX6_sort 39 = .ok (.getfield 7, 3) := by decide +kernel
theorem dX6_sort_42 : decode cX6_sort 42 = .ok (.iconst 1, 1) := by decide +kernel
theorem dX6_sort_43 : decode cX6_sort 43 = .ok (.iload 4, 2) := by decide +kernel
theorem dX6_sort_45 : decode cX6_sort 45 = .ok (.iadd, 1) := by decide +kernel
theorem dX6_sort_46 : decode cX6_sort 46 = .ok (.iaload, 1) := by decide +kernel
theorem dX6_sort_47 : decode cX6_sort 47 = .ok (.iload_n 1, 1) := by decide +kernel
theorem dX6_sort_48 : decode cX6_sort 48 = .ok (.invokestatic 73, 3) := by decide +kernel
theorem dX6_sort_51 : decode cX6_sort 51 = .ok (.ifCond .eq 7, 3) := by decide +kernel
theorem dX6_sort_54 : decode cX6_sort 54 = .ok (.iconst 1, 1) := by decide +kernel
theorem dX6_sort_55 : decode cX6_sort 55 = .ok (.goto 4, 3) := by decide +kernel
theorem dX6_sort_58 : decode cX6_sort 58 = .ok (.iconst 0, 1) := by decide +kernel
theorem dX6_sort_59 : decode cX6_sort 59 = .ok (.iadd, 1) := by decide +kernel
theorem dX6_sort_60 : decode cX6_sort 60 = .ok (.istore_n 3, 1) := by decide +kernel
theorem dX6_sort_61 : decode cX6_sort 61 = .ok (.iinc 4 1, 3) := by decide +kernel
theorem dX6_sort_64 : decode cX6_sort 64 = .ok (.goto (-38), 3) := by decide +kernel
theorem dX6_sort_67 : decode cX6_sort 67 = .ok (.iload_n 2, 1) := by decide +kernel
theorem dX6_sort_68 : decode cX6_sort 68 = .ok (.ifCond .ne 5, 3) := by decide +kernel
theorem dX6_sort_71 : decode cX6_sort 71 = .ok (.iload_n 3, 1) := by decide +kernel
theorem dX6_sort_72 : decode cX6_sort 72 = .ok (.ireturn, 1) := by decide +kernel
theorem dX6_sort_73 : decode cX6_sort 73 = .ok (.iload_n 2, 1) := by decide +kernel
theorem dX6_sort_74 : decode cX6_sort 74 = .ok (.iconst 1, 1) := by decide +kernel
theorem dX6_sort_75 : decode cX6_sort 75 = .ok (.if_icmp .ne 13, 3) := by decide +kernel
theorem dX6_sort_78 : decode cX6_sort 78 = .ok (.aload_n 0, 1) := by decide +kernel
theorem dX6_sort_79 : decode cX6_sort 79 = .ok (.invokevirtual 142, 3) := by decide +kernel
theorem dX6_sort_82 : decode cX6_sort 82 = .ok (.aload_n 0, 1) := by decide +kernel
theorem dX6_sort_83 : decode cX6_sort 83 = .ok (.iload_n 1, 1) := by decide +kernel
theorem dX6_sort_84 : decode cX6_sort 84 = .ok (.invokevirtual 80, 3) := by decide +kernel
theorem dX6_sort_87 : decode cX6_sort 87 = .ok (.ireturn, 1) := by decide +kernel
theorem dX6_sort_88 : decode cX6_sort 88 = .ok (.aload_n 0, 1) := by decide +kernel
theorem dX6_sort_89 : decode cX6_sort 89 = .ok (.iconst 0, 1) := by decide +kernel
theorem dX6_sort_90 : decode cX6_sort 90 = .ok (.invokevirtual 132, 3) := by decide +kernel
theorem dX6_sort_93 : decode cX6_sort 93 = .ok (.aload_n 0, 1) := by decide +kernel
theorem dX6_sort_94 : decode cX6_sort 94 = .ok (.getfield 38, 3) := by decide +kernel
theorem dX6_sort_97 : decode cX6_sort 97 = .ok (.iload_n 1, 1) := by decide +kernel
theorem dX6_sort_98 : decode cX6_sort 98 = .ok (.iaload, 1) := by decide +kernel
theorem dX6_sort_99 : decode cX6_sort 99 = .ok (.ireturn, 1) := by decide +kernel
theorem dX6_row_0 : decode cX6_row 0 = .ok (.iload_n 1, 1) := by decide +kernel
theorem dX6_row_1 : decode cX6_row 1 = .ok (.iconst 0, 1) := by decide +kernel
theorem dX6_row_2 : decode cX6_row 2 = .ok (.aload_n 0, 1) := by decide +kernel
theorem dX6_row_3 : decode cX6_row 3 = .ok (.getfield 7, 3) := by decide +kernel
theorem dX6_row_6 : decode cX6_row 6 = .ok (.iconst 0, 1) := by decide +kernel
theorem dX6_row_7 : decode cX6_row 7 = .ok (.iaload, 1) := by decide +kernel
theorem dX6_row_8 : decode cX6_row 8 = .ok (.iconst 1, 1) := by decide +kernel
theorem dX6_row_9 : decode cX6_row 9 = .ok (.isub, 1) := by decide +kernel
theorem dX6_row_10 : decode cX6_row 10 = .ok (.invokestatic 50, 3) := by decide +kernel
theorem dX6_row_13 : decode cX6_row 13 = .ok (.ifCond .eq 15, 3) := by decide +kernel
theorem dX6_row_16 : decode cX6_row 16 = .ok (.aload_n 0, 1) := by decide +kernel
theorem dX6_row_17 : decode cX6_row 17 = .ok (.getfield 7, 3) := by decide +kernel
theorem dX6_row_20 : decode cX6_row 20 = .ok (.bipush 17, 2) := by decide +kernel
theorem dX6_row_22 : decode cX6_row 22 = .ok (.iload_n 1, 1) := by decide +kernel
theorem dX6_row_23 : decode cX6_row 23 = .ok (.iadd, 1) := by decide +kernel
theorem dX6_row_24 : decode cX6_row 24 = .ok (.iaload, 1) := by decide +kernel
theorem dX6_row_25 : decode cX6_row 25 = .ok (.goto 5, 3) := by decide +kernel
theorem dX6_row_28 : decode cX6_row 28 = .ok (.bipush (-2), 2) := by decide +kernel
theorem dX6_row_30 : decode cX6_row 30 = .ok (.ireturn, 1) := by decide +kernel
theorem dX6_breaks_0 : decode cX6_breaks 0 = .ok (.iload_n 1, 1) := by decide +kernel
theorem dX6_breaks_1 : decode cX6_breaks 1 = .ok (.iconst 0, 1) := by decide +kernel
theorem dX6_breaks_2 : decode cX6_breaks 2 = .ok (.iconst 2, 1) := by decide +kernel
theorem dX6_breaks_3 : decode cX6_breaks 3 = .ok (.invokestatic 50, 3) := by decide +kernel
theorem dX6_breaks_6 : decode cX6_breaks 6 = .ok (.ifCond .ne 6, 3) := by decide +kernel
theorem dX6_breaks_9 : decode cX6_breaks 9 = .ok (.bipush (-2), 2) := by decide +kernel
theorem dX6_breaks_11 : decode cX6_breaks 11 = .ok (.ireturn, 1) := by decide +kernel
theorem dX6_breaks_12 : decode cX6_breaks 12 = .ok (.aload_n 0, 1) := by decide +kernel
theorem dX6_breaks_13 : decode cX6_breaks 13 = .ok (.invokevirtual 104, 3) := by decide +kernel
theorem dX6_breaks_16 : decode cX6_breaks 16 = .ok (.aload_n 0, 1) := by decide +kernel
theorem dX6_breaks_17 : decode cX6_breaks 17 = .ok (.invokevirtual 142, 3) := by decide +kernel
theorem dX6_breaks_20 : decode cX6_breaks 20 = .ok (.iload_n 1, 1) := by decide +kernel
theorem dX6_breaks_21 : decode cX6_breaks 21 = .ok (.ifCond .ne 10, 3) := by decide +kernel
theorem dX6_breaks_24 : decode cX6_breaks 24 = .ok (.aload_n 0, 1) := by decide +kernel
theorem dX6_breaks_25 : decode cX6_breaks 25 = .ok (.invokevirtual 98, 3) := by decide +kernel
theorem dX6_breaks_28 : decode cX6_breaks 28 = .ok (.goto 35, 3) := by decide +kernel
theorem dX6_breaks_31 : decode cX6_breaks 31 = .ok (.iload_n 1, 1) := by decide +kernel
theorem dX6_breaks_32 : decode cX6_breaks 32 = .ok (.iconst 1, 1) := by decide +kernel
theorem dX6_breaks_33 : decode cX6_breaks 33 = .ok (.if_icmp .ne 18, 3) := by decide +kernel
theorem dX6_breaks_36 : decode cX6_breaks 36 = .ok (.aload_n 0, 1) := by decide +kernel
theorem dX6_breaks_37 : decode cX6_breaks 37 = .ok (.invokevirtual 94, 3) := by decide +kernel
theorem dX6_breaks_40 : decode cX6_breaks 40 = .ok (.ifCond .eq 7, 3) := by decide +kernel
theorem dX6_breaks_43 : decode cX6_breaks 43 = .ok (.iconst 1, 1) := by decide +kernel
theorem dX6_breaks_44 : decode cX6_breaks 44 = .ok (.goto 19, 3) := by decide +kernel
theorem dX6_breaks_47 : decode cX6_breaks 47 = .ok (.iconst 0, 1) := by decide +kernel
theorem dX6_breaks_48 : decode cX6_breaks 48 = .ok (.goto 15, 3) := by decide +kernel
theorem dX6_breaks_51 : decode cX6_breaks 51 = .ok (.aload_n 0, 1) := by decide +kernel
theorem dX6_breaks_52 : decode cX6_breaks 52 = .ok (.invokevirtual 126, 3) := by decide +kernel
theorem dX6_breaks_55 : decode cX6_breaks 55 = .ok (.ifCond .eq 7, 3) := by decide +kernel
theorem dX6_breaks_58 : decode cX6_breaks 58 = .ok (.iconst 1, 1) := by decide +kernel
theorem dX6_breaks_59 : decode cX6_breaks 59 = .ok (.goto 4, 3) := by decide +kernel
theorem dX6_breaks_62 : decode cX6_breaks 62 = .ok (.iconst 0, 1) := by decide +kernel
theorem dX6_breaks_63 : decode cX6_breaks 63 = .ok (.ireturn, 1) := by decide +kernel
theorem dX6_swapRow_0 : decode cX6_swapRow 0 = .ok (.aload_n 0, 1) := by decide +kernel
theorem dX6_swapRow_1 : decode cX6_swapRow 1 = .ok (.getfield 7, 3) := by decide +kernel
theorem dX6_swapRow_4 : decode cX6_swapRow 4 = .ok (.bipush 17, 2) := by decide +kernel
theorem dX6_swapRow_6 : decode cX6_swapRow 6 = .ok (.iload_n 1, 1) := by decide +kernel
theorem dX6_swapRow_7 : decode cX6_swapRow 7 = .ok (.iadd, 1) := by decide +kernel
theorem dX6_swapRow_8 : decode cX6_swapRow 8 = .ok (.iaload, 1) := by decide +kernel
theorem dX6_swapRow_9 : decode cX6_swapRow 9 = .ok (.istore_n 2, 1) := by decide +kernel
theorem dX6_swapRow_10 : decode cX6_swapRow 10 = .ok (.aload_n 0, 1) := by decide +kernel
theorem dX6_swapRow_11 : decode cX6_swapRow 11 = .ok (.getfield 7, 3) := by decide +kernel
theorem dX6_swapRow_14 : decode cX6_swapRow 14 = .ok (.bipush 17, 2) := by decide +kernel
theorem dX6_swapRow_16 : decode cX6_swapRow 16 = .ok (.iload_n 1, 1) := by decide +kernel
theorem dX6_swapRow_17 : decode cX6_swapRow 17 = .ok (.iadd, 1) := by decide +kernel
theorem dX6_swapRow_18 : decode cX6_swapRow 18 = .ok (.aload_n 0, 1) := by decide +kernel
theorem dX6_swapRow_19 : decode cX6_swapRow 19 = .ok (.getfield 7, 3) := by decide +kernel
theorem dX6_swapRow_22 : decode cX6_swapRow 22 = .ok (.bipush 17, 2) := by decide +kernel
theorem dX6_swapRow_24 : decode cX6_swapRow 24 = .ok (.iload_n 1, 1) := by decide +kernel
theorem dX6_swapRow_25 : decode cX6_swapRow 25 = .ok (.iadd, 1) := by decide +kernel
theorem dX6_swapRow_26 : decode cX6_swapRow 26 = .ok (.iconst 1, 1) := by decide +kernel
theorem dX6_swapRow_27 : decode cX6_swapRow 27 = .ok (.iadd, 1) := by decide +kernel
theorem dX6_swapRow_28 : decode cX6_swapRow 28 = .ok (.iaload, 1) := by decide +kernel
theorem dX6_swapRow_29 : decode cX6_swapRow 29 = .ok (.iastore, 1) := by decide +kernel
theorem dX6_swapRow_30 : decode cX6_swapRow 30 = .ok (.aload_n 0, 1) := by decide +kernel
theorem dX6_swapRow_31 : decode cX6_swapRow 31 = .ok (.getfield 7, 3) := by decide +kernel
theorem dX6_swapRow_34 : decode cX6_swapRow 34 = .ok (.bipush 17, 2) := by decide +kernel
theorem dX6_swapRow_36 : decode cX6_swapRow 36 = .ok (.iload_n 1, 1) := by decide +kernel
theorem dX6_swapRow_37 : decode cX6_swapRow 37 = .ok (.iadd, 1) := by decide +kernel
theorem dX6_swapRow_38 : decode cX6_swapRow 38 = .ok (.iconst 1, 1) := by decide +kernel
theorem dX6_swapRow_39 : decode cX6_swapRow 39 = .ok (.iadd, 1) := by decide +kernel
theorem dX6_swapRow_40 : decode cX6_swapRow 40 = .ok (.iload_n 2, 1) := by decide +kernel
theorem dX6_swapRow_41 : decode cX6_swapRow 41 = .ok (.iastore, 1) := by decide +kernel
theorem dX6_swapRow_42 : decode cX6_swapRow 42 = .ok (.return_, 1) := by decide +kernel
theorem dX6_rowBreaks_0 : decode cX6_rowBreaks 0 = .ok (.aload_n 0, 1) := by decide +kernel
theorem dX6_rowBreaks_1 : decode cX6_rowBreaks 1 = .ok (.invokevirtual 142, 3) := by decide +kernel
theorem dX6_rowBreaks_4 : decode cX6_rowBreaks 4 = .ok (.aload_n 0, 1) := by decide +kernel
theorem dX6_rowBreaks_5 : decode cX6_rowBreaks 5 = .ok (.invokevirtual 98, 3) := by decide +kernel
theorem dX6_rowBreaks_8 : decode cX6_rowBreaks 8 = .ok (.ireturn, 1) := by decide +kernel
theorem dX6_swap_0 : decode cX6_swap 0 = .ok (.iload_n 1, 1) := by decide +kernel
theorem dX6_swap_1 : decode cX6_swap 1 = .ok (.iconst 0, 1) := by decide +kernel
theorem dX6_swap_2 : decode cX6_swap 2 = .ok (.aload_n 0, 1) := by decide +kernel
theorem dX6_swap_3 : decode cX6_swap 3 = .ok (.getfield 7, 3) := by decide +kernel
theorem dX6_swap_6 : decode cX6_swap 6 = .ok (.iconst 0, 1) := by decide +kernel
theorem dX6_swap_7 : decode cX6_swap 7 = .ok (.iaload, 1) := by decide +kernel
theorem dX6_swap_8 : decode cX6_swap 8 = .ok (.iconst 2, 1) := by decide +kernel
theorem dX6_swap_9 : decode cX6_swap 9 = .ok (.isub, 1) := by decide +kernel
theorem dX6_swap_10 : decode cX6_swap 10 = .ok (.invokestatic 50, 3) := by decide +kernel
theorem dX6_swap_13 : decode cX6_swap 13 = .ok (.ifCond .ne 6, 3) := by decide +kernel
theorem dX6_swap_16 : decode cX6_swap 16 = .ok (.bipush (-2), 2) := by decide +kernel
theorem dX6_swap_18 : decode cX6_swap 18 = .ok (.ireturn, 1) := by decide +kernel
theorem dX6_swap_19 : decode cX6_swap 19 = .ok (.aload_n 0, 1) := by decide +kernel
theorem dX6_swap_20 : decode cX6_swap 20 = .ok (.iload_n 1, 1) := by decide +kernel
theorem dX6_swap_21 : decode cX6_swap 21 = .ok (.invokevirtual 145, 3) := by decide +kernel
theorem dX6_swap_24 : decode cX6_swap 24 = .ok (.aload_n 0, 1) := by decide +kernel
theorem dX6_swap_25 : decode cX6_swap 25 = .ok (.invokevirtual 148, 3) := by decide +kernel
theorem dX6_swap_28 : decode cX6_swap 28 = .ok (.ireturn, 1) := by decide +kernel
theorem dX6_makeBest_0 : decode cX6_makeBest 0 = .ok (.aload_n 0, 1) := by decide +kernel
theorem dX6_makeBest_1 : decode cX6_makeBest 1 = .ok (.invokevirtual 148, 3) := by decide +kernel
theorem dX6_makeBest_4 : decode cX6_makeBest 4 = .ok (.istore_n 1, 1) := by decide +kernel
theorem dX6_makeBest_5 : decode cX6_makeBest 5 = .ok (.bipush (-6), 2) := by decide +kernel
theorem dX6_makeBest_7 : decode cX6_makeBest 7 = .ok (.istore_n 2, 1) := by decide +kernel
theorem dX6_makeBest_8 : decode cX6_makeBest 8 = .ok (.iconst 0, 1) := by decide +kernel
theorem dX6_makeBest_9 : decode cX6_makeBest 9 = .ok (.istore_n 3, 1) := by decide +kernel
theorem dX6_makeBest_10 : decode cX6_makeBest 10 = .ok (.iload_n 3, 1) := by decide +kernel
theorem dX6_makeBest_11 : decode cX6_makeBest 11 = .ok (.aload_n 0, 1) := by decide +kernel
theorem dX6_makeBest_12 : decode cX6_makeBest 12 = .ok (.getfield 7, 3) := by decide +kernel
theorem dX6_makeBest_15 : decode cX6_makeBest 15 = .ok (.iconst 0, 1) := by decide +kernel
theorem dX6_makeBest_16 : decode cX6_makeBest 16 = .ok (.iaload, 1) := by decide +kernel
theorem dX6_makeBest_17 : decode cX6_makeBest 17 = .ok (.iconst 1, 1) := by decide +kernel
theorem dX6_makeBest_18 : decode cX6_makeBest 18 = .ok (.isub, 1) := by decide +kernel
theorem dX6_makeBest_19 : decode cX6_makeBest 19 = .ok (.if_icmp .ge 50, 3) := by decide +kernel
theorem dX6_makeBest_22 : decode cX6_makeBest 22 = .ok (.aload_n 0, 1) := by decide +kernel
theorem dX6_makeBest_23 : decode cX6_makeBest 23 = .ok (.iload_n 3, 1) := by decide +kernel
theorem dX6_makeBest_24 : decode cX6_makeBest 24 = .ok (.invokevirtual 145, 3) := by decide +kernel
theorem dX6_makeBest_27 : decode cX6_makeBest 27 = .ok (.aload_n 0, 1) := by decide +kernel
theorem dX6_makeBest_28 : decode cX6_makeBest 28 = .ok (.invokevirtual 148, 3) := by decide +kernel
theorem dX6_makeBest_31 : decode cX6_makeBest 31 = .ok (.istore 4, 2) := by decide +kernel
theorem dX6_makeBest_33 : decode cX6_makeBest 33 = .ok (.aload_n 0, 1) := by decide +kernel
theorem dX6_makeBest_34 : decode cX6_makeBest 34 = .ok (.iload_n 3, 1) := by decide +kernel
theorem dX6_makeBest_35 : decode cX6_makeBest 35 = .ok (.invokevirtual 145, 3) := by decide +kernel
theorem dX6_makeBest_38 : decode cX6_makeBest 38 = .ok (.iload 4, 2) := by decide +kernel
theorem dX6_makeBest_40 : decode cX6_makeBest 40 = .ok (.iload_n 1, 1) := by decide +kernel
theorem dX6_makeBest_41 : decode cX6_makeBest 41 = .ok (.if_icmp .ge 7, 3) := by decide +kernel
theorem dX6_makeBest_44 : decode cX6_makeBest 44 = .ok (.iload_n 3, 1) := by decide +kernel
theorem dX6_makeBest_45 : decode cX6_makeBest 45 = .ok (.goto 4, 3) := by decide +kernel
theorem dX6_makeBest_48 : decode cX6_makeBest 48 = .ok (.iload_n 2, 1) := by decide +kernel
theorem dX6_makeBest_49 : decode cX6_makeBest 49 = .ok (.istore_n 2, 1) := by decide +kernel
theorem dX6_makeBest_50 : decode cX6_makeBest 50 = .ok (.iload 4, 2) := by decide +kernel
theorem dX6_makeBest_52 : decode cX6_makeBest 52 = .ok (.iload_n 1, 1) := by decide +kernel
theorem dX6_makeBest_53 : decode cX6_makeBest 53 = .ok (.if_icmp .ge 8, 3) := by decide +kernel
theorem dX6_makeBest_56 : decode cX6_makeBest 56 = .ok (.iload 4, 2) := by decide +kernel
theorem dX6_makeBest_58 : decode cX6_makeBest 58 = .ok (.goto 4, 3) := by decide +kernel
theorem dX6_makeBest_61 : decode cX6_makeBest 61 = .ok (.iload_n 1, 1) := by decide +kernel
theorem dX6_makeBest_62 : decode cX6_makeBest 62 = .ok (.istore_n 1, 1) := by decide +kernel
theorem dX6_makeBest_63 : decode cX6_makeBest 63 = .ok (.iinc 3 1, 3) := by decide +kernel
theorem dX6_makeBest_66 : decode cX6_makeBest 66 = .ok (.goto (-56), 3) := by decide +kernel
theorem dX6_makeBest_69 : decode cX6_makeBest 69 = .ok (.iload_n 2, 1) := by decide +kernel
theorem dX6_makeBest_70 : decode cX6_makeBest 70 = .ok (.ifCond .lt 8, 3) := by decide +kernel
theorem dX6_makeBest_73 : decode cX6_makeBest 73 = .ok (.aload_n 0, 1) := by decide +kernel
theorem dX6_makeBest_74 : decode cX6_makeBest 74 = .ok (.iload_n 2, 1) := by decide +kernel
theorem dX6_makeBest_75 : decode cX6_makeBest 75 = .ok (.invokevirtual 145, 3) := by decide +kernel
theorem dX6_makeBest_78 : decode cX6_makeBest 78 = .ok (.iload_n 2, 1) := by decide +kernel
theorem dX6_makeBest_79 : decode cX6_makeBest 79 = .ok (.ireturn, 1) := by decide +kernel
theorem dX6_better_0 : decode cX6_better 0 = .ok (.aload_n 0, 1) := by decide +kernel
theorem dX6_better_1 : decode cX6_better 1 = .ok (.invokevirtual 151, 3) := by decide +kernel
theorem dX6_better_4 : decode cX6_better 4 = .ok (.ireturn, 1) := by decide +kernel
theorem dX6_climb_0 : decode cX6_climb 0 = .ok (.iconst 0, 1) := by decide +kernel
theorem dX6_climb_1 : decode cX6_climb 1 = .ok (.istore_n 1, 1) := by decide +kernel
theorem dX6_climb_2 : decode cX6_climb 2 = .ok (.aload_n 0, 1) := by decide +kernel
theorem dX6_climb_3 : decode cX6_climb 3 = .ok (.invokevirtual 151, 3) := by decide +kernel
theorem dX6_climb_6 : decode cX6_climb 6 = .ok (.ifCond .lt 9, 3) := by decide +kernel
theorem dX6_climb_9 : decode cX6_climb 9 = .ok (.iinc 1 1, 3) := by decide +kernel
theorem dX6_climb_12 : decode cX6_climb 12 = .ok (.goto (-10), 3) := by decide +kernel
theorem dX6_climb_15 : decode cX6_climb 15 = .ok (.iload_n 1, 1) := by decide +kernel
theorem dX6_climb_16 : decode cX6_climb 16 = .ok (.ireturn, 1) := by decide +kernel
theorem dX6_nearest_0 : decode cX6_nearest 0 = .ok (.iload_n 1, 1) := by decide +kernel
theorem dX6_nearest_1 : decode cX6_nearest 1 = .ok (.iconst (-1), 1) := by decide +kernel
theorem dX6_nearest_2 : decode cX6_nearest 2 = .ok (.aload_n 0, 1) := by decide +kernel
theorem dX6_nearest_3 : decode cX6_nearest 3 = .ok (.getfield 7, 3) := by decide +kernel
theorem dX6_nearest_6 : decode cX6_nearest 6 = .ok (.iconst 0, 1) := by decide +kernel
theorem dX6_nearest_7 : decode cX6_nearest 7 = .ok (.iaload, 1) := by decide +kernel
theorem dX6_nearest_8 : decode cX6_nearest 8 = .ok (.iconst 1, 1) := by decide +kernel
theorem dX6_nearest_9 : decode cX6_nearest 9 = .ok (.isub, 1) := by decide +kernel
theorem dX6_nearest_10 : decode cX6_nearest 10 = .ok (.invokestatic 50, 3) := by decide +kernel
theorem dX6_nearest_13 : decode cX6_nearest 13 = .ok (.ifCond .ne 6, 3) := by decide +kernel
theorem dX6_nearest_16 : decode cX6_nearest 16 = .ok (.bipush (-2), 2) := by decide +kernel
theorem dX6_nearest_18 : decode cX6_nearest 18 = .ok (.ireturn, 1) := by decide +kernel
theorem dX6_nearest_19 : decode cX6_nearest 19 = .ok (.aload_n 0, 1) := by decide +kernel
theorem dX6_nearest_20 : decode cX6_nearest 20 = .ok (.iconst 0, 1) := by decide +kernel
theorem dX6_nearest_21 : decode cX6_nearest 21 = .ok (.invokevirtual 132, 3) := by decide +kernel
theorem dX6_nearest_24 : decode cX6_nearest 24 = .ok (.aload_n 0, 1) := by decide +kernel
theorem dX6_nearest_25 : decode cX6_nearest 25 = .ok (.getfield 107, 3) := by decide +kernel
theorem dX6_nearest_28 : decode cX6_nearest 28 = .ok (.ifCond .ne 8, 3) := by decide +kernel
theorem dX6_nearest_31 : decode cX6_nearest 31 = .ok (.bipush (-6), 2) := by decide +kernel
theorem dX6_nearest_33 : decode cX6_nearest 33 = .ok (.goto 21, 3) := by decide +kernel
theorem dX6_nearest_36 : decode cX6_nearest 36 = .ok (.iload_n 1, 1) := by decide +kernel
theorem dX6_nearest_37 : decode cX6_nearest 37 = .ok (.iconst (-1), 1) := by decide +kernel
theorem dX6_nearest_38 : decode cX6_nearest 38 = .ok (.if_icmp .ne 10, 3) := by decide +kernel
theorem dX6_nearest_41 : decode cX6_nearest 41 = .ok (.aload_n 0, 1) := by decide +kernel
theorem dX6_nearest_42 : decode cX6_nearest 42 = .ok (.getfield 123, 3) := by decide +kernel
theorem dX6_nearest_45 : decode cX6_nearest 45 = .ok (.goto 9, 3) := by decide +kernel
theorem dX6_nearest_48 : decode cX6_nearest 48 = .ok (.aload_n 0, 1) := by decide +kernel
theorem dX6_nearest_49 : decode cX6_nearest 49 = .ok (.getfield 44, 3) := by decide +kernel
theorem dX6_nearest_52 : decode cX6_nearest 52 = .ok (.iload_n 1, 1) := by decide +kernel
theorem dX6_nearest_53 : decode cX6_nearest 53 = .ok (.iaload, 1) := by decide +kernel
theorem dX6_nearest_54 : decode cX6_nearest 54 = .ok (.ireturn, 1) := by decide +kernel
theorem dX6_settle_0 : decode cX6_settle 0 = .ok (.aload_n 0, 1) := by decide +kernel
theorem dX6_settle_1 : decode cX6_settle 1 = .ok (.iconst 0, 1) := by decide +kernel
theorem dX6_settle_2 : decode cX6_settle 2 = .ok (.invokevirtual 132, 3) := by decide +kernel
theorem dX6_settle_5 : decode cX6_settle 5 = .ok (.aload_n 0, 1) := by decide +kernel
theorem dX6_settle_6 : decode cX6_settle 6 = .ok (.getfield 107, 3) := by decide +kernel
theorem dX6_settle_9 : decode cX6_settle 9 = .ok (.ifCond .ne 6, 3) := by decide +kernel
theorem dX6_settle_12 : decode cX6_settle 12 = .ok (.bipush (-3), 2) := by decide +kernel
theorem dX6_settle_14 : decode cX6_settle 14 = .ok (.ireturn, 1) := by decide +kernel
theorem dX6_settle_15 : decode cX6_settle 15 = .ok (.iconst 0, 1) := by decide +kernel
theorem dX6_settle_16 : decode cX6_settle 16 = .ok (.istore_n 1, 1) := by decide +kernel
theorem dX6_settle_17 : decode cX6_settle 17 = .ok (.iload_n 1, 1) := by decide +kernel
theorem dX6_settle_18 : decode cX6_settle 18 = .ok (.aload_n 0, 1) := by decide +kernel
theorem dX6_settle_19 : decode cX6_settle 19 = .ok (.getfield 7, 3) := by decide +kernel
theorem dX6_settle_22 : decode cX6_settle 22 = .ok (.iconst 0, 1) := by decide +kernel
theorem dX6_settle_23 : decode cX6_settle 23 = .ok (.iaload, 1) := by decide +kernel
theorem dX6_settle_24 : decode cX6_settle 24 = .ok (.if_icmp .ge 24, 3) := by decide +kernel
theorem dX6_settle_27 : decode cX6_settle 27 = .ok (.aload_n 0, 1) := by decide +kernel
theorem dX6_settle_28 : decode cX6_settle 28 = .ok (.getfield 7, 3) := by decide +kernel
theorem dX6_settle_31 : decode cX6_settle 31 = .ok (.bipush 17, 2) := by decide +kernel
theorem dX6_settle_33 : decode cX6_settle 33 = .ok (.iload_n 1, 1) := by decide +kernel
theorem dX6_settle_34 : decode cX6_settle 34 = .ok (.iadd, 1) := by decide +kernel
theorem dX6_settle_35 : decode cX6_settle 35 = .ok (.aload_n 0, 1) := by decide +kernel
theorem dX6_settle_36 : decode cX6_settle 36 = .ok (.getfield 44, 3) := by decide +kernel
theorem dX6_settle_39 : decode cX6_settle 39 = .ok (.iload_n 1, 1) := by decide +kernel
theorem dX6_settle_40 : decode cX6_settle 40 = .ok (.iaload, 1) := by decide +kernel
theorem dX6_settle_41 : decode cX6_settle 41 = .ok (.iastore, 1) := by decide +kernel
theorem dX6_settle_42 : decode cX6_settle 42 = .ok (.iinc 1 1, 3) := by decide +kernel
theorem dX6_settle_45 : decode cX6_settle 45 = .ok (.goto (-28), 3) := by decide +kernel
theorem dX6_settle_48 : decode cX6_settle 48 = .ok (.aload_n 0, 1) := by decide +kernel
theorem dX6_settle_49 : decode cX6_settle 49 = .ok (.getfield 123, 3) := by decide +kernel
theorem dX6_settle_52 : decode cX6_settle 52 = .ok (.ireturn, 1) := by decide +kernel
theorem dX6_count_0 : decode cX6_count 0 = .ok (.iconst 0, 1) := by decide +kernel
theorem dX6_count_1 : decode cX6_count 1 = .ok (.istore_n 2, 1) := by decide +kernel
theorem dX6_count_2 : decode cX6_count 2 = .ok (.iconst 0, 1) := by decide +kernel
theorem dX6_count_3 : decode cX6_count 3 = .ok (.istore_n 3, 1) := by decide +kernel
theorem dX6_count_4 : decode cX6_count 4 = .ok (.iload_n 3, 1) := by decide +kernel
theorem dX6_count_5 : decode cX6_count 5 = .ok (.bipush 8, 2) := by decide +kernel
theorem dX6_count_7 : decode cX6_count 7 = .ok (.if_icmp .ge 23, 3) := by decide +kernel
theorem dX6_count_10 : decode cX6_count 10 = .ok (.iload_n 2, 1) := by decide +kernel
theorem dX6_count_11 : decode cX6_count 11 = .ok (.aload_n 0, 1) := by decide +kernel
theorem dX6_count_12 : decode cX6_count 12 = .ok (.getfield 7, 3) := by decide +kernel
theorem dX6_count_15 : decode cX6_count 15 = .ok (.iconst 1, 1) := by decide +kernel
theorem dX6_count_16 : decode cX6_count 16 = .ok (.iload_n 3, 1) := by decide +kernel
theorem dX6_count_17 : decode cX6_count 17 = .ok (.iadd, 1) := by decide +kernel
theorem dX6_count_18 : decode cX6_count 18 = .ok (.iaload, 1) := by decide +kernel
theorem dX6_count_19 : decode cX6_count 19 = .ok (.invokestatic 65, 3) := by decide +kernel
theorem dX6_count_22 : decode cX6_count 22 = .ok (.iadd, 1) := by decide +kernel
theorem dX6_count_23 : decode cX6_count 23 = .ok (.istore_n 2, 1) := by decide +kernel
theorem dX6_count_24 : decode cX6_count 24 = .ok (.iinc 3 1, 3) := by decide +kernel
theorem dX6_count_27 : decode cX6_count 27 = .ok (.goto (-23), 3) := by decide +kernel
theorem dX6_count_30 : decode cX6_count 30 = .ok (.iload_n 1, 1) := by decide +kernel
theorem dX6_count_31 : decode cX6_count 31 = .ok (.tableswitch 73 0 3 #[29, 36, 38, 43], 29) := by decide +kernel
theorem dX6_count_60 : decode cX6_count 60 = .ok (.aload_n 0, 1) := by decide +kernel
theorem dX6_count_61 : decode cX6_count 61 = .ok (.getfield 7, 3) := by decide +kernel
theorem dX6_count_64 : decode cX6_count 64 = .ok (.iconst 0, 1) := by decide +kernel
theorem dX6_count_65 : decode cX6_count 65 = .ok (.iaload, 1) := by decide +kernel
theorem dX6_count_66 : decode cX6_count 66 = .ok (.ireturn, 1) := by decide +kernel
theorem dX6_count_67 : decode cX6_count 67 = .ok (.iload_n 2, 1) := by decide +kernel
theorem dX6_count_68 : decode cX6_count 68 = .ok (.ireturn, 1) := by decide +kernel
theorem dX6_count_69 : decode cX6_count 69 = .ok (.aload_n 0, 1) := by decide +kernel
theorem dX6_count_70 : decode cX6_count 70 = .ok (.invokevirtual 69, 3) := by decide +kernel
theorem dX6_count_73 : decode cX6_count 73 = .ok (.ireturn, 1) := by decide +kernel
theorem dX6_count_74 : decode cX6_count 74 = .ok (.aload_n 0, 1) := by decide +kernel
theorem dX6_count_75 : decode cX6_count 75 = .ok (.getfield 16, 3) := by decide +kernel
theorem dX6_count_78 : decode cX6_count 78 = .ok (.iconst 0, 1) := by decide +kernel
theorem dX6_count_79 : decode cX6_count 79 = .ok (.baload, 1) := by decide +kernel
theorem dX6_count_80 : decode cX6_count 80 = .ok (.ifCond .eq 7, 3) := by decide +kernel
theorem dX6_count_83 : decode cX6_count 83 = .ok (.iconst 1, 1) := by decide +kernel
theorem dX6_count_84 : decode cX6_count 84 = .ok (.goto 4, 3) := by decide +kernel
theorem dX6_count_87 : decode cX6_count 87 = .ok (.iconst 0, 1) := by decide +kernel
theorem dX6_count_88 : decode cX6_count 88 = .ok (.aload_n 0, 1) := by decide +kernel
theorem dX6_count_89 : decode cX6_count 89 = .ok (.getfield 16, 3) := by decide +kernel
theorem dX6_count_92 : decode cX6_count 92 = .ok (.iconst 1, 1) := by decide +kernel
theorem dX6_count_93 : decode cX6_count 93 = .ok (.baload, 1) := by decide +kernel
theorem dX6_count_94 : decode cX6_count 94 = .ok (.ifCond .eq 7, 3) := by decide +kernel
theorem dX6_count_97 : decode cX6_count 97 = .ok (.iconst 2, 1) := by decide +kernel
theorem dX6_count_98 : decode cX6_count 98 = .ok (.goto 4, 3) := by decide +kernel
theorem dX6_count_101 : decode cX6_count 101 = .ok (.iconst 0, 1) := by decide +kernel
theorem dX6_count_102 : decode cX6_count 102 = .ok (.iadd, 1) := by decide +kernel
theorem dX6_count_103 : decode cX6_count 103 = .ok (.ireturn, 1) := by decide +kernel
theorem dX6_count_104 : decode cX6_count 104 = .ok (.bipush (-2), 2) := by decide +kernel
theorem dX6_count_106 : decode cX6_count 106 = .ok (.ireturn, 1) := by decide +kernel
theorem dX6_image_0 : decode cX6_image 0 = .ok (.iload_n 1, 1) := by decide +kernel
theorem dX6_image_1 : decode cX6_image 1 = .ok (.iconst 0, 1) := by decide +kernel
theorem dX6_image_2 : decode cX6_image 2 = .ok (.iconst 1, 1) := by decide +kernel
theorem dX6_image_3 : decode cX6_image 3 = .ok (.invokestatic 50, 3) := by decide +kernel
theorem dX6_image_6 : decode cX6_image 6 = .ok (.ifCond .ne 6, 3) := by decide +kernel
theorem dX6_image_9 : decode cX6_image 9 = .ok (.bipush (-2), 2) := by decide +kernel
theorem dX6_image_11 : decode cX6_image 11 = .ok (.ireturn, 1) := by decide +kernel
theorem dX6_image_12 : decode cX6_image 12 = .ok (.iconst 0, 1) := by decide +kernel
theorem dX6_image_13 : decode cX6_image 13 = .ok (.istore_n 2, 1) := by decide +kernel
theorem dX6_image_14 : decode cX6_image 14 = .ok (.iload_n 2, 1) := by decide +kernel
theorem dX6_image_15 : decode cX6_image 15 = .ok (.bipush 25, 2) := by decide +kernel
theorem dX6_image_17 : decode cX6_image 17 = .ok (.if_icmp .ge 26, 3) := by decide +kernel
theorem dX6_image_20 : decode cX6_image 20 = .ok (.aload_n 0, 1) := by decide +kernel
theorem dX6_image_21 : decode cX6_image 21 = .ok (.getfield 13, 3) := by decide +kernel
theorem dX6_image_24 : decode cX6_image 24 = .ok (.bipush 25, 2) := by decide +kernel
theorem dX6_image_26 : decode cX6_image 26 = .ok (.iload_n 1, 1) := by decide +kernel
theorem dX6_image_27 : decode cX6_image 27 = .ok (.imul, 1) := by decide +kernel
theorem dX6_image_28 : decode cX6_image 28 = .ok (.iload_n 2, 1) := by decide +kernel
theorem dX6_image_29 : decode cX6_image 29 = .ok (.iadd, 1) := by decide +kernel
theorem dX6_image_30 : decode cX6_image 30 = .ok (.aload_n 0, 1) := by decide +kernel
theorem dX6_image_31 : decode cX6_image 31 = .ok (.getfield 7, 3) := by decide +kernel
theorem dX6_image_34 : decode cX6_image 34 = .ok (.iload_n 2, 1) := by decide +kernel
theorem dX6_image_35 : decode cX6_image 35 = .ok (.iaload, 1) := by decide +kernel
theorem dX6_image_36 : decode cX6_image 36 = .ok (.iastore, 1) := by decide +kernel
theorem dX6_image_37 : decode cX6_image 37 = .ok (.iinc 2 1, 3) := by decide +kernel
theorem dX6_image_40 : decode cX6_image 40 = .ok (.goto (-26), 3) := by decide +kernel
theorem dX6_image_43 : decode cX6_image 43 = .ok (.aload_n 0, 1) := by decide +kernel
theorem dX6_image_44 : decode cX6_image 44 = .ok (.getfield 16, 3) := by decide +kernel
theorem dX6_image_47 : decode cX6_image 47 = .ok (.iload_n 1, 1) := by decide +kernel
theorem dX6_image_48 : decode cX6_image 48 = .ok (.iconst 1, 1) := by decide +kernel
theorem dX6_image_49 : decode cX6_image 49 = .ok (.bastore, 1) := by decide +kernel
theorem dX6_image_50 : decode cX6_image 50 = .ok (.iconst 1, 1) := by decide +kernel
theorem dX6_image_51 : decode cX6_image 51 = .ok (.ireturn, 1) := by decide +kernel
theorem dX6_restore_0 : decode cX6_restore 0 = .ok (.iload_n 1, 1) := by decide +kernel
theorem dX6_restore_1 : decode cX6_restore 1 = .ok (.iconst 0, 1) := by decide +kernel
theorem dX6_restore_2 : decode cX6_restore 2 = .ok (.iconst 1, 1) := by decide +kernel
theorem dX6_restore_3 : decode cX6_restore 3 = .ok (.invokestatic 50, 3) := by decide +kernel
theorem dX6_restore_6 : decode cX6_restore 6 = .ok (.ifCond .ne 6, 3) := by decide +kernel
theorem dX6_restore_9 : decode cX6_restore 9 = .ok (.bipush (-2), 2) := by decide +kernel
theorem dX6_restore_11 : decode cX6_restore 11 = .ok (.ireturn, 1) := by decide +kernel
theorem dX6_restore_12 : decode cX6_restore 12 = .ok (.aload_n 0, 1) := by decide +kernel
theorem dX6_restore_13 : decode cX6_restore 13 = .ok (.getfield 16, 3) := by decide +kernel
theorem dX6_restore_16 : decode cX6_restore 16 = .ok (.iload_n 1, 1) := by decide +kernel
theorem dX6_restore_17 : decode cX6_restore 17 = .ok (.baload, 1) := by decide +kernel
theorem dX6_restore_18 : decode cX6_restore 18 = .ok (.ifCond .ne 6, 3) := by decide +kernel
theorem dX6_restore_21 : decode cX6_restore 21 = .ok (.bipush (-3), 2) := by decide +kernel
theorem dX6_restore_23 : decode cX6_restore 23 = .ok (.ireturn, 1) := by decide +kernel
theorem dX6_restore_24 : decode cX6_restore 24 = .ok (.iconst 0, 1) := by decide +kernel
theorem dX6_restore_25 : decode cX6_restore 25 = .ok (.istore_n 2, 1) := by decide +kernel
theorem dX6_restore_26 : decode cX6_restore 26 = .ok (.iload_n 2, 1) := by decide +kernel
theorem dX6_restore_27 : decode cX6_restore 27 = .ok (.bipush 25, 2) := by decide +kernel
theorem dX6_restore_29 : decode cX6_restore 29 = .ok (.if_icmp .ge 26, 3) := by decide +kernel
theorem dX6_restore_32 : decode cX6_restore 32 = .ok (.aload_n 0, 1) := by decide +kernel
theorem dX6_restore_33 : decode cX6_restore 33 = .ok (.getfield 7, 3) := by decide +kernel
theorem dX6_restore_36 : decode cX6_restore 36 = .ok (.iload_n 2, 1) := by decide +kernel
theorem dX6_restore_37 : decode cX6_restore 37 = .ok (.aload_n 0, 1) := by decide +kernel
theorem dX6_restore_38 : decode cX6_restore 38 = .ok (.getfield 13, 3) := by decide +kernel
theorem dX6_restore_41 : decode cX6_restore 41 = .ok (.bipush 25, 2) := by decide +kernel
theorem dX6_restore_43 : decode cX6_restore 43 = .ok (.iload_n 1, 1) := by decide +kernel
theorem dX6_restore_44 : decode cX6_restore 44 = .ok (.imul, 1) := by decide +kernel
theorem dX6_restore_45 : decode cX6_restore 45 = .ok (.iload_n 2, 1) := by decide +kernel
theorem dX6_restore_46 : decode cX6_restore 46 = .ok (.iadd, 1) := by decide +kernel
theorem dX6_restore_47 : decode cX6_restore 47 = .ok (.iaload, 1) := by decide +kernel
theorem dX6_restore_48 : decode cX6_restore 48 = .ok (.iastore, 1) := by decide +kernel
theorem dX6_restore_49 : decode cX6_restore 49 = .ok (.iinc 2 1, 3) := by decide +kernel
theorem dX6_restore_52 : decode cX6_restore 52 = .ok (.goto (-26), 3) := by decide +kernel
theorem dX6_restore_55 : decode cX6_restore 55 = .ok (.aload_n 0, 1) := by decide +kernel
theorem dX6_restore_56 : decode cX6_restore 56 = .ok (.iconst 0, 1) := by decide +kernel
theorem dX6_restore_57 : decode cX6_restore 57 = .ok (.putfield 54, 3) := by decide +kernel
theorem dX6_restore_60 : decode cX6_restore 60 = .ok (.iconst 1, 1) := by decide +kernel
theorem dX6_restore_61 : decode cX6_restore 61 = .ok (.ireturn, 1) := by decide +kernel
end
section
/-! numbers of the layer, and the two layouts -/
theorem ic_m1 : Int32.ofInt (-1) = (-1 : Int32) := by decide +kernel
theorem ic_0 : Int32.ofInt (0) = nI 0 := by decide +kernel
theorem ic_1 : Int32.ofInt (1) = nI 1 := by decide +kernel
theorem ic_2 : Int32.ofInt (2) = nI 2 := by decide +kernel
theorem ic_3 : Int32.ofInt (3) = nI 3 := by decide +kernel
theorem ic_4 : Int32.ofInt (4) = nI 4 := by decide +kernel
theorem bp_m6 : (Int8.ofInt (-6)).toInt32 = (-6 : Int32) := by decide +kernel
theorem bp_m3 : (Int8.ofInt (-3)).toInt32 = (-3 : Int32) := by decide +kernel
theorem bp_m2 : (Int8.ofInt (-2)).toInt32 = (-2 : Int32) := by decide +kernel
theorem bp_8 : (Int8.ofInt (8)).toInt32 = nI 8 := by decide +kernel
theorem bp_9 : (Int8.ofInt (9)).toInt32 = nI 9 := by decide +kernel
theorem bp_10 : (Int8.ofInt (10)).toInt32 = nI 10 := by decide +kernel
theorem bp_16 : (Int8.ofInt (16)).toInt32 = nI 16 := by decide +kernel
theorem bp_17 : (Int8.ofInt (17)).toInt32 = nI 17 := by decide +kernel
theorem bp_25 : (Int8.ofInt (25)).toInt32 = nI 25 := by decide +kernel
theorem bp_31 : (Int8.ofInt (31)).toInt32 = nI 31 := by decide +kernel
theorem bp_50 : (Int8.ofInt (50)).toInt32 = nI 50 := by decide +kernel
theorem bp_63 : (Int8.ofInt (63)).toInt32 = nI 63 := by decide +kernel
theorem bp_64 : (Int8.ofInt (64)).toInt32 = nI 64 := by decide +kernel
theorem sp_256 : (Int16.ofInt (256)).toInt32 = nI 256 := by decide +kernel
theorem sp_1000 : (Int16.ofInt (1000)).toInt32 = nI 1000 := by decide +kernel
theorem sp_1023 : (Int16.ofInt (1023)).toInt32 = nI 1023 := by decide +kernel
theorem sp_2048 : (Int16.ofInt (2048)).toInt32 = nI 2048 := by decide +kernel
theorem inc_1 (a : Nat) : nI a + Int32.ofInt 1 = nI (a + 1) := by rw [← nI_add]; rfl
theorem inc_4 (a : Nat) : nI a + Int32.ofInt 4 = nI (a + 4) := by rw [← nI_add]; rfl
theorem dec_1 {a : Nat} (h : 1 ≤ a) : nI a + Int32.ofInt (-1) = nI (a - 1) := by
  obtain ⟨b, rfl⟩ : ∃ b, a = b + 1 := ⟨a - 1, by omega⟩
  exact pk_m1 b
theorem nI_and (a b : Nat) : nI a &&& nI b = nI (a &&& b) := by
  apply Int32.toBitVec_inj.mp
  show BitVec.ofNat 32 a &&& BitVec.ofNat 32 b = BitVec.ofNat 32 (a &&& b)
  apply BitVec.eq_of_getLsbD_eq
  intro i hi
  simp [BitVec.getLsbD_ofNat, hi]
theorem nI_or (a b : Nat) : nI a ||| nI b = nI (a ||| b) := by
  apply Int32.toBitVec_inj.mp
  show BitVec.ofNat 32 a ||| BitVec.ofNat 32 b = BitVec.ofNat 32 (a ||| b)
  apply BitVec.eq_of_getLsbD_eq
  intro i hi
  simp [BitVec.getLsbD_ofNat, hi]
theorem nI_xor (a b : Nat) : nI a ^^^ nI b = nI (a ^^^ b) := by
  apply Int32.toBitVec_inj.mp
  show BitVec.ofNat 32 a ^^^ BitVec.ofNat 32 b = BitVec.ofNat 32 (a ^^^ b)
  apply BitVec.eq_of_getLsbD_eq
  intro i hi
  simp [BitVec.getLsbD_ofNat, hi]
/-- what is in x and not in m -/
def nd (x m : Nat) : Nat := x ^^^ (x &&& m)
theorem nd_bit (x m i : Nat) : (nd x m).testBit i = (x.testBit i && !m.testBit i) := by
  simp [nd]; cases x.testBit i <;> cases m.testBit i <;> rfl
theorem nI_nd (x m : Nat) : nI x &&& (nI m ^^^ (-1)) = nI (nd x m) := by
  apply Int32.toBitVec_inj.mp
  show BitVec.ofNat 32 x &&& (BitVec.ofNat 32 m ^^^ BitVec.allOnes 32) = BitVec.ofNat 32 (nd x m)
  rw [BitVec.xor_allOnes]
  apply BitVec.eq_of_getLsbD_eq
  intro i hi
  simp only [BitVec.getLsbD_and, BitVec.getLsbD_not, BitVec.getLsbD_ofNat, nd_bit]
  simp [hi]
theorem sh31 : ∀ s : Nat, s < 32 → ((nI s &&& 31).toBitVec.smod 32).toNat = s := by decide +kernel
theorem nI_shl (a : Nat) {s : Nat} (h : s < 32) : nI a <<< (nI s &&& 31) = nI (a <<< s) := by
  apply Int32.toBitVec_inj.mp
  apply BitVec.eq_of_toNat_eq
  rw [pk_shl _ _ s (sh31 s h)]
  show (BitVec.ofNat 32 a).toNat * 2 ^ s % 2 ^ 32 = (BitVec.ofNat 32 (a <<< s)).toNat
  rw [BitVec.toNat_ofNat, BitVec.toNat_ofNat, Nat.shiftLeft_eq, Nat.mod_mul_mod]
theorem nI_shr {a s : Nat} (ha : a < 2 ^ 31) (h : s < 32) : nI a >>> (nI s &&& 31) = nI (a >>> s) := by
  rw [pk_shrN ha _ s (sh31 s h), Nat.shiftRight_eq_div_pow]
theorem narZ {x : Int32} (h : x = nI 0 ∨ x = nI 1) : narrow .boolean (.int x) = .int x := by rcases h with rfl | rfl <;> rfl
theorem fitZ {x : Int32} (h : x = nI 0 ∨ x = nI 1) : fits .boolean (.int x) = true := by rcases h with rfl | rfl <;> rfl
section XN
variable {Λ : xLay} {μ : xM} {d : Nat} {Q : Option Value → xMem → Prop} {pc : Nat} {ls st : List Value} {I : xMem} {off : Int} {tgt : Nat}
theorem x_icmpn_eq {a b : Nat} (ha : a < 2 ^ 31) (hb : b < 2 ^ 31) (hd : decode μ.2.1 pc = .ok (.if_icmp .eq off, 3)) (ht : (pc : Int) + off = (tgt : Int)) (kt : a = b → Wx Λ μ d Q tgt ls st I) (kf : a ≠ b → Wx Λ μ d Q (pc + 3) ls st I) : Wx Λ μ d Q pc ls (.int (nI b) :: .int (nI a) :: st) I :=
  x_icmp_eq hd ht (fun h => kt (by have e1 := nI_eq ha hb; have e2 := nI_leI ha hb; have e3 := nI_ltI ha hb; have e4 := nI_leI hb ha; have e5 := nI_ltI hb ha; simp only [e1, e2, e3, e4, e5] at h; first | omega | trivial)) (fun h => kf (by have e1 := nI_eq ha hb; have e2 := nI_leI ha hb; have e3 := nI_ltI ha hb; have e4 := nI_leI hb ha; have e5 := nI_ltI hb ha; simp only [e1, e2, e3, e4, e5] at h; first | omega | trivial))
theorem x_icmpn_ne {a b : Nat} (ha : a < 2 ^ 31) (hb : b < 2 ^ 31) (hd : decode μ.2.1 pc = .ok (.if_icmp .ne off, 3)) (ht : (pc : Int) + off = (tgt : Int)) (kt : a ≠ b → Wx Λ μ d Q tgt ls st I) (kf : a = b → Wx Λ μ d Q (pc + 3) ls st I) : Wx Λ μ d Q pc ls (.int (nI b) :: .int (nI a) :: st) I :=
  x_icmp_ne hd ht (fun h => kt (by have e1 := nI_eq ha hb; have e2 := nI_leI ha hb; have e3 := nI_ltI ha hb; have e4 := nI_leI hb ha; have e5 := nI_ltI hb ha; simp only [e1, e2, e3, e4, e5] at h; first | omega | trivial)) (fun h => kf (by have e1 := nI_eq ha hb; have e2 := nI_leI ha hb; have e3 := nI_ltI ha hb; have e4 := nI_leI hb ha; have e5 := nI_ltI hb ha; simp only [e1, e2, e3, e4, e5] at h; first | omega | trivial))
theorem x_icmpn_lt {a b : Nat} (ha : a < 2 ^ 31) (hb : b < 2 ^ 31) (hd : decode μ.2.1 pc = .ok (.if_icmp .lt off, 3)) (ht : (pc : Int) + off = (tgt : Int)) (kt : a < b → Wx Λ μ d Q tgt ls st I) (kf : b ≤ a → Wx Λ μ d Q (pc + 3) ls st I) : Wx Λ μ d Q pc ls (.int (nI b) :: .int (nI a) :: st) I :=
  x_icmp_lt hd ht (fun h => kt (by have e1 := nI_eq ha hb; have e2 := nI_leI ha hb; have e3 := nI_ltI ha hb; have e4 := nI_leI hb ha; have e5 := nI_ltI hb ha; simp only [e1, e2, e3, e4, e5] at h; first | omega | trivial)) (fun h => kf (by have e1 := nI_eq ha hb; have e2 := nI_leI ha hb; have e3 := nI_ltI ha hb; have e4 := nI_leI hb ha; have e5 := nI_ltI hb ha; simp only [e1, e2, e3, e4, e5] at h; first | omega | trivial))
theorem x_icmpn_ge {a b : Nat} (ha : a < 2 ^ 31) (hb : b < 2 ^ 31) (hd : decode μ.2.1 pc = .ok (.if_icmp .ge off, 3)) (ht : (pc : Int) + off = (tgt : Int)) (kt : b ≤ a → Wx Λ μ d Q tgt ls st I) (kf : a < b → Wx Λ μ d Q (pc + 3) ls st I) : Wx Λ μ d Q pc ls (.int (nI b) :: .int (nI a) :: st) I :=
  x_icmp_ge hd ht (fun h => kt (by have e1 := nI_eq ha hb; have e2 := nI_leI ha hb; have e3 := nI_ltI ha hb; have e4 := nI_leI hb ha; have e5 := nI_ltI hb ha; simp only [e1, e2, e3, e4, e5] at h; first | omega | trivial)) (fun h => kf (by have e1 := nI_eq ha hb; have e2 := nI_leI ha hb; have e3 := nI_ltI ha hb; have e4 := nI_leI hb ha; have e5 := nI_ltI hb ha; simp only [e1, e2, e3, e4, e5] at h; first | omega | trivial))
theorem x_icmpn_gt {a b : Nat} (ha : a < 2 ^ 31) (hb : b < 2 ^ 31) (hd : decode μ.2.1 pc = .ok (.if_icmp .gt off, 3)) (ht : (pc : Int) + off = (tgt : Int)) (kt : b < a → Wx Λ μ d Q tgt ls st I) (kf : a ≤ b → Wx Λ μ d Q (pc + 3) ls st I) : Wx Λ μ d Q pc ls (.int (nI b) :: .int (nI a) :: st) I :=
  x_icmp_gt hd ht (fun h => kt (by have e1 := nI_eq ha hb; have e2 := nI_leI ha hb; have e3 := nI_ltI ha hb; have e4 := nI_leI hb ha; have e5 := nI_ltI hb ha; simp only [e1, e2, e3, e4, e5] at h; first | omega | trivial)) (fun h => kf (by have e1 := nI_eq ha hb; have e2 := nI_leI ha hb; have e3 := nI_ltI ha hb; have e4 := nI_leI hb ha; have e5 := nI_ltI hb ha; simp only [e1, e2, e3, e4, e5] at h; first | omega | trivial))
theorem x_icmpn_le {a b : Nat} (ha : a < 2 ^ 31) (hb : b < 2 ^ 31) (hd : decode μ.2.1 pc = .ok (.if_icmp .le off, 3)) (ht : (pc : Int) + off = (tgt : Int)) (kt : a ≤ b → Wx Λ μ d Q tgt ls st I) (kf : b < a → Wx Λ μ d Q (pc + 3) ls st I) : Wx Λ μ d Q pc ls (.int (nI b) :: .int (nI a) :: st) I :=
  x_icmp_le hd ht (fun h => kt (by have e1 := nI_eq ha hb; have e2 := nI_leI ha hb; have e3 := nI_ltI ha hb; have e4 := nI_leI hb ha; have e5 := nI_ltI hb ha; simp only [e1, e2, e3, e4, e5] at h; first | omega | trivial)) (fun h => kf (by have e1 := nI_eq ha hb; have e2 := nI_leI ha hb; have e3 := nI_ltI ha hb; have e4 := nI_leI hb ha; have e5 := nI_ltI hb ha; simp only [e1, e2, e3, e4, e5] at h; first | omega | trivial))
theorem x_ifn_eq {a : Nat} (ha : a < 2 ^ 31) (hd : decode μ.2.1 pc = .ok (.ifCond .eq off, 3)) (ht : (pc : Int) + off = (tgt : Int)) (kt : a = 0 → Wx Λ μ d Q tgt ls st I) (kf : a ≠ 0 → Wx Λ μ d Q (pc + 3) ls st I) : Wx Λ μ d Q pc ls (.int (nI a) :: st) I :=
  x_if_eq hd ht (fun h => kt (by have e0 : (0 : Int32) = nI 0 := nI_0.symm; rw [e0] at h; have e1 := nI_eq ha (by decide : 0 < 2 ^ 31); have e2 := nI_leI ha (by decide : 0 < 2 ^ 31); have e3 := nI_ltI ha (by decide : 0 < 2 ^ 31); have e4 := nI_leI (by decide : 0 < 2 ^ 31) ha; have e5 := nI_ltI (by decide : 0 < 2 ^ 31) ha; simp only [e1, e2, e3, e4, e5] at h; first | omega | trivial)) (fun h => kf (by have e0 : (0 : Int32) = nI 0 := nI_0.symm; rw [e0] at h; have e1 := nI_eq ha (by decide : 0 < 2 ^ 31); have e2 := nI_leI ha (by decide : 0 < 2 ^ 31); have e3 := nI_ltI ha (by decide : 0 < 2 ^ 31); have e4 := nI_leI (by decide : 0 < 2 ^ 31) ha; have e5 := nI_ltI (by decide : 0 < 2 ^ 31) ha; simp only [e1, e2, e3, e4, e5] at h; first | omega | trivial))
theorem x_ifn_ne {a : Nat} (ha : a < 2 ^ 31) (hd : decode μ.2.1 pc = .ok (.ifCond .ne off, 3)) (ht : (pc : Int) + off = (tgt : Int)) (kt : a ≠ 0 → Wx Λ μ d Q tgt ls st I) (kf : a = 0 → Wx Λ μ d Q (pc + 3) ls st I) : Wx Λ μ d Q pc ls (.int (nI a) :: st) I :=
  x_if_ne hd ht (fun h => kt (by have e0 : (0 : Int32) = nI 0 := nI_0.symm; rw [e0] at h; have e1 := nI_eq ha (by decide : 0 < 2 ^ 31); have e2 := nI_leI ha (by decide : 0 < 2 ^ 31); have e3 := nI_ltI ha (by decide : 0 < 2 ^ 31); have e4 := nI_leI (by decide : 0 < 2 ^ 31) ha; have e5 := nI_ltI (by decide : 0 < 2 ^ 31) ha; simp only [e1, e2, e3, e4, e5] at h; first | omega | trivial)) (fun h => kf (by have e0 : (0 : Int32) = nI 0 := nI_0.symm; rw [e0] at h; have e1 := nI_eq ha (by decide : 0 < 2 ^ 31); have e2 := nI_leI ha (by decide : 0 < 2 ^ 31); have e3 := nI_ltI ha (by decide : 0 < 2 ^ 31); have e4 := nI_leI (by decide : 0 < 2 ^ 31) ha; have e5 := nI_ltI (by decide : 0 < 2 ^ 31) ha; simp only [e1, e2, e3, e4, e5] at h; first | omega | trivial))
theorem x_ifn_lt {a : Nat} (ha : a < 2 ^ 31) (hd : decode μ.2.1 pc = .ok (.ifCond .lt off, 3)) (ht : (pc : Int) + off = (tgt : Int)) (kt : False → Wx Λ μ d Q tgt ls st I) (kf : True → Wx Λ μ d Q (pc + 3) ls st I) : Wx Λ μ d Q pc ls (.int (nI a) :: st) I :=
  x_if_lt hd ht (fun h => kt (by have e0 : (0 : Int32) = nI 0 := nI_0.symm; rw [e0] at h; have e1 := nI_eq ha (by decide : 0 < 2 ^ 31); have e2 := nI_leI ha (by decide : 0 < 2 ^ 31); have e3 := nI_ltI ha (by decide : 0 < 2 ^ 31); have e4 := nI_leI (by decide : 0 < 2 ^ 31) ha; have e5 := nI_ltI (by decide : 0 < 2 ^ 31) ha; simp only [e1, e2, e3, e4, e5] at h; first | omega | trivial)) (fun h => kf (by have e0 : (0 : Int32) = nI 0 := nI_0.symm; rw [e0] at h; have e1 := nI_eq ha (by decide : 0 < 2 ^ 31); have e2 := nI_leI ha (by decide : 0 < 2 ^ 31); have e3 := nI_ltI ha (by decide : 0 < 2 ^ 31); have e4 := nI_leI (by decide : 0 < 2 ^ 31) ha; have e5 := nI_ltI (by decide : 0 < 2 ^ 31) ha; simp only [e1, e2, e3, e4, e5] at h; first | omega | trivial))
theorem x_ifn_ge {a : Nat} (ha : a < 2 ^ 31) (hd : decode μ.2.1 pc = .ok (.ifCond .ge off, 3)) (ht : (pc : Int) + off = (tgt : Int)) (kt : True → Wx Λ μ d Q tgt ls st I) (kf : False → Wx Λ μ d Q (pc + 3) ls st I) : Wx Λ μ d Q pc ls (.int (nI a) :: st) I :=
  x_if_ge hd ht (fun h => kt (by have e0 : (0 : Int32) = nI 0 := nI_0.symm; rw [e0] at h; have e1 := nI_eq ha (by decide : 0 < 2 ^ 31); have e2 := nI_leI ha (by decide : 0 < 2 ^ 31); have e3 := nI_ltI ha (by decide : 0 < 2 ^ 31); have e4 := nI_leI (by decide : 0 < 2 ^ 31) ha; have e5 := nI_ltI (by decide : 0 < 2 ^ 31) ha; simp only [e1, e2, e3, e4, e5] at h; first | omega | trivial)) (fun h => kf (by have e0 : (0 : Int32) = nI 0 := nI_0.symm; rw [e0] at h; have e1 := nI_eq ha (by decide : 0 < 2 ^ 31); have e2 := nI_leI ha (by decide : 0 < 2 ^ 31); have e3 := nI_ltI ha (by decide : 0 < 2 ^ 31); have e4 := nI_leI (by decide : 0 < 2 ^ 31) ha; have e5 := nI_ltI (by decide : 0 < 2 ^ 31) ha; simp only [e1, e2, e3, e4, e5] at h; first | omega | trivial))
theorem x_ifn_gt {a : Nat} (ha : a < 2 ^ 31) (hd : decode μ.2.1 pc = .ok (.ifCond .gt off, 3)) (ht : (pc : Int) + off = (tgt : Int)) (kt : 0 < a → Wx Λ μ d Q tgt ls st I) (kf : a = 0 → Wx Λ μ d Q (pc + 3) ls st I) : Wx Λ μ d Q pc ls (.int (nI a) :: st) I :=
  x_if_gt hd ht (fun h => kt (by have e0 : (0 : Int32) = nI 0 := nI_0.symm; rw [e0] at h; have e1 := nI_eq ha (by decide : 0 < 2 ^ 31); have e2 := nI_leI ha (by decide : 0 < 2 ^ 31); have e3 := nI_ltI ha (by decide : 0 < 2 ^ 31); have e4 := nI_leI (by decide : 0 < 2 ^ 31) ha; have e5 := nI_ltI (by decide : 0 < 2 ^ 31) ha; simp only [e1, e2, e3, e4, e5] at h; first | omega | trivial)) (fun h => kf (by have e0 : (0 : Int32) = nI 0 := nI_0.symm; rw [e0] at h; have e1 := nI_eq ha (by decide : 0 < 2 ^ 31); have e2 := nI_leI ha (by decide : 0 < 2 ^ 31); have e3 := nI_ltI ha (by decide : 0 < 2 ^ 31); have e4 := nI_leI (by decide : 0 < 2 ^ 31) ha; have e5 := nI_ltI (by decide : 0 < 2 ^ 31) ha; simp only [e1, e2, e3, e4, e5] at h; first | omega | trivial))
theorem x_ifn_le {a : Nat} (ha : a < 2 ^ 31) (hd : decode μ.2.1 pc = .ok (.ifCond .le off, 3)) (ht : (pc : Int) + off = (tgt : Int)) (kt : a = 0 → Wx Λ μ d Q tgt ls st I) (kf : 0 < a → Wx Λ μ d Q (pc + 3) ls st I) : Wx Λ μ d Q pc ls (.int (nI a) :: st) I :=
  x_if_le hd ht (fun h => kt (by have e0 : (0 : Int32) = nI 0 := nI_0.symm; rw [e0] at h; have e1 := nI_eq ha (by decide : 0 < 2 ^ 31); have e2 := nI_leI ha (by decide : 0 < 2 ^ 31); have e3 := nI_ltI ha (by decide : 0 < 2 ^ 31); have e4 := nI_leI (by decide : 0 < 2 ^ 31) ha; have e5 := nI_ltI (by decide : 0 < 2 ^ 31) ha; simp only [e1, e2, e3, e4, e5] at h; first | omega | trivial)) (fun h => kf (by have e0 : (0 : Int32) = nI 0 := nI_0.symm; rw [e0] at h; have e1 := nI_eq ha (by decide : 0 < 2 ^ 31); have e2 := nI_leI ha (by decide : 0 < 2 ^ 31); have e3 := nI_ltI ha (by decide : 0 < 2 ^ 31); have e4 := nI_leI (by decide : 0 < 2 ^ 31) ha; have e5 := nI_ltI (by decide : 0 < 2 ^ 31) ha; simp only [e1, e2, e3, e4, e5] at h; first | omega | trivial))
theorem bz {b : Bool} : nI b.toNat = 0 ↔ b = false := by cases b <;> decide +kernel
theorem x_ifb_eq {b : Bool} (hd : decode μ.2.1 pc = .ok (.ifCond .eq off, 3)) (ht : (pc : Int) + off = (tgt : Int)) (kt : b = false → Wx Λ μ d Q tgt ls st I) (kf : b = true → Wx Λ μ d Q (pc + 3) ls st I) : Wx Λ μ d Q pc ls (.int (nI b.toNat) :: st) I :=
  x_if_eq hd ht (fun h => kt (bz.mp h)) (fun h => kf (by cases b with | true => rfl | false => exact absurd (bz.mpr rfl) h))
theorem x_ifb_ne {b : Bool} (hd : decode μ.2.1 pc = .ok (.ifCond .ne off, 3)) (ht : (pc : Int) + off = (tgt : Int)) (kt : b = true → Wx Λ μ d Q tgt ls st I) (kf : b = false → Wx Λ μ d Q (pc + 3) ls st I) : Wx Λ μ d Q pc ls (.int (nI b.toNat) :: st) I :=
  x_if_ne hd ht (fun h => kt (by cases b with | true => rfl | false => exact absurd (bz.mpr rfl) h)) (fun h => kf (bz.mp (by first | exact h | exact Classical.not_not.mp h)))
theorem bz01 (b : Bool) : nI b.toNat = 0 ∨ nI b.toNat = 1 := by cases b <;> decide +kernel
theorem bzn (b : Bool) : nI b.toNat = nI 0 ∨ nI b.toNat = nI 1 := by cases b <;> decide +kernel
theorem x_zretb {P : Int32 → xMem → Prop} {b : Bool} (hd : decode μ.2.1 pc = .ok (.ireturn, 1)) (hr : μ.2.2.2 = some .boolean) (hq : P (nI b.toNat) I) : Wx Λ μ d (xRi P) pc ls [.int (nI b.toNat)] I := x_zreti hd hr (bz01 b) hq
end XN
/-- the class's cells: 0 the object; 1, 6, 10 the digs (held, later, line behind each); 5 the row of images; 14 BestOrders with its rows; 22, 24 the costs -/
def LX : xLay := (26, fun k => match k with
  | 0 => .inr (.inl (4, [some 1, some 5, none, some 14, none, none]))
  | 1 => .inr (.inl (1, [none, some 2, some 3, some 4]))
  | 2 => .inl (0, 8)
  | 3 => .inl (0, 8)
  | 4 => .inl (0, 8)
  | 5 => .inr (.inr (2, 2, fun j => if j = 0 then some 6 else some 10))
  | 6 => .inr (.inl (1, [none, some 7, some 8, some 9]))
  | 7 => .inl (0, 8)
  | 8 => .inl (0, 8)
  | 9 => .inl (0, 8)
  | 10 => .inr (.inl (1, [none, some 11, some 12, some 13]))
  | 11 => .inl (0, 8)
  | 12 => .inl (0, 8)
  | 13 => .inl (0, 8)
  | 14 => .inr (.inl (0, [none, none, none, none, none, some 15, some 16, some 17, some 18, some 19, some 20, some 21, some 22, some 24]))
  | 15 => .inl (0, 2048)
  | 16 => .inl (0, 2048)
  | 17 => .inl (0, 2048)
  | 18 => .inl (0, 2048)
  | 19 => .inl (0, 256)
  | 20 => .inl (0, 256)
  | 21 => .inl (0, 8)
  | 22 => .inr (.inl (2, [some 23]))
  | 23 => .inl (0, 8)
  | 24 => .inr (.inl (3, [some 25]))
  | _ => .inl (0, 8))
/-- the reference's cells: 0 the object, its rows behind it -/
def LM : xLay := (13, fun k => match k with
  | 0 => .inr (.inl (5, [some 1, some 2, some 3, some 4, none, none, none, none, some 5, some 6, some 7, some 8, some 9, some 10, some 11, none, some 12]))
  | 1 => .inl (0, 25)
  | 2 => .inl (0, 50)
  | 3 => .inl (1, 2)
  | 4 => .inl (0, 8)
  | 5 => .inl (0, 8)
  | 6 => .inl (0, 64)
  | 7 => .inl (0, 64)
  | 8 => .inl (0, 8)
  | 9 => .inl (0, 8)
  | 10 => .inl (0, 10)
  | 11 => .inl (1, 256)
  | _ => .inl (0, 8))
end
section
/-! leaves: bits, tests, numbers of states -/
def rf {β : Type} (f : β → Nat → β) (b : β) (k : Nat) : β := (List.range k).foldl f b
theorem rf_0 {β : Type} (f : β → Nat → β) (b : β) : rf f b 0 = b := rfl
theorem rf_s {β : Type} (f : β → Nat → β) (b : β) (k : Nat) : rf f b (k + 1) = f (rf f b k) k := by simp [rf, List.range_succ]
def popN : Nat → Nat → Nat
  | 0, _ => 0
  | k + 1, x => popN k x + (x.testBit k).toNat
/-- how many of ten bits -/
def pop (x : Nat) : Nat := popN 10 x
theorem popN_le (k x : Nat) : popN k x ≤ k := by
  induction k with
  | zero => exact Nat.le_refl _
  | succ k ih => simp only [popN]; have := Bool.toNat_le (x.testBit k); omega
theorem pop_le (x : Nat) : pop x ≤ 10 := popN_le 10 x
def bc1 (x : Int32) : Int32 := x - ((x.toUInt32 >>> ((nI 1).toUInt32 &&& Int32.toUInt32 31)).toInt32 &&& 1431655765)
def bc2 (x : Int32) : Int32 := (x &&& 858993459) + ((x.toUInt32 >>> ((nI 2).toUInt32 &&& Int32.toUInt32 31)).toInt32 &&& 858993459)
def bc3 (x : Int32) : Int32 := (x + (x.toUInt32 >>> ((nI 4).toUInt32 &&& Int32.toUInt32 31)).toInt32) &&& 252645135
def bc4 (x : Int32) : Int32 := x + (x.toUInt32 >>> ((nI 8).toUInt32 &&& Int32.toUInt32 31)).toInt32
def bc5 (x : Int32) : Int32 := x + (x.toUInt32 >>> ((nI 16).toUInt32 &&& Int32.toUInt32 31)).toInt32
theorem bc_ok : ∀ a : Nat, a < 1024 → bc5 (bc4 (bc3 (bc2 (bc1 (nI a))))) &&& nI 63 = nI (pop a) := by decide +kernel
theorem c_bitCount {Λ : xLay} {I : xMem} {d a : Nat} (ha : a < 1024) : Cx Λ yJ6_bitCount_0f7a4 mJ6_bitCount_0f7a4 d [.int (nI a)] I (xRi (fun r J => r = nI (pop a) ∧ J = I)) := by
  refine Cx.of [.int (nI a)] (by decide) rfl rfl (Nat.le_of_ble_eq_true rfl) rfl ?_
  refine x_iload_n dJ6_bitCount_0f7a4_0 rfl ?_
  refine x_iload_n dJ6_bitCount_0f7a4_1 rfl ?_
  refine x_iconst dJ6_bitCount_0f7a4_2 ic_1 ?_
  refine x_iushr (v := ((nI a).toUInt32 >>> ((nI 1).toUInt32 &&& Int32.toUInt32 31)).toInt32) dJ6_bitCount_0f7a4_3 rfl ?_
  refine x_ldcw dJ6_bitCount_0f7a4_4 cn_J6_265 ?_
  refine x_iand (v := (((nI a).toUInt32 >>> ((nI 1).toUInt32 &&& Int32.toUInt32 31)).toInt32) &&& 1431655765) dJ6_bitCount_0f7a4_7 rfl ?_
  refine x_isub (v := bc1 (nI a)) dJ6_bitCount_0f7a4_8 rfl ?_
  refine x_istore_n (ls' := [.int (bc1 (nI a))]) dJ6_bitCount_0f7a4_9 rfl rfl ?_
  refine x_iload_n dJ6_bitCount_0f7a4_10 rfl ?_
  refine x_ldcw dJ6_bitCount_0f7a4_11 cn_J6_266 ?_
  refine x_iand (v := (bc1 (nI a)) &&& 858993459) dJ6_bitCount_0f7a4_14 rfl ?_
  refine x_iload_n dJ6_bitCount_0f7a4_15 rfl ?_
  refine x_iconst dJ6_bitCount_0f7a4_16 ic_2 ?_
  refine x_iushr (v := ((bc1 (nI a)).toUInt32 >>> ((nI 2).toUInt32 &&& Int32.toUInt32 31)).toInt32) dJ6_bitCount_0f7a4_17 rfl ?_
  refine x_ldcw dJ6_bitCount_0f7a4_18 cn_J6_266 ?_
  refine x_iand (v := (((bc1 (nI a)).toUInt32 >>> ((nI 2).toUInt32 &&& Int32.toUInt32 31)).toInt32) &&& 858993459) dJ6_bitCount_0f7a4_21 rfl ?_
  refine x_iadd (v := bc2 (bc1 (nI a))) dJ6_bitCount_0f7a4_22 rfl ?_
  refine x_istore_n (ls' := [.int (bc2 (bc1 (nI a)))]) dJ6_bitCount_0f7a4_23 rfl rfl ?_
  refine x_iload_n dJ6_bitCount_0f7a4_24 rfl ?_
  refine x_iload_n dJ6_bitCount_0f7a4_25 rfl ?_
  refine x_iconst dJ6_bitCount_0f7a4_26 ic_4 ?_
  refine x_iushr (v := ((bc2 (bc1 (nI a))).toUInt32 >>> ((nI 4).toUInt32 &&& Int32.toUInt32 31)).toInt32) dJ6_bitCount_0f7a4_27 rfl ?_
  refine x_iadd (v := (bc2 (bc1 (nI a))) + (((bc2 (bc1 (nI a))).toUInt32 >>> ((nI 4).toUInt32 &&& Int32.toUInt32 31)).toInt32)) dJ6_bitCount_0f7a4_28 rfl ?_
  refine x_ldcw dJ6_bitCount_0f7a4_29 cn_J6_267 ?_
  refine x_iand (v := bc3 (bc2 (bc1 (nI a)))) dJ6_bitCount_0f7a4_32 rfl ?_
  refine x_istore_n (ls' := [.int (bc3 (bc2 (bc1 (nI a))))]) dJ6_bitCount_0f7a4_33 rfl rfl ?_
  refine x_iload_n dJ6_bitCount_0f7a4_34 rfl ?_
  refine x_iload_n dJ6_bitCount_0f7a4_35 rfl ?_
  refine x_bipush dJ6_bitCount_0f7a4_36 bp_8 ?_
  refine x_iushr (v := ((bc3 (bc2 (bc1 (nI a)))).toUInt32 >>> ((nI 8).toUInt32 &&& Int32.toUInt32 31)).toInt32) dJ6_bitCount_0f7a4_38 rfl ?_
  refine x_iadd (v := bc4 (bc3 (bc2 (bc1 (nI a))))) dJ6_bitCount_0f7a4_39 rfl ?_
  refine x_istore_n (ls' := [.int (bc4 (bc3 (bc2 (bc1 (nI a)))))]) dJ6_bitCount_0f7a4_40 rfl rfl ?_
  refine x_iload_n dJ6_bitCount_0f7a4_41 rfl ?_
  refine x_iload_n dJ6_bitCount_0f7a4_42 rfl ?_
  refine x_bipush dJ6_bitCount_0f7a4_43 bp_16 ?_
  refine x_iushr (v := ((bc4 (bc3 (bc2 (bc1 (nI a))))).toUInt32 >>> ((nI 16).toUInt32 &&& Int32.toUInt32 31)).toInt32) dJ6_bitCount_0f7a4_45 rfl ?_
  refine x_iadd (v := bc5 (bc4 (bc3 (bc2 (bc1 (nI a)))))) dJ6_bitCount_0f7a4_46 rfl ?_
  refine x_istore_n (ls' := [.int (bc5 (bc4 (bc3 (bc2 (bc1 (nI a))))))]) dJ6_bitCount_0f7a4_47 rfl rfl ?_
  refine x_iload_n dJ6_bitCount_0f7a4_48 rfl ?_
  refine x_bipush dJ6_bitCount_0f7a4_49 bp_63 ?_
  refine x_iand (v := nI (pop a)) dJ6_bitCount_0f7a4_51 (bc_ok a ha) ?_
  refine x_ireti dJ6_bitCount_0f7a4_52 rfl ⟨rfl, rfl⟩
theorem c_isMember {I : xMem} {d a i : Nat} (ha : a < 2 ^ 31) (hi : i < 32) : Cx LX yX5_isMember mX5_isMember d [.int (nI a), .int (nI i)] I (xRi (fun r J => r = nI (a.testBit i).toNat ∧ J = I)) := by
  have hsh : a >>> i < 2 ^ 31 := Nat.lt_of_le_of_lt (Nat.shiftRight_le _ _) ha
  have hle : a >>> i &&& 1 ≤ 1 := Nat.and_le_right
  have hb : (a.testBit i).toNat = a >>> i &&& 1 := by
    rw [Nat.testBit, Nat.and_comm 1]
    rcases (show a >>> i &&& 1 = 0 ∨ a >>> i &&& 1 = 1 by omega) with e | e <;> rw [e] <;> rfl
  refine Cx.of [.int (nI a), .int (nI i)] (by decide) rfl rfl (Nat.le_of_ble_eq_true rfl) rfl ?_
  refine x_iload_n dX5_isMember_0 rfl ?_
  refine x_iload_n dX5_isMember_1 rfl ?_
  refine x_ishr (v := nI (a >>> i)) dX5_isMember_2 (nI_shr (by omega) (by omega)) ?_
  refine x_iconst dX5_isMember_3 ic_1 ?_
  refine x_iand (v := nI ((a >>> i) &&& 1)) dX5_isMember_4 (nI_and _ _) ?_
  refine x_ifn_eq (a := (a >>> i) &&& 1) (by omega) (tgt := 12) dX5_isMember_5 rfl (fun c => ?_) (fun c => ?_)
  ·
    refine x_iconst dX5_isMember_12 ic_0 ?_
    refine x_zretb (b := false) dX5_isMember_13 rfl ⟨by rw [hb, c]; rfl, rfl⟩
  ·
    refine x_iconst dX5_isMember_8 ic_1 ?_
    refine x_goto (tgt := 13) dX5_isMember_9 rfl ?_
    refine x_zretb (b := true) dX5_isMember_13 rfl ⟨by rw [hb, show a >>> i &&& 1 = 1 by omega]; rfl, rfl⟩
/-- a set with a member put in or taken out -/
def wmem (a i on : Nat) : Nat := nd a (1 <<< i) ||| on <<< i
theorem c_withMember {I : xMem} {d a i on : Nat} (hi : i < 32) : Cx LX yX5_withMember mX5_withMember d [.int (nI a), .int (nI i), .int (nI on)] I (xRi (fun r J => r = nI (wmem a i on) ∧ J = I)) := by
  refine Cx.of [.int (nI a), .int (nI i), .int (nI on)] (by decide) rfl rfl (Nat.le_of_ble_eq_true rfl) rfl ?_
  refine x_iload_n dX5_withMember_0 rfl ?_
  refine x_iconst dX5_withMember_1 ic_1 ?_
  refine x_iload_n dX5_withMember_2 rfl ?_
  refine x_ishl (v := nI (1 <<< i)) dX5_withMember_3 (nI_shl _ (by omega)) ?_
  refine x_iconst dX5_withMember_4 ic_m1 ?_
  refine x_ixor dX5_withMember_5 rfl ?_
  refine x_iand (v := nI (nd a (1 <<< i))) dX5_withMember_6 (nI_nd _ _) ?_
  refine x_iload_n dX5_withMember_7 rfl ?_
  refine x_iload_n dX5_withMember_8 rfl ?_
  refine x_ishl (v := nI (on <<< i)) dX5_withMember_9 (nI_shl _ (by omega)) ?_
  refine x_ior (v := nI ((nd a (1 <<< i)) ||| (on <<< i))) dX5_withMember_10 (nI_or _ _) ?_
  refine x_ireti dX5_withMember_11 rfl ⟨rfl, rfl⟩
/-- a number of 0 .. n - 1 -/
def inR (x : Int32) (n : Nat) : Bool := decide (0 ≤ x.toInt ∧ x.toInt < n)
theorem inR_lt {x : Int32} {n : Nat} (h : x < 0) : inR x n = false := by
  rw [Int32.lt_iff_toInt_lt] at h; simp at h
  exact decide_eq_false (by omega)
theorem inR_ge {x : Int32} {n : Nat} (hn : n < 2 ^ 31) (h : nI n ≤ x) : inR x n = false := by
  rw [Int32.le_iff_toInt_le, nI_toInt hn] at h
  exact decide_eq_false (by omega)
theorem inR_in {x : Int32} {n : Nat} (hn : n < 2 ^ 31) (h : ¬ x < 0) (h2 : ¬ nI n ≤ x) : inR x n = true := by
  rw [Int32.lt_iff_toInt_lt] at h; simp at h
  rw [Int32.le_iff_toInt_le, nI_toInt hn] at h2
  exact decide_eq_true (by omega)
theorem inR_of {x : Int32} {n : Nat} (h : inR x n = true) : ∃ j : Nat, j < n ∧ x = nI j := by
  have h := of_decide_eq_true h
  have hx : x.toInt < 2 ^ 31 := by have := Int32.toInt_lt x; omega
  refine ⟨x.toInt.toNat, by omega, Int32.toInt_inj.mp ?_⟩
  rw [nI_toInt (by omega)]; omega
theorem inR_nI {j n : Nat} (hn : n < 2 ^ 31) (h : j < n) : inR (nI j) n = true := decide_eq_true (by rw [nI_toInt (by omega)]; omega)
theorem inR_nI' {j n : Nat} (hj : j < 2 ^ 31) (h : n ≤ j) : inR (nI j) n = false := decide_eq_false (by rw [nI_toInt hj]; omega)
theorem c_isSort {I : xMem} {d : Nat} {x : Int32}  : Cx LX yX5_isSort mX5_isSort d [.int x] I (xRi (fun r J => r = nI (inR x 10).toNat ∧ J = I)) := by
  refine Cx.of [.int x] (by decide) rfl rfl (Nat.le_of_ble_eq_true rfl) rfl ?_
  refine x_iload_n dX5_isSort_0 rfl ?_
  refine x_if_lt (tgt := 14) dX5_isSort_1 rfl (fun c => ?_) (fun c => ?_)
  ·
    refine x_iconst dX5_isSort_14 ic_0 ?_
    refine x_zretb (b := false) dX5_isSort_15 rfl ⟨by rw [inR_lt c], rfl⟩
  ·
    refine x_iload_n dX5_isSort_4 rfl ?_
    refine x_bipush dX5_isSort_5 bp_10 ?_

    refine x_icmp_ge (tgt := 14) dX5_isSort_7 rfl (fun c2 => ?_) (fun c2 => ?_)
    ·
      refine x_iconst dX5_isSort_14 ic_0 ?_
      refine x_zretb (b := false) dX5_isSort_15 rfl ⟨by rw [inR_ge (by omega) c2], rfl⟩
    ·
      refine x_iconst dX5_isSort_10 ic_1 ?_
      refine x_goto (tgt := 15) dX5_isSort_11 rfl ?_
      refine x_zretb (b := true) dX5_isSort_15 rfl ⟨by rw [inR_in (by omega) c c2], rfl⟩
theorem c_isImage {I : xMem} {d : Nat} {x : Int32}  : Cx LX yX5_isImage mX5_isImage d [.int x] I (xRi (fun r J => r = nI (inR x 2).toNat ∧ J = I)) := by
  refine Cx.of [.int x] (by decide) rfl rfl (Nat.le_of_ble_eq_true rfl) rfl ?_
  refine x_iload_n dX5_isImage_0 rfl ?_
  refine x_if_lt (tgt := 13) dX5_isImage_1 rfl (fun c => ?_) (fun c => ?_)
  ·
    refine x_iconst dX5_isImage_13 ic_0 ?_
    refine x_zretb (b := false) dX5_isImage_14 rfl ⟨by rw [inR_lt c], rfl⟩
  ·
    refine x_iload_n dX5_isImage_4 rfl ?_
    refine x_iconst dX5_isImage_5 ic_2 ?_

    refine x_icmp_ge (tgt := 13) dX5_isImage_6 rfl (fun c2 => ?_) (fun c2 => ?_)
    ·
      refine x_iconst dX5_isImage_13 ic_0 ?_
      refine x_zretb (b := false) dX5_isImage_14 rfl ⟨by rw [inR_ge (by omega) c2], rfl⟩
    ·
      refine x_iconst dX5_isImage_9 ic_1 ?_
      refine x_goto (tgt := 14) dX5_isImage_10 rfl ?_
      refine x_zretb (b := true) dX5_isImage_14 rfl ⟨by rw [inR_in (by omega) c c2], rfl⟩
theorem c_isGrave {I : xMem} {d n : Nat} {x : Int32} (h0 : I 1 0 = nI n) (hn : n ≤ 8) : Cx LX yX5_isGrave mX5_isGrave d [.ref 0, .int x] I (xRi (fun r J => r = nI (inR x n).toNat ∧ J = I)) := by
  refine Cx.of [.ref 0, .int x] (by decide) rfl rfl (Nat.le_of_ble_eq_true rfl) rfl ?_
  refine x_iload_n dX5_isGrave_0 rfl ?_
  refine x_if_lt (tgt := 19) dX5_isGrave_1 rfl (fun c => ?_) (fun c => ?_)
  ·
    refine x_iconst dX5_isGrave_19 ic_0 ?_
    refine x_zretb (b := false) dX5_isGrave_20 rfl ⟨by rw [inR_lt c], rfl⟩
  ·
    refine x_iload_n dX5_isGrave_4 rfl ?_
    refine x_aload_n dX5_isGrave_5 rfl ?_
    refine x_getR 4 0 rfl (by decide) fl_X5_12 dX5_isGrave_6 rfl rfl rfl ?_
    refine x_getI 1 0 (v := nI n) rfl (by decide) fl_X5_38 dX5_isGrave_9 rfl rfl rfl h0 ?_
    refine x_icmp_ge (tgt := 19) dX5_isGrave_12 rfl (fun c2 => ?_) (fun c2 => ?_)
    ·
      refine x_iconst dX5_isGrave_19 ic_0 ?_
      refine x_zretb (b := false) dX5_isGrave_20 rfl ⟨by rw [inR_ge (by omega) c2], rfl⟩
    ·
      refine x_iconst dX5_isGrave_15 ic_1 ?_
      refine x_goto (tgt := 20) dX5_isGrave_16 rfl ?_
      refine x_zretb (b := true) dX5_isGrave_20 rfl ⟨by rw [inR_in (by omega) c c2], rfl⟩
theorem c_isPlace {I : xMem} {d n : Nat} {x : Int32} (h0 : I 1 0 = nI n) (hn : n ≤ 8) : Cx LX yX5_isPlace mX5_isPlace d [.ref 0, .int x] I (xRi (fun r J => r = nI (inR x n).toNat ∧ J = I)) := by
  refine Cx.of [.ref 0, .int x] (by decide) rfl rfl (Nat.le_of_ble_eq_true rfl) rfl ?_
  refine x_iload_n dX5_isPlace_0 rfl ?_
  refine x_if_lt (tgt := 19) dX5_isPlace_1 rfl (fun c => ?_) (fun c => ?_)
  ·
    refine x_iconst dX5_isPlace_19 ic_0 ?_
    refine x_zretb (b := false) dX5_isPlace_20 rfl ⟨by rw [inR_lt c], rfl⟩
  ·
    refine x_iload_n dX5_isPlace_4 rfl ?_
    refine x_aload_n dX5_isPlace_5 rfl ?_
    refine x_getR 4 0 rfl (by decide) fl_X5_12 dX5_isPlace_6 rfl rfl rfl ?_
    refine x_getI 1 0 (v := nI n) rfl (by decide) fl_X5_38 dX5_isPlace_9 rfl rfl rfl h0 ?_
    refine x_icmp_ge (tgt := 19) dX5_isPlace_12 rfl (fun c2 => ?_) (fun c2 => ?_)
    ·
      refine x_iconst dX5_isPlace_19 ic_0 ?_
      refine x_zretb (b := false) dX5_isPlace_20 rfl ⟨by rw [inR_ge (by omega) c2], rfl⟩
    ·
      refine x_iconst dX5_isPlace_15 ic_1 ?_
      refine x_goto (tgt := 20) dX5_isPlace_16 rfl ?_
      refine x_zretb (b := true) dX5_isPlace_20 rfl ⟨by rw [inR_in (by omega) c c2], rfl⟩
theorem inR2_0 {x : Int32} (h : x = 0) : inR x 2 = true := by subst h; decide +kernel
theorem inR2_1 {x : Int32} (h : x = nI 1) : inR x 2 = true := by subst h; decide +kernel
theorem inR2_n {x : Int32} (h : ¬ x = 0) (h1 : ¬ x = nI 1) : inR x 2 = false := by
  cases e : inR x 2 with
  | false => rfl
  | true =>
    obtain ⟨j, hj, rfl⟩ := inR_of e
    rcases (show j = 0 ∨ j = 1 by omega) with rfl | rfl
    · exact absurd nI_0 h
    · exact absurd rfl h1
theorem c_isOnOrOff {I : xMem} {d : Nat} {x : Int32} : Cx LX yX5_isOnOrOff mX5_isOnOrOff d [.int x] I (xRi (fun r J => r = nI (inR x 2).toNat ∧ J = I)) := by
  refine Cx.of [.int x] (by decide) rfl rfl (Nat.le_of_ble_eq_true rfl) rfl ?_
  refine x_iload_n dX5_isOnOrOff_0 rfl ?_
  refine x_if_eq (tgt := 9) dX5_isOnOrOff_1 rfl (fun c => ?_) (fun c => ?_)
  ·
    refine x_iconst dX5_isOnOrOff_9 ic_1 ?_
    refine x_goto (tgt := 14) dX5_isOnOrOff_10 rfl ?_
    refine x_zretb (b := true) dX5_isOnOrOff_14 rfl ⟨by rw [inR2_0 c], rfl⟩
  ·
    refine x_iload_n dX5_isOnOrOff_4 rfl ?_
    refine x_iconst dX5_isOnOrOff_5 ic_1 ?_
    refine x_icmp_ne (tgt := 13) dX5_isOnOrOff_6 rfl (fun c2 => ?_) (fun c2 => ?_)
    ·
      refine x_iconst dX5_isOnOrOff_13 ic_0 ?_
      refine x_zretb (b := false) dX5_isOnOrOff_14 rfl ⟨by rw [inR2_n c c2], rfl⟩
    ·
      refine x_iconst dX5_isOnOrOff_9 ic_1 ?_
      refine x_goto (tgt := 14) dX5_isOnOrOff_10 rfl ?_
      refine x_zretb (b := true) dX5_isOnOrOff_14 rfl ⟨by rw [inR2_1 c2], rfl⟩
theorem c_stateOf {I : xMem} {d S l : Nat} : Cx LX yX0_stateOf mX0_stateOf d [.int (nI S), .int (nI l)] I (xRi (fun r J => r = nI (S * 8 + l) ∧ J = I)) := by
  refine Cx.of [.int (nI S), .int (nI l)] (by decide) rfl rfl (Nat.le_of_ble_eq_true rfl) rfl ?_
  refine x_iload_n dX0_stateOf_0 rfl ?_
  refine x_bipush dX0_stateOf_1 bp_8 ?_
  refine x_imul (v := nI (S * 8)) dX0_stateOf_3 (pk_mul _ _) ?_
  refine x_iload_n dX0_stateOf_4 rfl ?_
  refine x_iadd (v := nI ((S * 8) + l)) dX0_stateOf_5 (nI_add _ _) ?_
  refine x_ireti dX0_stateOf_6 rfl ⟨rfl, rfl⟩
theorem c_stateAfter {I : xMem} {d S g : Nat} (hg : g < 32) : Cx LX yX0_stateAfter mX0_stateAfter d [.int (nI S), .int (nI g)] I (xRi (fun r J => r = nI ((S ||| 1 <<< g) * 8 + g) ∧ J = I)) := by
  refine Cx.of [.int (nI S), .int (nI g)] (by decide) rfl rfl (Nat.le_of_ble_eq_true rfl) rfl ?_
  refine x_iload_n dX0_stateAfter_0 rfl ?_
  refine x_iconst dX0_stateAfter_1 ic_1 ?_
  refine x_iload_n dX0_stateAfter_2 rfl ?_
  refine x_ishl (v := nI (1 <<< g)) dX0_stateAfter_3 (nI_shl _ (by omega)) ?_
  refine x_ior (v := nI (S ||| (1 <<< g))) dX0_stateAfter_4 (nI_or _ _) ?_
  refine x_bipush dX0_stateAfter_5 bp_8 ?_
  refine x_imul (v := nI ((S ||| (1 <<< g)) * 8)) dX0_stateAfter_7 (pk_mul _ _) ?_
  refine x_iload_n dX0_stateAfter_8 rfl ?_
  refine x_iadd (v := nI (((S ||| (1 <<< g)) * 8) + g)) dX0_stateAfter_9 (nI_add _ _) ?_
  refine x_ireti dX0_stateAfter_10 rfl ⟨rfl, rfl⟩
/-- a set of graves that lie first, with the last of them -/
def isSt (S l : Nat) : Bool := if S = 0 then decide (l = 0) else S.testBit l
theorem c_isState {I : xMem} {d S l : Nat} (hd : 1 ≤ d) (hS : S < 2 ^ 31) (hl : l < 32) : Cx LX yX0_isState mX0_isState d [.int (nI S), .int (nI l)] I (xRi (fun r J => r = nI (isSt S l).toNat ∧ J = I)) := by
  refine Cx.of [.int (nI S), .int (nI l)] (by decide) rfl rfl (Nat.le_of_ble_eq_true rfl) rfl ?_
  refine x_iload_n dX0_isState_0 rfl ?_
  refine x_ifn_ne (a := S) (by omega) (tgt := 16) dX0_isState_1 rfl (fun c => ?_) (fun c => ?_)
  ·
    refine x_iload_n dX0_isState_16 rfl ?_
    refine x_iload_n dX0_isState_17 rfl ?_
    refine x_callSNi (as := [.int (nI S), .int (nI l)]) (fun _ h => h.2.1) st_X5_isMember ct_X5_isMember (c_isMember (d := 0) (by omega) (by omega)) dX0_isState_18 hd rfl rfl (Nat.le_of_ble_eq_true rfl) (fun r0 J0 h0 => ?_)
    obtain ⟨rfl, hJ0⟩ := h0
    obtain rfl := hJ0.symm
    refine x_zretb (b := (S.testBit l)) dX0_isState_21 rfl ⟨by rw [isSt, if_neg c], rfl⟩
  ·
    refine x_iload_n dX0_isState_4 rfl ?_
    refine x_ifn_ne (a := l) (by omega) (tgt := 12) dX0_isState_5 rfl (fun c2 => ?_) (fun c2 => ?_)
    ·
      refine x_iconst dX0_isState_12 ic_0 ?_
      refine x_goto (tgt := 21) dX0_isState_13 rfl ?_
      refine x_zretb (b := false) dX0_isState_21 rfl ⟨by rw [isSt, if_pos c, decide_eq_false c2], rfl⟩
    ·
      refine x_iconst dX0_isState_8 ic_1 ?_
      refine x_goto (tgt := 21) dX0_isState_9 rfl ?_
      refine x_zretb (b := true) dX0_isState_21 rfl ⟨by rw [isSt, if_pos c, decide_eq_true c2], rfl⟩
/-- which next graves would part what is to lie together: none, or all but it -/
def partB (w S : Nat) : Bool := !(decide (S &&& w = 0) || decide (S &&& w = w))
theorem c_nextThatPart {I : xMem} {d w S : Nat} (hw : w < 2 ^ 31) : Cx LX yX0_nextThatPart mX0_nextThatPart d [.int (nI w), .int (nI S)] I (xRi (fun r J => r = (if partB w S then nI w ^^^ (-1) else nI 0) ∧ J = I)) := by
  have hle : S &&& w ≤ w := Nat.and_le_right
  refine Cx.of [.int (nI w), .int (nI S), .null] (by decide) rfl rfl (Nat.le_of_ble_eq_true rfl) rfl ?_
  refine x_iload_n dX0_nextThatPart_0 rfl ?_
  refine x_iload_n dX0_nextThatPart_1 rfl ?_
  refine x_iand (v := nI (S &&& w)) dX0_nextThatPart_2 (nI_and _ _) ?_
  refine x_istore_n (ls' := [.int (nI w), .int (nI S), .int (nI (S &&& w))]) dX0_nextThatPart_3 rfl rfl ?_
  refine x_iload_n dX0_nextThatPart_4 rfl ?_
  refine x_ifn_eq (a := S &&& w) (by omega) (tgt := 13) dX0_nextThatPart_5 rfl (fun c => ?_) (fun c => ?_)
  ·
    refine x_iconst dX0_nextThatPart_13 ic_0 ?_
    refine x_goto (tgt := 20) dX0_nextThatPart_14 rfl ?_
    refine x_ireti dX0_nextThatPart_20 rfl ⟨by simp [partB, c], rfl⟩
  ·
    refine x_iload_n dX0_nextThatPart_8 rfl ?_
    refine x_iload_n dX0_nextThatPart_9 rfl ?_
    refine x_icmpn_ne (a := S &&& w) (b := w) (by omega) (by omega) (tgt := 17) dX0_nextThatPart_10 rfl (fun c2 => ?_) (fun c2 => ?_)
    ·
      refine x_iload_n dX0_nextThatPart_17 rfl ?_
      refine x_iconst dX0_nextThatPart_18 ic_m1 ?_
      refine x_ixor dX0_nextThatPart_19 rfl ?_
      refine x_ireti dX0_nextThatPart_20 rfl ⟨by simp [partB, c, c2], rfl⟩
    ·
      refine x_iconst dX0_nextThatPart_13 ic_0 ?_
      refine x_goto (tgt := 20) dX0_nextThatPart_14 rfl ?_
      refine x_ireti dX0_nextThatPart_20 rfl ⟨by simp [partB, c2], rfl⟩
/-- the least member below 8; 0, if there is none -/
def lstM (S : Nat) : Nat := ((List.range 8).find? (fun g => S.testBit g)).getD 0
theorem c_leastMember {I : xMem} {d S : Nat} (hd : 1 ≤ d) (hS : S < 2 ^ 31) : Cx LX yX0_leastMember mX0_leastMember d [.int (nI S)] I (xRi (fun r J => r = nI (lstM S) ∧ J = I)) := by
  have lp : ∀ (k g : Nat), g + k = 8 → (∀ j, j < g → S.testBit j = false) → Wx LX mX0_leastMember d (xRi (fun r J => r = nI (lstM S) ∧ J = I)) 2 [.int (nI S), .int (nI g)] [] I := by
    intro k
    induction k with
    | zero =>
      intro g hg hno
      refine x_iload_n dX0_leastMember_2 rfl ?_
      refine x_bipush dX0_leastMember_3 bp_8 ?_
      refine x_icmpn_ge (a := g) (b := 8) (by omega) (by omega) (tgt := 24) dX0_leastMember_5 rfl (fun c => ?_) (fun c => ?_)
      ·
        refine x_iconst dX0_leastMember_24 ic_0 ?_
        refine x_ireti dX0_leastMember_25 rfl ⟨?_, rfl⟩
        have : (List.range 8).find? (fun g => S.testBit g) = none := by
          rw [List.find?_eq_none]; intro x hx; have := List.mem_range.mp hx; simp [hno x (by omega)]
        rw [lstM, this]; rfl
      ·
        omega
    | succ k ih =>
      intro g hg hno
      refine x_iload_n dX0_leastMember_2 rfl ?_
      refine x_bipush dX0_leastMember_3 bp_8 ?_
      refine x_icmpn_ge (a := g) (b := 8) (by omega) (by omega) (tgt := 24) dX0_leastMember_5 rfl (fun c => ?_) (fun c => ?_)
      ·
        omega
      ·
        refine x_iload_n dX0_leastMember_8 rfl ?_
        refine x_iload_n dX0_leastMember_9 rfl ?_
        refine x_callSNi (as := [.int (nI S), .int (nI g)]) (fun _ h => h.2.1) st_X5_isMember ct_X5_isMember (c_isMember (d := 0) (by omega) (by omega)) dX0_leastMember_10 hd rfl rfl (Nat.le_of_ble_eq_true rfl) (fun r0 J0 h0 => ?_)
        obtain ⟨rfl, hJ0⟩ := h0
        obtain rfl := hJ0.symm
        refine x_ifb_eq (b := S.testBit g) (tgt := 18) dX0_leastMember_13 rfl (fun c2 => ?_) (fun c2 => ?_)
        ·
          refine x_iinc (v := nI (g + 1)) (ls' := [.int (nI S), .int (nI (g + 1))]) dX0_leastMember_18 rfl (inc_1 _) rfl rfl ?_
          refine x_goto (tgt := 2) dX0_leastMember_21 rfl ?_
          exact ih (g + 1) (by omega) (fun j hj => by rcases (show j < g ∨ j = g by omega) with e | rfl; exact hno j e; exact c2)
        ·
          refine x_iload_n dX0_leastMember_16 rfl ?_
          refine x_ireti dX0_leastMember_17 rfl ⟨?_, rfl⟩
          have : (List.range 8).find? (fun g => S.testBit g) = some g := by
            rw [List.find?_range_eq_some]
            refine ⟨c2, List.mem_range.mpr (by omega), fun j hj => by simp [hno j hj]⟩
          rw [lstM, this]; rfl
  refine Cx.of [.int (nI S), .null] (by decide) rfl rfl (Nat.le_of_ble_eq_true rfl) rfl ?_
  refine x_iconst dX0_leastMember_0 ic_0 ?_
  refine x_istore_n (ls' := [.int (nI S), .int (nI 0)]) dX0_leastMember_1 rfl rfl ?_
  exact lp 8 0 rfl (fun j hj => by omega)
end
section
/-! Dig: what an image keeps; its questions -/
def DigAt (I : xMem) (b n : Nat) (h a L : Nat → Nat) : Prop := I b 0 = nI n ∧ (∀ g, g < 8 → I (b + 1) g = nI (h g)) ∧ (∀ g, g < 8 → I (b + 2) g = nI (a g)) ∧ ∀ g, g < 8 → I (b + 3) g = nI (L g)
/-- the graves at places p, p + 1 .., k of them -/
def seg (L : Nat → Nat) (p k : Nat) : List Nat := (List.range' p k).map L
theorem seg_0 (L : Nat → Nat) (p : Nat) : seg L p 0 = [] := rfl
theorem seg_s (L : Nat → Nat) (p k : Nat) : seg L p (k + 1) = L p :: seg L (p + 1) k := rfl
/-- the runs that begin, of the sorts s, behind a grave with the sorts m -/
def tr (h : Nat → Nat) (s : Nat) : Nat → List Nat → Nat
  | _, [] => 0
  | m, g :: w => pop (nd (h g &&& s) m) + tr h s (h g &&& s) w
theorem tr_le (h : Nat → Nat) (s : Nat) : ∀ (w : List Nat) (m : Nat), tr h s m w ≤ 10 * w.length
  | [], _ => Nat.zero_le _
  | g :: w, m => by simp only [tr, List.length_cons]; have := pop_le (nd (h g &&& s) m); have := tr_le h s w (h g &&& s); omega
def fnd (h : Nat → Nat) : Nat → Nat
  | 0 => 0
  | g + 1 => fnd h g ||| h g
theorem fnd_lt {h : Nat → Nat} (hh : ∀ g, h g < 1024) (k : Nat) : fnd h k < 1024 := by
  induction k with
  | zero => exact Nat.succ_pos _
  | succ k ih => exact Nat.or_lt_two_pow (n := 10) ih (hh k)
theorem and_lt1024 {x s : Nat} (h : x < 1024) : x &&& s < 1024 := Nat.lt_of_le_of_lt Nat.and_le_left h
theorem nd_le (x m : Nat) : nd x m ≤ x := by
  apply Nat.le_of_testBit
  intro i h
  rw [nd_bit] at h
  exact (Bool.and_eq_true _ _ |>.mp h).1
theorem nd_lt1024 {x m : Nat} (h : x < 1024) : nd x m < 1024 := Nat.lt_of_le_of_lt (nd_le x m) h
def al (a : Nat → Nat) : Nat → List Nat → Bool
  | _, [] => true
  | S, g :: w => decide (a g &&& S = 0) && al a (S ||| 1 <<< g) w
def cwi (h : Nat → Nat) (s : Nat) : Nat → Nat
  | 0 => 0
  | g + 1 => cwi h s g + ((h g).testBit s).toNat
theorem cwi_le (h : Nat → Nat) (s k : Nat) : cwi h s k ≤ k := by
  induction k with
  | zero => exact Nat.le_refl _
  | succ k ih => simp only [cwi]; have := Bool.toNat_le ((h k).testBit s); omega
def erl (a : Nat → Nat) (x : Nat) : Nat → Nat
  | 0 => 0
  | g + 1 => if (a g).testBit x then erl a x g ||| 1 <<< g else erl a x g
section DG
variable {I : xMem} {n d : Nat} {h a L : Nat → Nat}
theorem c_sortsFound (hD : DigAt I 1 n h a L) (hn : n ≤ 8) : Cx LX yX2_sortsFound mX2_sortsFound d [.ref 1] I (xRi (fun r J => r = nI (fnd h n) ∧ J = I)) := by
  have lp : ∀ (k g : Nat), g + k = n → Wx LX mX2_sortsFound d (xRi (fun r J => r = nI (fnd h n) ∧ J = I)) 4 [.ref 1, .int (nI (fnd h g)), .int (nI g)] [] I := by
    intro k
    induction k with
    | zero =>
      intro g hg
      refine x_iload_n dX2_sortsFound_4 rfl ?_
      refine x_aload_n dX2_sortsFound_5 rfl ?_
      refine x_getI 1 0 (v := nI n) rfl (by decide) fl_X2_9 dX2_sortsFound_6 rfl rfl rfl hD.1 ?_
      refine x_icmpn_ge (a := g) (b := n) (by omega) (by omega) (tgt := 27) dX2_sortsFound_9 rfl (fun c => ?_) (fun c => ?_)
      ·
        refine x_iload_n dX2_sortsFound_27 rfl ?_
        refine x_ireti dX2_sortsFound_28 rfl ⟨by rw [show g = n by omega], rfl⟩
      ·
        omega
    | succ k ih =>
      intro g hg
      refine x_iload_n dX2_sortsFound_4 rfl ?_
      refine x_aload_n dX2_sortsFound_5 rfl ?_
      refine x_getI 1 0 (v := nI n) rfl (by decide) fl_X2_9 dX2_sortsFound_6 rfl rfl rfl hD.1 ?_
      refine x_icmpn_ge (a := g) (b := n) (by omega) (by omega) (tgt := 27) dX2_sortsFound_9 rfl (fun c => ?_) (fun c => ?_)
      ·
        omega
      ·
        refine x_iload_n dX2_sortsFound_12 rfl ?_
        refine x_aload_n dX2_sortsFound_13 rfl ?_
        refine x_getR 1 1 rfl (by decide) fl_X2_15 dX2_sortsFound_14 rfl rfl rfl ?_
        refine x_iload_n dX2_sortsFound_17 rfl ?_
        refine x_iald (p := g) (v := nI (h g)) dX2_sortsFound_18 rfl rfl rfl rfl (by omega) (hD.2.1 g (by omega)) ?_
        refine x_ior (v := nI ((fnd h g) ||| (h g))) dX2_sortsFound_19 (nI_or _ _) ?_
        refine x_istore_n (ls' := [.ref 1, .int (nI ((fnd h g) ||| (h g))), .int (nI g)]) dX2_sortsFound_20 rfl rfl ?_
        refine x_iinc (v := nI (g + 1)) (ls' := [.ref 1, .int (nI ((fnd h g) ||| (h g))), .int (nI (g + 1))]) dX2_sortsFound_21 rfl (inc_1 _) rfl rfl ?_
        refine x_goto (tgt := 4) dX2_sortsFound_24 rfl ?_
        exact ih (g + 1) (by omega)
  refine Cx.of [.ref 1, .null, .null] (by decide) rfl rfl (Nat.le_of_ble_eq_true rfl) rfl ?_
  refine x_iconst dX2_sortsFound_0 ic_0 ?_
  refine x_istore_n (ls' := [.ref 1, .int (nI 0), .null]) dX2_sortsFound_1 rfl rfl ?_
  refine x_iconst dX2_sortsFound_2 ic_0 ?_
  refine x_istore_n (ls' := [.ref 1, .int (nI 0), .int (nI 0)]) dX2_sortsFound_3 rfl rfl ?_
  exact lp n 0 (by omega)
theorem c_gravesWith {s : Nat} (hd : 1 ≤ d) (hs : s < 32) (hh : ∀ g, h g < 1024) (hD : DigAt I 1 n h a L) (hn : n ≤ 8) : Cx LX yX2_gravesWith mX2_gravesWith d [.ref 1, .int (nI s)] I (xRi (fun r J => r = nI (cwi h s n) ∧ J = I)) := by
  have lp : ∀ (k g : Nat), g + k = n → Wx LX mX2_gravesWith d (xRi (fun r J => r = nI (cwi h s n) ∧ J = I)) 4 [.ref 1, .int (nI s), .int (nI (cwi h s g)), .int (nI g)] [] I := by
    intro k
    induction k with
    | zero =>
      intro g hg
      refine x_iload_n dX2_gravesWith_4 rfl ?_
      refine x_aload_n dX2_gravesWith_5 rfl ?_
      refine x_getI 1 0 (v := nI n) rfl (by decide) fl_X2_9 dX2_gravesWith_6 rfl rfl rfl hD.1 ?_
      refine x_icmpn_ge (a := g) (b := n) (by omega) (by omega) (tgt := 34) dX2_gravesWith_9 rfl (fun c => ?_) (fun c => ?_)
      ·
        refine x_iload_n dX2_gravesWith_34 rfl ?_
        refine x_ireti dX2_gravesWith_35 rfl ⟨by rw [show g = n by omega], rfl⟩
      ·
        omega
    | succ k ih =>
      intro g hg
      have hb := hh g
      refine x_iload_n dX2_gravesWith_4 rfl ?_
      refine x_aload_n dX2_gravesWith_5 rfl ?_
      refine x_getI 1 0 (v := nI n) rfl (by decide) fl_X2_9 dX2_gravesWith_6 rfl rfl rfl hD.1 ?_
      refine x_icmpn_ge (a := g) (b := n) (by omega) (by omega) (tgt := 34) dX2_gravesWith_9 rfl (fun c => ?_) (fun c => ?_)
      ·
        omega
      ·
        refine x_aload_n dX2_gravesWith_12 rfl ?_
        refine x_getR 1 1 rfl (by decide) fl_X2_15 dX2_gravesWith_13 rfl rfl rfl ?_
        refine x_iload_n dX2_gravesWith_16 rfl ?_
        refine x_iald (p := g) (v := nI (h g)) dX2_gravesWith_17 rfl rfl rfl rfl (by omega) (hD.2.1 g (by omega)) ?_
        refine x_iload_n dX2_gravesWith_18 rfl ?_
        refine x_callSNi (as := [.int (nI (h g)), .int (nI s)]) (fun _ h => h.1) st_X5_isMember ct_X5_isMember (c_isMember (d := 0) (by omega) hs) dX2_gravesWith_19 hd rfl rfl (Nat.le_of_ble_eq_true rfl) (fun r0 J0 h0 => ?_)
        obtain ⟨rfl, hJ0⟩ := h0
        obtain rfl := hJ0.symm
        refine x_ifb_eq (b := (h g).testBit s) (tgt := 28) dX2_gravesWith_22 rfl (fun c2 => ?_) (fun c2 => ?_)
        ·
          refine x_iinc (v := nI (g + 1)) (ls' := [.ref 1, .int (nI s), .int (nI (cwi h s g)), .int (nI (g + 1))]) dX2_gravesWith_28 rfl (inc_1 _) rfl rfl ?_
          refine x_goto (tgt := 4) dX2_gravesWith_31 rfl ?_
          have e : cwi h s (g + 1) = cwi h s g := by simp [cwi, c2]
          rw [← e]
          exact ih (g + 1) (by omega)
        ·
          refine x_iinc (v := nI ((cwi h s g) + 1)) (ls' := [.ref 1, .int (nI s), .int (nI ((cwi h s g) + 1)), .int (nI g)]) dX2_gravesWith_25 rfl (inc_1 _) rfl rfl ?_
          refine x_iinc (v := nI (g + 1)) (ls' := [.ref 1, .int (nI s), .int (nI ((cwi h s g) + 1)), .int (nI (g + 1))]) dX2_gravesWith_28 rfl (inc_1 _) rfl rfl ?_
          refine x_goto (tgt := 4) dX2_gravesWith_31 rfl ?_
          have e : cwi h s (g + 1) = cwi h s g + 1 := by simp [cwi, c2]
          rw [← e]
          exact ih (g + 1) (by omega)
  refine Cx.of [.ref 1, .int (nI s), .null, .null] (by decide) rfl rfl (Nat.le_of_ble_eq_true rfl) rfl ?_
  refine x_iconst dX2_gravesWith_0 ic_0 ?_
  refine x_istore_n (ls' := [.ref 1, .int (nI s), .int (nI 0), .null]) dX2_gravesWith_1 rfl rfl ?_
  refine x_iconst dX2_gravesWith_2 ic_0 ?_
  refine x_istore_n (ls' := [.ref 1, .int (nI s), .int (nI 0), .int (nI 0)]) dX2_gravesWith_3 rfl rfl ?_
  exact lp n 0 (by omega)
theorem c_earlierThan {x : Nat} (hd : 1 ≤ d) (hx : x < 32) (ha : ∀ g, a g < 256) (hD : DigAt I 1 n h a L) (hn : n ≤ 8) : Cx LX yX2_earlierThan mX2_earlierThan d [.ref 1, .int (nI x)] I (xRi (fun r J => r = nI (erl a x n) ∧ J = I)) := by
  have lp : ∀ (k g : Nat), g + k = n → Wx LX mX2_earlierThan d (xRi (fun r J => r = nI (erl a x n) ∧ J = I)) 4 [.ref 1, .int (nI x), .int (nI (erl a x g)), .int (nI g)] [] I := by
    intro k
    induction k with
    | zero =>
      intro g hg
      refine x_iload_n dX2_earlierThan_4 rfl ?_
      refine x_aload_n dX2_earlierThan_5 rfl ?_
      refine x_getI 1 0 (v := nI n) rfl (by decide) fl_X2_9 dX2_earlierThan_6 rfl rfl rfl hD.1 ?_
      refine x_icmpn_ge (a := g) (b := n) (by omega) (by omega) (tgt := 37) dX2_earlierThan_9 rfl (fun c => ?_) (fun c => ?_)
      ·
        refine x_iload_n dX2_earlierThan_37 rfl ?_
        refine x_ireti dX2_earlierThan_38 rfl ⟨by rw [show g = n by omega], rfl⟩
      ·
        omega
    | succ k ih =>
      intro g hg
      have hb := ha g
      refine x_iload_n dX2_earlierThan_4 rfl ?_
      refine x_aload_n dX2_earlierThan_5 rfl ?_
      refine x_getI 1 0 (v := nI n) rfl (by decide) fl_X2_9 dX2_earlierThan_6 rfl rfl rfl hD.1 ?_
      refine x_icmpn_ge (a := g) (b := n) (by omega) (by omega) (tgt := 37) dX2_earlierThan_9 rfl (fun c => ?_) (fun c => ?_)
      ·
        omega
      ·
        refine x_aload_n dX2_earlierThan_12 rfl ?_
        refine x_getR 1 2 rfl (by decide) fl_X2_19 dX2_earlierThan_13 rfl rfl rfl ?_
        refine x_iload_n dX2_earlierThan_16 rfl ?_
        refine x_iald (p := g) (v := nI (a g)) dX2_earlierThan_17 rfl rfl rfl rfl (by omega) (hD.2.2.1 g (by omega)) ?_
        refine x_iload_n dX2_earlierThan_18 rfl ?_
        refine x_callSNi (as := [.int (nI (a g)), .int (nI x)]) (fun _ h => h.1) st_X5_isMember ct_X5_isMember (c_isMember (d := 0) (by omega) hx) dX2_earlierThan_19 hd rfl rfl (Nat.le_of_ble_eq_true rfl) (fun r0 J0 h0 => ?_)
        obtain ⟨rfl, hJ0⟩ := h0
        obtain rfl := hJ0.symm
        refine x_ifb_eq (b := (a g).testBit x) (tgt := 31) dX2_earlierThan_22 rfl (fun c2 => ?_) (fun c2 => ?_)
        ·
          refine x_iinc (v := nI (g + 1)) (ls' := [.ref 1, .int (nI x), .int (nI (erl a x g)), .int (nI (g + 1))]) dX2_earlierThan_31 rfl (inc_1 _) rfl rfl ?_
          refine x_goto (tgt := 4) dX2_earlierThan_34 rfl ?_
          have e : erl a x (g + 1) = erl a x g := by simp [erl, c2]
          rw [← e]
          exact ih (g + 1) (by omega)
        ·
          refine x_iload_n dX2_earlierThan_25 rfl ?_
          refine x_iconst dX2_earlierThan_26 ic_1 ?_
          refine x_iload_n dX2_earlierThan_27 rfl ?_
          refine x_ishl (v := nI (1 <<< g)) dX2_earlierThan_28 (nI_shl _ (by omega)) ?_
          refine x_ior (v := nI ((erl a x g) ||| (1 <<< g))) dX2_earlierThan_29 (nI_or _ _) ?_
          refine x_istore_n (ls' := [.ref 1, .int (nI x), .int (nI ((erl a x g) ||| (1 <<< g))), .int (nI g)]) dX2_earlierThan_30 rfl rfl ?_
          refine x_iinc (v := nI (g + 1)) (ls' := [.ref 1, .int (nI x), .int (nI ((erl a x g) ||| (1 <<< g))), .int (nI (g + 1))]) dX2_earlierThan_31 rfl (inc_1 _) rfl rfl ?_
          refine x_goto (tgt := 4) dX2_earlierThan_34 rfl ?_
          have e : erl a x (g + 1) = erl a x g ||| 1 <<< g := by simp [erl, c2]
          rw [← e]
          exact ih (g + 1) (by omega)
  refine Cx.of [.ref 1, .int (nI x), .null, .null] (by decide) rfl rfl (Nat.le_of_ble_eq_true rfl) rfl ?_
  refine x_iconst dX2_earlierThan_0 ic_0 ?_
  refine x_istore_n (ls' := [.ref 1, .int (nI x), .int (nI 0), .null]) dX2_earlierThan_1 rfl rfl ?_
  refine x_iconst dX2_earlierThan_2 ic_0 ?_
  refine x_istore_n (ls' := [.ref 1, .int (nI x), .int (nI 0), .int (nI 0)]) dX2_earlierThan_3 rfl rfl ?_
  exact lp n 0 (by omega)
theorem c_placeInLine {x p0 : Nat} (hp : p0 < n) (hx : x < 8) (hL8 : ∀ p, p < 8 → L p < 8) (hL : ∀ p, p < n → (L p = x ↔ p = p0)) (hD : DigAt I 1 n h a L) (hn : n ≤ 8) : Cx LX yX2_placeInLine mX2_placeInLine d [.ref 1, .int (nI x)] I (xRi (fun r J => r = nI p0 ∧ J = I)) := by
  have lp : ∀ (k g : Nat), g + k = n → Wx LX mX2_placeInLine d (xRi (fun r J => r = nI p0 ∧ J = I)) 4 [.ref 1, .int (nI x), .int (nI (if p0 < g then p0 else 0)), .int (nI g)] [] I := by
    intro k
    induction k with
    | zero =>
      intro g hg
      refine x_iload_n dX2_placeInLine_4 rfl ?_
      refine x_aload_n dX2_placeInLine_5 rfl ?_
      refine x_getI 1 0 (v := nI n) rfl (by decide) fl_X2_9 dX2_placeInLine_6 rfl rfl rfl hD.1 ?_
      refine x_icmpn_ge (a := g) (b := n) (by omega) (by omega) (tgt := 30) dX2_placeInLine_9 rfl (fun c => ?_) (fun c => ?_)
      ·
        refine x_iload_n dX2_placeInLine_30 rfl ?_
        refine x_ireti dX2_placeInLine_31 rfl ⟨by rw [if_pos (by omega)], rfl⟩
      ·
        omega
    | succ k ih =>
      intro g hg
      have hb := hL8 g (by omega)
      have hq := hL g (by omega)
      refine x_iload_n dX2_placeInLine_4 rfl ?_
      refine x_aload_n dX2_placeInLine_5 rfl ?_
      refine x_getI 1 0 (v := nI n) rfl (by decide) fl_X2_9 dX2_placeInLine_6 rfl rfl rfl hD.1 ?_
      refine x_icmpn_ge (a := g) (b := n) (by omega) (by omega) (tgt := 30) dX2_placeInLine_9 rfl (fun c => ?_) (fun c => ?_)
      ·
        omega
      ·
        refine x_aload_n dX2_placeInLine_12 rfl ?_
        refine x_getR 1 3 rfl (by decide) fl_X2_22 dX2_placeInLine_13 rfl rfl rfl ?_
        refine x_iload_n dX2_placeInLine_16 rfl ?_
        refine x_iald (p := g) (v := nI (L g)) dX2_placeInLine_17 rfl rfl rfl rfl (by omega) (hD.2.2.2 g (by omega)) ?_
        refine x_iload_n dX2_placeInLine_18 rfl ?_
        refine x_icmpn_ne (a := L g) (b := x) (by omega) (by omega) (tgt := 24) dX2_placeInLine_19 rfl (fun c2 => ?_) (fun c2 => ?_)
        ·
          refine x_iinc (v := nI (g + 1)) (ls' := [.ref 1, .int (nI x), .int (nI (if p0 < g then p0 else 0)), .int (nI (g + 1))]) dX2_placeInLine_24 rfl (inc_1 _) rfl rfl ?_
          refine x_goto (tgt := 4) dX2_placeInLine_27 rfl ?_
          have e : (if p0 < g + 1 then p0 else 0) = (if p0 < g then p0 else 0) := by
            by_cases hc : p0 < g
            · rw [if_pos hc, if_pos (by omega)]
            · rw [if_neg hc, if_neg (by have := mt hq.mpr c2; omega)]
          rw [← e]
          exact ih (g + 1) (by omega)
        ·
          refine x_iload_n dX2_placeInLine_22 rfl ?_
          refine x_istore_n (ls' := [.ref 1, .int (nI x), .int (nI g), .int (nI g)]) dX2_placeInLine_23 rfl rfl ?_
          refine x_iinc (v := nI (g + 1)) (ls' := [.ref 1, .int (nI x), .int (nI g), .int (nI (g + 1))]) dX2_placeInLine_24 rfl (inc_1 _) rfl rfl ?_
          refine x_goto (tgt := 4) dX2_placeInLine_27 rfl ?_
          have e0 := hq.mp c2
          have e : (if p0 < g + 1 then p0 else 0) = g := by rw [if_pos (by omega)]; exact e0.symm
          have := ih (g + 1) (by omega)
          rw [e] at this
          exact this
  refine Cx.of [.ref 1, .int (nI x), .null, .null] (by decide) rfl rfl (Nat.le_of_ble_eq_true rfl) rfl ?_
  refine x_iconst dX2_placeInLine_0 ic_0 ?_
  refine x_istore_n (ls' := [.ref 1, .int (nI x), .int (nI 0), .null]) dX2_placeInLine_1 rfl rfl ?_
  refine x_iconst dX2_placeInLine_2 ic_0 ?_
  refine x_istore_n (ls' := [.ref 1, .int (nI x), .int (nI 0), .int (nI 0)]) dX2_placeInLine_3 rfl rfl ?_
  have := lp n 0 (by omega)
  exact this
theorem c_lineBreaks {s : Nat} (hd : 1 ≤ d) (hh : ∀ g, h g < 1024) (hL8 : ∀ p, p < n → L p < 8) (hD : DigAt I 1 n h a L) (hn : n ≤ 8) (hle : pop (fnd h n &&& s) ≤ tr h s 0 (seg L 0 n)) : Cx LX yX2_lineBreaks mX2_lineBreaks d [.ref 1, .int (nI s)] I (xRi (fun r J => r = nI (tr h s 0 (seg L 0 n) - pop (fnd h n &&& s)) ∧ J = I)) := by
  have lp : ∀ (k p rn m hr : Nat), p + k = n → rn + tr h s m (seg L p k) = tr h s 0 (seg L 0 n) → ∀ v5, Wx LX mX2_lineBreaks d (xRi (fun r J => r = nI (tr h s 0 (seg L 0 n) - pop (fnd h n &&& s)) ∧ J = I)) 7 [.ref 1, .int (nI s), .int (nI rn), .int (nI m), .int (nI p), v5] [] I := by
    intro k
    induction k with
    | zero =>
      intro p rn m hr hp hrn v5
      rw [seg_0] at hrn
      simp only [tr, Nat.add_zero] at hrn
      refine x_iload dX2_lineBreaks_7 rfl ?_
      refine x_aload_n dX2_lineBreaks_9 rfl ?_
      refine x_getI 1 0 (v := nI n) rfl (by decide) fl_X2_9 dX2_lineBreaks_10 rfl rfl rfl hD.1 ?_
      refine x_icmpn_ge (a := p) (b := n) (by omega) (by omega) (tgt := 53) dX2_lineBreaks_13 rfl (fun c => ?_) (fun c => ?_)
      ·
        refine x_iload_n dX2_lineBreaks_53 rfl ?_
        refine x_aload_n dX2_lineBreaks_54 rfl ?_
        refine x_callVi 1 ml_X2_41 in_X2_sortsFound se_X2_sortsFound ct_X2_sortsFound rfl (c_sortsFound (d := 0) hD hn) dX2_lineBreaks_55 hd rfl rfl rfl rfl (Nat.le_of_ble_eq_true rfl) (fun r0 J0 h0 => ?_)
        obtain ⟨rfl, hJ0⟩ := h0
        obtain rfl := hJ0.symm
        refine x_iload_n dX2_lineBreaks_58 rfl ?_
        refine x_iand (v := nI ((fnd h n) &&& s)) dX2_lineBreaks_59 (nI_and _ _) ?_
        refine x_callSi (as := [.int (nI ((fnd h n) &&& s))]) ml_X2_35 st_J6_bitCount_0f7a4 ct_J6_bitCount_0f7a4 (c_bitCount (d := 0) (and_lt1024 (fnd_lt hh n))) dX2_lineBreaks_60 hd rfl rfl (Nat.le_of_ble_eq_true rfl) (fun r0 J0 h0 => ?_)
        obtain ⟨rfl, hJ0⟩ := h0
        obtain rfl := hJ0.symm
        refine x_isub (v := nI (rn - (pop (fnd h n &&& s)))) dX2_lineBreaks_63 (pk_sub (by omega)) ?_
        refine x_ireti dX2_lineBreaks_64 rfl ⟨by rw [hrn], rfl⟩
      ·
        omega
    | succ k ih =>
      intro p rn m hr hp hrn v5
      rw [seg_s] at hrn
      simp only [tr] at hrn
      have hb := hL8 p (by omega)
      refine x_iload dX2_lineBreaks_7 rfl ?_
      refine x_aload_n dX2_lineBreaks_9 rfl ?_
      refine x_getI 1 0 (v := nI n) rfl (by decide) fl_X2_9 dX2_lineBreaks_10 rfl rfl rfl hD.1 ?_
      refine x_icmpn_ge (a := p) (b := n) (by omega) (by omega) (tgt := 53) dX2_lineBreaks_13 rfl (fun c => ?_) (fun c => ?_)
      ·
        omega
      ·
        refine x_aload_n dX2_lineBreaks_16 rfl ?_
        refine x_getR 1 1 rfl (by decide) fl_X2_15 dX2_lineBreaks_17 rfl rfl rfl ?_
        refine x_aload_n dX2_lineBreaks_20 rfl ?_
        refine x_getR 1 3 rfl (by decide) fl_X2_22 dX2_lineBreaks_21 rfl rfl rfl ?_
        refine x_iload dX2_lineBreaks_24 rfl ?_
        refine x_iald (p := p) (v := nI (L p)) dX2_lineBreaks_26 rfl rfl rfl rfl (by omega) (hD.2.2.2 p (by omega)) ?_
        refine x_iald (p := L p) (v := nI (h (L p))) dX2_lineBreaks_27 rfl rfl rfl rfl (by omega) (hD.2.1 _ hb) ?_
        refine x_iload_n dX2_lineBreaks_28 rfl ?_
        refine x_iand (v := nI ((h (L p)) &&& s)) dX2_lineBreaks_29 (nI_and _ _) ?_
        refine x_istore (ls' := [.ref 1, .int (nI s), .int (nI rn), .int (nI m), .int (nI p), .int (nI ((h (L p)) &&& s))]) dX2_lineBreaks_30 rfl rfl ?_
        refine x_iload_n dX2_lineBreaks_32 rfl ?_
        refine x_iload dX2_lineBreaks_33 rfl ?_
        refine x_iload_n dX2_lineBreaks_35 rfl ?_
        refine x_iconst dX2_lineBreaks_36 ic_m1 ?_
        refine x_ixor dX2_lineBreaks_37 rfl ?_
        refine x_iand (v := nI (nd ((h (L p)) &&& s) m)) dX2_lineBreaks_38 (nI_nd _ _) ?_
        refine x_callSi (as := [.int (nI (nd ((h (L p)) &&& s) m))]) ml_X2_35 st_J6_bitCount_0f7a4 ct_J6_bitCount_0f7a4 (c_bitCount (d := 0) (nd_lt1024 (and_lt1024 (hh _)))) dX2_lineBreaks_39 hd rfl rfl (Nat.le_of_ble_eq_true rfl) (fun r0 J0 h0 => ?_)
        obtain ⟨rfl, hJ0⟩ := h0
        obtain rfl := hJ0.symm
        refine x_iadd (v := nI (rn + (pop (nd (h (L p) &&& s) m)))) dX2_lineBreaks_42 (nI_add _ _) ?_
        refine x_istore_n (ls' := [.ref 1, .int (nI s), .int (nI (rn + (pop (nd (h (L p) &&& s) m)))), .int (nI m), .int (nI p), .int (nI ((h (L p)) &&& s))]) dX2_lineBreaks_43 rfl rfl ?_
        refine x_iload dX2_lineBreaks_44 rfl ?_
        refine x_istore_n (ls' := [.ref 1, .int (nI s), .int (nI (rn + (pop (nd (h (L p) &&& s) m)))), .int (nI ((h (L p)) &&& s)), .int (nI p), .int (nI ((h (L p)) &&& s))]) dX2_lineBreaks_46 rfl rfl ?_
        refine x_iinc (v := nI (p + 1)) (ls' := [.ref 1, .int (nI s), .int (nI (rn + (pop (nd (h (L p) &&& s) m)))), .int (nI ((h (L p)) &&& s)), .int (nI (p + 1)), .int (nI ((h (L p)) &&& s))]) dX2_lineBreaks_47 rfl (inc_1 _) rfl rfl ?_
        refine x_goto (tgt := 7) dX2_lineBreaks_50 rfl ?_
        exact ih (p + 1) _ _ 0 (by omega) (by omega) _
  refine Cx.of [.ref 1, .int (nI s), .null, .null, .null, .null] (by decide) rfl rfl (Nat.le_of_ble_eq_true rfl) rfl ?_
  refine x_iconst dX2_lineBreaks_0 ic_0 ?_
  refine x_istore_n (ls' := [.ref 1, .int (nI s), .int (nI 0), .null, .null, .null]) dX2_lineBreaks_1 rfl rfl ?_
  refine x_iconst dX2_lineBreaks_2 ic_0 ?_
  refine x_istore_n (ls' := [.ref 1, .int (nI s), .int (nI 0), .int (nI 0), .null, .null]) dX2_lineBreaks_3 rfl rfl ?_
  refine x_iconst dX2_lineBreaks_4 ic_0 ?_
  refine x_istore (ls' := [.ref 1, .int (nI s), .int (nI 0), .int (nI 0), .int (nI 0), .null]) dX2_lineBreaks_5 rfl rfl ?_
  exact lp n 0 0 0 0 (by omega) (by omega) _
theorem c_lineIsAllowed (ha : ∀ g, a g < 256) (hL8 : ∀ p, p < n → L p < 8) (hD : DigAt I 1 n h a L) (hn : n ≤ 8) : Cx LX yX2_lineIsAllowed mX2_lineIsAllowed d [.ref 1] I (xRi (fun r J => r = nI (al a 0 (seg L 0 n)).toNat ∧ J = I)) := by
  have lp : ∀ (k p S : Nat), p + k = n → S < 256 → al a S (seg L p k) = al a 0 (seg L 0 n) → Wx LX mX2_lineIsAllowed d (xRi (fun r J => r = nI (al a 0 (seg L 0 n)).toNat ∧ J = I)) 4 [.ref 1, .int (nI S), .int (nI p)] [] I := by
    intro k
    induction k with
    | zero =>
      intro p S hp hS hal
      rw [seg_0] at hal
      simp only [al] at hal
      refine x_iload_n dX2_lineIsAllowed_4 rfl ?_
      refine x_aload_n dX2_lineIsAllowed_5 rfl ?_
      refine x_getI 1 0 (v := nI n) rfl (by decide) fl_X2_9 dX2_lineIsAllowed_6 rfl rfl rfl hD.1 ?_
      refine x_icmpn_ge (a := p) (b := n) (by omega) (by omega) (tgt := 47) dX2_lineIsAllowed_9 rfl (fun c => ?_) (fun c => ?_)
      ·
        refine x_iconst dX2_lineIsAllowed_47 ic_1 ?_
        refine x_zretb (b := true) dX2_lineIsAllowed_48 rfl ⟨by rw [← hal], rfl⟩
      ·
        omega
    | succ k ih =>
      intro p S hp hS hal
      rw [seg_s] at hal
      simp only [al] at hal
      have hb := hL8 p (by omega)
      have hb2 := ha (L p)
      have hb3 : a (L p) &&& S ≤ a (L p) := Nat.and_le_left
      refine x_iload_n dX2_lineIsAllowed_4 rfl ?_
      refine x_aload_n dX2_lineIsAllowed_5 rfl ?_
      refine x_getI 1 0 (v := nI n) rfl (by decide) fl_X2_9 dX2_lineIsAllowed_6 rfl rfl rfl hD.1 ?_
      refine x_icmpn_ge (a := p) (b := n) (by omega) (by omega) (tgt := 47) dX2_lineIsAllowed_9 rfl (fun c => ?_) (fun c => ?_)
      ·
        omega
      ·
        refine x_aload_n dX2_lineIsAllowed_12 rfl ?_
        refine x_getR 1 2 rfl (by decide) fl_X2_19 dX2_lineIsAllowed_13 rfl rfl rfl ?_
        refine x_aload_n dX2_lineIsAllowed_16 rfl ?_
        refine x_getR 1 3 rfl (by decide) fl_X2_22 dX2_lineIsAllowed_17 rfl rfl rfl ?_
        refine x_iload_n dX2_lineIsAllowed_20 rfl ?_
        refine x_iald (p := p) (v := nI (L p)) dX2_lineIsAllowed_21 rfl rfl rfl rfl (by omega) (hD.2.2.2 p (by omega)) ?_
        refine x_iald (p := L p) (v := nI (a (L p))) dX2_lineIsAllowed_22 rfl rfl rfl rfl (by omega) (hD.2.2.1 _ hb) ?_
        refine x_iload_n dX2_lineIsAllowed_23 rfl ?_
        refine x_iand (v := nI ((a (L p)) &&& S)) dX2_lineIsAllowed_24 (nI_and _ _) ?_
        refine x_ifn_eq (a := (a (L p)) &&& S) (by omega) (tgt := 30) dX2_lineIsAllowed_25 rfl (fun c2 => ?_) (fun c2 => ?_)
        ·
          refine x_iload_n dX2_lineIsAllowed_30 rfl ?_
          refine x_iconst dX2_lineIsAllowed_31 ic_1 ?_
          refine x_aload_n dX2_lineIsAllowed_32 rfl ?_
          refine x_getR 1 3 rfl (by decide) fl_X2_22 dX2_lineIsAllowed_33 rfl rfl rfl ?_
          refine x_iload_n dX2_lineIsAllowed_36 rfl ?_
          refine x_iald (p := p) (v := nI (L p)) dX2_lineIsAllowed_37 rfl rfl rfl rfl (by omega) (hD.2.2.2 p (by omega)) ?_
          refine x_ishl (v := nI (1 <<< (L p))) dX2_lineIsAllowed_38 (nI_shl _ (by omega)) ?_
          refine x_ior (v := nI (S ||| (1 <<< (L p)))) dX2_lineIsAllowed_39 (nI_or _ _) ?_
          refine x_istore_n (ls' := [.ref 1, .int (nI (S ||| (1 <<< (L p)))), .int (nI p)]) dX2_lineIsAllowed_40 rfl rfl ?_
          refine x_iinc (v := nI (p + 1)) (ls' := [.ref 1, .int (nI (S ||| (1 <<< (L p)))), .int (nI (p + 1))]) dX2_lineIsAllowed_41 rfl (inc_1 _) rfl rfl ?_
          refine x_goto (tgt := 4) dX2_lineIsAllowed_44 rfl ?_
          refine ih (p + 1) _ (by omega) (Nat.or_lt_two_pow (n := 8) hS ?_) (by rw [← hal, decide_eq_true c2]; rfl)
          rw [Nat.shiftLeft_eq, Nat.one_mul]; exact Nat.pow_lt_pow_right (by decide) hb
        ·
          refine x_iconst dX2_lineIsAllowed_28 ic_0 ?_
          refine x_zretb (b := false) dX2_lineIsAllowed_29 rfl ⟨by rw [← hal, decide_eq_false c2]; rfl, rfl⟩
  refine Cx.of [.ref 1, .null, .null] (by decide) rfl rfl (Nat.le_of_ble_eq_true rfl) rfl ?_
  refine x_iconst dX2_lineIsAllowed_0 ic_0 ?_
  refine x_istore_n (ls' := [.ref 1, .int (nI 0), .null]) dX2_lineIsAllowed_1 rfl rfl ?_
  refine x_iconst dX2_lineIsAllowed_2 ic_0 ?_
  refine x_istore_n (ls' := [.ref 1, .int (nI 0), .int (nI 0)]) dX2_lineIsAllowed_3 rfl rfl ?_
  exact lp n 0 0 (by omega) (by omega) rfl
/-- the graves at places k and k + 1 changed -/
def swp (L : Nat → Nat) (k : Nat) : Nat → Nat := fun p => if p = k + 1 then L k else if p = k then L (k + 1) else L p
def exI (I : xMem) (c k : Nat) : xMem := xup (xup I c k (I c (k + 1))) c (k + 1) (I c k)
theorem exI_ne {c e : Nat} (k : Nat) (hc : e ≠ c) : exI I c k e = I e := by simp [exI, xup, va_up, hc]
theorem exI_at (c k p : Nat) : exI I c k c p = if p = k + 1 then I c k else if p = k then I c (k + 1) else I c p := by simp [exI, xup, va_up, upd]
theorem exI_exI (c k : Nat) : exI (exI I c k) c k = I := by
  funext e p
  by_cases he : e = c
  · subst he
    rw [exI_at, exI_at, exI_at, exI_at]
    by_cases h1 : p = k + 1
    · subst h1; simp
    · by_cases h2 : p = k
      · subst h2; simp
      · simp [h1, h2]
  · rw [exI_ne k he, exI_ne k he]
theorem DigAt.ex (hD : DigAt I 1 n h a L) {k : Nat} (hk : k + 1 < 8) : DigAt (exI I 4 k) 1 n h a (swp L k) := by
  refine ⟨?_, fun g hg => ?_, fun g hg => ?_, fun g hg => ?_⟩
  · rw [exI_ne k (by decide)]; exact hD.1
  · rw [exI_ne k (by decide)]; exact hD.2.1 g hg
  · rw [exI_ne k (by decide)]; exact hD.2.2.1 g hg
  · show exI I 4 k 4 g = _
    rw [exI_at, swp]
    by_cases h1 : g = k + 1
    · rw [if_pos h1, if_pos h1]; exact hD.2.2.2 k (by omega)
    · rw [if_neg h1, if_neg h1]
      by_cases h2 : g = k
      · rw [if_pos h2, if_pos h2]; exact hD.2.2.2 _ hk
      · rw [if_neg h2, if_neg h2]; exact hD.2.2.2 g hg
theorem c_exchange {k : Nat} (hk : k + 1 < 8) : Cx LX yX2_exchange mX2_exchange d [.ref 1, .int (nI k)] I (xRv (fun J => J = exI I 4 k)) := by
  refine Cx.of [.ref 1, .int (nI k), .null] (by decide) rfl rfl (Nat.le_of_ble_eq_true rfl) rfl ?_
  refine x_aload_n dX2_exchange_0 rfl ?_
  refine x_getR 1 3 rfl (by decide) fl_X2_22 dX2_exchange_1 rfl rfl rfl ?_
  refine x_iload_n dX2_exchange_4 rfl ?_
  refine x_iald (p := k) (v := I 4 k) dX2_exchange_5 rfl rfl rfl rfl (by omega) rfl ?_
  refine x_istore_n (ls' := [.ref 1, .int (nI k), .int (I 4 k)]) dX2_exchange_6 rfl rfl ?_
  refine x_aload_n dX2_exchange_7 rfl ?_
  refine x_getR 1 3 rfl (by decide) fl_X2_22 dX2_exchange_8 rfl rfl rfl ?_
  refine x_iload_n dX2_exchange_11 rfl ?_
  refine x_aload_n dX2_exchange_12 rfl ?_
  refine x_getR 1 3 rfl (by decide) fl_X2_22 dX2_exchange_13 rfl rfl rfl ?_
  refine x_iload_n dX2_exchange_16 rfl ?_
  refine x_iconst dX2_exchange_17 ic_1 ?_
  refine x_iadd (v := nI (k + 1)) dX2_exchange_18 (nI_add _ _) ?_
  refine x_iald (p := k + 1) (v := I 4 (k + 1)) dX2_exchange_19 rfl rfl rfl rfl (by omega) rfl ?_
  refine x_iast (p := k) dX2_exchange_20 rfl rfl rfl rfl (by omega) ?_
  refine x_aload_n dX2_exchange_21 rfl ?_
  refine x_getR 1 3 rfl (by decide) fl_X2_22 dX2_exchange_22 rfl rfl rfl ?_
  refine x_iload_n dX2_exchange_25 rfl ?_
  refine x_iconst dX2_exchange_26 ic_1 ?_
  refine x_iadd (v := nI (k + 1)) dX2_exchange_27 (nI_add _ _) ?_
  refine x_iload_n dX2_exchange_28 rfl ?_
  refine x_iast (p := k + 1) dX2_exchange_29 rfl rfl rfl rfl (by omega) ?_
  refine x_vretv dX2_exchange_30 rfl rfl
/-- of the swaps k, k + 1 .. that by which the count is least below fw, of such the first -/
def beL (f : Nat → Nat) : Nat → Nat → Nat → Int32 → Int32
  | _, 0, _, fd => fd
  | k, c + 1, fw, fd => if f k < fw then beL f (k + 1) c (f k) (nI k) else beL f (k + 1) c fw fd
/-- breaks of a line -/
def lbr (n : Nat) (h L : Nat → Nat) : Nat := tr h 1023 0 (seg L 0 n) - pop (fnd h n &&& 1023)
theorem lbr_le (n : Nat) (h L : Nat → Nat) : lbr n h L ≤ 10 * n := by
  have := tr_le h 1023 (seg L 0 n) 0
  have e : (seg L 0 n).length = n := by simp [seg]
  unfold lbr; omega
theorem c_bestExchange (hd : 2 ≤ d) (h1 : 1 ≤ n) (hh : ∀ g, h g < 1024) (hL8 : ∀ p, p < n → L p < 8) (hD : DigAt I 1 n h a L) (hn : n ≤ 8) (hle : pop (fnd h n &&& 1023) ≤ tr h 1023 0 (seg L 0 n)) (hle2 : ∀ k, k + 1 < n → pop (fnd h n &&& 1023) ≤ tr h 1023 0 (seg (swp L k) 0 n)) : Cx LX yX2_bestExchange mX2_bestExchange d [.ref 1] I (xRi (fun r J => r = beL (fun k => lbr n h (swp L k)) 0 (n - 1) (lbr n h L) (-6) ∧ J = I)) := by
  have lp : ∀ (k j fw : Nat) (fd : Int32) (v4 : Value), j + k = n - 1 → fw < 1000 → beL (fun k => lbr n h (swp L k)) j k fw fd = beL (fun k => lbr n h (swp L k)) 0 (n - 1) (lbr n h L) (-6) → Wx LX mX2_bestExchange d (xRi (fun r J => r = beL (fun k => lbr n h (swp L k)) 0 (n - 1) (lbr n h L) (-6) ∧ J = I)) 13 [.ref 1, .int (nI fw), .int fd, .int (nI j), v4] [] I := by
    intro k
    induction k with
    | zero =>
      intro j fw fd v4 hj hfw hb
      simp only [beL] at hb
      refine x_iload_n dX2_bestExchange_13 rfl ?_
      refine x_aload_n dX2_bestExchange_14 rfl ?_
      refine x_getI 1 0 (v := nI n) rfl (by decide) fl_X2_9 dX2_bestExchange_15 rfl rfl rfl hD.1 ?_
      refine x_iconst dX2_bestExchange_18 ic_1 ?_
      refine x_isub (v := nI (n - 1)) dX2_bestExchange_19 (pk_sub (by omega)) ?_
      refine x_icmpn_ge (a := j) (b := n - 1) (by omega) (by omega) (tgt := 59) dX2_bestExchange_20 rfl (fun c => ?_) (fun c => ?_)
      ·
        refine x_iload_n dX2_bestExchange_59 rfl ?_
        refine x_ireti dX2_bestExchange_60 rfl ⟨hb, rfl⟩
      ·
        omega
    | succ k ih =>
      intro j fw fd v4 hj hfw hb
      simp only [beL] at hb
      have hb1 := lbr_le n h (swp L j)
      refine x_iload_n dX2_bestExchange_13 rfl ?_
      refine x_aload_n dX2_bestExchange_14 rfl ?_
      refine x_getI 1 0 (v := nI n) rfl (by decide) fl_X2_9 dX2_bestExchange_15 rfl rfl rfl hD.1 ?_
      refine x_iconst dX2_bestExchange_18 ic_1 ?_
      refine x_isub (v := nI (n - 1)) dX2_bestExchange_19 (pk_sub (by omega)) ?_
      refine x_icmpn_ge (a := j) (b := n - 1) (by omega) (by omega) (tgt := 59) dX2_bestExchange_20 rfl (fun c => ?_) (fun c => ?_)
      ·
        omega
      ·
        refine x_aload_n dX2_bestExchange_23 rfl ?_
        refine x_iload_n dX2_bestExchange_24 rfl ?_
        refine x_callVv 1 ml_X2_48 in_X2_exchange se_X2_exchange ct_X2_exchange rfl (c_exchange (d := 0) (by omega)) dX2_bestExchange_25 (by omega) rfl rfl rfl rfl (Nat.le_of_ble_eq_true rfl) (fun J0 h0 => ?_)
        obtain rfl := h0.symm
        refine x_aload_n dX2_bestExchange_28 rfl ?_
        refine x_sipush dX2_bestExchange_29 sp_1023 ?_
        refine x_callVi 1 ml_X2_45 in_X2_lineBreaks se_X2_lineBreaks ct_X2_lineBreaks rfl (c_lineBreaks (d := 1) (by decide) hh (fun p hp => by unfold swp; split; exact hL8 _ (by omega); split; exact hL8 _ (by omega); exact hL8 _ hp) (hD.ex (by omega)) hn (hle2 j (by omega))) dX2_bestExchange_32 (by omega) rfl rfl rfl rfl (Nat.le_of_ble_eq_true rfl) (fun r0 J0 h0 => ?_)
        obtain ⟨rfl, hJ0⟩ := h0
        obtain rfl := hJ0.symm
        refine x_istore (ls' := [.ref 1, .int (nI fw), .int fd, .int (nI j), .int (nI (lbr n h (swp L j)))]) dX2_bestExchange_35 rfl rfl ?_
        refine x_aload_n dX2_bestExchange_37 rfl ?_
        refine x_iload_n dX2_bestExchange_38 rfl ?_
        refine x_callVv 1 ml_X2_48 in_X2_exchange se_X2_exchange ct_X2_exchange rfl (c_exchange (d := 0) (by omega)) dX2_bestExchange_39 (by omega) rfl rfl rfl rfl (Nat.le_of_ble_eq_true rfl) (fun J0 h0 => ?_)
        obtain rfl := h0.symm
        refine x_iload dX2_bestExchange_42 rfl ?_
        refine x_iload_n dX2_bestExchange_44 rfl ?_
        rw [exI_exI]
        refine x_icmpn_ge (a := lbr n h (swp L j)) (b := fw) (by omega) (by omega) (tgt := 53) dX2_bestExchange_45 rfl (fun c2 => ?_) (fun c2 => ?_)
        ·
          refine x_iinc (v := nI (j + 1)) (ls' := [.ref 1, .int (nI fw), .int fd, .int (nI (j + 1)), .int (nI (lbr n h (swp L j)))]) dX2_bestExchange_53 rfl (inc_1 _) rfl rfl ?_
          refine x_goto (tgt := 13) dX2_bestExchange_56 rfl ?_
          rw [if_neg (by omega)] at hb
          exact ih (j + 1) fw fd _ (by omega) hfw hb
        ·
          refine x_iload dX2_bestExchange_48 rfl ?_
          refine x_istore_n (ls' := [.ref 1, .int (nI (lbr n h (swp L j))), .int fd, .int (nI j), .int (nI (lbr n h (swp L j)))]) dX2_bestExchange_50 rfl rfl ?_
          refine x_iload_n dX2_bestExchange_51 rfl ?_
          refine x_istore_n (ls' := [.ref 1, .int (nI (lbr n h (swp L j))), .int (nI j), .int (nI j), .int (nI (lbr n h (swp L j)))]) dX2_bestExchange_52 rfl rfl ?_
          refine x_iinc (v := nI (j + 1)) (ls' := [.ref 1, .int (nI (lbr n h (swp L j))), .int (nI j), .int (nI (j + 1)), .int (nI (lbr n h (swp L j)))]) dX2_bestExchange_53 rfl (inc_1 _) rfl rfl ?_
          refine x_goto (tgt := 13) dX2_bestExchange_56 rfl ?_
          rw [if_pos c2] at hb
          exact ih (j + 1) _ _ _ (by omega) (by omega) hb
  have hb0 := lbr_le n h L
  refine Cx.of [.ref 1, .null, .null, .null, .null] (by decide) rfl rfl (Nat.le_of_ble_eq_true rfl) rfl ?_
  refine x_aload_n dX2_bestExchange_0 rfl ?_
  refine x_sipush dX2_bestExchange_1 sp_1023 ?_
  refine x_callVi 1 ml_X2_45 in_X2_lineBreaks se_X2_lineBreaks ct_X2_lineBreaks rfl (c_lineBreaks (d := 1) (by decide) hh hL8 hD hn hle) dX2_bestExchange_4 (by omega) rfl rfl rfl rfl (Nat.le_of_ble_eq_true rfl) (fun r0 J0 h0 => ?_)
  obtain ⟨rfl, hJ0⟩ := h0
  obtain rfl := hJ0.symm
  refine x_istore_n (ls' := [.ref 1, .int (nI (lbr n h L)), .null, .null, .null]) dX2_bestExchange_7 rfl rfl ?_
  refine x_bipush dX2_bestExchange_8 bp_m6 ?_
  refine x_istore_n (ls' := [.ref 1, .int (nI (lbr n h L)), .int (-6), .null, .null]) dX2_bestExchange_10 rfl rfl ?_
  refine x_iconst dX2_bestExchange_11 ic_0 ?_
  refine x_istore_n (ls' := [.ref 1, .int (nI (lbr n h L)), .int (-6), .int (nI 0), .null]) dX2_bestExchange_12 rfl rfl ?_
  exact lp (n - 1) 0 _ _ _ (by omega) (by omega) rfl
end DG
end
section
/-! Dig: its changes -/
theorem xup_ne {I : xMem} {k j c : Nat} {x : Int32} (h : c ≠ k) : xup I k j x c = I c := by simp [xup, va_up, h]
theorem xup_eq {I : xMem} {k j p : Nat} {x : Int32} : xup I k j x k p = if p = j then x else I k p := by simp [xup, va_up, upd]
def szH (m : Nat) (h : Nat → Nat) : Nat → Nat := fun g => if g < m then h g else 0
def szA (m : Nat) (a : Nat → Nat) : Nat → Nat := fun g => if g < m then a g &&& (1 <<< m - 1) else 0
/-- as far as g the new, from there on the old -/
def mixF (g : Nat) (f f' : Nat → Nat) : Nat → Nat := fun j => if j < g then f j else f' j
theorem mix_s {g j : Nat} {f f' : Nat → Nat} : mixF (g + 1) f f' j = if j = g then f g else mixF g f f' j := by
  unfold mixF
  by_cases h : j = g
  · subst h; rw [if_pos (Nat.lt_succ_self _), if_pos rfl]
  · rw [if_neg h]
    by_cases h2 : j < g
    · rw [if_pos h2, if_pos (by omega)]
    · rw [if_neg h2, if_neg (by omega)]
section DG
variable {I : xMem} {n d : Nat} {h a L : Nat → Nat}
theorem mix_row {J J' : xMem} {c g : Nat} {f f' : Nat → Nat} {x : Int32} (h1 : ∀ j, j < 8 → J c j = nI (mixF g f f' j)) (hx : x = nI (f g)) (h2 : ∀ j, J' c j = if j = g then x else J c j) : ∀ j, j < 8 → J' c j = nI (mixF (g + 1) f f' j) := by
  intro j hj
  rw [h2, mix_s]
  by_cases e : j = g
  · rw [if_pos e, if_pos e, hx]
  · rw [if_neg e, if_neg e]; exact h1 j hj
theorem c_resize {m : Nat} (hm : m ≤ 8) (hD : DigAt I 1 n h a L) : Cx LX yX2_resize mX2_resize d [.ref 1, .int (nI m)] I (xRv (fun J => DigAt J 1 m (szH m h) (szA m a) id ∧ ∀ c, c ≠ 1 → c ≠ 2 → c ≠ 3 → c ≠ 4 → J c = I c)) := by
  have lp : ∀ (k g : Nat) (v3 : Value) (J : xMem), g + k = 8 → J 1 0 = nI m → (∀ j, j < 8 → J 2 j = nI (mixF g (szH m h) h j)) → (∀ j, j < 8 → J 3 j = nI (mixF g (szA m a) a j)) → (∀ j, j < 8 → J 4 j = nI (mixF g id L j)) → (∀ c, c ≠ 1 → c ≠ 2 → c ≠ 3 → c ≠ 4 → J c = I c) → Wx LX mX2_resize d (xRv (fun J => DigAt J 1 m (szH m h) (szA m a) id ∧ ∀ c, c ≠ 1 → c ≠ 2 → c ≠ 3 → c ≠ 4 → J c = I c)) 7 [.ref 1, .int (nI m), .int (nI g), v3] [] J := by
    intro k
    induction k with
    | zero =>
      intro g v3 J hg j1 j2 j3 j4 jf
      refine x_iload_n dX2_resize_7 rfl ?_
      refine x_bipush dX2_resize_8 bp_8 ?_
      refine x_icmpn_ge (a := g) (b := 8) (by omega) (by omega) (tgt := 83) dX2_resize_10 rfl (fun c => ?_) (fun c => ?_)
      ·
        have e : g = 8 := by omega
        subst e
        have mx : ∀ (f f' : Nat → Nat) (j : Nat), j < 8 → mixF 8 f f' j = f j := fun f f' j hj => if_pos hj
        refine x_vretv dX2_resize_83 rfl ⟨⟨j1, fun j hj => by rw [show (1 + 1) = 2 from rfl, j2 j hj, mx _ _ j hj], fun j hj => by rw [show (1 + 2) = 3 from rfl, j3 j hj, mx _ _ j hj], fun j hj => by rw [show (1 + 3) = 4 from rfl, j4 j hj, mx _ _ j hj]⟩, jf⟩
      ·
        omega
    | succ k ih =>
      intro g v3 J hg j1 j2 j3 j4 jf
      have e2 : J 2 g = nI (h g) := by rw [j2 g (by omega), mixF, if_neg (by omega)]
      have e3 : J 3 g = nI (a g) := by rw [j3 g (by omega), mixF, if_neg (by omega)]
      refine x_iload_n dX2_resize_7 rfl ?_
      refine x_bipush dX2_resize_8 bp_8 ?_
      refine x_icmpn_ge (a := g) (b := 8) (by omega) (by omega) (tgt := 83) dX2_resize_10 rfl (fun c => ?_) (fun c => ?_)
      ·
        omega
      ·
        refine x_iload_n dX2_resize_13 rfl ?_
        refine x_iload_n dX2_resize_14 rfl ?_
        refine x_icmpn_ge (a := g) (b := m) (by omega) (by omega) (tgt := 22) dX2_resize_15 rfl (fun c2 => ?_) (fun c2 => ?_)
        ·
          refine x_iconst dX2_resize_22 ic_0 ?_
          refine x_istore_n (ls' := [.ref 1, .int (nI m), .int (nI g), .int (nI 0)]) dX2_resize_23 rfl rfl ?_
          refine x_aload_n dX2_resize_24 rfl ?_
          refine x_getR 1 1 rfl (by decide) fl_X2_15 dX2_resize_25 rfl rfl rfl ?_
          refine x_iload_n dX2_resize_28 rfl ?_
          refine x_iload_n dX2_resize_29 rfl ?_
          refine x_ifn_eq (a := 0) (by decide) (tgt := 42) dX2_resize_30 rfl (fun c3 => ?_) (fun c3 => ?_)
          ·
            refine x_iconst dX2_resize_42 ic_0 ?_
            refine x_iast (p := g) dX2_resize_43 rfl rfl rfl rfl (by omega) ?_
            generalize hJ1 : xup J 2 g (nI 0) = J1
            refine x_aload_n dX2_resize_44 rfl ?_
            refine x_getR 1 2 rfl (by decide) fl_X2_19 dX2_resize_45 rfl rfl rfl ?_
            refine x_iload_n dX2_resize_48 rfl ?_
            refine x_iload_n dX2_resize_49 rfl ?_
            refine x_ifn_eq (a := 0) (by decide) (tgt := 68) dX2_resize_50 rfl (fun c4 => ?_) (fun c4 => ?_)
            ·
              refine x_iconst dX2_resize_68 ic_0 ?_
              refine x_iast (p := g) dX2_resize_69 rfl rfl rfl rfl (by omega) ?_
              generalize hJ2 : xup J1 3 g (nI 0) = J2
              refine x_aload_n dX2_resize_70 rfl ?_
              refine x_getR 1 3 rfl (by decide) fl_X2_22 dX2_resize_71 rfl rfl rfl ?_
              refine x_iload_n dX2_resize_74 rfl ?_
              refine x_iload_n dX2_resize_75 rfl ?_
              refine x_iast (p := g) dX2_resize_76 rfl rfl rfl rfl (by omega) ?_
              generalize hJ3 : xup J2 4 g (nI g) = J3
              refine x_iinc (v := nI (g + 1)) (ls' := [.ref 1, .int (nI m), .int (nI (g + 1)), .int (nI 0)]) dX2_resize_77 rfl (inc_1 _) rfl rfl ?_
              refine x_goto (tgt := 7) dX2_resize_80 rfl ?_
              refine ih (g + 1) _ J3 (by omega) ?_ ?_ ?_ ?_ ?_
              · rw [← hJ3, xup_ne (by decide), ← hJ2, xup_ne (by decide), ← hJ1, xup_ne (by decide)]; exact j1
              · refine mix_row j2 (x := nI 0) (by simp [szH, Nat.not_lt.mpr c2]) (fun j => ?_)
                rw [← hJ3, xup_ne (by decide), ← hJ2, xup_ne (by decide), ← hJ1, xup_eq]
              · refine mix_row j3 (x := nI 0) (by simp [szA, Nat.not_lt.mpr c2]) (fun j => ?_)
                rw [← hJ3, xup_ne (by decide), ← hJ2, xup_eq, ← hJ1, xup_ne (by decide)]
              · refine mix_row j4 (x := nI g) rfl (fun j => ?_)
                rw [← hJ3, xup_eq, ← hJ2, xup_ne (by decide), ← hJ1, xup_ne (by decide)]
              · intro c h1 h2 h3 h4
                rw [← hJ3, xup_ne h4, ← hJ2, xup_ne h3, ← hJ1, xup_ne h2]; exact jf c h1 h2 h3 h4
            ·
              exact absurd rfl c4
          ·
            exact absurd rfl c3
        ·
          refine x_iconst dX2_resize_18 ic_1 ?_
          refine x_goto (tgt := 23) dX2_resize_19 rfl ?_
          refine x_istore_n (ls' := [.ref 1, .int (nI m), .int (nI g), .int (nI 1)]) dX2_resize_23 rfl rfl ?_
          refine x_aload_n dX2_resize_24 rfl ?_
          refine x_getR 1 1 rfl (by decide) fl_X2_15 dX2_resize_25 rfl rfl rfl ?_
          refine x_iload_n dX2_resize_28 rfl ?_
          refine x_iload_n dX2_resize_29 rfl ?_
          refine x_ifn_eq (a := 1) (by decide) (tgt := 42) dX2_resize_30 rfl (fun c3 => ?_) (fun c3 => ?_)
          ·
            exact absurd c3 (by decide)
          ·
            refine x_aload_n dX2_resize_33 rfl ?_
            refine x_getR 1 1 rfl (by decide) fl_X2_15 dX2_resize_34 rfl rfl rfl ?_
            refine x_iload_n dX2_resize_37 rfl ?_
            refine x_iald (p := g) (v := nI (h g)) dX2_resize_38 rfl rfl rfl rfl (by omega) e2 ?_
            refine x_goto (tgt := 43) dX2_resize_39 rfl ?_
            refine x_iast (p := g) dX2_resize_43 rfl rfl rfl rfl (by omega) ?_
            generalize hJ1 : xup J 2 g (nI (h g)) = J1
            refine x_aload_n dX2_resize_44 rfl ?_
            refine x_getR 1 2 rfl (by decide) fl_X2_19 dX2_resize_45 rfl rfl rfl ?_
            refine x_iload_n dX2_resize_48 rfl ?_
            refine x_iload_n dX2_resize_49 rfl ?_
            refine x_ifn_eq (a := 1) (by decide) (tgt := 68) dX2_resize_50 rfl (fun c4 => ?_) (fun c4 => ?_)
            ·
              exact absurd c4 (by decide)
            ·
              refine x_aload_n dX2_resize_53 rfl ?_
              refine x_getR 1 2 rfl (by decide) fl_X2_19 dX2_resize_54 rfl rfl rfl ?_
              refine x_iload_n dX2_resize_57 rfl ?_
              refine x_iald (p := g) (v := nI (a g)) dX2_resize_58 rfl rfl rfl rfl (by omega) (by rw [← hJ1, xup_ne (by decide)]; exact e3) ?_
              refine x_iconst dX2_resize_59 ic_1 ?_
              refine x_iload_n dX2_resize_60 rfl ?_
              refine x_ishl (v := nI (1 <<< m)) dX2_resize_61 (nI_shl _ (by omega)) ?_
              refine x_iconst dX2_resize_62 ic_1 ?_
              refine x_isub (v := nI ((1 <<< m) - 1)) dX2_resize_63 (pk_sub (by rw [Nat.shiftLeft_eq, Nat.one_mul]; exact Nat.one_le_two_pow)) ?_
              refine x_iand (v := nI ((a g) &&& ((1 <<< m) - 1))) dX2_resize_64 (nI_and _ _) ?_
              refine x_goto (tgt := 69) dX2_resize_65 rfl ?_
              refine x_iast (p := g) dX2_resize_69 rfl rfl rfl rfl (by omega) ?_
              generalize hJ2 : xup J1 3 g (nI ((a g) &&& ((1 <<< m) - 1))) = J2
              refine x_aload_n dX2_resize_70 rfl ?_
              refine x_getR 1 3 rfl (by decide) fl_X2_22 dX2_resize_71 rfl rfl rfl ?_
              refine x_iload_n dX2_resize_74 rfl ?_
              refine x_iload_n dX2_resize_75 rfl ?_
              refine x_iast (p := g) dX2_resize_76 rfl rfl rfl rfl (by omega) ?_
              generalize hJ3 : xup J2 4 g (nI g) = J3
              refine x_iinc (v := nI (g + 1)) (ls' := [.ref 1, .int (nI m), .int (nI (g + 1)), .int (nI 1)]) dX2_resize_77 rfl (inc_1 _) rfl rfl ?_
              refine x_goto (tgt := 7) dX2_resize_80 rfl ?_
              refine ih (g + 1) _ J3 (by omega) ?_ ?_ ?_ ?_ ?_
              · rw [← hJ3, xup_ne (by decide), ← hJ2, xup_ne (by decide), ← hJ1, xup_ne (by decide)]; exact j1
              · refine mix_row j2 (x := nI (h g)) (by simp [szH, c2]) (fun j => ?_)
                rw [← hJ3, xup_ne (by decide), ← hJ2, xup_ne (by decide), ← hJ1, xup_eq]
              · refine mix_row j3 (x := nI (a g &&& (1 <<< m - 1))) (by simp [szA, c2]) (fun j => ?_)
                rw [← hJ3, xup_ne (by decide), ← hJ2, xup_eq, ← hJ1, xup_ne (by decide)]
              · refine mix_row j4 (x := nI g) rfl (fun j => ?_)
                rw [← hJ3, xup_eq, ← hJ2, xup_ne (by decide), ← hJ1, xup_ne (by decide)]
              · intro c h1 h2 h3 h4
                rw [← hJ3, xup_ne h4, ← hJ2, xup_ne h3, ← hJ1, xup_ne h2]; exact jf c h1 h2 h3 h4
  refine Cx.of [.ref 1, .int (nI m), .null, .null] (by decide) rfl rfl (Nat.le_of_ble_eq_true rfl) rfl ?_
  refine x_aload_n dX2_resize_0 rfl ?_
  refine x_iload_n dX2_resize_1 rfl ?_
  refine x_put 1 0 rfl (by decide) fl_X2_9 rfl rfl rfl rfl dX2_resize_2 rfl rfl rfl ?_
  generalize hJ0 : xup I 1 0 (nI m) = J0
  refine x_iconst dX2_resize_5 ic_0 ?_
  refine x_istore_n (ls' := [.ref 1, .int (nI m), .int (nI 0), .null]) dX2_resize_6 rfl rfl ?_
  refine lp 8 0 _ J0 rfl ?_ ?_ ?_ ?_ ?_
  · rw [← hJ0, xup_eq]; rfl
  · intro j hj; rw [← hJ0, xup_ne (by decide)]; exact hD.2.1 j hj
  · intro j hj; rw [← hJ0, xup_ne (by decide)]; exact hD.2.2.1 j hj
  · intro j hj; rw [← hJ0, xup_ne (by decide)]; exact hD.2.2.2 j hj
  · intro c h1 _ _ _; rw [← hJ0, xup_ne h1]
theorem cp_in {I : xMem} {k0 k1 j : Nat} (h : j < 8) : va_up I k1 (va_cpy (I k0) (I k1) 0 0 8) k1 j = I k0 j := by
  simp only [va_up, if_pos]; rw [pk_cpy_in (Nat.zero_le _) (by omega)]; simp
theorem cp_ne {I : xMem} {k1 c : Nat} {f : Nat → Int32} (h : c ≠ k1) : va_up I k1 f c = I c := by simp [va_up, h]
theorem c_become_1_6 (hd : 1 ≤ d) (hD : DigAt I 6 n h a L) : Cx LX yX2_become mX2_become d [.ref 1, .ref 6] I (xRv (fun J => DigAt J 1 n h a L ∧ ∀ c, c ≠ 1 → c ≠ 2 → c ≠ 3 → c ≠ 4 → J c = I c)) := by
  refine Cx.of [.ref 1, .ref 6] (by decide) rfl rfl (Nat.le_of_ble_eq_true rfl) rfl ?_
  refine x_aload_n dX2_become_0 rfl ?_
  refine x_aload_n dX2_become_1 rfl ?_
  refine x_getI 1 0 (v := nI n) rfl (by decide) fl_X2_9 dX2_become_2 rfl rfl rfl hD.1 ?_
  refine x_put 1 0 rfl (by decide) fl_X2_9 rfl rfl rfl rfl dX2_become_5 rfl rfl rfl ?_
  generalize hJ0 : xup I 1 0 (nI n) = J0
  refine x_aload_n dX2_become_8 rfl ?_
  refine x_getR 1 1 rfl (by decide) fl_X2_15 dX2_become_9 rfl rfl rfl ?_
  refine x_iconst dX2_become_12 ic_0 ?_
  refine x_aload_n dX2_become_13 rfl ?_
  refine x_getR 1 1 rfl (by decide) fl_X2_15 dX2_become_14 rfl rfl rfl ?_
  refine x_iconst dX2_become_17 ic_0 ?_
  refine x_bipush dX2_become_18 bp_8 ?_
  refine x_copy ml_X2_25 nat_copy stat_copy ini_J10 dX2_become_20 hd rfl rfl rfl rfl (Nat.le_of_ble_eq_true rfl) rfl rfl rfl (by omega) (by omega) rfl rfl ?_
  generalize hJ1 : va_up J0 2 (va_cpy (J0 7) (J0 2) 0 0 8) = J1
  refine x_aload_n dX2_become_23 rfl ?_
  refine x_getR 1 2 rfl (by decide) fl_X2_19 dX2_become_24 rfl rfl rfl ?_
  refine x_iconst dX2_become_27 ic_0 ?_
  refine x_aload_n dX2_become_28 rfl ?_
  refine x_getR 1 2 rfl (by decide) fl_X2_19 dX2_become_29 rfl rfl rfl ?_
  refine x_iconst dX2_become_32 ic_0 ?_
  refine x_bipush dX2_become_33 bp_8 ?_
  refine x_copy ml_X2_25 nat_copy stat_copy ini_J10 dX2_become_35 hd rfl rfl rfl rfl (Nat.le_of_ble_eq_true rfl) rfl rfl rfl (by omega) (by omega) rfl rfl ?_
  generalize hJ2 : va_up J1 3 (va_cpy (J1 8) (J1 3) 0 0 8) = J2
  refine x_aload_n dX2_become_38 rfl ?_
  refine x_getR 1 3 rfl (by decide) fl_X2_22 dX2_become_39 rfl rfl rfl ?_
  refine x_iconst dX2_become_42 ic_0 ?_
  refine x_aload_n dX2_become_43 rfl ?_
  refine x_getR 1 3 rfl (by decide) fl_X2_22 dX2_become_44 rfl rfl rfl ?_
  refine x_iconst dX2_become_47 ic_0 ?_
  refine x_bipush dX2_become_48 bp_8 ?_
  refine x_copy ml_X2_25 nat_copy stat_copy ini_J10 dX2_become_50 hd rfl rfl rfl rfl (Nat.le_of_ble_eq_true rfl) rfl rfl rfl (by omega) (by omega) rfl rfl ?_
  generalize hJ3 : va_up J2 4 (va_cpy (J2 9) (J2 4) 0 0 8) = J3
  refine x_vretv dX2_become_53 rfl ⟨⟨?_, fun g hg => ?_, fun g hg => ?_, fun g hg => ?_⟩, fun c h1 h2 h3 h4 => ?_⟩
  · rw [← hJ3, cp_ne (by decide), ← hJ2, cp_ne (by decide), ← hJ1, cp_ne (by decide), ← hJ0, xup_eq]; rfl
  · rw [← hJ3, cp_ne (by decide), ← hJ2, cp_ne (by decide), ← hJ1, show 1 + 1 = 2 from rfl, cp_in hg, ← hJ0, xup_ne (by decide)]; exact hD.2.1 g hg
  · rw [← hJ3, cp_ne (by decide), ← hJ2, show 1 + 2 = 3 from rfl, cp_in hg, ← hJ1, cp_ne (by decide), ← hJ0, xup_ne (by decide)]; exact hD.2.2.1 g hg
  · rw [← hJ3, show 1 + 3 = 4 from rfl, cp_in hg, ← hJ2, cp_ne (by decide), ← hJ1, cp_ne (by decide), ← hJ0, xup_ne (by decide)]; exact hD.2.2.2 g hg
  · rw [← hJ3, cp_ne h4, ← hJ2, cp_ne h3, ← hJ1, cp_ne h2, ← hJ0, xup_ne h1]
theorem c_become_1_10 (hd : 1 ≤ d) (hD : DigAt I 10 n h a L) : Cx LX yX2_become mX2_become d [.ref 1, .ref 10] I (xRv (fun J => DigAt J 1 n h a L ∧ ∀ c, c ≠ 1 → c ≠ 2 → c ≠ 3 → c ≠ 4 → J c = I c)) := by
  refine Cx.of [.ref 1, .ref 10] (by decide) rfl rfl (Nat.le_of_ble_eq_true rfl) rfl ?_
  refine x_aload_n dX2_become_0 rfl ?_
  refine x_aload_n dX2_become_1 rfl ?_
  refine x_getI 1 0 (v := nI n) rfl (by decide) fl_X2_9 dX2_become_2 rfl rfl rfl hD.1 ?_
  refine x_put 1 0 rfl (by decide) fl_X2_9 rfl rfl rfl rfl dX2_become_5 rfl rfl rfl ?_
  generalize hJ0 : xup I 1 0 (nI n) = J0
  refine x_aload_n dX2_become_8 rfl ?_
  refine x_getR 1 1 rfl (by decide) fl_X2_15 dX2_become_9 rfl rfl rfl ?_
  refine x_iconst dX2_become_12 ic_0 ?_
  refine x_aload_n dX2_become_13 rfl ?_
  refine x_getR 1 1 rfl (by decide) fl_X2_15 dX2_become_14 rfl rfl rfl ?_
  refine x_iconst dX2_become_17 ic_0 ?_
  refine x_bipush dX2_become_18 bp_8 ?_
  refine x_copy ml_X2_25 nat_copy stat_copy ini_J10 dX2_become_20 hd rfl rfl rfl rfl (Nat.le_of_ble_eq_true rfl) rfl rfl rfl (by omega) (by omega) rfl rfl ?_
  generalize hJ1 : va_up J0 2 (va_cpy (J0 11) (J0 2) 0 0 8) = J1
  refine x_aload_n dX2_become_23 rfl ?_
  refine x_getR 1 2 rfl (by decide) fl_X2_19 dX2_become_24 rfl rfl rfl ?_
  refine x_iconst dX2_become_27 ic_0 ?_
  refine x_aload_n dX2_become_28 rfl ?_
  refine x_getR 1 2 rfl (by decide) fl_X2_19 dX2_become_29 rfl rfl rfl ?_
  refine x_iconst dX2_become_32 ic_0 ?_
  refine x_bipush dX2_become_33 bp_8 ?_
  refine x_copy ml_X2_25 nat_copy stat_copy ini_J10 dX2_become_35 hd rfl rfl rfl rfl (Nat.le_of_ble_eq_true rfl) rfl rfl rfl (by omega) (by omega) rfl rfl ?_
  generalize hJ2 : va_up J1 3 (va_cpy (J1 12) (J1 3) 0 0 8) = J2
  refine x_aload_n dX2_become_38 rfl ?_
  refine x_getR 1 3 rfl (by decide) fl_X2_22 dX2_become_39 rfl rfl rfl ?_
  refine x_iconst dX2_become_42 ic_0 ?_
  refine x_aload_n dX2_become_43 rfl ?_
  refine x_getR 1 3 rfl (by decide) fl_X2_22 dX2_become_44 rfl rfl rfl ?_
  refine x_iconst dX2_become_47 ic_0 ?_
  refine x_bipush dX2_become_48 bp_8 ?_
  refine x_copy ml_X2_25 nat_copy stat_copy ini_J10 dX2_become_50 hd rfl rfl rfl rfl (Nat.le_of_ble_eq_true rfl) rfl rfl rfl (by omega) (by omega) rfl rfl ?_
  generalize hJ3 : va_up J2 4 (va_cpy (J2 13) (J2 4) 0 0 8) = J3
  refine x_vretv dX2_become_53 rfl ⟨⟨?_, fun g hg => ?_, fun g hg => ?_, fun g hg => ?_⟩, fun c h1 h2 h3 h4 => ?_⟩
  · rw [← hJ3, cp_ne (by decide), ← hJ2, cp_ne (by decide), ← hJ1, cp_ne (by decide), ← hJ0, xup_eq]; rfl
  · rw [← hJ3, cp_ne (by decide), ← hJ2, cp_ne (by decide), ← hJ1, show 1 + 1 = 2 from rfl, cp_in hg, ← hJ0, xup_ne (by decide)]; exact hD.2.1 g hg
  · rw [← hJ3, cp_ne (by decide), ← hJ2, show 1 + 2 = 3 from rfl, cp_in hg, ← hJ1, cp_ne (by decide), ← hJ0, xup_ne (by decide)]; exact hD.2.2.1 g hg
  · rw [← hJ3, show 1 + 3 = 4 from rfl, cp_in hg, ← hJ2, cp_ne (by decide), ← hJ1, cp_ne (by decide), ← hJ0, xup_ne (by decide)]; exact hD.2.2.2 g hg
  · rw [← hJ3, cp_ne h4, ← hJ2, cp_ne h3, ← hJ1, cp_ne h2, ← hJ0, xup_ne h1]
theorem c_become_6_1 (hd : 1 ≤ d) (hD : DigAt I 1 n h a L) : Cx LX yX2_become mX2_become d [.ref 6, .ref 1] I (xRv (fun J => DigAt J 6 n h a L ∧ ∀ c, c ≠ 6 → c ≠ 7 → c ≠ 8 → c ≠ 9 → J c = I c)) := by
  refine Cx.of [.ref 6, .ref 1] (by decide) rfl rfl (Nat.le_of_ble_eq_true rfl) rfl ?_
  refine x_aload_n dX2_become_0 rfl ?_
  refine x_aload_n dX2_become_1 rfl ?_
  refine x_getI 1 0 (v := nI n) rfl (by decide) fl_X2_9 dX2_become_2 rfl rfl rfl hD.1 ?_
  refine x_put 1 0 rfl (by decide) fl_X2_9 rfl rfl rfl rfl dX2_become_5 rfl rfl rfl ?_
  generalize hJ0 : xup I 6 0 (nI n) = J0
  refine x_aload_n dX2_become_8 rfl ?_
  refine x_getR 1 1 rfl (by decide) fl_X2_15 dX2_become_9 rfl rfl rfl ?_
  refine x_iconst dX2_become_12 ic_0 ?_
  refine x_aload_n dX2_become_13 rfl ?_
  refine x_getR 1 1 rfl (by decide) fl_X2_15 dX2_become_14 rfl rfl rfl ?_
  refine x_iconst dX2_become_17 ic_0 ?_
  refine x_bipush dX2_become_18 bp_8 ?_
  refine x_copy ml_X2_25 nat_copy stat_copy ini_J10 dX2_become_20 hd rfl rfl rfl rfl (Nat.le_of_ble_eq_true rfl) rfl rfl rfl (by omega) (by omega) rfl rfl ?_
  generalize hJ1 : va_up J0 7 (va_cpy (J0 2) (J0 7) 0 0 8) = J1
  refine x_aload_n dX2_become_23 rfl ?_
  refine x_getR 1 2 rfl (by decide) fl_X2_19 dX2_become_24 rfl rfl rfl ?_
  refine x_iconst dX2_become_27 ic_0 ?_
  refine x_aload_n dX2_become_28 rfl ?_
  refine x_getR 1 2 rfl (by decide) fl_X2_19 dX2_become_29 rfl rfl rfl ?_
  refine x_iconst dX2_become_32 ic_0 ?_
  refine x_bipush dX2_become_33 bp_8 ?_
  refine x_copy ml_X2_25 nat_copy stat_copy ini_J10 dX2_become_35 hd rfl rfl rfl rfl (Nat.le_of_ble_eq_true rfl) rfl rfl rfl (by omega) (by omega) rfl rfl ?_
  generalize hJ2 : va_up J1 8 (va_cpy (J1 3) (J1 8) 0 0 8) = J2
  refine x_aload_n dX2_become_38 rfl ?_
  refine x_getR 1 3 rfl (by decide) fl_X2_22 dX2_become_39 rfl rfl rfl ?_
  refine x_iconst dX2_become_42 ic_0 ?_
  refine x_aload_n dX2_become_43 rfl ?_
  refine x_getR 1 3 rfl (by decide) fl_X2_22 dX2_become_44 rfl rfl rfl ?_
  refine x_iconst dX2_become_47 ic_0 ?_
  refine x_bipush dX2_become_48 bp_8 ?_
  refine x_copy ml_X2_25 nat_copy stat_copy ini_J10 dX2_become_50 hd rfl rfl rfl rfl (Nat.le_of_ble_eq_true rfl) rfl rfl rfl (by omega) (by omega) rfl rfl ?_
  generalize hJ3 : va_up J2 9 (va_cpy (J2 4) (J2 9) 0 0 8) = J3
  refine x_vretv dX2_become_53 rfl ⟨⟨?_, fun g hg => ?_, fun g hg => ?_, fun g hg => ?_⟩, fun c h1 h2 h3 h4 => ?_⟩
  · rw [← hJ3, cp_ne (by decide), ← hJ2, cp_ne (by decide), ← hJ1, cp_ne (by decide), ← hJ0, xup_eq]; rfl
  · rw [← hJ3, cp_ne (by decide), ← hJ2, cp_ne (by decide), ← hJ1, show 6 + 1 = 7 from rfl, cp_in hg, ← hJ0, xup_ne (by decide)]; exact hD.2.1 g hg
  · rw [← hJ3, cp_ne (by decide), ← hJ2, show 6 + 2 = 8 from rfl, cp_in hg, ← hJ1, cp_ne (by decide), ← hJ0, xup_ne (by decide)]; exact hD.2.2.1 g hg
  · rw [← hJ3, show 6 + 3 = 9 from rfl, cp_in hg, ← hJ2, cp_ne (by decide), ← hJ1, cp_ne (by decide), ← hJ0, xup_ne (by decide)]; exact hD.2.2.2 g hg
  · rw [← hJ3, cp_ne h4, ← hJ2, cp_ne h3, ← hJ1, cp_ne h2, ← hJ0, xup_ne h1]
theorem c_become_10_1 (hd : 1 ≤ d) (hD : DigAt I 1 n h a L) : Cx LX yX2_become mX2_become d [.ref 10, .ref 1] I (xRv (fun J => DigAt J 10 n h a L ∧ ∀ c, c ≠ 10 → c ≠ 11 → c ≠ 12 → c ≠ 13 → J c = I c)) := by
  refine Cx.of [.ref 10, .ref 1] (by decide) rfl rfl (Nat.le_of_ble_eq_true rfl) rfl ?_
  refine x_aload_n dX2_become_0 rfl ?_
  refine x_aload_n dX2_become_1 rfl ?_
  refine x_getI 1 0 (v := nI n) rfl (by decide) fl_X2_9 dX2_become_2 rfl rfl rfl hD.1 ?_
  refine x_put 1 0 rfl (by decide) fl_X2_9 rfl rfl rfl rfl dX2_become_5 rfl rfl rfl ?_
  generalize hJ0 : xup I 10 0 (nI n) = J0
  refine x_aload_n dX2_become_8 rfl ?_
  refine x_getR 1 1 rfl (by decide) fl_X2_15 dX2_become_9 rfl rfl rfl ?_
  refine x_iconst dX2_become_12 ic_0 ?_
  refine x_aload_n dX2_become_13 rfl ?_
  refine x_getR 1 1 rfl (by decide) fl_X2_15 dX2_become_14 rfl rfl rfl ?_
  refine x_iconst dX2_become_17 ic_0 ?_
  refine x_bipush dX2_become_18 bp_8 ?_
  refine x_copy ml_X2_25 nat_copy stat_copy ini_J10 dX2_become_20 hd rfl rfl rfl rfl (Nat.le_of_ble_eq_true rfl) rfl rfl rfl (by omega) (by omega) rfl rfl ?_
  generalize hJ1 : va_up J0 11 (va_cpy (J0 2) (J0 11) 0 0 8) = J1
  refine x_aload_n dX2_become_23 rfl ?_
  refine x_getR 1 2 rfl (by decide) fl_X2_19 dX2_become_24 rfl rfl rfl ?_
  refine x_iconst dX2_become_27 ic_0 ?_
  refine x_aload_n dX2_become_28 rfl ?_
  refine x_getR 1 2 rfl (by decide) fl_X2_19 dX2_become_29 rfl rfl rfl ?_
  refine x_iconst dX2_become_32 ic_0 ?_
  refine x_bipush dX2_become_33 bp_8 ?_
  refine x_copy ml_X2_25 nat_copy stat_copy ini_J10 dX2_become_35 hd rfl rfl rfl rfl (Nat.le_of_ble_eq_true rfl) rfl rfl rfl (by omega) (by omega) rfl rfl ?_
  generalize hJ2 : va_up J1 12 (va_cpy (J1 3) (J1 12) 0 0 8) = J2
  refine x_aload_n dX2_become_38 rfl ?_
  refine x_getR 1 3 rfl (by decide) fl_X2_22 dX2_become_39 rfl rfl rfl ?_
  refine x_iconst dX2_become_42 ic_0 ?_
  refine x_aload_n dX2_become_43 rfl ?_
  refine x_getR 1 3 rfl (by decide) fl_X2_22 dX2_become_44 rfl rfl rfl ?_
  refine x_iconst dX2_become_47 ic_0 ?_
  refine x_bipush dX2_become_48 bp_8 ?_
  refine x_copy ml_X2_25 nat_copy stat_copy ini_J10 dX2_become_50 hd rfl rfl rfl rfl (Nat.le_of_ble_eq_true rfl) rfl rfl rfl (by omega) (by omega) rfl rfl ?_
  generalize hJ3 : va_up J2 13 (va_cpy (J2 4) (J2 13) 0 0 8) = J3
  refine x_vretv dX2_become_53 rfl ⟨⟨?_, fun g hg => ?_, fun g hg => ?_, fun g hg => ?_⟩, fun c h1 h2 h3 h4 => ?_⟩
  · rw [← hJ3, cp_ne (by decide), ← hJ2, cp_ne (by decide), ← hJ1, cp_ne (by decide), ← hJ0, xup_eq]; rfl
  · rw [← hJ3, cp_ne (by decide), ← hJ2, cp_ne (by decide), ← hJ1, show 10 + 1 = 11 from rfl, cp_in hg, ← hJ0, xup_ne (by decide)]; exact hD.2.1 g hg
  · rw [← hJ3, cp_ne (by decide), ← hJ2, show 10 + 2 = 12 from rfl, cp_in hg, ← hJ1, cp_ne (by decide), ← hJ0, xup_ne (by decide)]; exact hD.2.2.1 g hg
  · rw [← hJ3, show 10 + 3 = 13 from rfl, cp_in hg, ← hJ2, cp_ne (by decide), ← hJ1, cp_ne (by decide), ← hJ0, xup_ne (by decide)]; exact hD.2.2.2 g hg
  · rw [← hJ3, cp_ne h4, ← hJ2, cp_ne h3, ← hJ1, cp_ne h2, ← hJ0, xup_ne h1]
theorem c_members_2 {f : Nat → Nat} (hd : 1 ≤ d) (hf : ∀ g, f g < 1024) (hI : ∀ g, g < 8 → I 2 g = nI (f g)) : Cx LX yX5_membersOfAll mX5_membersOfAll d [.ref 2] I (xRi (fun r J => r = nI (rf (fun s g => s + pop (f g)) 0 8) ∧ J = I)) := by
  have lp : ∀ (k g : Nat) (v5 : Value), g + k = 8 → Wx LX mX5_membersOfAll d (xRi (fun r J => r = nI (rf (fun s g => s + pop (f g)) 0 8) ∧ J = I)) 10 [.ref 2, .int (nI (rf (fun s g => s + pop (f g)) 0 g)), .ref 2, .int (nI 8), .int (nI g), v5] [] I := by
    intro k
    induction k with
    | zero =>
      intro g v5 hg
      refine x_iload dX5_membersOfAll_10 rfl ?_
      refine x_iload_n dX5_membersOfAll_12 rfl ?_
      refine x_icmpn_ge (a := g) (b := 8) (by omega) (by omega) (tgt := 36) dX5_membersOfAll_13 rfl (fun c => ?_) (fun c => ?_)
      ·
        refine x_iload_n dX5_membersOfAll_36 rfl ?_
        refine x_ireti dX5_membersOfAll_37 rfl ⟨by rw [show g = 8 by omega], rfl⟩
      ·
        omega
    | succ k ih =>
      intro g v5 hg
      refine x_iload dX5_membersOfAll_10 rfl ?_
      refine x_iload_n dX5_membersOfAll_12 rfl ?_
      refine x_icmpn_ge (a := g) (b := 8) (by omega) (by omega) (tgt := 36) dX5_membersOfAll_13 rfl (fun c => ?_) (fun c => ?_)
      ·
        omega
      ·
        refine x_aload_n dX5_membersOfAll_16 rfl ?_
        refine x_iload dX5_membersOfAll_17 rfl ?_
        refine x_iald (p := g) (v := nI (f g)) dX5_membersOfAll_19 rfl rfl rfl rfl (by omega) (hI g (by omega)) ?_
        refine x_istore (ls' := [.ref 2, .int (nI (rf (fun s g => s + pop (f g)) 0 g)), .ref 2, .int (nI 8), .int (nI g), .int (nI (f g))]) dX5_membersOfAll_20 rfl rfl ?_
        refine x_iload_n dX5_membersOfAll_22 rfl ?_
        refine x_iload dX5_membersOfAll_23 rfl ?_
        refine x_callSi (as := [.int (nI (f g))]) ml_X5_66 st_J6_bitCount_0f7a4 ct_J6_bitCount_0f7a4 (c_bitCount (d := 0) (hf g)) dX5_membersOfAll_25 hd rfl rfl (Nat.le_of_ble_eq_true rfl) (fun r0 J0 h0 => ?_)
        obtain ⟨rfl, hJ0⟩ := h0
        obtain rfl := hJ0.symm
        refine x_iadd (v := nI ((rf (fun s g => s + pop (f g)) 0 g) + (pop (f g)))) dX5_membersOfAll_28 (nI_add _ _) ?_
        refine x_istore_n (ls' := [.ref 2, .int (nI ((rf (fun s g => s + pop (f g)) 0 g) + (pop (f g)))), .ref 2, .int (nI 8), .int (nI g), .int (nI (f g))]) dX5_membersOfAll_29 rfl rfl ?_
        refine x_iinc (v := nI (g + 1)) (ls' := [.ref 2, .int (nI ((rf (fun s g => s + pop (f g)) 0 g) + (pop (f g)))), .ref 2, .int (nI 8), .int (nI (g + 1)), .int (nI (f g))]) dX5_membersOfAll_30 rfl (inc_1 _) rfl rfl ?_
        refine x_goto (tgt := 10) dX5_membersOfAll_33 rfl ?_
        have := ih (g + 1) (.int (nI (f g))) (by omega)
        rw [rf_s _ _ g] at this
        exact this
  refine Cx.of [.ref 2, .null, .null, .null, .null, .null] (by decide) rfl rfl (Nat.le_of_ble_eq_true rfl) rfl ?_
  refine x_iconst dX5_membersOfAll_0 ic_0 ?_
  refine x_istore_n (ls' := [.ref 2, .int (nI 0), .null, .null, .null, .null]) dX5_membersOfAll_1 rfl rfl ?_
  refine x_aload_n dX5_membersOfAll_2 rfl ?_
  refine x_astore_n (ls' := [.ref 2, .int (nI 0), .ref 2, .null, .null, .null]) dX5_membersOfAll_3 rfl rfl ?_
  refine x_aload_n dX5_membersOfAll_4 rfl ?_
  refine x_alen dX5_membersOfAll_5 rfl rfl ?_
  refine x_istore_n (ls' := [.ref 2, .int (nI 0), .ref 2, .int (nI 8), .null, .null]) dX5_membersOfAll_6 rfl rfl ?_
  refine x_iconst dX5_membersOfAll_7 ic_0 ?_
  refine x_istore (ls' := [.ref 2, .int (nI 0), .ref 2, .int (nI 8), .int (nI 0), .null]) dX5_membersOfAll_8 rfl rfl ?_
  exact lp 8 0 _ rfl
theorem c_members_3 {f : Nat → Nat} (hd : 1 ≤ d) (hf : ∀ g, f g < 1024) (hI : ∀ g, g < 8 → I 3 g = nI (f g)) : Cx LX yX5_membersOfAll mX5_membersOfAll d [.ref 3] I (xRi (fun r J => r = nI (rf (fun s g => s + pop (f g)) 0 8) ∧ J = I)) := by
  have lp : ∀ (k g : Nat) (v5 : Value), g + k = 8 → Wx LX mX5_membersOfAll d (xRi (fun r J => r = nI (rf (fun s g => s + pop (f g)) 0 8) ∧ J = I)) 10 [.ref 3, .int (nI (rf (fun s g => s + pop (f g)) 0 g)), .ref 3, .int (nI 8), .int (nI g), v5] [] I := by
    intro k
    induction k with
    | zero =>
      intro g v5 hg
      refine x_iload dX5_membersOfAll_10 rfl ?_
      refine x_iload_n dX5_membersOfAll_12 rfl ?_
      refine x_icmpn_ge (a := g) (b := 8) (by omega) (by omega) (tgt := 36) dX5_membersOfAll_13 rfl (fun c => ?_) (fun c => ?_)
      ·
        refine x_iload_n dX5_membersOfAll_36 rfl ?_
        refine x_ireti dX5_membersOfAll_37 rfl ⟨by rw [show g = 8 by omega], rfl⟩
      ·
        omega
    | succ k ih =>
      intro g v5 hg
      refine x_iload dX5_membersOfAll_10 rfl ?_
      refine x_iload_n dX5_membersOfAll_12 rfl ?_
      refine x_icmpn_ge (a := g) (b := 8) (by omega) (by omega) (tgt := 36) dX5_membersOfAll_13 rfl (fun c => ?_) (fun c => ?_)
      ·
        omega
      ·
        refine x_aload_n dX5_membersOfAll_16 rfl ?_
        refine x_iload dX5_membersOfAll_17 rfl ?_
        refine x_iald (p := g) (v := nI (f g)) dX5_membersOfAll_19 rfl rfl rfl rfl (by omega) (hI g (by omega)) ?_
        refine x_istore (ls' := [.ref 3, .int (nI (rf (fun s g => s + pop (f g)) 0 g)), .ref 3, .int (nI 8), .int (nI g), .int (nI (f g))]) dX5_membersOfAll_20 rfl rfl ?_
        refine x_iload_n dX5_membersOfAll_22 rfl ?_
        refine x_iload dX5_membersOfAll_23 rfl ?_
        refine x_callSi (as := [.int (nI (f g))]) ml_X5_66 st_J6_bitCount_0f7a4 ct_J6_bitCount_0f7a4 (c_bitCount (d := 0) (hf g)) dX5_membersOfAll_25 hd rfl rfl (Nat.le_of_ble_eq_true rfl) (fun r0 J0 h0 => ?_)
        obtain ⟨rfl, hJ0⟩ := h0
        obtain rfl := hJ0.symm
        refine x_iadd (v := nI ((rf (fun s g => s + pop (f g)) 0 g) + (pop (f g)))) dX5_membersOfAll_28 (nI_add _ _) ?_
        refine x_istore_n (ls' := [.ref 3, .int (nI ((rf (fun s g => s + pop (f g)) 0 g) + (pop (f g)))), .ref 3, .int (nI 8), .int (nI g), .int (nI (f g))]) dX5_membersOfAll_29 rfl rfl ?_
        refine x_iinc (v := nI (g + 1)) (ls' := [.ref 3, .int (nI ((rf (fun s g => s + pop (f g)) 0 g) + (pop (f g)))), .ref 3, .int (nI 8), .int (nI (g + 1)), .int (nI (f g))]) dX5_membersOfAll_30 rfl (inc_1 _) rfl rfl ?_
        refine x_goto (tgt := 10) dX5_membersOfAll_33 rfl ?_
        have := ih (g + 1) (.int (nI (f g))) (by omega)
        rw [rf_s _ _ g] at this
        exact this
  refine Cx.of [.ref 3, .null, .null, .null, .null, .null] (by decide) rfl rfl (Nat.le_of_ble_eq_true rfl) rfl ?_
  refine x_iconst dX5_membersOfAll_0 ic_0 ?_
  refine x_istore_n (ls' := [.ref 3, .int (nI 0), .null, .null, .null, .null]) dX5_membersOfAll_1 rfl rfl ?_
  refine x_aload_n dX5_membersOfAll_2 rfl ?_
  refine x_astore_n (ls' := [.ref 3, .int (nI 0), .ref 3, .null, .null, .null]) dX5_membersOfAll_3 rfl rfl ?_
  refine x_aload_n dX5_membersOfAll_4 rfl ?_
  refine x_alen dX5_membersOfAll_5 rfl rfl ?_
  refine x_istore_n (ls' := [.ref 3, .int (nI 0), .ref 3, .int (nI 8), .null, .null]) dX5_membersOfAll_6 rfl rfl ?_
  refine x_iconst dX5_membersOfAll_7 ic_0 ?_
  refine x_istore (ls' := [.ref 3, .int (nI 0), .ref 3, .int (nI 8), .int (nI 0), .null]) dX5_membersOfAll_8 rfl rfl ?_
  exact lp 8 0 _ rfl
end DG
end
section
/-! the reference: its leaves -/
def MSt (J : xMem) (n : Nat) (h a L : Nat → Nat) : Prop := J 1 0 = nI n ∧ (∀ g, g < 8 → J 1 (1 + g) = nI (h g)) ∧ (∀ g, g < 8 → J 1 (9 + g) = nI (a g)) ∧ ∀ g, g < 8 → J 1 (17 + g) = nI (L g)
theorem MSt.kept {J K : xMem} {n : Nat} {h a L : Nat → Nat} (hM : MSt J n h a L) (e : K 1 = J 1) : MSt K n h a L := by
  unfold MSt; rw [e]; exact hM
def inB (x lo hi : Int32) : Bool := decide (lo.toInt ≤ x.toInt ∧ x.toInt ≤ hi.toInt)
theorem c_in {I : xMem} {d : Nat} {x lo hi : Int32} : Cx LM yX6_in mX6_in d [.int x, .int lo, .int hi] I (xRi (fun r J => r = nI (inB x lo hi).toNat ∧ J = I)) := by
  refine Cx.of [.int x, .int lo, .int hi] (by decide) rfl rfl (Nat.le_of_ble_eq_true rfl) rfl ?_
  refine x_iload_n dX6_in_0 rfl ?_
  refine x_iload_n dX6_in_1 rfl ?_
  refine x_icmp_lt (tgt := 14) dX6_in_2 rfl (fun c => ?_) (fun c => ?_)
  ·
    refine x_iconst dX6_in_14 ic_0 ?_
    refine x_zretb (b := false) dX6_in_15 rfl ⟨?_, rfl⟩
    have e : inB x lo hi = false := decide_eq_false (by rw [Int32.lt_iff_toInt_lt] at c; omega)
    rw [e]
  ·
    refine x_iload_n dX6_in_5 rfl ?_
    refine x_iload_n dX6_in_6 rfl ?_
    refine x_icmp_gt (tgt := 14) dX6_in_7 rfl (fun c2 => ?_) (fun c2 => ?_)
    ·
      refine x_iconst dX6_in_14 ic_0 ?_
      refine x_zretb (b := false) dX6_in_15 rfl ⟨?_, rfl⟩
      have e : inB x lo hi = false := decide_eq_false (by rw [Int32.lt_iff_toInt_lt] at c2; omega)
      rw [e]
    ·
      refine x_iconst dX6_in_10 ic_1 ?_
      refine x_goto (tgt := 15) dX6_in_11 rfl ?_
      refine x_zretb (b := true) dX6_in_15 rfl ⟨?_, rfl⟩
      have e : inB x lo hi = true := decide_eq_true (by rw [Int32.lt_iff_toInt_lt] at c c2; omega)
      rw [e]
theorem inB_R {x : Int32} {n : Nat} (h1 : 1 ≤ n) (hn : n < 2 ^ 31) : inB x (nI 0) (nI (n - 1)) = inR x n := by
  unfold inB inR
  rw [nI_toInt (by omega), nI_toInt (by omega)]
  exact decide_eq_decide.mpr (by omega)
section MG
variable {I : xMem} {n d : Nat} {h a L : Nat → Nat}
theorem cm_isGrave {x : Int32} (hd : 1 ≤ d) (h1 : 1 ≤ n) (hn : n ≤ 8) (h0 : I 1 0 = nI n) : Cx LM yX6_isGrave mX6_isGrave d [.ref 0, .int x] I (xRi (fun r J => r = nI (inR x n).toNat ∧ J = I)) := by
  refine Cx.of [.ref 0, .int x] (by decide) rfl rfl (Nat.le_of_ble_eq_true rfl) rfl ?_
  refine x_iload_n dX6_isGrave_0 rfl ?_
  refine x_iconst dX6_isGrave_1 ic_0 ?_
  refine x_aload_n dX6_isGrave_2 rfl ?_
  refine x_getR 5 0 rfl (by decide) fl_X6_7 dX6_isGrave_3 rfl rfl rfl ?_
  refine x_iconst dX6_isGrave_6 ic_0 ?_
  refine x_iald (p := 0) (v := nI n) dX6_isGrave_7 rfl rfl rfl rfl (by omega) h0 ?_
  refine x_iconst dX6_isGrave_8 ic_1 ?_
  refine x_isub (v := nI (n - 1)) dX6_isGrave_9 (pk_sub (by omega)) ?_
  refine x_callSi (as := [.int x, .int (nI 0), .int (nI (n - 1))]) ml_X6_50 st_X6_in ct_X6_in (c_in (d := 0)) dX6_isGrave_10 hd rfl rfl (Nat.le_of_ble_eq_true rfl) (fun r0 J0 h0 => ?_)
  obtain ⟨rfl, hJ0⟩ := h0
  obtain rfl := hJ0.symm
  refine x_zretb (b := (inB x (nI 0) (nI (n - 1)))) dX6_isGrave_13 rfl ⟨by rw [inB_R h1 (by omega)], rfl⟩
theorem cm_isSort {x : Int32} (hd : 1 ≤ d) : Cx LM yX6_isSort mX6_isSort d [.int x] I (xRi (fun r J => r = nI (inR x 10).toNat ∧ J = I)) := by
  refine Cx.of [.int x] (by decide) rfl rfl (Nat.le_of_ble_eq_true rfl) rfl ?_
  refine x_iload_n dX6_isSort_0 rfl ?_
  refine x_iconst dX6_isSort_1 ic_0 ?_
  refine x_bipush dX6_isSort_2 bp_9 ?_
  refine x_callSi (as := [.int x, .int (nI 0), .int (nI 9)]) ml_X6_50 st_X6_in ct_X6_in (c_in (d := 0)) dX6_isSort_4 hd rfl rfl (Nat.le_of_ble_eq_true rfl) (fun r0 J0 h0 => ?_)
  obtain ⟨rfl, hJ0⟩ := h0
  obtain rfl := hJ0.symm
  refine x_zretb (b := (inB x (nI 0) (nI 9))) dX6_isSort_7 rfl ⟨by rw [← inB_R (by decide) (by decide)], rfl⟩
theorem bit_and1 (x i : Nat) : (x.testBit i).toNat = x >>> i &&& 1 := by
  have hle : x >>> i &&& 1 ≤ 1 := Nat.and_le_right
  rw [Nat.testBit, Nat.and_comm 1]
  rcases (show x >>> i &&& 1 = 0 ∨ x >>> i &&& 1 = 1 by omega) with e | e <;> rw [e] <;> rfl
theorem c_has {x i : Nat} (hx : x < 2 ^ 31) (hi : i < 32) : Cx LM yX6_has mX6_has d [.int (nI x), .int (nI i)] I (xRi (fun r J => r = nI (x.testBit i).toNat ∧ J = I)) := by
  have hsh : x >>> i < 2 ^ 31 := Nat.lt_of_le_of_lt (Nat.shiftRight_le _ _) hx
  have hle : x >>> i &&& 1 ≤ 1 := Nat.and_le_right
  refine Cx.of [.int (nI x), .int (nI i)] (by decide) rfl rfl (Nat.le_of_ble_eq_true rfl) rfl ?_
  refine x_iload_n dX6_has_0 rfl ?_
  refine x_iload_n dX6_has_1 rfl ?_
  refine x_ishr (v := nI (x >>> i)) dX6_has_2 (nI_shr (by omega) (by omega)) ?_
  refine x_iconst dX6_has_3 ic_1 ?_
  refine x_iand (v := nI ((x >>> i) &&& 1)) dX6_has_4 (nI_and _ _) ?_
  refine x_iconst dX6_has_5 ic_1 ?_
  refine x_icmpn_ne (a := (x >>> i) &&& 1) (b := 1) (by omega) (by omega) (tgt := 13) dX6_has_6 rfl (fun c => ?_) (fun c => ?_)
  ·
    refine x_iconst dX6_has_13 ic_0 ?_
    refine x_zretb (b := false) dX6_has_14 rfl ⟨by rw [bit_and1, show x >>> i &&& 1 = 0 by omega]; rfl, rfl⟩
  ·
    refine x_iconst dX6_has_9 ic_1 ?_
    refine x_goto (tgt := 14) dX6_has_10 rfl ?_
    refine x_zretb (b := true) dX6_has_14 rfl ⟨by rw [bit_and1, c]; rfl, rfl⟩
theorem c_bits {x : Nat} (hx : x < 2 ^ 31) : Cx LM yX6_bits mX6_bits d [.int (nI x)] I (xRi (fun r J => r = nI (pop x) ∧ J = I)) := by
  have lp : ∀ (k i : Nat), i + k = 10 → Wx LM mX6_bits d (xRi (fun r J => r = nI (pop x) ∧ J = I)) 4 [.int (nI x), .int (nI (popN i x)), .int (nI i)] [] I := by
    intro k
    induction k with
    | zero =>
      intro i hi
      refine x_iload_n dX6_bits_4 rfl ?_
      refine x_bipush dX6_bits_5 bp_10 ?_
      refine x_icmpn_ge (a := i) (b := 10) (by omega) (by omega) (tgt := 24) dX6_bits_7 rfl (fun c => ?_) (fun c => ?_)
      ·
        refine x_iload_n dX6_bits_24 rfl ?_
        refine x_ireti dX6_bits_25 rfl ⟨by rw [show i = 10 by omega]; rfl, rfl⟩
      ·
        omega
    | succ k ih =>
      intro i hi
      refine x_iload_n dX6_bits_4 rfl ?_
      refine x_bipush dX6_bits_5 bp_10 ?_
      refine x_icmpn_ge (a := i) (b := 10) (by omega) (by omega) (tgt := 24) dX6_bits_7 rfl (fun c => ?_) (fun c => ?_)
      ·
        omega
      ·
        refine x_iload_n dX6_bits_10 rfl ?_
        refine x_iload_n dX6_bits_11 rfl ?_
        refine x_iload_n dX6_bits_12 rfl ?_
        refine x_ishr (v := nI (x >>> i)) dX6_bits_13 (nI_shr (by omega) (by omega)) ?_
        refine x_iconst dX6_bits_14 ic_1 ?_
        refine x_iand (v := nI ((x >>> i) &&& 1)) dX6_bits_15 (nI_and _ _) ?_
        refine x_iadd (v := nI ((popN i x) + ((x >>> i) &&& 1))) dX6_bits_16 (nI_add _ _) ?_
        refine x_istore_n (ls' := [.int (nI x), .int (nI ((popN i x) + ((x >>> i) &&& 1))), .int (nI i)]) dX6_bits_17 rfl rfl ?_
        refine x_iinc (v := nI (i + 1)) (ls' := [.int (nI x), .int (nI ((popN i x) + ((x >>> i) &&& 1))), .int (nI (i + 1))]) dX6_bits_18 rfl (inc_1 _) rfl rfl ?_
        refine x_goto (tgt := 4) dX6_bits_21 rfl ?_
        have := ih (i + 1) (by omega)
        simp only [popN, bit_and1] at this
        exact this
  refine Cx.of [.int (nI x), .null, .null] (by decide) rfl rfl (Nat.le_of_ble_eq_true rfl) rfl ?_
  refine x_iconst dX6_bits_0 ic_0 ?_
  refine x_istore_n (ls' := [.int (nI x), .int (nI 0), .null]) dX6_bits_1 rfl rfl ?_
  refine x_iconst dX6_bits_2 ic_0 ?_
  refine x_istore_n (ls' := [.int (nI x), .int (nI 0), .int (nI 0)]) dX6_bits_3 rfl rfl ?_
  exact lp 10 0 rfl
theorem c_resetRow : Cx LM yX6_resetRow mX6_resetRow d [.ref 0] I (xRv (fun J => (∀ g, g < 8 → J 1 (17 + g) = nI g) ∧ (∀ j, j < 17 → J 1 j = I 1 j) ∧ ∀ c, c ≠ 1 → J c = I c)) := by
  have lp : ∀ (k g : Nat) (J : xMem), g + k = 8 → (∀ j, j < g → J 1 (17 + j) = nI j) → (∀ j, j < 17 → J 1 j = I 1 j) → (∀ c, c ≠ 1 → J c = I c) → Wx LM mX6_resetRow d (xRv (fun J => (∀ g, g < 8 → J 1 (17 + g) = nI g) ∧ (∀ j, j < 17 → J 1 j = I 1 j) ∧ ∀ c, c ≠ 1 → J c = I c)) 2 [.ref 0, .int (nI g)] [] J := by
    intro k
    induction k with
    | zero =>
      intro g J hg j1 j2 j3
      refine x_iload_n dX6_resetRow_2 rfl ?_
      refine x_bipush dX6_resetRow_3 bp_8 ?_
      refine x_icmpn_ge (a := g) (b := 8) (by omega) (by omega) (tgt := 24) dX6_resetRow_5 rfl (fun c => ?_) (fun c => ?_)
      ·
        refine x_vretv dX6_resetRow_24 rfl ⟨fun j hj => j1 j (by omega), j2, j3⟩
      ·
        omega
    | succ k ih =>
      intro g J hg j1 j2 j3
      refine x_iload_n dX6_resetRow_2 rfl ?_
      refine x_bipush dX6_resetRow_3 bp_8 ?_
      refine x_icmpn_ge (a := g) (b := 8) (by omega) (by omega) (tgt := 24) dX6_resetRow_5 rfl (fun c => ?_) (fun c => ?_)
      ·
        omega
      ·
        refine x_aload_n dX6_resetRow_8 rfl ?_
        refine x_getR 5 0 rfl (by decide) fl_X6_7 dX6_resetRow_9 rfl rfl rfl ?_
        refine x_bipush dX6_resetRow_12 bp_17 ?_
        refine x_iload_n dX6_resetRow_14 rfl ?_
        refine x_iadd (v := nI (17 + g)) dX6_resetRow_15 (nI_add _ _) ?_
        refine x_iload_n dX6_resetRow_16 rfl ?_
        refine x_iast (p := 17 + g) dX6_resetRow_17 rfl rfl rfl rfl (by omega) ?_
        generalize hJ1 : xup J 1 (17 + g) (nI g) = J1
        refine x_iinc (v := nI (g + 1)) (ls' := [.ref 0, .int (nI (g + 1))]) dX6_resetRow_18 rfl (inc_1 _) rfl rfl ?_
        refine x_goto (tgt := 2) dX6_resetRow_21 rfl ?_
        refine ih (g + 1) J1 (by omega) (fun j hj => ?_) (fun j hj => ?_) (fun c hc => ?_)
        · rw [← hJ1, xup_eq]
          by_cases e : j = g
          · subst e; rw [if_pos rfl]
          · rw [if_neg (by omega)]; exact j1 j (by omega)
        · rw [← hJ1, xup_eq, if_neg (by omega)]; exact j2 j hj
        · rw [← hJ1, xup_ne hc]; exact j3 c hc
  refine Cx.of [.ref 0, .null] (by decide) rfl rfl (Nat.le_of_ble_eq_true rfl) rfl ?_
  refine x_iconst dX6_resetRow_0 ic_0 ?_
  refine x_istore_n (ls' := [.ref 0, .int (nI 0)]) dX6_resetRow_1 rfl rfl ?_
  exact lp 8 0 I rfl (fun j hj => by omega) (fun _ _ => rfl) (fun _ _ => rfl)
theorem c_knownPairs (hd : 1 ≤ d) (ha : ∀ g, a g < 1024) (hM : ∀ g, g < 8 → I 1 (9 + g) = nI (a g)) : Cx LM yX6_knownPairs mX6_knownPairs d [.ref 0] I (xRi (fun r J => r = nI (rf (fun s g => s + pop (a g)) 0 8) ∧ J = I)) := by
  have lp : ∀ (k g : Nat), g + k = 8 → Wx LM mX6_knownPairs d (xRi (fun r J => r = nI (rf (fun s g => s + pop (a g)) 0 8) ∧ J = I)) 4 [.ref 0, .int (nI (rf (fun s g => s + pop (a g)) 0 g)), .int (nI g)] [] I := by
    intro k
    induction k with
    | zero =>
      intro g hg
      refine x_iload_n dX6_knownPairs_4 rfl ?_
      refine x_bipush dX6_knownPairs_5 bp_8 ?_
      refine x_icmpn_ge (a := g) (b := 8) (by omega) (by omega) (tgt := 31) dX6_knownPairs_7 rfl (fun c => ?_) (fun c => ?_)
      ·
        refine x_iload_n dX6_knownPairs_31 rfl ?_
        refine x_ireti dX6_knownPairs_32 rfl ⟨by rw [show g = 8 by omega], rfl⟩
      ·
        omega
    | succ k ih =>
      intro g hg
      have hb := ha g
      refine x_iload_n dX6_knownPairs_4 rfl ?_
      refine x_bipush dX6_knownPairs_5 bp_8 ?_
      refine x_icmpn_ge (a := g) (b := 8) (by omega) (by omega) (tgt := 31) dX6_knownPairs_7 rfl (fun c => ?_) (fun c => ?_)
      ·
        omega
      ·
        refine x_iload_n dX6_knownPairs_10 rfl ?_
        refine x_aload_n dX6_knownPairs_11 rfl ?_
        refine x_getR 5 0 rfl (by decide) fl_X6_7 dX6_knownPairs_12 rfl rfl rfl ?_
        refine x_bipush dX6_knownPairs_15 bp_9 ?_
        refine x_iload_n dX6_knownPairs_17 rfl ?_
        refine x_iadd (v := nI (9 + g)) dX6_knownPairs_18 (nI_add _ _) ?_
        refine x_iald (p := 9 + g) (v := nI (a g)) dX6_knownPairs_19 rfl rfl rfl rfl (by omega) (hM g (by omega)) ?_
        refine x_callSi (as := [.int (nI (a g))]) ml_X6_65 st_X6_bits ct_X6_bits (c_bits (d := 0) (by omega)) dX6_knownPairs_20 hd rfl rfl (Nat.le_of_ble_eq_true rfl) (fun r0 J0 h0 => ?_)
        obtain ⟨rfl, hJ0⟩ := h0
        obtain rfl := hJ0.symm
        refine x_iadd (v := nI ((rf (fun s g => s + pop (a g)) 0 g) + (pop (a g)))) dX6_knownPairs_23 (nI_add _ _) ?_
        refine x_istore_n (ls' := [.ref 0, .int (nI ((rf (fun s g => s + pop (a g)) 0 g) + (pop (a g)))), .int (nI g)]) dX6_knownPairs_24 rfl rfl ?_
        refine x_iinc (v := nI (g + 1)) (ls' := [.ref 0, .int (nI ((rf (fun s g => s + pop (a g)) 0 g) + (pop (a g)))), .int (nI (g + 1))]) dX6_knownPairs_25 rfl (inc_1 _) rfl rfl ?_
        refine x_goto (tgt := 4) dX6_knownPairs_28 rfl ?_
        have := ih (g + 1) (by omega)
        rw [rf_s _ _ g] at this
        exact this
  refine Cx.of [.ref 0, .null, .null] (by decide) rfl rfl (Nat.le_of_ble_eq_true rfl) rfl ?_
  refine x_iconst dX6_knownPairs_0 ic_0 ?_
  refine x_istore_n (ls' := [.ref 0, .int (nI 0), .null]) dX6_knownPairs_1 rfl rfl ?_
  refine x_iconst dX6_knownPairs_2 ic_0 ?_
  refine x_istore_n (ls' := [.ref 0, .int (nI 0), .int (nI 0)]) dX6_knownPairs_3 rfl rfl ?_
  exact lp 8 0 rfl
theorem c_placeInRow {x p0 : Nat} (hp : p0 < n) (hx : x < 8) (hL8 : ∀ p, p < 8 → L p < 8) (hL : ∀ p, p < n → (L p = x ↔ p = p0)) (hM : MSt I n h a L) (hn : n ≤ 8) : Cx LM yX6_placeInRow mX6_placeInRow d [.ref 0, .int (nI x)] I (xRi (fun r J => r = nI p0 ∧ J = I)) := by
  have lp : ∀ (k g : Nat), g + k = n → Wx LM mX6_placeInRow d (xRi (fun r J => r = nI p0 ∧ J = I)) 5 [.ref 0, .int (nI x), .int (if p0 < g then nI p0 else (-6)), .int (nI g)] [] I := by
    intro k
    induction k with
    | zero =>
      intro g hg
      refine x_iload_n dX6_placeInRow_5 rfl ?_
      refine x_aload_n dX6_placeInRow_6 rfl ?_
      refine x_getR 5 0 rfl (by decide) fl_X6_7 dX6_placeInRow_7 rfl rfl rfl ?_
      refine x_iconst dX6_placeInRow_10 ic_0 ?_
      refine x_iald (p := 0) (v := nI n) dX6_placeInRow_11 rfl rfl rfl rfl (by omega) hM.1 ?_
      refine x_icmpn_ge (a := g) (b := n) (by omega) (by omega) (tgt := 40) dX6_placeInRow_12 rfl (fun c => ?_) (fun c => ?_)
      ·
        refine x_iload_n dX6_placeInRow_40 rfl ?_
        refine x_ireti dX6_placeInRow_41 rfl ⟨by rw [if_pos (by omega)], rfl⟩
      ·
        omega
    | succ k ih =>
      intro g hg
      have hb := hL8 g (by omega)
      have hq := hL g (by omega)
      refine x_iload_n dX6_placeInRow_5 rfl ?_
      refine x_aload_n dX6_placeInRow_6 rfl ?_
      refine x_getR 5 0 rfl (by decide) fl_X6_7 dX6_placeInRow_7 rfl rfl rfl ?_
      refine x_iconst dX6_placeInRow_10 ic_0 ?_
      refine x_iald (p := 0) (v := nI n) dX6_placeInRow_11 rfl rfl rfl rfl (by omega) hM.1 ?_
      refine x_icmpn_ge (a := g) (b := n) (by omega) (by omega) (tgt := 40) dX6_placeInRow_12 rfl (fun c => ?_) (fun c => ?_)
      ·
        omega
      ·
        refine x_aload_n dX6_placeInRow_15 rfl ?_
        refine x_getR 5 0 rfl (by decide) fl_X6_7 dX6_placeInRow_16 rfl rfl rfl ?_
        refine x_bipush dX6_placeInRow_19 bp_17 ?_
        refine x_iload_n dX6_placeInRow_21 rfl ?_
        refine x_iadd (v := nI (17 + g)) dX6_placeInRow_22 (nI_add _ _) ?_
        refine x_iald (p := 17 + g) (v := nI (L g)) dX6_placeInRow_23 rfl rfl rfl rfl (by omega) (hM.2.2.2 g (by omega)) ?_
        refine x_iload_n dX6_placeInRow_24 rfl ?_
        refine x_icmpn_ne (a := L g) (b := x) (by omega) (by omega) (tgt := 32) dX6_placeInRow_25 rfl (fun c2 => ?_) (fun c2 => ?_)
        ·
          refine x_iload_n dX6_placeInRow_32 rfl ?_
          refine x_istore_n (ls' := [.ref 0, .int (nI x), .int (if p0 < g then nI p0 else (-6)), .int (nI g)]) dX6_placeInRow_33 rfl rfl ?_
          refine x_iinc (v := nI (g + 1)) (ls' := [.ref 0, .int (nI x), .int (if p0 < g then nI p0 else (-6)), .int (nI (g + 1))]) dX6_placeInRow_34 rfl (inc_1 _) rfl rfl ?_
          refine x_goto (tgt := 5) dX6_placeInRow_37 rfl ?_
          have e : (if p0 < g + 1 then nI p0 else (-6)) = (if p0 < g then nI p0 else (-6)) := by
            by_cases hc : p0 < g
            · rw [if_pos hc, if_pos (by omega)]
            · rw [if_neg hc, if_neg (by have := mt hq.mpr c2; omega)]
          rw [← e]
          exact ih (g + 1) (by omega)
        ·
          refine x_iload_n dX6_placeInRow_28 rfl ?_
          refine x_goto (tgt := 33) dX6_placeInRow_29 rfl ?_
          refine x_istore_n (ls' := [.ref 0, .int (nI x), .int (nI g), .int (nI g)]) dX6_placeInRow_33 rfl rfl ?_
          refine x_iinc (v := nI (g + 1)) (ls' := [.ref 0, .int (nI x), .int (nI g), .int (nI (g + 1))]) dX6_placeInRow_34 rfl (inc_1 _) rfl rfl ?_
          refine x_goto (tgt := 5) dX6_placeInRow_37 rfl ?_
          have e0 := hq.mp c2
          have e : (if p0 < g + 1 then nI p0 else (-6)) = nI g := by rw [if_pos (by omega), e0]
          have := ih (g + 1) (by omega)
          rw [e] at this
          exact this
  refine Cx.of [.ref 0, .int (nI x), .null, .null] (by decide) rfl rfl (Nat.le_of_ble_eq_true rfl) rfl ?_
  refine x_bipush dX6_placeInRow_0 bp_m6 ?_
  refine x_istore_n (ls' := [.ref 0, .int (nI x), .int (-6), .null]) dX6_placeInRow_2 rfl rfl ?_
  refine x_iconst dX6_placeInRow_3 ic_0 ?_
  refine x_istore_n (ls' := [.ref 0, .int (nI x), .int (-6), .int (nI 0)]) dX6_placeInRow_4 rfl rfl ?_
  exact lp n 0 (by omega)
/-- the runs of a sort, behind a grave that has it or not -/
def rs (h : Nat → Nat) (s : Nat) : Bool → List Nat → Nat
  | _, [] => 0
  | b, g :: w => ((h g).testBit s && !b).toNat + rs h s ((h g).testBit s) w
theorem rs_le (h : Nat → Nat) (s : Nat) : ∀ (w : List Nat) (b : Bool), rs h s b w ≤ w.length
  | [], _ => Nat.zero_le _
  | g :: w, b => by simp only [rs, List.length_cons]; have := Bool.toNat_le ((h g).testBit s && !b); have := rs_le h s w ((h g).testBit s); omega
theorem seg_len (L : Nat → Nat) (p k : Nat) : (seg L p k).length = k := by simp [seg]
theorem c_breaksOf {s : Nat} {o : Nat → Nat} (hd : 1 ≤ d) (hs : s < 32) (hh : ∀ g, h g < 1024) (ho : ∀ p, p < n → o p < 8) (hO : ∀ p, p < n → I 4 p = nI (o p)) (hM : MSt I n h a L) (hn : n ≤ 8) : Cx LM yX6_breaksOf mX6_breaksOf d [.ref 0, .int (nI s)] I (xRi (fun r J => r = nI (rs h s false (seg o 0 n) - 1) ∧ J = I)) := by
  have lp : ∀ (k p rn : Nat) (b : Bool) (v5 : Value), p + k = n → rn ≤ p → rn + rs h s b (seg o p k) = rs h s false (seg o 0 n) → Wx LM mX6_breaksOf d (xRi (fun r J => r = nI (rs h s false (seg o 0 n) - 1) ∧ J = I)) 7 [.ref 0, .int (nI s), .int (nI rn), .int (nI b.toNat), .int (nI p), v5] [] I := by
    intro k
    induction k with
    | zero =>
      intro p rn b v5 hp hrp hrn
      rw [seg_0] at hrn
      simp only [rs, Nat.add_zero] at hrn
      refine x_iload dX6_breaksOf_7 rfl ?_
      refine x_aload_n dX6_breaksOf_9 rfl ?_
      refine x_getR 5 0 rfl (by decide) fl_X6_7 dX6_breaksOf_10 rfl rfl rfl ?_
      refine x_iconst dX6_breaksOf_13 ic_0 ?_
      refine x_iald (p := 0) (v := nI n) dX6_breaksOf_14 rfl rfl rfl rfl (by omega) hM.1 ?_
      refine x_icmpn_ge (a := p) (b := n) (by omega) (by omega) (tgt := 64) dX6_breaksOf_15 rfl (fun c => ?_) (fun c => ?_)
      ·
        refine x_iload_n dX6_breaksOf_64 rfl ?_
        refine x_ifn_ne (a := rn) (by omega) (tgt := 72) dX6_breaksOf_65 rfl (fun c2 => ?_) (fun c2 => ?_)
        ·
          refine x_iload_n dX6_breaksOf_72 rfl ?_
          refine x_iconst dX6_breaksOf_73 ic_1 ?_
          refine x_isub (v := nI (rn - 1)) dX6_breaksOf_74 (pk_sub (by omega)) ?_
          refine x_ireti dX6_breaksOf_75 rfl ⟨by rw [hrn], rfl⟩
        ·
          refine x_iconst dX6_breaksOf_68 ic_0 ?_
          refine x_goto (tgt := 75) dX6_breaksOf_69 rfl ?_
          refine x_ireti dX6_breaksOf_75 rfl ⟨by rw [← hrn, c2], rfl⟩
      ·
        omega
    | succ k ih =>
      intro p rn b v5 hp hrp hrn
      rw [seg_s] at hrn
      simp only [rs] at hrn
      have hb := ho p (by omega)
      have hb2 := hh (o p)
      refine x_iload dX6_breaksOf_7 rfl ?_
      refine x_aload_n dX6_breaksOf_9 rfl ?_
      refine x_getR 5 0 rfl (by decide) fl_X6_7 dX6_breaksOf_10 rfl rfl rfl ?_
      refine x_iconst dX6_breaksOf_13 ic_0 ?_
      refine x_iald (p := 0) (v := nI n) dX6_breaksOf_14 rfl rfl rfl rfl (by omega) hM.1 ?_
      refine x_icmpn_ge (a := p) (b := n) (by omega) (by omega) (tgt := 64) dX6_breaksOf_15 rfl (fun c => ?_) (fun c => ?_)
      ·
        omega
      ·
        refine x_aload_n dX6_breaksOf_18 rfl ?_
        refine x_getR 5 0 rfl (by decide) fl_X6_7 dX6_breaksOf_19 rfl rfl rfl ?_
        refine x_iconst dX6_breaksOf_22 ic_1 ?_
        refine x_aload_n dX6_breaksOf_23 rfl ?_
        refine x_getR 5 3 rfl (by decide) fl_X6_20 dX6_breaksOf_24 rfl rfl rfl ?_
        refine x_iload dX6_breaksOf_27 rfl ?_
        refine x_iald (p := p) (v := nI (o p)) dX6_breaksOf_29 rfl rfl rfl rfl (by omega) (hO p (by omega)) ?_
        refine x_iadd (v := nI (1 + (o p))) dX6_breaksOf_30 (nI_add _ _) ?_
        refine x_iald (p := 1 + (o p)) (v := nI (h (o p))) dX6_breaksOf_31 rfl rfl rfl rfl (by omega) (hM.2.1 _ hb) ?_
        refine x_iload_n dX6_breaksOf_32 rfl ?_
        refine x_callSi (as := [.int (nI (h (o p))), .int (nI s)]) ml_X6_73 st_X6_has ct_X6_has (c_has (d := 0) (by omega) hs) dX6_breaksOf_33 hd rfl rfl (Nat.le_of_ble_eq_true rfl) (fun r0 J0 h0 => ?_)
        obtain ⟨rfl, hJ0⟩ := h0
        obtain rfl := hJ0.symm
        refine x_istore (ls' := [.ref 0, .int (nI s), .int (nI rn), .int (nI b.toNat), .int (nI p), .int (nI (((h (o p)).testBit s).toNat))]) dX6_breaksOf_36 rfl rfl ?_
        refine x_iload_n dX6_breaksOf_38 rfl ?_
        refine x_iload dX6_breaksOf_39 rfl ?_
        refine x_ifb_eq (b := (h (o p)).testBit s) (tgt := 52) dX6_breaksOf_41 rfl (fun c2 => ?_) (fun c2 => ?_)
        ·
          refine x_iconst dX6_breaksOf_52 ic_0 ?_
          refine x_iadd (v := nI (rn + 0)) dX6_breaksOf_53 (nI_add _ _) ?_
          refine x_istore_n (ls' := [.ref 0, .int (nI s), .int (nI (rn + 0)), .int (nI b.toNat), .int (nI p), .int (nI (((h (o p)).testBit s).toNat))]) dX6_breaksOf_54 rfl rfl ?_
          refine x_iload dX6_breaksOf_55 rfl ?_
          refine x_istore_n (ls' := [.ref 0, .int (nI s), .int (nI (rn + 0)), .int (nI (((h (o p)).testBit s).toNat)), .int (nI p), .int (nI (((h (o p)).testBit s).toNat))]) dX6_breaksOf_57 rfl rfl ?_
          refine x_iinc (v := nI (p + 1)) (ls' := [.ref 0, .int (nI s), .int (nI (rn + 0)), .int (nI (((h (o p)).testBit s).toNat)), .int (nI (p + 1)), .int (nI (((h (o p)).testBit s).toNat))]) dX6_breaksOf_58 rfl (inc_1 _) rfl rfl ?_
          refine x_goto (tgt := 7) dX6_breaksOf_61 rfl ?_
          rw [c2] at hrn ⊢
          refine ih (p + 1) _ false _ (by omega) (by omega) ?_
          simpa using hrn
        ·
          refine x_iload_n dX6_breaksOf_44 rfl ?_
          refine x_ifb_ne (b := b) (tgt := 52) dX6_breaksOf_45 rfl (fun c3 => ?_) (fun c3 => ?_)
          ·
            refine x_iconst dX6_breaksOf_52 ic_0 ?_
            refine x_iadd (v := nI (rn + 0)) dX6_breaksOf_53 (nI_add _ _) ?_
            refine x_istore_n (ls' := [.ref 0, .int (nI s), .int (nI (rn + 0)), .int (nI b.toNat), .int (nI p), .int (nI (((h (o p)).testBit s).toNat))]) dX6_breaksOf_54 rfl rfl ?_
            refine x_iload dX6_breaksOf_55 rfl ?_
            refine x_istore_n (ls' := [.ref 0, .int (nI s), .int (nI (rn + 0)), .int (nI (((h (o p)).testBit s).toNat)), .int (nI p), .int (nI (((h (o p)).testBit s).toNat))]) dX6_breaksOf_57 rfl rfl ?_
            refine x_iinc (v := nI (p + 1)) (ls' := [.ref 0, .int (nI s), .int (nI (rn + 0)), .int (nI (((h (o p)).testBit s).toNat)), .int (nI (p + 1)), .int (nI (((h (o p)).testBit s).toNat))]) dX6_breaksOf_58 rfl (inc_1 _) rfl rfl ?_
            refine x_goto (tgt := 7) dX6_breaksOf_61 rfl ?_
            rw [c2] at hrn ⊢
            refine ih (p + 1) _ true _ (by omega) (by omega) ?_
            simpa [c3] using hrn
          ·
            refine x_iconst dX6_breaksOf_48 ic_1 ?_
            refine x_goto (tgt := 53) dX6_breaksOf_49 rfl ?_
            refine x_iadd (v := nI (rn + 1)) dX6_breaksOf_53 (nI_add _ _) ?_
            refine x_istore_n (ls' := [.ref 0, .int (nI s), .int (nI (rn + 1)), .int (nI b.toNat), .int (nI p), .int (nI (((h (o p)).testBit s).toNat))]) dX6_breaksOf_54 rfl rfl ?_
            refine x_iload dX6_breaksOf_55 rfl ?_
            refine x_istore_n (ls' := [.ref 0, .int (nI s), .int (nI (rn + 1)), .int (nI (((h (o p)).testBit s).toNat)), .int (nI p), .int (nI (((h (o p)).testBit s).toNat))]) dX6_breaksOf_57 rfl rfl ?_
            refine x_iinc (v := nI (p + 1)) (ls' := [.ref 0, .int (nI s), .int (nI (rn + 1)), .int (nI (((h (o p)).testBit s).toNat)), .int (nI (p + 1)), .int (nI (((h (o p)).testBit s).toNat))]) dX6_breaksOf_58 rfl (inc_1 _) rfl rfl ?_
            refine x_goto (tgt := 7) dX6_breaksOf_61 rfl ?_
            rw [c2] at hrn ⊢
            refine ih (p + 1) _ true _ (by omega) (by omega) ?_
            simp [c3] at hrn; omega
  refine Cx.of [.ref 0, .int (nI s), .null, .null, .null, .null] (by decide) rfl rfl (Nat.le_of_ble_eq_true rfl) rfl ?_
  refine x_iconst dX6_breaksOf_0 ic_0 ?_
  refine x_istore_n (ls' := [.ref 0, .int (nI s), .int (nI 0), .null, .null, .null]) dX6_breaksOf_1 rfl rfl ?_
  refine x_iconst dX6_breaksOf_2 ic_0 ?_
  refine x_istore_n (ls' := [.ref 0, .int (nI s), .int (nI 0), .int (nI 0), .null, .null]) dX6_breaksOf_3 rfl rfl ?_
  refine x_iconst dX6_breaksOf_4 ic_0 ?_
  refine x_istore (ls' := [.ref 0, .int (nI s), .int (nI 0), .int (nI 0), .int (nI 0), .null]) dX6_breaksOf_5 rfl rfl ?_
  exact lp n 0 0 false _ (by omega) (by omega) (by omega)
/-- breaks of an order -/
def brk (h : Nat → Nat) (w : List Nat) : Nat := rf (fun t s => t + (rs h s false w - 1)) 0 10
theorem c_breaksNow {o : Nat → Nat} (hd : 2 ≤ d) (hh : ∀ g, h g < 1024) (ho : ∀ p, p < n → o p < 8) (hO : ∀ p, p < n → I 4 p = nI (o p)) (hM : MSt I n h a L) (hn : n ≤ 8) : Cx LM yX6_breaksNow mX6_breaksNow d [.ref 0] I (xRi (fun r J => r = nI (brk h (seg o 0 n)) ∧ J = I)) := by
  have lp : ∀ (k s : Nat), s + k = 10 → Wx LM mX6_breaksNow d (xRi (fun r J => r = nI (brk h (seg o 0 n)) ∧ J = I)) 4 [.ref 0, .int (nI (rf (fun t s => t + (rs h s false (seg o 0 n) - 1)) 0 s)), .int (nI s)] [] I := by
    intro k
    induction k with
    | zero =>
      intro s hs
      refine x_iload_n dX6_breaksNow_4 rfl ?_
      refine x_bipush dX6_breaksNow_5 bp_10 ?_
      refine x_icmpn_ge (a := s) (b := 10) (by omega) (by omega) (tgt := 24) dX6_breaksNow_7 rfl (fun c => ?_) (fun c => ?_)
      ·
        refine x_iload_n dX6_breaksNow_24 rfl ?_
        refine x_ireti dX6_breaksNow_25 rfl ⟨by rw [show s = 10 by omega]; rfl, rfl⟩
      ·
        omega
    | succ k ih =>
      intro s hs
      refine x_iload_n dX6_breaksNow_4 rfl ?_
      refine x_bipush dX6_breaksNow_5 bp_10 ?_
      refine x_icmpn_ge (a := s) (b := 10) (by omega) (by omega) (tgt := 24) dX6_breaksNow_7 rfl (fun c => ?_) (fun c => ?_)
      ·
        omega
      ·
        refine x_iload_n dX6_breaksNow_10 rfl ?_
        refine x_aload_n dX6_breaksNow_11 rfl ?_
        refine x_iload_n dX6_breaksNow_12 rfl ?_
        refine x_callVi 5 ml_X6_80 in_X6_breaksOf se_X6_breaksOf ct_X6_breaksOf rfl (c_breaksOf (d := 1) (by decide) (by omega) hh ho hO hM hn) dX6_breaksNow_13 hd rfl rfl rfl rfl (Nat.le_of_ble_eq_true rfl) (fun r0 J0 h0 => ?_)
        obtain ⟨rfl, hJ0⟩ := h0
        obtain rfl := hJ0.symm
        refine x_iadd (v := nI ((rf (fun t s => t + (rs h s false (seg o 0 n) - 1)) 0 s) + (rs h s false (seg o 0 n) - 1))) dX6_breaksNow_16 (nI_add _ _) ?_
        refine x_istore_n (ls' := [.ref 0, .int (nI ((rf (fun t s => t + (rs h s false (seg o 0 n) - 1)) 0 s) + (rs h s false (seg o 0 n) - 1))), .int (nI s)]) dX6_breaksNow_17 rfl rfl ?_
        refine x_iinc (v := nI (s + 1)) (ls' := [.ref 0, .int (nI ((rf (fun t s => t + (rs h s false (seg o 0 n) - 1)) 0 s) + (rs h s false (seg o 0 n) - 1))), .int (nI (s + 1))]) dX6_breaksNow_18 rfl (inc_1 _) rfl rfl ?_
        refine x_goto (tgt := 4) dX6_breaksNow_21 rfl ?_
        have := ih (s + 1) (by omega)
        rw [rf_s _ _ s] at this
        exact this
  refine Cx.of [.ref 0, .null, .null] (by decide) rfl rfl (Nat.le_of_ble_eq_true rfl) rfl ?_
  refine x_iconst dX6_breaksNow_0 ic_0 ?_
  refine x_istore_n (ls' := [.ref 0, .int (nI 0), .null]) dX6_breaksNow_1 rfl rfl ?_
  refine x_iconst dX6_breaksNow_2 ic_0 ?_
  refine x_istore_n (ls' := [.ref 0, .int (nI 0), .int (nI 0)]) dX6_breaksNow_3 rfl rfl ?_
  exact lp 10 0 rfl
theorem c_isAllowed {o : Nat → Nat} (ha : ∀ g, a g < 256) (ho : ∀ p, p < n → o p < 8) (hO : ∀ p, p < n → I 4 p = nI (o p)) (hM : MSt I n h a L) (hn : n ≤ 8) : Cx LM yX6_isAllowed mX6_isAllowed d [.ref 0] I (xRi (fun r J => r = nI (al a 0 (seg o 0 n)).toNat ∧ J = I)) := by
  have lp : ∀ (k p S : Nat), p + k = n → S < 256 → al a S (seg o p k) = al a 0 (seg o 0 n) → Wx LM mX6_isAllowed d (xRi (fun r J => r = nI (al a 0 (seg o 0 n)).toNat ∧ J = I)) 4 [.ref 0, .int (nI S), .int (nI p)] [] I := by
    intro k
    induction k with
    | zero =>
      intro p S hp hS hal
      rw [seg_0] at hal
      simp only [al] at hal
      refine x_iload_n dX6_isAllowed_4 rfl ?_
      refine x_aload_n dX6_isAllowed_5 rfl ?_
      refine x_getR 5 0 rfl (by decide) fl_X6_7 dX6_isAllowed_6 rfl rfl rfl ?_
      refine x_iconst dX6_isAllowed_9 ic_0 ?_
      refine x_iald (p := 0) (v := nI n) dX6_isAllowed_10 rfl rfl rfl rfl (by omega) hM.1 ?_
      refine x_icmpn_ge (a := p) (b := n) (by omega) (by omega) (tgt := 52) dX6_isAllowed_11 rfl (fun c => ?_) (fun c => ?_)
      ·
        refine x_iconst dX6_isAllowed_52 ic_1 ?_
        refine x_zretb (b := true) dX6_isAllowed_53 rfl ⟨by rw [← hal], rfl⟩
      ·
        omega
    | succ k ih =>
      intro p S hp hS hal
      rw [seg_s] at hal
      simp only [al] at hal
      have hb := ho p (by omega)
      have hb2 := ha (o p)
      have hb3 : a (o p) &&& S ≤ a (o p) := Nat.and_le_left
      refine x_iload_n dX6_isAllowed_4 rfl ?_
      refine x_aload_n dX6_isAllowed_5 rfl ?_
      refine x_getR 5 0 rfl (by decide) fl_X6_7 dX6_isAllowed_6 rfl rfl rfl ?_
      refine x_iconst dX6_isAllowed_9 ic_0 ?_
      refine x_iald (p := 0) (v := nI n) dX6_isAllowed_10 rfl rfl rfl rfl (by omega) hM.1 ?_
      refine x_icmpn_ge (a := p) (b := n) (by omega) (by omega) (tgt := 52) dX6_isAllowed_11 rfl (fun c => ?_) (fun c => ?_)
      ·
        omega
      ·
        refine x_aload_n dX6_isAllowed_14 rfl ?_
        refine x_getR 5 0 rfl (by decide) fl_X6_7 dX6_isAllowed_15 rfl rfl rfl ?_
        refine x_bipush dX6_isAllowed_18 bp_9 ?_
        refine x_aload_n dX6_isAllowed_20 rfl ?_
        refine x_getR 5 3 rfl (by decide) fl_X6_20 dX6_isAllowed_21 rfl rfl rfl ?_
        refine x_iload_n dX6_isAllowed_24 rfl ?_
        refine x_iald (p := p) (v := nI (o p)) dX6_isAllowed_25 rfl rfl rfl rfl (by omega) (hO p (by omega)) ?_
        refine x_iadd (v := nI (9 + (o p))) dX6_isAllowed_26 (nI_add _ _) ?_
        refine x_iald (p := 9 + (o p)) (v := nI (a (o p))) dX6_isAllowed_27 rfl rfl rfl rfl (by omega) (hM.2.2.1 _ hb) ?_
        refine x_iload_n dX6_isAllowed_28 rfl ?_
        refine x_iand (v := nI ((a (o p)) &&& S)) dX6_isAllowed_29 (nI_and _ _) ?_
        refine x_ifn_eq (a := (a (o p)) &&& S) (by omega) (tgt := 35) dX6_isAllowed_30 rfl (fun c2 => ?_) (fun c2 => ?_)
        ·
          refine x_iload_n dX6_isAllowed_35 rfl ?_
          refine x_iconst dX6_isAllowed_36 ic_1 ?_
          refine x_aload_n dX6_isAllowed_37 rfl ?_
          refine x_getR 5 3 rfl (by decide) fl_X6_20 dX6_isAllowed_38 rfl rfl rfl ?_
          refine x_iload_n dX6_isAllowed_41 rfl ?_
          refine x_iald (p := p) (v := nI (o p)) dX6_isAllowed_42 rfl rfl rfl rfl (by omega) (hO p (by omega)) ?_
          refine x_ishl (v := nI (1 <<< (o p))) dX6_isAllowed_43 (nI_shl _ (by omega)) ?_
          refine x_ior (v := nI (S ||| (1 <<< (o p)))) dX6_isAllowed_44 (nI_or _ _) ?_
          refine x_istore_n (ls' := [.ref 0, .int (nI (S ||| (1 <<< (o p)))), .int (nI p)]) dX6_isAllowed_45 rfl rfl ?_
          refine x_iinc (v := nI (p + 1)) (ls' := [.ref 0, .int (nI (S ||| (1 <<< (o p)))), .int (nI (p + 1))]) dX6_isAllowed_46 rfl (inc_1 _) rfl rfl ?_
          refine x_goto (tgt := 4) dX6_isAllowed_49 rfl ?_
          refine ih (p + 1) _ (by omega) (Nat.or_lt_two_pow (n := 8) hS ?_) (by rw [← hal, decide_eq_true c2]; rfl)
          rw [Nat.shiftLeft_eq, Nat.one_mul]; exact Nat.pow_lt_pow_right (by decide) hb
        ·
          refine x_iconst dX6_isAllowed_33 ic_0 ?_
          refine x_zretb (b := false) dX6_isAllowed_34 rfl ⟨by rw [← hal, decide_eq_false c2]; rfl, rfl⟩
  refine Cx.of [.ref 0, .null, .null] (by decide) rfl rfl (Nat.le_of_ble_eq_true rfl) rfl ?_
  refine x_iconst dX6_isAllowed_0 ic_0 ?_
  refine x_istore_n (ls' := [.ref 0, .int (nI 0), .null]) dX6_isAllowed_1 rfl rfl ?_
  refine x_iconst dX6_isAllowed_2 ic_0 ?_
  refine x_istore_n (ls' := [.ref 0, .int (nI 0), .int (nI 0)]) dX6_isAllowed_3 rfl rfl ?_
  exact lp n 0 0 (by omega) (by omega) rfl
end MG
end
section
/-! the reference: its rows changed -/
section MG
variable {I : xMem} {n d : Nat} {h a L : Nat → Nat}
theorem c_begin  : Cx LM yX6_begin mX6_begin d [.ref 0] I (xRv (fun J => (∀ p, p < 8 → J 4 p = nI p) ∧ ∀ c, c ≠ 4 → J c = I c)) := by
  have lp : ∀ (k g : Nat) (J : xMem), g + k = 8 → (∀ p, p < g → J 4 p = nI p) → (∀ c, c ≠ 4 → J c = I c) → Wx LM mX6_begin d (xRv (fun J => (∀ p, p < 8 → J 4 p = nI p) ∧ ∀ c, c ≠ 4 → J c = I c)) 2 [.ref 0, .int (nI g)] [] J := by
    intro k
    induction k with
    | zero =>
      intro g J hg j1 j2
      refine x_iload_n dX6_begin_2 rfl ?_
      refine x_bipush dX6_begin_3 bp_8 ?_
      refine x_icmpn_ge (a := g) (b := 8) (by omega) (by omega) (tgt := 21) dX6_begin_5 rfl (fun c => ?_) (fun c => ?_)
      ·
        refine x_vretv dX6_begin_21 rfl ⟨fun p hp => j1 p (by omega), j2⟩
      ·
        omega
    | succ k ih =>
      intro g J hg j1 j2
      refine x_iload_n dX6_begin_2 rfl ?_
      refine x_bipush dX6_begin_3 bp_8 ?_
      refine x_icmpn_ge (a := g) (b := 8) (by omega) (by omega) (tgt := 21) dX6_begin_5 rfl (fun c => ?_) (fun c => ?_)
      ·
        omega
      ·
        refine x_aload_n dX6_begin_8 rfl ?_
        refine x_getR 5 3 rfl (by decide) fl_X6_20 dX6_begin_9 rfl rfl rfl ?_
        refine x_iload_n dX6_begin_12 rfl ?_
        refine x_iload_n dX6_begin_13 rfl ?_
        refine x_iast (p := g) dX6_begin_14 rfl rfl rfl rfl (by omega) ?_
        generalize hJ1 : xup J 4 g (nI g) = J1
        refine x_iinc (v := nI (g + 1)) (ls' := [.ref 0, .int (nI (g + 1))]) dX6_begin_15 rfl (inc_1 _) rfl rfl ?_
        refine x_goto (tgt := 2) dX6_begin_18 rfl ?_
        refine ih (g + 1) J1 (by omega) (fun p hp => ?_) (fun c hc => ?_)
        · rw [← hJ1, xup_eq]
          by_cases e : p = g
          · subst e; rw [if_pos rfl]
          · rw [if_neg e]; exact j1 p (by omega)
        · rw [← hJ1, xup_ne hc]; exact j2 c hc
  refine Cx.of [.ref 0, .null] (by decide) rfl rfl (Nat.le_of_ble_eq_true rfl) rfl ?_
  refine x_iconst dX6_begin_0 ic_0 ?_
  refine x_istore_n (ls' := [.ref 0, .int (nI 0)]) dX6_begin_1 rfl rfl ?_
  exact lp 8 0 I rfl (fun p hp => by omega) (fun _ _ => rfl)
theorem c_takeRow (hL : ∀ g, g < 8 → I 1 (17 + g) = nI (L g)) : Cx LM yX6_takeRow mX6_takeRow d [.ref 0] I (xRv (fun J => (∀ p, p < 8 → J 4 p = nI (L p)) ∧ ∀ c, c ≠ 4 → J c = I c)) := by
  have lp : ∀ (k g : Nat) (J : xMem), g + k = 8 → (∀ p, p < g → J 4 p = nI (L p)) → (∀ c, c ≠ 4 → J c = I c) → Wx LM mX6_takeRow d (xRv (fun J => (∀ p, p < 8 → J 4 p = nI (L p)) ∧ ∀ c, c ≠ 4 → J c = I c)) 2 [.ref 0, .int (nI g)] [] J := by
    intro k
    induction k with
    | zero =>
      intro g J hg j1 j2
      refine x_iload_n dX6_takeRow_2 rfl ?_
      refine x_bipush dX6_takeRow_3 bp_8 ?_
      refine x_icmpn_ge (a := g) (b := 8) (by omega) (by omega) (tgt := 29) dX6_takeRow_5 rfl (fun c => ?_) (fun c => ?_)
      ·
        refine x_vretv dX6_takeRow_29 rfl ⟨fun p hp => j1 p (by omega), j2⟩
      ·
        omega
    | succ k ih =>
      intro g J hg j1 j2
      refine x_iload_n dX6_takeRow_2 rfl ?_
      refine x_bipush dX6_takeRow_3 bp_8 ?_
      refine x_icmpn_ge (a := g) (b := 8) (by omega) (by omega) (tgt := 29) dX6_takeRow_5 rfl (fun c => ?_) (fun c => ?_)
      ·
        omega
      ·
        refine x_aload_n dX6_takeRow_8 rfl ?_
        refine x_getR 5 3 rfl (by decide) fl_X6_20 dX6_takeRow_9 rfl rfl rfl ?_
        refine x_iload_n dX6_takeRow_12 rfl ?_
        refine x_aload_n dX6_takeRow_13 rfl ?_
        refine x_getR 5 0 rfl (by decide) fl_X6_7 dX6_takeRow_14 rfl rfl rfl ?_
        refine x_bipush dX6_takeRow_17 bp_17 ?_
        refine x_iload_n dX6_takeRow_19 rfl ?_
        refine x_iadd (v := nI (17 + g)) dX6_takeRow_20 (nI_add _ _) ?_
        refine x_iald (p := 17 + g) (v := nI (L g)) dX6_takeRow_21 rfl rfl rfl rfl (by omega) (by rw [j2 1 (by decide)]; exact hL g (by omega)) ?_
        refine x_iast (p := g) dX6_takeRow_22 rfl rfl rfl rfl (by omega) ?_
        generalize hJ1 : xup J 4 g (nI (L g)) = J1
        refine x_iinc (v := nI (g + 1)) (ls' := [.ref 0, .int (nI (g + 1))]) dX6_takeRow_23 rfl (inc_1 _) rfl rfl ?_
        refine x_goto (tgt := 2) dX6_takeRow_26 rfl ?_
        refine ih (g + 1) J1 (by omega) (fun p hp => ?_) (fun c hc => ?_)
        · rw [← hJ1, xup_eq]
          by_cases e : p = g
          · subst e; rw [if_pos rfl]
          · rw [if_neg e]; exact j1 p (by omega)
        · rw [← hJ1, xup_ne hc]; exact j2 c hc
  refine Cx.of [.ref 0, .null] (by decide) rfl rfl (Nat.le_of_ble_eq_true rfl) rfl ?_
  refine x_iconst dX6_takeRow_0 ic_0 ?_
  refine x_istore_n (ls' := [.ref 0, .int (nI 0)]) dX6_takeRow_1 rfl rfl ?_
  exact lp 8 0 I rfl (fun p hp => by omega) (fun _ _ => rfl)
theorem c_keep_5  : Cx LM yX6_keep mX6_keep d [.ref 0, .ref 5] I (xRv (fun J => (∀ p, p < 8 → J 5 p = I 4 p) ∧ ∀ c, c ≠ 5 → J c = I c)) := by
  have lp : ∀ (k g : Nat) (J : xMem), g + k = 8 → (∀ p, p < g → J 5 p = I 4 p) → (∀ c, c ≠ 5 → J c = I c) → Wx LM mX6_keep d (xRv (fun J => (∀ p, p < 8 → J 5 p = I 4 p) ∧ ∀ c, c ≠ 5 → J c = I c)) 2 [.ref 0, .ref 5, .int (nI g)] [] J := by
    intro k
    induction k with
    | zero =>
      intro g J hg j1 j2
      refine x_iload_n dX6_keep_2 rfl ?_
      refine x_bipush dX6_keep_3 bp_8 ?_
      refine x_icmpn_ge (a := g) (b := 8) (by omega) (by omega) (tgt := 23) dX6_keep_5 rfl (fun c => ?_) (fun c => ?_)
      ·
        refine x_vretv dX6_keep_23 rfl ⟨fun p hp => j1 p (by omega), j2⟩
      ·
        omega
    | succ k ih =>
      intro g J hg j1 j2
      refine x_iload_n dX6_keep_2 rfl ?_
      refine x_bipush dX6_keep_3 bp_8 ?_
      refine x_icmpn_ge (a := g) (b := 8) (by omega) (by omega) (tgt := 23) dX6_keep_5 rfl (fun c => ?_) (fun c => ?_)
      ·
        omega
      ·
        refine x_aload_n dX6_keep_8 rfl ?_
        refine x_iload_n dX6_keep_9 rfl ?_
        refine x_aload_n dX6_keep_10 rfl ?_
        refine x_getR 5 3 rfl (by decide) fl_X6_20 dX6_keep_11 rfl rfl rfl ?_
        refine x_iload_n dX6_keep_14 rfl ?_
        refine x_iald (p := g) (v := I 4 g) dX6_keep_15 rfl rfl rfl rfl (by omega) (by rw [j2 4 (by decide)]) ?_
        refine x_iast (p := g) dX6_keep_16 rfl rfl rfl rfl (by omega) ?_
        generalize hJ1 : xup J 5 g (I 4 g) = J1
        refine x_iinc (v := nI (g + 1)) (ls' := [.ref 0, .ref 5, .int (nI (g + 1))]) dX6_keep_17 rfl (inc_1 _) rfl rfl ?_
        refine x_goto (tgt := 2) dX6_keep_20 rfl ?_
        refine ih (g + 1) J1 (by omega) (fun p hp => ?_) (fun c hc => ?_)
        · rw [← hJ1, xup_eq]
          by_cases e : p = g
          · subst e; rw [if_pos rfl]
          · rw [if_neg e]; exact j1 p (by omega)
        · rw [← hJ1, xup_ne hc]; exact j2 c hc
  refine Cx.of [.ref 0, .ref 5, .null] (by decide) rfl rfl (Nat.le_of_ble_eq_true rfl) rfl ?_
  refine x_iconst dX6_keep_0 ic_0 ?_
  refine x_istore_n (ls' := [.ref 0, .ref 5, .int (nI 0)]) dX6_keep_1 rfl rfl ?_
  exact lp 8 0 I rfl (fun p hp => by omega) (fun _ _ => rfl)
theorem c_keep_12  : Cx LM yX6_keep mX6_keep d [.ref 0, .ref 12] I (xRv (fun J => (∀ p, p < 8 → J 12 p = I 4 p) ∧ ∀ c, c ≠ 12 → J c = I c)) := by
  have lp : ∀ (k g : Nat) (J : xMem), g + k = 8 → (∀ p, p < g → J 12 p = I 4 p) → (∀ c, c ≠ 12 → J c = I c) → Wx LM mX6_keep d (xRv (fun J => (∀ p, p < 8 → J 12 p = I 4 p) ∧ ∀ c, c ≠ 12 → J c = I c)) 2 [.ref 0, .ref 12, .int (nI g)] [] J := by
    intro k
    induction k with
    | zero =>
      intro g J hg j1 j2
      refine x_iload_n dX6_keep_2 rfl ?_
      refine x_bipush dX6_keep_3 bp_8 ?_
      refine x_icmpn_ge (a := g) (b := 8) (by omega) (by omega) (tgt := 23) dX6_keep_5 rfl (fun c => ?_) (fun c => ?_)
      ·
        refine x_vretv dX6_keep_23 rfl ⟨fun p hp => j1 p (by omega), j2⟩
      ·
        omega
    | succ k ih =>
      intro g J hg j1 j2
      refine x_iload_n dX6_keep_2 rfl ?_
      refine x_bipush dX6_keep_3 bp_8 ?_
      refine x_icmpn_ge (a := g) (b := 8) (by omega) (by omega) (tgt := 23) dX6_keep_5 rfl (fun c => ?_) (fun c => ?_)
      ·
        omega
      ·
        refine x_aload_n dX6_keep_8 rfl ?_
        refine x_iload_n dX6_keep_9 rfl ?_
        refine x_aload_n dX6_keep_10 rfl ?_
        refine x_getR 5 3 rfl (by decide) fl_X6_20 dX6_keep_11 rfl rfl rfl ?_
        refine x_iload_n dX6_keep_14 rfl ?_
        refine x_iald (p := g) (v := I 4 g) dX6_keep_15 rfl rfl rfl rfl (by omega) (by rw [j2 4 (by decide)]) ?_
        refine x_iast (p := g) dX6_keep_16 rfl rfl rfl rfl (by omega) ?_
        generalize hJ1 : xup J 12 g (I 4 g) = J1
        refine x_iinc (v := nI (g + 1)) (ls' := [.ref 0, .ref 12, .int (nI (g + 1))]) dX6_keep_17 rfl (inc_1 _) rfl rfl ?_
        refine x_goto (tgt := 2) dX6_keep_20 rfl ?_
        refine ih (g + 1) J1 (by omega) (fun p hp => ?_) (fun c hc => ?_)
        · rw [← hJ1, xup_eq]
          by_cases e : p = g
          · subst e; rw [if_pos rfl]
          · rw [if_neg e]; exact j1 p (by omega)
        · rw [← hJ1, xup_ne hc]; exact j2 c hc
  refine Cx.of [.ref 0, .ref 12, .null] (by decide) rfl rfl (Nat.le_of_ble_eq_true rfl) rfl ?_
  refine x_iconst dX6_keep_0 ic_0 ?_
  refine x_istore_n (ls' := [.ref 0, .ref 12, .int (nI 0)]) dX6_keep_1 rfl rfl ?_
  exact lp 8 0 I rfl (fun p hp => by omega) (fun _ _ => rfl)
theorem c_change {x y : Nat} (hx : x < 8) (hy : y < 8) : Cx LM yX6_change mX6_change d [.ref 0, .int (nI x), .int (nI y)] I (xRv (fun J => J = xup (xup I 4 x (I 4 y)) 4 y (I 4 x))) := by
  refine Cx.of [.ref 0, .int (nI x), .int (nI y), .null] (by decide) rfl rfl (Nat.le_of_ble_eq_true rfl) rfl ?_
  refine x_aload_n dX6_change_0 rfl ?_
  refine x_getR 5 3 rfl (by decide) fl_X6_20 dX6_change_1 rfl rfl rfl ?_
  refine x_iload_n dX6_change_4 rfl ?_
  refine x_iald (p := x) (v := I 4 x) dX6_change_5 rfl rfl rfl rfl (by omega) rfl ?_
  refine x_istore_n (ls' := [.ref 0, .int (nI x), .int (nI y), .int (I 4 x)]) dX6_change_6 rfl rfl ?_
  refine x_aload_n dX6_change_7 rfl ?_
  refine x_getR 5 3 rfl (by decide) fl_X6_20 dX6_change_8 rfl rfl rfl ?_
  refine x_iload_n dX6_change_11 rfl ?_
  refine x_aload_n dX6_change_12 rfl ?_
  refine x_getR 5 3 rfl (by decide) fl_X6_20 dX6_change_13 rfl rfl rfl ?_
  refine x_iload_n dX6_change_16 rfl ?_
  refine x_iald (p := y) (v := I 4 y) dX6_change_17 rfl rfl rfl rfl (by omega) rfl ?_
  refine x_iast (p := x) dX6_change_18 rfl rfl rfl rfl (by omega) ?_
  refine x_aload_n dX6_change_19 rfl ?_
  refine x_getR 5 3 rfl (by decide) fl_X6_20 dX6_change_20 rfl rfl rfl ?_
  refine x_iload_n dX6_change_23 rfl ?_
  refine x_iload_n dX6_change_24 rfl ?_
  refine x_iast (p := y) dX6_change_25 rfl rfl rfl rfl (by omega) ?_
  refine x_vretv dX6_change_26 rfl rfl
theorem c_placeOf {x p0 : Nat} {o : Nat → Nat} (hn : n ≤ 8) (hp : p0 < n) (hx : x < 8) (ho : ∀ p, p < n → o p < 8) (hO : ∀ p, p < n → I 4 p = nI (o p)) (he : o p0 = x) (hne : ∀ p, p < p0 → o p ≠ x) : Cx LM yX6_placeOf mX6_placeOf d [.ref 0, .int (nI x)] I (xRi (fun r J => r = nI p0 ∧ J = I)) := by
  have lp : ∀ (k g : Nat), g + k = p0 → Wx LM mX6_placeOf d (xRi (fun r J => r = nI p0 ∧ J = I)) 2 [.ref 0, .int (nI x), .int (nI g)] [] I := by
    intro k
    induction k with
    | zero =>
      intro g hg
      have e : g = p0 := by omega
      subst e
      refine x_aload_n dX6_placeOf_2 rfl ?_
      refine x_getR 5 3 rfl (by decide) fl_X6_20 dX6_placeOf_3 rfl rfl rfl ?_
      refine x_iload_n dX6_placeOf_6 rfl ?_
      refine x_iald (p := g) (v := nI (o g)) dX6_placeOf_7 rfl rfl rfl rfl (by omega) (hO g hp) ?_
      refine x_iload_n dX6_placeOf_8 rfl ?_
      refine x_icmpn_eq (a := o g) (b := x) (by omega) (by omega) (tgt := 18) dX6_placeOf_9 rfl (fun c => ?_) (fun c => ?_)
      ·
        refine x_iload_n dX6_placeOf_18 rfl ?_
        refine x_ireti dX6_placeOf_19 rfl ⟨rfl, rfl⟩
      ·
        exact absurd he c
    | succ k ih =>
      intro g hg
      have hb := ho g (by omega)
      refine x_aload_n dX6_placeOf_2 rfl ?_
      refine x_getR 5 3 rfl (by decide) fl_X6_20 dX6_placeOf_3 rfl rfl rfl ?_
      refine x_iload_n dX6_placeOf_6 rfl ?_
      refine x_iald (p := g) (v := nI (o g)) dX6_placeOf_7 rfl rfl rfl rfl (by omega) (hO g (by omega)) ?_
      refine x_iload_n dX6_placeOf_8 rfl ?_
      refine x_icmpn_eq (a := o g) (b := x) (by omega) (by omega) (tgt := 18) dX6_placeOf_9 rfl (fun c => ?_) (fun c => ?_)
      ·
        exact absurd c (hne g (by omega))
      ·
        refine x_iinc (v := nI (g + 1)) (ls' := [.ref 0, .int (nI x), .int (nI (g + 1))]) dX6_placeOf_12 rfl (inc_1 _) rfl rfl ?_
        refine x_goto (tgt := 2) dX6_placeOf_15 rfl ?_
        exact ih (g + 1) (by omega)
  refine Cx.of [.ref 0, .int (nI x), .null] (by decide) rfl rfl (Nat.le_of_ble_eq_true rfl) rfl ?_
  refine x_iconst dX6_placeOf_0 ic_0 ?_
  refine x_istore_n (ls' := [.ref 0, .int (nI x), .int (nI 0)]) dX6_placeOf_1 rfl rfl ?_
  exact lp p0 0 (by omega)
/-- the first and the last place at which a member of the set lies -/
def tgF (S : Nat) : Nat → List Nat → Int32 → Int32 → Int32 × Int32
  | _, [], f, l => (f, l)
  | p, g :: w, f, l => if S.testBit g then tgF S (p + 1) w (if f < 0 then nI p else f) (nI p) else tgF S (p + 1) w f l
def togM (S : Nat) (w : List Nat) : Bool := decide ((tgF S 0 w (-6) (-6)).2 - (tgF S 0 w (-6) (-6)).1 + nI 1 = nI (pop S))
theorem c_isTogether {S : Nat} {o : Nat → Nat} (hd : 1 ≤ d) (hS : S < 1024) (ho : ∀ p, p < n → o p < 8) (hO : ∀ p, p < n → I 4 p = nI (o p)) (h0 : I 1 0 = nI n) (hn : n ≤ 8) : Cx LM yX6_isTogether mX6_isTogether d [.ref 0, .int (nI S)] I (xRi (fun r J => r = nI (togM S (seg o 0 n)).toNat ∧ J = I)) := by
  have lp : ∀ (k p : Nat) (f l : Int32), p + k = n → tgF S p (seg o p k) f l = tgF S 0 (seg o 0 n) (-6) (-6) → Wx LM mX6_isTogether d (xRi (fun r J => r = nI (togM S (seg o 0 n)).toNat ∧ J = I)) 9 [.ref 0, .int (nI S), .int f, .int l, .int (nI p)] [] I := by
    intro k
    induction k with
    | zero =>
      intro p f l hp htg
      rw [seg_0] at htg
      simp only [tgF] at htg
      refine x_iload dX6_isTogether_9 rfl ?_
      refine x_aload_n dX6_isTogether_11 rfl ?_
      refine x_getR 5 0 rfl (by decide) fl_X6_7 dX6_isTogether_12 rfl rfl rfl ?_
      refine x_iconst dX6_isTogether_15 ic_0 ?_
      refine x_iald (p := 0) (v := nI n) dX6_isTogether_16 rfl rfl rfl rfl (by omega) h0 ?_
      refine x_icmpn_ge (a := p) (b := n) (by omega) (by omega) (tgt := 54) dX6_isTogether_17 rfl (fun c => ?_) (fun c => ?_)
      ·
        refine x_iload_n dX6_isTogether_54 rfl ?_
        refine x_iload_n dX6_isTogether_55 rfl ?_
        refine x_isub (v := l - f) dX6_isTogether_56 rfl ?_
        refine x_iconst dX6_isTogether_57 ic_1 ?_
        refine x_iadd (v := (l - f) + (nI 1)) dX6_isTogether_58 rfl ?_
        refine x_iload_n dX6_isTogether_59 rfl ?_
        refine x_callSi (as := [.int (nI S)]) ml_X6_65 st_X6_bits ct_X6_bits (c_bits (d := 0) (by omega)) dX6_isTogether_60 hd rfl rfl (Nat.le_of_ble_eq_true rfl) (fun r0 J0 h0 => ?_)
        obtain ⟨rfl, hJ0⟩ := h0
        obtain rfl := hJ0.symm
        refine x_icmp_ne (tgt := 70) dX6_isTogether_63 rfl (fun c2 => ?_) (fun c2 => ?_)
        ·
          refine x_iconst dX6_isTogether_70 ic_0 ?_
          refine x_zretb (b := false) dX6_isTogether_71 rfl ⟨?_, rfl⟩
          have e : togM S (seg o 0 n) = false := by unfold togM; rw [← htg]; exact decide_eq_false c2
          rw [e]
        ·
          refine x_iconst dX6_isTogether_66 ic_1 ?_
          refine x_goto (tgt := 71) dX6_isTogether_67 rfl ?_
          refine x_zretb (b := true) dX6_isTogether_71 rfl ⟨?_, rfl⟩
          have e : togM S (seg o 0 n) = true := by unfold togM; rw [← htg]; exact decide_eq_true c2
          rw [e]
      ·
        omega
    | succ k ih =>
      intro p f l hp htg
      rw [seg_s] at htg
      simp only [tgF] at htg
      have hb := ho p (by omega)
      refine x_iload dX6_isTogether_9 rfl ?_
      refine x_aload_n dX6_isTogether_11 rfl ?_
      refine x_getR 5 0 rfl (by decide) fl_X6_7 dX6_isTogether_12 rfl rfl rfl ?_
      refine x_iconst dX6_isTogether_15 ic_0 ?_
      refine x_iald (p := 0) (v := nI n) dX6_isTogether_16 rfl rfl rfl rfl (by omega) h0 ?_
      refine x_icmpn_ge (a := p) (b := n) (by omega) (by omega) (tgt := 54) dX6_isTogether_17 rfl (fun c => ?_) (fun c => ?_)
      ·
        omega
      ·
        refine x_iload_n dX6_isTogether_20 rfl ?_
        refine x_aload_n dX6_isTogether_21 rfl ?_
        refine x_getR 5 3 rfl (by decide) fl_X6_20 dX6_isTogether_22 rfl rfl rfl ?_
        refine x_iload dX6_isTogether_25 rfl ?_
        refine x_iald (p := p) (v := nI (o p)) dX6_isTogether_27 rfl rfl rfl rfl (by omega) (hO p (by omega)) ?_
        refine x_callSi (as := [.int (nI S), .int (nI (o p))]) ml_X6_73 st_X6_has ct_X6_has (c_has (d := 0) (by omega) (by omega)) dX6_isTogether_28 hd rfl rfl (Nat.le_of_ble_eq_true rfl) (fun r0 J0 h0 => ?_)
        obtain ⟨rfl, hJ0⟩ := h0
        obtain rfl := hJ0.symm
        refine x_ifb_eq (b := S.testBit (o p)) (tgt := 48) dX6_isTogether_31 rfl (fun c2 => ?_) (fun c2 => ?_)
        ·
          refine x_iinc (v := nI (p + 1)) (ls' := [.ref 0, .int (nI S), .int f, .int l, .int (nI (p + 1))]) dX6_isTogether_48 rfl (inc_1 _) rfl rfl ?_
          refine x_goto (tgt := 9) dX6_isTogether_51 rfl ?_
          rw [c2, if_neg (by decide)] at htg
          exact ih (p + 1) _ _ (by omega) htg
        ·
          rw [c2, if_pos rfl] at htg
          refine x_iload_n dX6_isTogether_34 rfl ?_
          refine x_if_ge (tgt := 43) dX6_isTogether_35 rfl (fun c3 => ?_) (fun c3 => ?_)
          ·
            refine x_iload_n dX6_isTogether_43 rfl ?_
            refine x_istore_n (ls' := [.ref 0, .int (nI S), .int f, .int l, .int (nI p)]) dX6_isTogether_44 rfl rfl ?_
            refine x_iload dX6_isTogether_45 rfl ?_
            refine x_istore_n (ls' := [.ref 0, .int (nI S), .int f, .int (nI p), .int (nI p)]) dX6_isTogether_47 rfl rfl ?_
            refine x_iinc (v := nI (p + 1)) (ls' := [.ref 0, .int (nI S), .int f, .int (nI p), .int (nI (p + 1))]) dX6_isTogether_48 rfl (inc_1 _) rfl rfl ?_
            refine x_goto (tgt := 9) dX6_isTogether_51 rfl ?_
            rw [if_neg (by first | exact c3 | exact Int32.not_lt.mpr c3)] at htg
            exact ih (p + 1) _ _ (by omega) htg
          ·
            refine x_iload dX6_isTogether_38 rfl ?_
            refine x_goto (tgt := 44) dX6_isTogether_40 rfl ?_
            refine x_istore_n (ls' := [.ref 0, .int (nI S), .int (nI p), .int l, .int (nI p)]) dX6_isTogether_44 rfl rfl ?_
            refine x_iload dX6_isTogether_45 rfl ?_
            refine x_istore_n (ls' := [.ref 0, .int (nI S), .int (nI p), .int (nI p), .int (nI p)]) dX6_isTogether_47 rfl rfl ?_
            refine x_iinc (v := nI (p + 1)) (ls' := [.ref 0, .int (nI S), .int (nI p), .int (nI p), .int (nI (p + 1))]) dX6_isTogether_48 rfl (inc_1 _) rfl rfl ?_
            refine x_goto (tgt := 9) dX6_isTogether_51 rfl ?_
            rw [if_pos (by first | exact c3 | exact Int32.not_le.mp c3)] at htg
            exact ih (p + 1) _ _ (by omega) htg
  refine Cx.of [.ref 0, .int (nI S), .null, .null, .null] (by decide) rfl rfl (Nat.le_of_ble_eq_true rfl) rfl ?_
  refine x_bipush dX6_isTogether_0 bp_m6 ?_
  refine x_istore_n (ls' := [.ref 0, .int (nI S), .int (-6), .null, .null]) dX6_isTogether_2 rfl rfl ?_
  refine x_bipush dX6_isTogether_3 bp_m6 ?_
  refine x_istore_n (ls' := [.ref 0, .int (nI S), .int (-6), .int (-6), .null]) dX6_isTogether_5 rfl rfl ?_
  refine x_iconst dX6_isTogether_6 ic_0 ?_
  refine x_istore (ls' := [.ref 0, .int (nI S), .int (-6), .int (-6), .int (nI 0)]) dX6_isTogether_7 rfl rfl ?_
  exact lp n 0 _ _ (by omega) rfl
theorem c_swapRow {k : Nat} (hk : k + 1 < 8) : Cx LM yX6_swapRow mX6_swapRow d [.ref 0, .int (nI k)] I (xRv (fun J => J = exI I 1 (17 + k))) := by
  refine Cx.of [.ref 0, .int (nI k), .null] (by decide) rfl rfl (Nat.le_of_ble_eq_true rfl) rfl ?_
  refine x_aload_n dX6_swapRow_0 rfl ?_
  refine x_getR 5 0 rfl (by decide) fl_X6_7 dX6_swapRow_1 rfl rfl rfl ?_
  refine x_bipush dX6_swapRow_4 bp_17 ?_
  refine x_iload_n dX6_swapRow_6 rfl ?_
  refine x_iadd (v := nI (17 + k)) dX6_swapRow_7 (nI_add _ _) ?_
  refine x_iald (p := 17 + k) (v := I 1 (17 + k)) dX6_swapRow_8 rfl rfl rfl rfl (by omega) rfl ?_
  refine x_istore_n (ls' := [.ref 0, .int (nI k), .int (I 1 (17 + k))]) dX6_swapRow_9 rfl rfl ?_
  refine x_aload_n dX6_swapRow_10 rfl ?_
  refine x_getR 5 0 rfl (by decide) fl_X6_7 dX6_swapRow_11 rfl rfl rfl ?_
  refine x_bipush dX6_swapRow_14 bp_17 ?_
  refine x_iload_n dX6_swapRow_16 rfl ?_
  refine x_iadd (v := nI (17 + k)) dX6_swapRow_17 (nI_add _ _) ?_
  refine x_aload_n dX6_swapRow_18 rfl ?_
  refine x_getR 5 0 rfl (by decide) fl_X6_7 dX6_swapRow_19 rfl rfl rfl ?_
  refine x_bipush dX6_swapRow_22 bp_17 ?_
  refine x_iload_n dX6_swapRow_24 rfl ?_
  refine x_iadd (v := nI (17 + k)) dX6_swapRow_25 (nI_add _ _) ?_
  refine x_iconst dX6_swapRow_26 ic_1 ?_
  refine x_iadd (v := nI ((17 + k) + 1)) dX6_swapRow_27 (nI_add _ _) ?_
  refine x_iald (p := (17 + k) + 1) (v := I 1 ((17 + k) + 1)) dX6_swapRow_28 rfl rfl rfl rfl (by omega) rfl ?_
  refine x_iast (p := 17 + k) dX6_swapRow_29 rfl rfl rfl rfl (by omega) ?_
  refine x_aload_n dX6_swapRow_30 rfl ?_
  refine x_getR 5 0 rfl (by decide) fl_X6_7 dX6_swapRow_31 rfl rfl rfl ?_
  refine x_bipush dX6_swapRow_34 bp_17 ?_
  refine x_iload_n dX6_swapRow_36 rfl ?_
  refine x_iadd (v := nI (17 + k)) dX6_swapRow_37 (nI_add _ _) ?_
  refine x_iconst dX6_swapRow_38 ic_1 ?_
  refine x_iadd (v := nI ((17 + k) + 1)) dX6_swapRow_39 (nI_add _ _) ?_
  refine x_iload_n dX6_swapRow_40 rfl ?_
  refine x_iast (p := (17 + k) + 1) dX6_swapRow_41 rfl rfl rfl rfl (by omega) ?_
  refine x_vretv dX6_swapRow_42 rfl rfl
theorem MSt.ex (hM : MSt I n h a L) {k : Nat} (hk : k + 1 < 8) : MSt (exI I 1 (17 + k)) n h a (swp L k) := by
  refine ⟨?_, fun g hg => ?_, fun g hg => ?_, fun g hg => ?_⟩
  · rw [exI_at, if_neg (by omega), if_neg (by omega)]; exact hM.1
  · rw [exI_at, if_neg (by omega), if_neg (by omega)]; exact hM.2.1 g hg
  · rw [exI_at, if_neg (by omega), if_neg (by omega)]; exact hM.2.2.1 g hg
  · rw [exI_at, swp]
    by_cases h1 : g = k + 1
    · rw [if_pos (by omega), if_pos h1]; exact hM.2.2.2 k (by omega)
    · rw [if_neg (by omega), if_neg h1]
      by_cases h2 : g = k
      · rw [if_pos (by omega), if_pos h2]; exact hM.2.2.2 _ hk
      · rw [if_neg (by omega), if_neg h2]; exact hM.2.2.2 g hg
theorem c_rowBreaks (hd : 3 ≤ d) (hh : ∀ g, h g < 1024) (hL8 : ∀ p, p < n → L p < 8) (hM : MSt I n h a L) (hn : n ≤ 8) : Cx LM yX6_rowBreaks mX6_rowBreaks d [.ref 0] I (xRi (fun r J => r = nI (brk h (seg L 0 n)) ∧ ∀ c, c ≠ 4 → J c = I c)) := by
  refine Cx.of [.ref 0] (by decide) rfl rfl (Nat.le_of_ble_eq_true rfl) rfl ?_
  refine x_aload_n dX6_rowBreaks_0 rfl ?_
  refine x_callVv 5 ml_X6_142 in_X6_takeRow se_X6_takeRow ct_X6_takeRow rfl (c_takeRow (d := 0) hM.2.2.2) dX6_rowBreaks_1 (by omega) rfl rfl rfl rfl (Nat.le_of_ble_eq_true rfl) (fun J0 h0 => ?_)
  obtain ⟨hJ, hF⟩ := h0
  refine x_aload_n dX6_rowBreaks_4 rfl ?_
  refine x_callVi 5 ml_X6_98 in_X6_breaksNow se_X6_breaksNow ct_X6_breaksNow rfl (c_breaksNow (d := 2) (by decide) hh hL8 (fun p hp => hJ p (by omega)) (hM.kept (hF 1 (by decide))) hn) dX6_rowBreaks_5 (by omega) rfl rfl rfl rfl (Nat.le_of_ble_eq_true rfl) (fun r0 J0 h0 => ?_)
  obtain ⟨rfl, hJ0⟩ := h0
  obtain rfl := hJ0.symm
  refine x_ireti dX6_rowBreaks_8 rfl ⟨rfl, hF⟩
end MG
end
section
/-! the next order -/
def lastGt (g : Nat) : List Nat → Option Nat
  | [] => none
  | x :: v => match lastGt g v with
    | some j => some (j + 1)
    | none => if g < x then some 0 else none
/-- the next order, as the reference makes it -/
def nxt : List Nat → Option (List Nat)
  | [] => none
  | g :: v => match nxt v with
    | some v' => some (g :: v')
    | none => match lastGt g v with
      | some j => some (v.getD j 0 :: (v.set j g).reverse)
      | none => none
theorem lastGt_no {g : Nat} : ∀ {v : List Nat}, (∀ x ∈ v, ¬ g < x) → lastGt g v = none
  | [], _ => rfl
  | x :: v, h => by
    simp only [lastGt]
    rw [lastGt_no (fun y hy => h y (List.mem_cons_of_mem _ hy)), if_neg (h x List.mem_cons_self)]
theorem seg_mem {o : Nat → Nat} {q m x : Nat} : x ∈ seg o q m ↔ ∃ i, i < m ∧ x = o (q + i) := by
  simp only [seg, List.mem_map, List.mem_range'_1]
  constructor
  · rintro ⟨i, ⟨h1, h2⟩, rfl⟩; exact ⟨i - q, by omega, by rw [show q + (i - q) = i by omega]⟩
  · rintro ⟨i, h1, rfl⟩; exact ⟨q + i, ⟨by omega, by omega⟩, rfl⟩
theorem lastGt_seg {o : Nat → Nat} {g : Nat} : ∀ (m q j : Nat), j < m → g < o (q + j) → (∀ i, j < i → i < m → ¬ g < o (q + i)) → lastGt g (seg o q m) = some j
  | 0, q, j, h, _, _ => by omega
  | m + 1, q, 0, h, h1, h2 => by
    rw [seg_s]; simp only [lastGt]
    rw [lastGt_no (fun x hx => by
      obtain ⟨i, hi, rfl⟩ := seg_mem.mp hx
      rw [show q + 1 + i = q + (i + 1) by omega]
      exact h2 (i + 1) (by omega) (by omega))]
    exact if_pos h1
  | m + 1, q, j + 1, h, h1, h2 => by
    rw [seg_s]; simp only [lastGt]
    rw [lastGt_seg m (q + 1) j (by omega) (by rw [show q + 1 + j = q + (j + 1) by omega]; exact h1) (fun i hi hm => by rw [show q + 1 + i = q + (i + 1) by omega]; exact h2 (i + 1) (by omega) (by omega))]
theorem desc_lt {o : Nat → Nat} {q : Nat} : ∀ (m : Nat), (∀ i, i + 1 < m → o (q + i + 1) < o (q + i)) → ∀ i, 0 < i → i < m → o (q + i) < o q
  | 0, _, i, _, h => by omega
  | m + 1, hd, i, h0, hi => by
    induction i with
    | zero => omega
    | succ i ih =>
      by_cases e : i = 0
      · subst e; exact hd 0 (by omega)
      · exact Nat.lt_trans (hd i (by omega)) (ih (by omega) (by omega))
theorem nxt_desc {o : Nat → Nat} : ∀ (m q : Nat), (∀ i, i + 1 < m → o (q + i + 1) < o (q + i)) → nxt (seg o q m) = none
  | 0, q, _ => rfl
  | m + 1, q, hd => by
    rw [seg_s]; simp only [nxt]
    rw [nxt_desc m (q + 1) (fun i hi => by have := hd (i + 1) (by omega); rw [show q + 1 + i + 1 = q + (i + 1) + 1 by omega, show q + 1 + i = q + (i + 1) by omega]; exact this)]
    rw [lastGt_no (fun x hx => by
      obtain ⟨i, hi, rfl⟩ := seg_mem.mp hx
      have := desc_lt (m + 1) hd (i + 1) (by omega) (by omega)
      rw [show q + 1 + i = q + (i + 1) by omega]; omega)]
theorem nxt_pre {x y : List Nat} (h : nxt x = some y) : ∀ u : List Nat, nxt (u ++ x) = some (u ++ y)
  | [] => h
  | g :: u => by simp only [List.cons_append, nxt]; rw [nxt_pre h u]
theorem seg_app (o : Nat → Nat) (q m k : Nat) : seg o q (m + k) = seg o q m ++ seg o (q + m) k := by
  simp only [seg]; rw [← List.map_append, List.range'_append_1]
theorem seg_congr {o o' : Nat → Nat} {q m : Nat} (h : ∀ i, i < m → o (q + i) = o' (q + i)) : seg o q m = seg o' q m := by
  apply List.map_congr_left
  intro i hi
  have := List.mem_range'_1.mp hi
  have e := h (i - q) (by omega)
  rwa [show q + (i - q) = i by omega] at e
theorem seg_at {o : Nat → Nat} {q m i : Nat} (h : i < m) : (seg o q m)[i]? = some (o (q + i)) := by
  simp [seg, h]
/-- the swap of k and j, and the turning about of what lies behind k -/
def nxF (o : Nat → Nat) (n k j : Nat) : Nat → Nat := fun p => if p < k then o p else if p = k then o j else (fun q => if q = j then o k else o q) (n + k - p)
theorem nxF_lt {o : Nat → Nat} {n k j p : Nat} (h : p < k) : nxF o n k j p = o p := if_pos h
theorem nxF_k {o : Nat → Nat} {n k j : Nat} : nxF o n k j k = o j := by unfold nxF; rw [if_neg (Nat.lt_irrefl _), if_pos rfl]
theorem nxF_gt {o : Nat → Nat} {n k j p : Nat} (h : k < p) : nxF o n k j p = if n + k - p = j then o k else o (n + k - p) := by unfold nxF; rw [if_neg (by omega), if_neg (by omega)]
theorem nxt_seg {o : Nat → Nat} {n k j : Nat} (hk : k + 1 < n) (hj : k < j) (hjn : j < n) (hd : ∀ i, k < i → i + 1 < n → o (i + 1) < o i) (h1 : o k < o j) (h2 : ∀ i, j < i → i < n → ¬ o k < o i) : nxt (seg o 0 n) = some (seg (nxF o n k j) 0 n) := by
  obtain ⟨m, rfl⟩ : ∃ m, n = k + (m + 1) := ⟨n - k - 1, by omega⟩
  rw [seg_app o 0 k (m + 1), seg_app (nxF o (k + (m + 1)) k j) 0 k (m + 1)]
  have e0 : seg o 0 k = seg (nxF o (k + (m + 1)) k j) 0 k := seg_congr (fun i hi => (nxF_lt (by omega)).symm)
  rw [← e0]
  refine nxt_pre ?_ _
  rw [Nat.zero_add, seg_s]
  simp only [nxt]
  rw [nxt_desc m (k + 1) (fun i hi => by have := hd (k + 1 + i) (by omega) (by omega); exact this)]
  rw [lastGt_seg m (k + 1) (j - (k + 1)) (by omega) (by rw [show k + 1 + (j - (k + 1)) = j by omega]; exact h1) (fun i hi hm => h2 _ (by omega) (by omega))]
  have hjs : (seg o (k + 1) m).getD (j - (k + 1)) 0 = o j := by
    rw [List.getD_eq_getElem?_getD, seg_at (by omega), show k + 1 + (j - (k + 1)) = j by omega]; rfl
  simp only [hjs]
  rw [seg_s]
  rw [nxF_k]
  congr 2
  apply List.ext_getElem?
  intro i
  by_cases hi : i < m
  · rw [seg_at hi, List.getElem?_reverse (by rw [List.length_set, seg_len]; exact hi), List.length_set, seg_len, List.getElem?_set]
    rw [nxF_gt (by omega)]
    by_cases hq : j - (k + 1) = m - 1 - i
    · rw [if_pos hq, seg_len, if_pos (by omega), if_pos (by omega)]
    · rw [if_neg hq, seg_at (by omega), if_neg (by omega)]
      congr 2; omega
  · rw [List.getElem?_eq_none (by rw [List.length_reverse, List.length_set, seg_len]; omega), List.getElem?_eq_none (by rw [seg_len]; omega)]
theorem dec_raw (x : Int32) : x + Int32.ofInt (-1) = x - nI 1 := by
  have e : Int32.ofInt (-1) = - nI 1 := by decide +kernel
  rw [e, Int32.sub_eq_add_neg]
section MG
variable {I : xMem} {n d : Nat}
def goQ (I : xMem) (n : Nat) (o : Nat → Nat) (r : Int32) (J : xMem) : Prop := (nxt (seg o 0 n) = none ∧ r = nI 0 ∧ J = I) ∨ ∃ o' : Nat → Nat, nxt (seg o 0 n) = some (seg o' 0 n) ∧ r = nI 1 ∧ (∀ p, p < n → J 4 p = nI (o' p)) ∧ ∀ c, c ≠ 4 → J c = I c
theorem c_goOn {o : Nat → Nat} (hd : 1 ≤ d) (h1 : 1 ≤ n) (hn : n ≤ 8) (h0 : I 1 0 = nI n) (ho : ∀ p, p < n → o p < 8) (hO : ∀ p, p < n → I 4 p = nI (o p)) (hne : ∀ p q, p < n → q < n → p ≠ q → o p ≠ o q) : Cx LM yX6_goOn mX6_goOn d [.ref 0] I (xRi (goQ I n o)) := by
  -- the turning about
  have lp3 : ∀ (t k j a b : Nat) (v3 : Value) (J : xMem), b < a + t → k + 1 < n → k < j → j < n → (∀ i, k < i → i + 1 < n → o (i + 1) < o i) → o k < o j → (∀ i, j < i → i < n → ¬ o k < o i) → a + b = n + k → k < a → (∀ p, p < n → J 4 p = nI (if p < a ∨ b < p then nxF o n k j p else (if p = j then o k else o p))) → (∀ c, c ≠ 4 → J c = I c) → Wx LM mX6_goOn d (xRi (goQ I n o)) 83 [.ref 0, .int (nI (n - 1)), .int (nI k), v3, .int (nI a), .int (nI b)] [] J := by
    intro t
    induction t with
    | zero =>
      intro k j a b v3 J hab hk hj hjn hdd hg hg2 hs hka hJ hF
      refine x_iload dX6_goOn_83 rfl ?_
      refine x_iload dX6_goOn_85 rfl ?_
      refine x_icmpn_ge (a := a) (b := b) (by omega) (by omega) (tgt := 107) dX6_goOn_87 rfl (fun c => ?_) (fun c => ?_)
      ·
        refine x_iconst dX6_goOn_107 ic_1 ?_
        refine x_zretb (b := true) dX6_goOn_108 rfl (Or.inr ⟨nxF o n k j, nxt_seg hk hj hjn hdd hg hg2, rfl, fun p hp => by rw [hJ p hp, if_pos (by omega)], hF⟩)
      ·
        omega
    | succ t ih =>
      intro k j a b v3 J hab hk hj hjn hdd hg hg2 hs hka hJ hF
      refine x_iload dX6_goOn_83 rfl ?_
      refine x_iload dX6_goOn_85 rfl ?_
      refine x_icmpn_ge (a := a) (b := b) (by omega) (by omega) (tgt := 107) dX6_goOn_87 rfl (fun c => ?_) (fun c => ?_)
      ·
        refine x_iconst dX6_goOn_107 ic_1 ?_
        refine x_zretb (b := true) dX6_goOn_108 rfl (Or.inr ⟨nxF o n k j, nxt_seg hk hj hjn hdd hg hg2, rfl, ?_, hF⟩)
        intro p hp
        rw [hJ p hp]
        by_cases e : p < a ∨ b < p
        · rw [if_pos e]
        · rw [if_neg e]
          congr 1
          rw [nxF_gt (by omega), show n + k - p = p by omega]
      ·
        refine x_aload_n dX6_goOn_90 rfl ?_
        refine x_iload dX6_goOn_91 rfl ?_
        refine x_iload dX6_goOn_93 rfl ?_
        refine x_callVv 5 ml_X6_83 in_X6_change se_X6_change ct_X6_change rfl (c_change (d := 0) (by omega) (by omega)) dX6_goOn_95 hd rfl rfl rfl rfl (Nat.le_of_ble_eq_true rfl) (fun J0 h0 => ?_)
        obtain rfl := h0.symm
        refine x_iinc (v := nI (a + 1)) (ls' := [.ref 0, .int (nI (n - 1)), .int (nI k), v3, .int (nI (a + 1)), .int (nI b)]) dX6_goOn_98 rfl (inc_1 _) rfl rfl ?_
        refine x_iinc (v := nI (b - 1)) (ls' := [.ref 0, .int (nI (n - 1)), .int (nI k), v3, .int (nI (a + 1)), .int (nI (b - 1))]) dX6_goOn_101 rfl (dec_1 (by omega)) rfl rfl ?_
        refine x_goto (tgt := 83) dX6_goOn_104 rfl ?_
        refine ih k j (a + 1) (b - 1) _ _ (by omega) hk hj hjn hdd hg hg2 (by omega) (by omega) (fun p hp => ?_) (fun c hc => by rw [xup_ne hc, xup_ne hc]; exact hF c hc)
        have ea : n + k - a = b := by omega
        have eb : n + k - b = a := by omega
        have Ja := hJ a (by omega)
        have Jb := hJ b (by omega)
        rw [if_neg (by omega)] at Ja Jb
        rw [xup_eq, xup_eq]
        by_cases e1 : p = b
        · subst e1
          rw [if_pos rfl, if_pos (by omega), Ja]
          congr 1
          rw [nxF_gt (by omega), eb]
        · rw [if_neg e1]
          by_cases e2 : p = a
          · subst e2
            rw [if_pos rfl, if_pos (by omega), Jb]
            congr 1
            rw [nxF_gt (by omega), ea]
          · rw [if_neg e2, hJ p hp]
            by_cases e3 : p < a ∨ b < p
            · rw [if_pos e3, if_pos (by omega)]
            · rw [if_neg e3, if_neg (show ¬ (p < a + 1 ∨ b - 1 < p) by omega)]
  have lp2 : ∀ (t k j : Nat), k + 1 + t = j → j < n → k + 1 < n → (∀ i, k < i → i + 1 < n → o (i + 1) < o i) → o k < o (k + 1) → (∀ i, j < i → i < n → ¬ o k < o i) → Wx LM mX6_goOn d (xRi (goQ I n o)) 48 [.ref 0, .int (nI (n - 1)), .int (nI k), .int (nI j), .null, .null] [] I := by
    intro t
    induction t with
    | zero =>
      intro k j ht hjn hk hdd hg hg2
      have e : j = k + 1 := by omega
      subst e
      have hb := ho k (by omega)
      have hb2 := ho (k + 1) (by omega)
      refine x_aload_n dX6_goOn_48 rfl ?_
      refine x_getR 5 3 rfl (by decide) fl_X6_20 dX6_goOn_49 rfl rfl rfl ?_
      refine x_iload_n dX6_goOn_52 rfl ?_
      refine x_iald (p := k + 1) (v := nI (o (k + 1))) dX6_goOn_53 rfl rfl rfl rfl (by omega) (hO (k + 1) (by omega)) ?_
      refine x_aload_n dX6_goOn_54 rfl ?_
      refine x_getR 5 3 rfl (by decide) fl_X6_20 dX6_goOn_55 rfl rfl rfl ?_
      refine x_iload_n dX6_goOn_58 rfl ?_
      refine x_iald (p := k) (v := nI (o k)) dX6_goOn_59 rfl rfl rfl rfl (by omega) (hO k (by omega)) ?_
      refine x_icmpn_ge (a := o (k + 1)) (b := o k) (by omega) (by omega) (tgt := 69) dX6_goOn_60 rfl (fun c => ?_) (fun c => ?_)
      ·
        refine x_aload_n dX6_goOn_69 rfl ?_
        refine x_iload_n dX6_goOn_70 rfl ?_
        refine x_iload_n dX6_goOn_71 rfl ?_
        refine x_callVv 5 ml_X6_83 in_X6_change se_X6_change ct_X6_change rfl (c_change (d := 0) (by omega) (by omega)) dX6_goOn_72 hd rfl rfl rfl rfl (Nat.le_of_ble_eq_true rfl) (fun J0 h0 => ?_)
        obtain rfl := h0.symm
        refine x_iload_n dX6_goOn_75 rfl ?_
        refine x_iconst dX6_goOn_76 ic_1 ?_
        refine x_iadd (v := nI (k + 1)) dX6_goOn_77 (nI_add _ _) ?_
        refine x_istore (ls' := [.ref 0, .int (nI (n - 1)), .int (nI k), .int (nI (k + 1)), .int (nI (k + 1)), .null]) dX6_goOn_78 rfl rfl ?_
        refine x_iload_n dX6_goOn_80 rfl ?_
        refine x_istore (ls' := [.ref 0, .int (nI (n - 1)), .int (nI k), .int (nI (k + 1)), .int (nI (k + 1)), .int (nI (n - 1))]) dX6_goOn_81 rfl rfl ?_
        refine lp3 n k (k + 1) (k + 1) (n - 1) _ _ (by omega) hk (by omega) (by omega) hdd hg hg2 (by omega) (by omega) (fun p hp => ?_) (fun c hc => by rw [xup_ne hc, xup_ne hc])
        rw [xup_eq, xup_eq]
        by_cases e1 : p = k + 1
        · subst e1
          rw [if_pos rfl, hO k (by omega), if_neg (by omega), if_pos rfl]
        · rw [if_neg e1]
          by_cases e2 : p = k
          · subst e2
            rw [if_pos rfl, hO _ hjn, if_pos (by omega)]
            rw [nxF_k]
          · rw [if_neg e2, hO p hp]
            by_cases e3 : p < k
            · rw [if_pos (by omega), nxF_lt e3]
            · rw [if_neg (by omega), if_neg e1]
      ·
        omega
    | succ t ih =>
      intro k j ht hjn hk hdd hg hg2
      have hb := ho k (by omega)
      have hb2 := ho j (by omega)
      refine x_aload_n dX6_goOn_48 rfl ?_
      refine x_getR 5 3 rfl (by decide) fl_X6_20 dX6_goOn_49 rfl rfl rfl ?_
      refine x_iload_n dX6_goOn_52 rfl ?_
      refine x_iald (p := j) (v := nI (o j)) dX6_goOn_53 rfl rfl rfl rfl (by omega) (hO j (by omega)) ?_
      refine x_aload_n dX6_goOn_54 rfl ?_
      refine x_getR 5 3 rfl (by decide) fl_X6_20 dX6_goOn_55 rfl rfl rfl ?_
      refine x_iload_n dX6_goOn_58 rfl ?_
      refine x_iald (p := k) (v := nI (o k)) dX6_goOn_59 rfl rfl rfl rfl (by omega) (hO k (by omega)) ?_
      refine x_icmpn_ge (a := o j) (b := o k) (by omega) (by omega) (tgt := 69) dX6_goOn_60 rfl (fun c => ?_) (fun c => ?_)
      ·
        have hg3 : o k < o j := by have := hne k j (by omega) hjn (by omega); omega
        refine x_aload_n dX6_goOn_69 rfl ?_
        refine x_iload_n dX6_goOn_70 rfl ?_
        refine x_iload_n dX6_goOn_71 rfl ?_
        refine x_callVv 5 ml_X6_83 in_X6_change se_X6_change ct_X6_change rfl (c_change (d := 0) (by omega) (by omega)) dX6_goOn_72 hd rfl rfl rfl rfl (Nat.le_of_ble_eq_true rfl) (fun J0 h0 => ?_)
        obtain rfl := h0.symm
        refine x_iload_n dX6_goOn_75 rfl ?_
        refine x_iconst dX6_goOn_76 ic_1 ?_
        refine x_iadd (v := nI (k + 1)) dX6_goOn_77 (nI_add _ _) ?_
        refine x_istore (ls' := [.ref 0, .int (nI (n - 1)), .int (nI k), .int (nI j), .int (nI (k + 1)), .null]) dX6_goOn_78 rfl rfl ?_
        refine x_iload_n dX6_goOn_80 rfl ?_
        refine x_istore (ls' := [.ref 0, .int (nI (n - 1)), .int (nI k), .int (nI j), .int (nI (k + 1)), .int (nI (n - 1))]) dX6_goOn_81 rfl rfl ?_
        refine lp3 n k j (k + 1) (n - 1) _ _ (by omega) hk (by omega) (by omega) hdd hg3 hg2 (by omega) (by omega) (fun p hp => ?_) (fun c hc => by rw [xup_ne hc, xup_ne hc])
        rw [xup_eq, xup_eq]
        by_cases e1 : p = j
        · subst e1
          rw [if_pos rfl, hO k (by omega), if_neg (by omega), if_pos rfl]
        · rw [if_neg e1]
          by_cases e2 : p = k
          · subst e2
            rw [if_pos rfl, hO _ hjn, if_pos (by omega)]
            rw [nxF_k]
          · rw [if_neg e2, hO p hp]
            by_cases e3 : p < k
            · rw [if_pos (by omega), nxF_lt e3]
            · rw [if_neg (by omega), if_neg e1]
      ·
        refine x_iinc (v := nI (j - 1)) (ls' := [.ref 0, .int (nI (n - 1)), .int (nI k), .int (nI (j - 1)), .null, .null]) dX6_goOn_63 rfl (dec_1 (by omega)) rfl rfl ?_
        refine x_goto (tgt := 48) dX6_goOn_66 rfl ?_
        refine ih k (j - 1) (by omega) (by omega) hk hdd hg (fun i hi hin => ?_)
        by_cases e : i = j
        · subst e; omega
        · exact hg2 i (by omega) hin
  have lp1 : ∀ (K : Nat), K < n → (∀ i, K ≤ i → i + 1 < n → o (i + 1) < o i) → Wx LM mX6_goOn d (xRi (goQ I n o)) 13 [.ref 0, .int (nI (n - 1)), .int (nI K - nI 1), .null, .null, .null] [] I := by
    intro K
    induction K with
    | zero =>
      intro hK hdd
      rw [show nI 0 - nI 1 = (-1) by decide +kernel]
      refine x_iload_n dX6_goOn_13 rfl ?_
      refine x_if_lt (tgt := 40) dX6_goOn_14 rfl (fun c => ?_) (fun c => ?_)
      ·
        refine x_iload_n dX6_goOn_40 rfl ?_
        refine x_if_ge (tgt := 46) dX6_goOn_41 rfl (fun c2 => ?_) (fun c2 => ?_)
        ·
          exact absurd c2 (by decide +kernel)
        ·
          refine x_iconst dX6_goOn_44 ic_0 ?_
          refine x_zretb (b := false) dX6_goOn_45 rfl (Or.inl ⟨nxt_desc n 0 (fun i hi => by rw [Nat.zero_add]; exact hdd i (Nat.zero_le _) hi), rfl, rfl⟩)
      ·
        exact absurd (by decide +kernel) c
    | succ K ih =>
      intro hK hdd
      have hb := ho K (by omega)
      have hb2 := ho (K + 1) hK
      rw [pk_sub (by omega), show K + 1 - 1 = K by omega]
      refine x_iload_n dX6_goOn_13 rfl ?_
      refine x_ifn_lt (a := K) (by omega) (tgt := 40) dX6_goOn_14 rfl (fun c => ?_) (fun c => ?_)
      ·
        exact absurd c id
      ·
        refine x_aload_n dX6_goOn_17 rfl ?_
        refine x_getR 5 3 rfl (by decide) fl_X6_20 dX6_goOn_18 rfl rfl rfl ?_
        refine x_iload_n dX6_goOn_21 rfl ?_
        refine x_iald (p := K) (v := nI (o K)) dX6_goOn_22 rfl rfl rfl rfl (by omega) (hO K (by omega)) ?_
        refine x_aload_n dX6_goOn_23 rfl ?_
        refine x_getR 5 3 rfl (by decide) fl_X6_20 dX6_goOn_24 rfl rfl rfl ?_
        refine x_iload_n dX6_goOn_27 rfl ?_
        refine x_iconst dX6_goOn_28 ic_1 ?_
        refine x_iadd (v := nI (K + 1)) dX6_goOn_29 (nI_add _ _) ?_
        refine x_iald (p := K + 1) (v := nI (o (K + 1))) dX6_goOn_30 rfl rfl rfl rfl (by omega) (hO (K + 1) hK) ?_
        refine x_icmpn_le (a := o K) (b := o (K + 1)) (by omega) (by omega) (tgt := 40) dX6_goOn_31 rfl (fun c2 => ?_) (fun c2 => ?_)
        ·
          refine x_iload_n dX6_goOn_40 rfl ?_
          refine x_ifn_ge (a := K) (by omega) (tgt := 46) dX6_goOn_41 rfl (fun c3 => ?_) (fun c3 => ?_)
          ·
            refine x_iload_n dX6_goOn_46 rfl ?_
            refine x_istore_n (ls' := [.ref 0, .int (nI (n - 1)), .int (nI K), .int (nI (n - 1)), .null, .null]) dX6_goOn_47 rfl rfl ?_
            have := hne K (K + 1) (by omega) hK (by omega)
            exact lp2 (n - 1 - (K + 1)) K (n - 1) (by omega) (by omega) hK (fun i hi hin => hdd i (by omega) hin) (by omega) (fun i hi hin => by omega)
          ·
            exact absurd c3 id
        ·
          refine x_iinc (v := nI K - nI 1) (ls' := [.ref 0, .int (nI (n - 1)), .int (nI K - nI 1), .null, .null, .null]) dX6_goOn_34 rfl (dec_raw _) rfl rfl ?_
          refine x_goto (tgt := 13) dX6_goOn_37 rfl ?_
          refine ih (by omega) (fun i hi hin => ?_)
          by_cases e : i = K
          · subst e; exact c2
          · exact hdd i (by omega) hin
  refine Cx.of [.ref 0, .null, .null, .null, .null, .null] (by decide) rfl rfl (Nat.le_of_ble_eq_true rfl) rfl ?_
  refine x_aload_n dX6_goOn_0 rfl ?_
  refine x_getR 5 0 rfl (by decide) fl_X6_7 dX6_goOn_1 rfl rfl rfl ?_
  refine x_iconst dX6_goOn_4 ic_0 ?_
  refine x_iald (p := 0) (v := nI n) dX6_goOn_5 rfl rfl rfl rfl (by omega) h0 ?_
  refine x_iconst dX6_goOn_6 ic_1 ?_
  refine x_isub (v := nI (n - 1)) dX6_goOn_7 (pk_sub (by omega)) ?_
  refine x_istore_n (ls' := [.ref 0, .int (nI (n - 1)), .null, .null, .null, .null]) dX6_goOn_8 rfl rfl ?_
  refine x_iload_n dX6_goOn_9 rfl ?_
  refine x_iconst dX6_goOn_10 ic_1 ?_
  refine x_isub (v := nI (n - 1) - nI 1) dX6_goOn_11 rfl ?_
  refine x_istore_n (ls' := [.ref 0, .int (nI (n - 1)), .int (nI (n - 1) - nI 1), .null, .null, .null]) dX6_goOn_12 rfl rfl ?_
  exact lp1 (n - 1) (by omega) (fun i hi hin => by omega)
end MG
end
section
/-! all orders, in their order -/
def ext (n : Nat) : Nat → Nat → List (List Nat)
  | 0, _ => [[]]
  | k + 1, S => (List.range n).flatMap (fun g => if S.testBit g then [] else (ext n k (S ||| 1 <<< g)).map (g :: ·))
def perms (n : Nat) : List (List Nat) := ext n n 0
def ascL (n S : Nat) : List Nat := (List.range n).filter (fun g => !S.testBit g)
theorem flatMap_if {α : Type} (p : Nat → Bool) (f : Nat → List α) : ∀ l : List Nat, l.flatMap (fun g => if p g then [] else f g) = (l.filter (fun g => !p g)).flatMap f
  | [] => rfl
  | x :: l => by
    rw [List.flatMap_cons, flatMap_if p f l]
    cases h : p x with
    | true => simp [h]
    | false => simp [h]
theorem ext_s (n k S : Nat) : ext n (k + 1) S = (ascL n S).flatMap (fun g => (ext n k (S ||| 1 <<< g)).map (g :: ·)) := flatMap_if _ _ _
theorem ascL_mem {n S g : Nat} : g ∈ ascL n S ↔ g < n ∧ S.testBit g = false := by simp [ascL]
theorem bit_or1 (S g i : Nat) : (S ||| 1 <<< g).testBit i = (S.testBit i || decide (i = g)) := by
  rw [Nat.testBit_or]
  congr 1
  rw [Nat.one_shiftLeft, Nat.testBit_two_pow]
  by_cases h : g = i
  · subst h; simp
  · simp [h, Ne.symm h]
theorem ascL_or (n S g : Nat) : ascL n (S ||| 1 <<< g) = (ascL n S).filter (fun i => i ≠ g) := by
  simp only [ascL, List.filter_filter]
  apply List.filter_congr
  intro i _
  rw [bit_or1]
  cases S.testBit i <;> simp
theorem filter_ne_len {l : List Nat} (hn : l.Nodup) {g : Nat} (hg : g ∈ l) : (l.filter (fun i => i ≠ g)).length + 1 = l.length := by
  induction l with
  | nil => simp at hg
  | cons x l ih =>
    obtain ⟨h1, h2⟩ := List.nodup_cons.mp hn
    by_cases e : x = g
    · subst e
      have : (x :: l).filter (fun i => i ≠ x) = l := by
        rw [List.filter_cons_of_neg (by simp)]
        apply List.filter_eq_self.mpr
        intro a ha
        simp only [ne_eq, decide_not, Bool.not_eq_eq_eq_not, Bool.not_true, decide_eq_false_iff_not]
        intro e; subst e; exact h1 ha
      rw [this]; rfl
    · rw [List.filter_cons_of_pos (by simpa using e)]
      have := ih h2 (by rcases List.mem_cons.mp hg with h | h; exact absurd h.symm e; exact h)
      simp only [List.length_cons]; omega
theorem ascL_nodup (n S : Nat) : (ascL n S).Nodup := List.Pairwise.filter _ List.nodup_range
theorem ascL_len {n S g : Nat} (h : g ∈ ascL n S) : (ascL n (S ||| 1 <<< g)).length + 1 = (ascL n S).length := by
  rw [ascL_or]; exact filter_ne_len (ascL_nodup n S) h
/-- each is followed by its next -/
def Ch : List (List Nat) → Prop
  | [] => True
  | [_] => True
  | x :: y :: l => nxt x = some y ∧ Ch (y :: l)
theorem Ch_map {g : Nat} : ∀ {l : List (List Nat)}, Ch l → Ch (l.map (g :: ·))
  | [], _ => trivial
  | [_], _ => trivial
  | x :: y :: l, h => ⟨by simp only [nxt]; rw [h.1], Ch_map (l := y :: l) h.2⟩
theorem Ch_app : ∀ {l m : List (List Nat)}, Ch l → Ch m → (∀ x y, l.getLast? = some x → m.head? = some y → nxt x = some y) → Ch (l ++ m)
  | [], _, _, h, _ => h
  | [x], [], _, _, _ => trivial
  | [x], y :: m, _, h, hb => ⟨hb x y rfl rfl, h⟩
  | x :: y :: l, m, h, h2, hb => ⟨h.1, Ch_app (l := y :: l) h.2 h2 (fun a b ha hm => hb a b (by simpa using ha) hm)⟩
def adj (f : Nat → Nat → Bool) : List Nat → Bool
  | [] => true
  | [_] => true
  | x :: y :: l => f x y && adj f (y :: l)
def bnd (n S : Nat) : Bool := adj (fun g g' => decide (nxt (g :: (ascL n (S ||| 1 <<< g)).reverse) = some (g' :: ascL n (S ||| 1 <<< g')))) (ascL n S) && decide (nxt (ascL n S).reverse = none)
theorem bnd_ok : ∀ n, n < 9 → ∀ S, S < 256 → bnd n S = true := by decide +kernel
theorem blocks (n S : Nat) (E : Nat → List (List Nat)) : ∀ (gs : List Nat), gs ≠ [] → adj (fun g g' => decide (nxt (g :: (ascL n (S ||| 1 <<< g)).reverse) = some (g' :: ascL n (S ||| 1 <<< g')))) gs = true → (∀ g ∈ gs, Ch (E g) ∧ (E g).head? = some (ascL n (S ||| 1 <<< g)) ∧ (E g).getLast? = some (ascL n (S ||| 1 <<< g)).reverse) →
    Ch (gs.flatMap (fun g => (E g).map (g :: ·))) ∧ (gs.flatMap (fun g => (E g).map (g :: ·))).head? = (gs.head?).map (fun g => g :: ascL n (S ||| 1 <<< g)) ∧ (gs.flatMap (fun g => (E g).map (g :: ·))).getLast? = (gs.getLast?).map (fun g => g :: (ascL n (S ||| 1 <<< g)).reverse)
  | [], h, _, _ => absurd rfl h
  | [g], _, _, h => by
    obtain ⟨h1, h2, h3⟩ := h g List.mem_cons_self
    simp only [List.flatMap_cons, List.flatMap_nil, List.append_nil]
    exact ⟨Ch_map h1, by simp [h2], by simp [h3]⟩
  | g :: g' :: gs, _, ha, h => by
    obtain ⟨h1, h2, h3⟩ := h g List.mem_cons_self
    simp only [adj, Bool.and_eq_true, decide_eq_true_eq] at ha
    obtain ⟨i1, i2, i3⟩ := blocks n S E (g' :: gs) (by simp) ha.2 (fun x hx => h x (List.mem_cons_of_mem _ hx))
    rw [List.flatMap_cons]
    refine ⟨Ch_app (Ch_map h1) i1 (fun x y hx hy => ?_), ?_, ?_⟩
    · rw [i2] at hy
      rw [List.getLast?_map, h3] at hx
      simp at hx hy
      rw [← hx, ← hy]; exact ha.1
    · rw [List.head?_append, List.head?_map, h2]; rfl
    · rw [List.getLast?_append, i3]
      cases hg : (g' :: gs).getLast? with
      | none => simp at hg
      | some z => simp [List.getLast?_cons_cons, hg]
theorem ascL_head {n S g : Nat} (h : (ascL n S).head? = some g) : g :: ascL n (S ||| 1 <<< g) = ascL n S := by
  rw [ascL_or]
  cases e : ascL n S with
  | nil => rw [e] at h; simp at h
  | cons x l =>
    rw [e] at h
    simp at h
    subst h
    have hn := ascL_nodup n S
    rw [e] at hn
    obtain ⟨h1, _⟩ := List.nodup_cons.mp hn
    rw [List.filter_cons_of_neg (by simp)]
    congr 1
    apply List.filter_eq_self.mpr
    intro a ha
    simp only [ne_eq, decide_not, Bool.not_eq_eq_eq_not, Bool.not_true, decide_eq_false_iff_not]
    intro e2; subst e2; exact h1 ha
theorem ascL_last {n S g : Nat} (h : (ascL n S).getLast? = some g) : g :: (ascL n (S ||| 1 <<< g)).reverse = (ascL n S).reverse := by
  rw [ascL_or]
  have hn := ascL_nodup n S
  generalize ascL n S = l at h hn
  obtain ⟨l', rfl⟩ := List.getLast?_eq_some_iff.mp h
  rw [List.filter_append, List.filter_cons_of_neg (by simp), List.filter_nil, List.append_nil, List.reverse_append]
  simp only [List.reverse_cons, List.reverse_nil, List.nil_append, List.cons_append]
  congr 2
  apply List.filter_eq_self.mpr
  intro a ha
  simp only [ne_eq, decide_not, Bool.not_eq_eq_eq_not, Bool.not_true, decide_eq_false_iff_not]
  intro e2; subst e2
  have := (List.nodup_append.mp hn).2.2 a ha a (by simp)
  exact this rfl
theorem ext_ch {n : Nat} (hn : n < 9) : ∀ (k S : Nat), S < 256 → (ascL n S).length = k → Ch (ext n k S) ∧ (ext n k S).head? = some (ascL n S) ∧ (ext n k S).getLast? = some (ascL n S).reverse
  | 0, S, _, hk => by
    have e : ascL n S = [] := List.length_eq_zero_iff.mp hk
    rw [e]; exact ⟨trivial, rfl, rfl⟩
  | k + 1, S, hS, hk => by
    have hb := bnd_ok n hn S hS
    simp only [bnd, Bool.and_eq_true] at hb
    have hne : ascL n S ≠ [] := by intro e; rw [e] at hk; simp at hk
    rw [ext_s]
    obtain ⟨b1, b2, b3⟩ := blocks n S (fun g => ext n k (S ||| 1 <<< g)) (ascL n S) hne hb.1 (fun g hg => by
      have hg2 := ascL_mem.mp hg
      refine ext_ch hn k (S ||| 1 <<< g) (Nat.or_lt_two_pow (n := 8) hS ?_) (by have := ascL_len hg; omega)
      rw [Nat.shiftLeft_eq, Nat.one_mul]; exact Nat.pow_lt_pow_right (by decide) (by omega))
    refine ⟨b1, ?_, ?_⟩
    · rw [b2]
      cases hh : (ascL n S).head? with
      | none => exact absurd (List.head?_eq_none_iff.mp hh) hne
      | some g => simp only [Option.map_some]; rw [ascL_head hh]
    · rw [b3]
      cases hh : (ascL n S).getLast? with
      | none => exact absurd (List.getLast?_eq_none_iff.mp hh) hne
      | some g => simp only [Option.map_some]; rw [ascL_last hh]
theorem ascL_0 (n : Nat) : ascL n 0 = List.range n := by
  unfold ascL; apply List.filter_eq_self.mpr; intro a _; simp
theorem Ch_next : ∀ {l : List (List Nat)}, Ch l → (∀ x, l.getLast? = some x → nxt x = none) → ∀ {u : List (List Nat)} {x : List Nat} {v : List (List Nat)}, l = u ++ x :: v → nxt x = v.head?
  | [], _, _, u, x, v, h => by simp at h
  | [y], _, hl, u, x, v, h => by
    cases u with
    | nil =>
      simp at h
      obtain ⟨rfl, rfl⟩ := h
      exact hl y rfl
    | cons a u => simp at h
  | y :: z :: l, hc, hl, u, x, v, h => by
    cases u with
    | nil =>
      simp at h
      obtain ⟨rfl, rfl⟩ := h
      exact hc.1
    | cons a u =>
      simp only [List.cons_append, List.cons.injEq] at h
      exact Ch_next (l := z :: l) hc.2 (fun w hw => hl w (by simpa using hw)) h.2
theorem perms_ch {n : Nat} (hn : n < 9) : Ch (perms n) ∧ (perms n).head? = some (List.range n) ∧ (perms n).getLast? = some (List.range n).reverse := by
  have := ext_ch hn n 0 (by decide) (by rw [ascL_0, List.length_range])
  rw [ascL_0] at this
  exact this
/-- the next order of a perms' member is the one behind it -/
theorem perms_next {n : Nat} (hn : n < 9) {u : List (List Nat)} {x : List Nat} {v : List (List Nat)} (h : perms n = u ++ x :: v) : nxt x = v.head? := by
  obtain ⟨h1, h2, h3⟩ := perms_ch hn
  refine Ch_next h1 (fun y hy => ?_) h
  rw [h3] at hy
  cases hy
  have hb := bnd_ok n hn 0 (by decide)
  simp only [bnd, Bool.and_eq_true, decide_eq_true_eq] at hb
  rw [ascL_0] at hb
  exact hb.2
/-- what the members are: so many graves, none twice, none of S -/
theorem ext_mem {n : Nat} : ∀ {k S : Nat} {w : List Nat}, w ∈ ext n k S → w.length = k ∧ w.Nodup ∧ ∀ g ∈ w, g < n ∧ S.testBit g = false
  | 0, S, w, h => by simp [ext] at h; subst h; simp
  | k + 1, S, w, h => by
    rw [ext_s] at h
    obtain ⟨g, hg, hw⟩ := List.mem_flatMap.mp h
    obtain ⟨v, hv, rfl⟩ := List.mem_map.mp hw
    obtain ⟨h1, h2, h3⟩ := ext_mem hv
    have hg2 := ascL_mem.mp hg
    refine ⟨by simp [h1], List.nodup_cons.mpr ⟨fun hm => ?_, h2⟩, fun x hx => ?_⟩
    · have := (h3 g hm).2; rw [bit_or1] at this; simp at this
    · rcases List.mem_cons.mp hx with rfl | hx
      · exact hg2
      · have := h3 x hx; rw [bit_or1] at this
        exact ⟨this.1, by have := this.2; simp at this; exact this.1⟩
theorem perms_mem {n : Nat} {w : List Nat} (h : w ∈ perms n) : w.length = n ∧ w.Nodup ∧ ∀ g ∈ w, g < n := by
  obtain ⟨h1, h2, h3⟩ := ext_mem h
  exact ⟨h1, h2, fun g hg => (h3 g hg).1⟩
end
section
/-! the reference: the fewest breaks; the best swap -/
def oI (o : Option Nat) : Int32 := match o with
  | none => (-6)
  | some m => nI m
/-- the least of f, over a list, beside what was found before -/
def fwm (f : List Nat → Nat) : Option Nat → List (List Nat) → Option Nat
  | o, [] => o
  | none, w :: l => fwm f (some (f w)) l
  | some m, w :: l => fwm f (some (if f w < m then f w else m)) l
theorem fwm_app (f : List Nat → Nat) : ∀ (l m : List (List Nat)) (o : Option Nat), fwm f o (l ++ m) = fwm f (fwm f o l) m
  | [], _, o => by cases o <;> rfl
  | w :: l, m, none => by simp only [List.cons_append, fwm]; exact fwm_app f l m _
  | w :: l, m, some x => by simp only [List.cons_append, fwm]; exact fwm_app f l m _
theorem fwm_le {f : List Nat → Nat} {B : Nat} (hf : ∀ w, f w ≤ B) : ∀ (l : List (List Nat)) (o : Option Nat) (x : Nat), (∀ y, o = some y → y ≤ B) → fwm f o l = some x → x ≤ B
  | [], o, x, h, e => by cases o <;> simp [fwm] at e; exact h x (by rw [e])
  | w :: l, none, x, h, e => fwm_le hf l _ x (fun y hy => by cases hy; exact hf w) e
  | w :: l, some m, x, h, e => fwm_le hf l _ x (fun y hy => by cases hy; split; exact hf w; exact h m rfl) e
/-- the orders that are allowed -/
def fea (n : Nat) (a : Nat → Nat) : List (List Nat) := (perms n).filter (fun w => al a 0 w)
def fewB (n : Nat) (h a : Nat → Nat) : Option Nat := fwm (brk h) none (fea n a)
def isB (n : Nat) (h a : Nat → Nat) (w : List Nat) : Bool := al a 0 w && decide (fewB n h a = some (brk h w))
/-- the best orders, in their order -/
def bests (n : Nat) (h a : Nat → Nat) : List (List Nat) := (perms n).filter (isB n h a)
theorem rs_len (h : Nat → Nat) (s : Nat) (w : List Nat) : rs h s false w - 1 ≤ w.length := by have := rs_le h s w false; omega
theorem brk_le (h : Nat → Nat) (w : List Nat) : brk h w ≤ 10 * w.length := by
  have key : ∀ k, rf (fun t s => t + (rs h s false w - 1)) 0 k ≤ k * w.length := by
    intro k
    induction k with
    | zero => exact Nat.zero_le _
    | succ k ih => rw [rf_s, Nat.succ_mul]; have := rs_len h k w; omega
  exact key 10
theorem seg_getD {w : List Nat} {n : Nat} (hw : w.length = n) : seg (fun p => w.getD p 0) 0 n = w := by
  subst hw
  apply List.ext_getElem?
  intro i
  by_cases hi : i < w.length
  · rw [seg_at hi, Nat.zero_add, List.getElem?_eq_getElem hi, List.getD_eq_getElem?_getD, List.getElem?_eq_getElem hi]; rfl
  · rw [List.getElem?_eq_none (by rw [seg_len]; omega), List.getElem?_eq_none (by omega)]
def OrdL (J : xMem) (n : Nat) (w : List Nat) : Prop := ∀ p, p < n → J 4 p = nI (w.getD p 0)
theorem getD_lt {w : List Nat} {B n : Nat} (h : ∀ g ∈ w, g < B) (hl : w.length = n) {p : Nat} (hp : p < n) : w.getD p 0 < B := by
  rw [List.getD_eq_getElem?_getD, List.getElem?_eq_getElem (by omega)]
  exact h _ (List.getElem_mem _)
theorem getD_ne {w : List Nat} {n : Nat} (hn : w.Nodup) (hl : w.length = n) {p q : Nat} (hp : p < n) (hq : q < n) (h : p ≠ q) : w.getD p 0 ≠ w.getD q 0 := by
  rw [List.getD_eq_getElem?_getD, List.getD_eq_getElem?_getD, List.getElem?_eq_getElem (by omega), List.getElem?_eq_getElem (by omega)]
  intro e
  exact h ((List.getElem_inj hn).mp (by simpa using e))
theorem oI_neg {o : Option Nat} (h : ∀ m, o = some m → m < 2 ^ 31) : (oI o < 0) ↔ o = none := by
  cases o with
  | none => exact ⟨fun _ => rfl, fun _ => by decide +kernel⟩
  | some m => exact ⟨fun e => absurd e (nI_pos (h m rfl)), fun e => by cases e⟩
section MG
variable {I : xMem} {n d : Nat} {h a L : Nat → Nat}
theorem g_goOn {u v : List (List Nat)} {w : List Nat} (hd : 1 ≤ d) (h1 : 1 ≤ n) (hn : n ≤ 8) (h0 : I 1 0 = nI n) (hP : perms n = u ++ w :: v) (hO : OrdL I n w) : Cx LM yX6_goOn mX6_goOn d [.ref 0] I (xRi (fun r J => (v = [] ∧ r = nI 0 ∧ J = I) ∨ ∃ y v', v = y :: v' ∧ r = nI 1 ∧ OrdL J n y ∧ ∀ c, c ≠ 4 → J c = I c)) := by
  have hm := perms_mem (n := n) (w := w) (by rw [hP]; simp)
  have hnx := perms_next (by omega) hP
  refine Cx.mono (c_goOn (o := fun p => w.getD p 0) hd h1 hn h0 (fun p hp => by have := getD_lt hm.2.2 hm.1 hp; omega) hO (fun p q hp hq e => getD_ne hm.2.1 hm.1 hp hq e)) ?_
  rintro x J ⟨r, rfl, hq⟩
  refine ⟨r, rfl, ?_⟩
  rcases hq with ⟨e1, e2, e3⟩ | ⟨o', e1, e2, e3, e4⟩
  · rw [seg_getD hm.1, hnx] at e1
    exact Or.inl ⟨List.head?_eq_none_iff.mp e1, e2, e3⟩
  · rw [seg_getD hm.1, hnx] at e1
    cases v with
    | nil => simp at e1
    | cons y v' =>
      simp at e1
      have hy := perms_mem (n := n) (w := y) (by rw [hP]; simp)
      refine Or.inr ⟨y, v', rfl, e2, fun p hp => ?_, e4⟩
      rw [e3 p hp, e1, List.getD_eq_getElem?_getD, seg_at hp, Nat.zero_add]; rfl
theorem g_isAllowed {w : List Nat} (ha : ∀ g, a g < 256) (hw : w ∈ perms n) (hO : OrdL I n w) (hM : MSt I n h a L) (hn : n ≤ 8) : Cx LM yX6_isAllowed mX6_isAllowed d [.ref 0] I (xRi (fun r J => r = nI (al a 0 w).toNat ∧ J = I)) := by
  have hm := perms_mem hw
  have := c_isAllowed (d := d) (o := fun p => w.getD p 0) ha (fun p hp => by have := getD_lt hm.2.2 hm.1 hp; omega) hO hM hn
  rw [seg_getD hm.1] at this
  exact this
theorem g_breaksNow {w : List Nat} (hd : 2 ≤ d) (hh : ∀ g, h g < 1024) (hw : w ∈ perms n) (hO : OrdL I n w) (hM : MSt I n h a L) (hn : n ≤ 8) : Cx LM yX6_breaksNow mX6_breaksNow d [.ref 0] I (xRi (fun r J => r = nI (brk h w) ∧ J = I)) := by
  have hm := perms_mem hw
  have := c_breaksNow (d := d) (o := fun p => w.getD p 0) hd hh (fun p hp => by have := getD_lt hm.2.2 hm.1 hp; omega) hO hM hn
  rw [seg_getD hm.1] at this
  exact this
theorem g_begin : Cx LM yX6_begin mX6_begin d [.ref 0] I (xRv (fun J => OrdL J n (List.range n) ∨ 8 < n)) := by
  refine Cx.mono (c_begin (I := I) (d := d)) ?_
  rintro v J ⟨h1, h2⟩
  refine ⟨h1, ?_⟩
  rcases Nat.lt_or_ge 8 n with e | e
  · exact Or.inr e
  · refine Or.inl (fun p hp => ?_)
    rw [h2.1 p (by omega), List.getD_eq_getElem?_getD, List.getElem?_range hp]; rfl
theorem perms_first (hn : n < 9) : ∃ v, perms n = List.range n :: v := by
  have := (perms_ch hn).2.1
  cases e : perms n with
  | nil => rw [e] at this; simp at this
  | cons x v => rw [e] at this; simp at this; exact ⟨v, by rw [this]⟩
def fewQ (I : xMem) (n : Nat) (h a : Nat → Nat) (J : xMem) : Prop := J 0 4 = nI 1 ∧ J 0 5 = oI (fewB n h a) ∧ (∀ j, j ≠ 4 → j ≠ 5 → J 0 j = I 0 j) ∧ ∀ c, c ≠ 0 → c ≠ 4 → J c = I c
theorem c_layFewest (hd : 3 ≤ d) (h1 : 1 ≤ n) (hn : n ≤ 8) (hh : ∀ g, h g < 1024) (ha : ∀ g, a g < 256) (hM : MSt I n h a L) (hf : I 0 4 = nI 0 ∨ (I 0 4 = nI 1 ∧ I 0 5 = oI (fewB n h a))) : Cx LM yX6_layFewest mX6_layFewest d [.ref 0] I (xRv (fewQ I n h a)) := by
  have key : ∀ l x, (∀ w ∈ l, w.length = n) → fwm (brk h) none l = some x → x < 2 ^ 31 := by
    intro l x hl he
    have gen : ∀ (l : List (List Nat)) (o : Option Nat), (∀ w ∈ l, w.length = n) → (∀ y, o = some y → y ≤ 80) → fwm (brk h) o l = some x → x ≤ 80 := by
      intro l
      induction l with
      | nil => intro o _ h2 e; cases o <;> simp [fwm] at e; exact h2 x (by rw [e])
      | cons w l ih =>
        intro o h1 h2 e
        have hb := brk_le h w
        rw [h1 w List.mem_cons_self] at hb
        cases o with
        | none => exact ih _ (fun v hv => h1 v (List.mem_cons_of_mem _ hv)) (fun y hy => by cases hy; omega) e
        | some m => exact ih _ (fun v hv => h1 v (List.mem_cons_of_mem _ hv)) (fun y hy => by cases hy; split; omega; exact h2 m rfl) e
    have := gen l none hl (fun y hy => by cases hy) he
    omega
  have body : ∀ (u v : List (List Nat)) (w : List Nat) (v2 : Value) (J : xMem), perms n = u ++ w :: v → OrdL J n w → J 0 4 = nI 1 → J 0 5 = oI (fwm (brk h) none (u.filter (fun w => al a 0 w))) → (∀ j, j ≠ 4 → j ≠ 5 → J 0 j = I 0 j) → (∀ c, c ≠ 0 → c ≠ 4 → J c = I c) →
      (∀ (v2 : Value) (J : xMem), OrdL J n w → J 0 4 = nI 1 → J 0 5 = oI (fwm (brk h) none ((u ++ [w]).filter (fun w => al a 0 w))) → (∀ j, j ≠ 4 → j ≠ 5 → J 0 j = I 0 j) → (∀ c, c ≠ 0 → c ≠ 4 → J c = I c) → Wx LM mX6_layFewest d (xRv (fewQ I n h a)) 68 [.ref 0, .int (nI 1), v2] [] J) →
      Wx LM mX6_layFewest d (xRv (fewQ I n h a)) 25 [.ref 0, .int (nI 1), v2] [] J := by
    intro u v w v2 J hP hO j4 j5 jo jf kk
    have hw : w ∈ perms n := by rw [hP]; simp
    have hMJ : MSt J n h a L := hM.kept (jf 1 (by decide) (by decide))
    have hb := brk_le h w
    rw [(perms_mem hw).1] at hb
    have hk := fun x => key (u.filter (fun w => al a 0 w)) x (fun z hz => (perms_mem (n := n) (by rw [hP]; exact List.mem_append_left _ (List.mem_filter.mp hz).1)).1)
    rw [List.filter_append, fwm_app] at kk
    refine x_iload_n dX6_layFewest_25 rfl ?_
    refine x_ifn_eq (a := 1) (by decide) (tgt := 76) dX6_layFewest_26 rfl (fun c => ?_) (fun c => ?_)
    ·
      exact absurd c (by decide)
    ·
      refine x_aload_n dX6_layFewest_29 rfl ?_
      refine x_callVi 5 ml_X6_94 in_X6_isAllowed se_X6_isAllowed ct_X6_isAllowed rfl (g_isAllowed (d := 0) ha hw hO hMJ hn) dX6_layFewest_30 (by omega) rfl rfl rfl rfl (Nat.le_of_ble_eq_true rfl) (fun r0 J0 h0 => ?_)
      obtain ⟨rfl, hJ0⟩ := h0
      obtain rfl := hJ0.symm
      refine x_ifb_eq (b := al a 0 w) (tgt := 68) dX6_layFewest_33 rfl (fun c2 => ?_) (fun c2 => ?_)
      ·
        exact kk _ J hO j4 (by rw [j5]; simp [c2, fwm]) jo jf
      ·
        have e1 : [w].filter (fun w => al a 0 w) = [w] := by simp [c2]
        rw [e1] at kk
        refine x_aload_n dX6_layFewest_36 rfl ?_
        refine x_callVi 5 ml_X6_98 in_X6_breaksNow se_X6_breaksNow ct_X6_breaksNow rfl (g_breaksNow (d := 2) (by decide) hh hw hO hMJ hn) dX6_layFewest_37 (by omega) rfl rfl rfl rfl (Nat.le_of_ble_eq_true rfl) (fun r0 J0 h0 => ?_)
        obtain ⟨rfl, hJ0⟩ := h0
        obtain rfl := hJ0.symm
        refine x_istore_n (ls' := [.ref 0, .int (nI 1), .int (nI (brk h w))]) dX6_layFewest_40 rfl rfl ?_
        refine x_aload_n dX6_layFewest_41 rfl ?_
        refine x_aload_n dX6_layFewest_42 rfl ?_
        refine x_getI 5 5 (v := oI (fwm (brk h) none (u.filter (fun w => al a 0 w)))) rfl (by decide) fl_X6_87 dX6_layFewest_43 rfl rfl rfl j5 ?_
        cases hF : fwm (brk h) none (u.filter (fun w => al a 0 w)) with
        | none =>
          rw [hF] at kk j5
          refine x_if_lt (tgt := 57) dX6_layFewest_46 rfl (fun c3 => ?_) (fun c3 => ?_)
          ·
            refine x_iload_n dX6_layFewest_57 rfl ?_
            refine x_goto (tgt := 65) dX6_layFewest_58 rfl ?_
            refine x_put 5 5 rfl (by decide) fl_X6_87 rfl rfl rfl rfl dX6_layFewest_65 rfl rfl rfl ?_
            generalize hK : xup J 0 5 (nI (brk h w)) = K
            refine kk _ K (fun p hp => by rw [← hK, xup_ne (by decide)]; exact hO p hp) (by rw [← hK, xup_eq, if_neg (by decide)]; exact j4) (by rw [← hK, xup_eq, if_pos rfl]; rfl) (fun j e4 e5 => by rw [← hK, xup_eq, if_neg e5]; exact jo j e4 e5) (fun c e0 e4 => by rw [← hK, xup_ne e0]; exact jf c e0 e4)
          ·
            exact absurd (by decide +kernel) c3
        | some m =>
          rw [hF] at kk j5
          have hm := hk m hF
          refine x_if_lt (tgt := 57) dX6_layFewest_46 rfl (fun c3 => ?_) (fun c3 => ?_)
          ·
            exact absurd c3 (nI_pos hm)
          ·
            refine x_iload_n dX6_layFewest_49 rfl ?_
            refine x_aload_n dX6_layFewest_50 rfl ?_
            refine x_getI 5 5 (v := nI m) rfl (by decide) fl_X6_87 dX6_layFewest_51 rfl rfl rfl j5 ?_
            refine x_icmpn_ge (a := brk h w) (b := m) (by omega) (by omega) (tgt := 61) dX6_layFewest_54 rfl (fun c4 => ?_) (fun c4 => ?_)
            ·
              refine x_aload_n dX6_layFewest_61 rfl ?_
              refine x_getI 5 5 (v := nI m) rfl (by decide) fl_X6_87 dX6_layFewest_62 rfl rfl rfl j5 ?_
              refine x_put 5 5 rfl (by decide) fl_X6_87 rfl rfl rfl rfl dX6_layFewest_65 rfl rfl rfl ?_
              generalize hK : xup J 0 5 (nI m) = K
              refine kk _ K (fun p hp => by rw [← hK, xup_ne (by decide)]; exact hO p hp) (by rw [← hK, xup_eq, if_neg (by decide)]; exact j4) (by rw [← hK, xup_eq, if_pos rfl]; simp only [fwm]; rw [if_neg (by omega)]; rfl) (fun j e4 e5 => by rw [← hK, xup_eq, if_neg e5]; exact jo j e4 e5) (fun c e0 e4 => by rw [← hK, xup_ne e0]; exact jf c e0 e4)
            ·
              refine x_iload_n dX6_layFewest_57 rfl ?_
              refine x_goto (tgt := 65) dX6_layFewest_58 rfl ?_
              refine x_put 5 5 rfl (by decide) fl_X6_87 rfl rfl rfl rfl dX6_layFewest_65 rfl rfl rfl ?_
              generalize hK : xup J 0 5 (nI (brk h w)) = K
              refine kk _ K (fun p hp => by rw [← hK, xup_ne (by decide)]; exact hO p hp) (by rw [← hK, xup_eq, if_neg (by decide)]; exact j4) (by rw [← hK, xup_eq, if_pos rfl]; simp only [fwm]; rw [if_pos c4]; rfl) (fun j e4 e5 => by rw [← hK, xup_eq, if_neg e5]; exact jo j e4 e5) (fun c e0 e4 => by rw [← hK, xup_ne e0]; exact jf c e0 e4)
  have lp : ∀ (v u : List (List Nat)) (w : List Nat) (v2 : Value) (J : xMem), perms n = u ++ w :: v → OrdL J n w → J 0 4 = nI 1 → J 0 5 = oI (fwm (brk h) none (u.filter (fun w => al a 0 w))) → (∀ j, j ≠ 4 → j ≠ 5 → J 0 j = I 0 j) → (∀ c, c ≠ 0 → c ≠ 4 → J c = I c) → Wx LM mX6_layFewest d (xRv (fewQ I n h a)) 25 [.ref 0, .int (nI 1), v2] [] J := by
    intro v
    induction v with
    | nil =>
      intro u w v2 J hP hO j4 j5 jo jf
      refine body u [] w v2 J hP hO j4 j5 jo jf ?_
      clear hO j4 j5 jo jf
      intro v2 J hO j4 j5 jo jf
      have hMJ : MSt J n h a L := hM.kept (jf 1 (by decide) (by decide))
      refine x_aload_n dX6_layFewest_68 rfl ?_
      refine x_callVi 5 ml_X6_101 in_X6_goOn se_X6_goOn ct_X6_goOn rfl (g_goOn (d := 1) (by decide) h1 hn hMJ.1 hP hO) dX6_layFewest_69 (by omega) rfl rfl rfl rfl (Nat.le_of_ble_eq_true rfl) (fun r0 J0 h0 => ?_)
      obtain ⟨_, rfl, rfl⟩ | ⟨y, v', hv, _⟩ := h0
      ·
        refine x_istore_n (ls' := [.ref 0, .int (nI 0), v2]) dX6_layFewest_72 rfl rfl ?_
        refine x_goto (tgt := 25) dX6_layFewest_73 rfl ?_
        refine x_iload_n dX6_layFewest_25 rfl ?_
        refine x_ifn_eq (a := 0) (by decide) (tgt := 76) dX6_layFewest_26 rfl (fun c3 => ?_) (fun c3 => ?_)
        ·
          refine x_vretv dX6_layFewest_76 rfl ⟨j4, by rw [j5, fewB, fea, hP], jo, jf⟩
        ·
          exact absurd rfl c3
      · cases hv
    | cons y v ih =>
      intro u w v2 J hP hO j4 j5 jo jf
      refine body u (y :: v) w v2 J hP hO j4 j5 jo jf ?_
      clear hO j4 j5 jo jf
      intro v2 J hO j4 j5 jo jf
      have hMJ : MSt J n h a L := hM.kept (jf 1 (by decide) (by decide))
      refine x_aload_n dX6_layFewest_68 rfl ?_
      refine x_callVi 5 ml_X6_101 in_X6_goOn se_X6_goOn ct_X6_goOn rfl (g_goOn (d := 1) (by decide) h1 hn hMJ.1 hP hO) dX6_layFewest_69 (by omega) rfl rfl rfl rfl (Nat.le_of_ble_eq_true rfl) (fun r0 J0 h0 => ?_)
      obtain ⟨hv, _⟩ | ⟨y', v', hv, rfl, hO', hF'⟩ := h0
      · cases hv
      ·
        refine x_istore_n (ls' := [.ref 0, .int (nI 1), v2]) dX6_layFewest_72 rfl rfl ?_
        refine x_goto (tgt := 25) dX6_layFewest_73 rfl ?_
        obtain ⟨rfl, rfl⟩ := List.cons.inj hv
        exact ih (u ++ [w]) y v2 J0 (by rw [hP]; simp) hO' (by rw [hF' 0 (by decide)]; exact j4) (by rw [hF' 0 (by decide)]; exact j5) (fun j e4 e5 => by rw [hF' 0 (by decide)]; exact jo j e4 e5) (fun c e0 e4 => by rw [hF' c e4]; exact jf c e0 e4)
  refine Cx.of [.ref 0, .null, .null] (by decide) rfl rfl (Nat.le_of_ble_eq_true rfl) rfl ?_
  rcases hf with hf | ⟨hf, hf5⟩
  ·
    refine x_aload_n dX6_layFewest_0 rfl ?_
    refine x_getI 5 4 (v := nI 0) rfl (by decide) fl_X6_54 dX6_layFewest_1 rfl rfl rfl hf ?_
    refine x_ifn_eq (a := 0) (by decide) (tgt := 8) dX6_layFewest_4 rfl (fun c => ?_) (fun c => ?_)
    ·
      refine x_aload_n dX6_layFewest_8 rfl ?_
      refine x_iconst dX6_layFewest_9 ic_1 ?_
      refine x_put 5 4 rfl (by decide) fl_X6_54 rfl rfl (narZ (Or.inr rfl)) (fitZ (Or.inr rfl)) dX6_layFewest_10 rfl rfl rfl ?_
      generalize hK : xup I 0 4 (nI 1) = K
      refine x_aload_n dX6_layFewest_13 rfl ?_
      refine x_bipush dX6_layFewest_14 bp_m6 ?_
      refine x_put 5 5 rfl (by decide) fl_X6_87 rfl rfl rfl rfl dX6_layFewest_16 rfl rfl rfl ?_
      generalize hK2 : xup K 0 5 (-6) = K2
      refine x_aload_n dX6_layFewest_19 rfl ?_
      refine x_callVv 5 ml_X6_91 in_X6_begin se_X6_begin ct_X6_begin rfl (c_begin (d := 0)) dX6_layFewest_20 (by omega) rfl rfl rfl rfl (Nat.le_of_ble_eq_true rfl) (fun J0 h0 => ?_)
      obtain ⟨hJ1, hJ2⟩ := h0
      refine x_iconst dX6_layFewest_23 ic_1 ?_
      refine x_istore_n (ls' := [.ref 0, .int (nI 1), .null]) dX6_layFewest_24 rfl rfl ?_
      obtain ⟨v, hv⟩ := perms_first (n := n) (by omega)
      refine lp v [] (List.range n) _ J0 (by rw [hv]; rfl) (fun p hp => ?_) ?_ ?_ (fun j e4 e5 => ?_) (fun c e0 e4 => ?_)
      · rw [hJ1 p (by omega), List.getD_eq_getElem?_getD, List.getElem?_range hp]; rfl
      · rw [hJ2 0 (by decide), ← hK2, xup_eq, if_neg (by decide), ← hK, xup_eq, if_pos rfl]
      · rw [hJ2 0 (by decide), ← hK2, xup_eq, if_pos rfl]; rfl
      · rw [hJ2 0 (by decide), ← hK2, xup_eq, if_neg e5, ← hK, xup_eq, if_neg e4]
      · rw [hJ2 c e4, ← hK2, xup_ne e0, ← hK, xup_ne e0]
    ·
      exact absurd rfl c
  ·
    refine x_aload_n dX6_layFewest_0 rfl ?_
    refine x_getI 5 4 (v := nI 1) rfl (by decide) fl_X6_54 dX6_layFewest_1 rfl rfl rfl hf ?_
    refine x_ifn_eq (a := 1) (by decide) (tgt := 8) dX6_layFewest_4 rfl (fun c => ?_) (fun c => ?_)
    ·
      exact absurd c (by decide)
    ·
      refine x_vretv dX6_layFewest_7 rfl ⟨hf, hf5, fun _ _ _ => rfl, fun _ _ _ => rfl⟩
theorem c_isBest {w : List Nat} (hd : 3 ≤ d) (hn : n ≤ 8) (hh : ∀ g, h g < 1024) (ha : ∀ g, a g < 256) (hlt : ∀ m, fewB n h a = some m → m < 2 ^ 31) (hM : MSt I n h a L) (hf : I 0 5 = oI (fewB n h a)) (hA : Cx LM yX6_isAllowed mX6_isAllowed 2 [.ref 0] I (xRi (fun r J => r = nI (al a 0 w).toNat ∧ J = I))) (hB : Cx LM yX6_breaksNow mX6_breaksNow 2 [.ref 0] I (xRi (fun r J => r = nI (brk h w) ∧ J = I))) (hw : w.length ≤ 8) : Cx LM yX6_isBest mX6_isBest d [.ref 0] I (xRi (fun r J => r = nI (isB n h a w).toNat ∧ J = I)) := by
  have hb := brk_le h w
  refine Cx.of [.ref 0] (by decide) rfl rfl (Nat.le_of_ble_eq_true rfl) rfl ?_
  refine x_aload_n dX6_isBest_0 rfl ?_
  refine x_getI 5 5 (v := oI (fewB n h a)) rfl (by decide) fl_X6_87 dX6_isBest_1 rfl rfl rfl hf ?_
  cases hF : fewB n h a with
  | none =>
    refine x_if_lt (tgt := 29) dX6_isBest_4 rfl (fun c => ?_) (fun c => ?_)
    ·
      refine x_iconst dX6_isBest_29 ic_0 ?_
      refine x_zretb (b := false) dX6_isBest_30 rfl ⟨by simp [isB, hF], rfl⟩
    ·
      exact absurd (by decide +kernel) c
  | some m =>
    rw [hF] at hf
    have hm := hlt m hF
    refine x_if_lt (tgt := 29) dX6_isBest_4 rfl (fun c => ?_) (fun c => ?_)
    ·
      exact absurd c (nI_pos hm)
    ·
      refine x_aload_n dX6_isBest_7 rfl ?_
      refine x_callVi 5 ml_X6_94 in_X6_isAllowed se_X6_isAllowed ct_X6_isAllowed rfl hA dX6_isBest_8 hd rfl rfl rfl rfl (Nat.le_of_ble_eq_true rfl) (fun r0 J0 h0 => ?_)
      obtain ⟨rfl, hJ0⟩ := h0
      obtain rfl := hJ0.symm
      refine x_ifb_eq (b := al a 0 w) (tgt := 29) dX6_isBest_11 rfl (fun c2 => ?_) (fun c2 => ?_)
      ·
        refine x_iconst dX6_isBest_29 ic_0 ?_
        refine x_zretb (b := false) dX6_isBest_30 rfl ⟨by simp [isB, c2], rfl⟩
      ·
        refine x_aload_n dX6_isBest_14 rfl ?_
        refine x_callVi 5 ml_X6_98 in_X6_breaksNow se_X6_breaksNow ct_X6_breaksNow rfl hB dX6_isBest_15 hd rfl rfl rfl rfl (Nat.le_of_ble_eq_true rfl) (fun r0 J0 h0 => ?_)
        obtain ⟨rfl, hJ0⟩ := h0
        obtain rfl := hJ0.symm
        refine x_aload_n dX6_isBest_18 rfl ?_
        refine x_getI 5 5 (v := nI m) rfl (by decide) fl_X6_87 dX6_isBest_19 rfl rfl rfl hf ?_
        refine x_icmpn_ne (a := brk h w) (b := m) (by omega) (by omega) (tgt := 29) dX6_isBest_22 rfl (fun c3 => ?_) (fun c3 => ?_)
        ·
          refine x_iconst dX6_isBest_29 ic_0 ?_
          refine x_zretb (b := false) dX6_isBest_30 rfl ⟨by have e : isB n h a w = false := (by simp [isB, hF, c2]; omega); rw [e], rfl⟩
        ·
          refine x_iconst dX6_isBest_25 ic_1 ?_
          refine x_goto (tgt := 30) dX6_isBest_26 rfl ?_
          refine x_zretb (b := true) dX6_isBest_30 rfl ⟨by simp [isB, hF, c2, c3], rfl⟩
end MG
end
section
/-! the reference: all best orders are looked at -/
def sumF (f : Nat → Nat) (p k : Nat) : Nat := ((List.range' p k).map f).sum
theorem sumF_0 (f : Nat → Nat) (p : Nat) : sumF f p 0 = 0 := rfl
theorem sumF_s (f : Nat → Nat) (p k : Nat) : sumF f p (k + 1) = f p + sumF f (p + 1) k := by simp [sumF, List.range'_succ]
theorem sumF_le {f : Nat → Nat} {B : Nat} (hf : ∀ x, f x ≤ B) : ∀ (k p : Nat), sumF f p k ≤ k * B
  | 0, p => Nat.zero_le _
  | k + 1, p => by rw [sumF_s, Nat.succ_mul]; have := sumF_le hf k (p + 1); have := hf p; omega
/-- steps from the row to an order: pairs that lie the other way about -/
def stI (q : Nat → Nat) (n : Nat) (L : Nat → Nat) (x : Nat) : Nat := sumF (fun y => (decide (q (L y) < q (L x))).toNat) (x + 1) (n - 1 - x)
def stQ (q : Nat → Nat) (n : Nat) (L : Nat → Nat) : Nat := sumF (stI q n L) 0 n
def stp (n : Nat) (L : Nat → Nat) (w : List Nat) : Nat := stQ (fun g => w.idxOf g) n L
theorem stQ_le (q : Nat → Nat) (n : Nat) (L : Nat → Nat) : stQ q n L ≤ n * n := by
  refine sumF_le (fun x => ?_) n 0
  have := sumF_le (f := fun y => (decide (q (L y) < q (L x))).toNat) (B := 1) (fun y => Bool.toNat_le _) (n - 1 - x) (x + 1)
  unfold stI; omega
/-- the first of the nearest -/
def nrs (st : List Nat → Nat) : Option (List Nat) → List (List Nat) → Option (List Nat)
  | o, [] => o
  | none, w :: l => nrs st (some w) l
  | some v, w :: l => nrs st (some (if st w < st v then w else v)) l
theorem nrs_app (st : List Nat → Nat) : ∀ (l m : List (List Nat)) (o : Option (List Nat)), nrs st o (l ++ m) = nrs st (nrs st o l) m
  | [], _, o => by cases o <;> rfl
  | w :: l, m, none => by simp only [List.cons_append, nrs]; exact nrs_app st l m _
  | w :: l, m, some x => by simp only [List.cons_append, nrs]; exact nrs_app st l m _
theorem ext_full {n : Nat} : ∀ {k S : Nat} {w : List Nat}, w ∈ ext n k S → (ascL n S).length = k → ∀ g, g < n → S.testBit g = false → g ∈ w
  | 0, S, w, _, hk, g, h1, h2 => by
    have : g ∈ ascL n S := ascL_mem.mpr ⟨h1, h2⟩
    rw [List.length_eq_zero_iff.mp hk] at this; simp at this
  | k + 1, S, w, h, hk, g, h1, h2 => by
    rw [ext_s] at h
    obtain ⟨g0, hg, hw⟩ := List.mem_flatMap.mp h
    obtain ⟨v, hv, rfl⟩ := List.mem_map.mp hw
    by_cases e : g = g0
    · subst e; exact List.mem_cons_self
    · exact List.mem_cons_of_mem _ (ext_full hv (by have := ascL_len hg; omega) g h1 (by rw [bit_or1, h2]; simp [e]))
theorem perms_full {n : Nat} {w : List Nat} (h : w ∈ perms n) {g : Nat} (hg : g < n) : g ∈ w := ext_full h (by rw [ascL_0, List.length_range]) g hg (by simp)
/-- places and graves of an order -/
theorem perms_pos {n : Nat} {w : List Nat} (h : w ∈ perms n) : (∀ g, g < n → w.idxOf g < n ∧ w.getD (w.idxOf g) 0 = g) ∧ ∀ p, p < n → w.getD p 0 < n ∧ w.idxOf (w.getD p 0) = p := by
  obtain ⟨h1, h2, h3⟩ := perms_mem h
  have A : ∀ g, g < n → w.idxOf g < n ∧ w.getD (w.idxOf g) 0 = g := fun g hg => by
    have hm := List.idxOf_lt_length_of_mem (perms_full h hg)
    refine ⟨by omega, ?_⟩
    rw [List.getD_eq_getElem?_getD, List.getElem?_eq_getElem hm]; simp
  refine ⟨A, fun p hp => ?_⟩
  have hb := getD_lt h3 h1 hp
  refine ⟨hb, ?_⟩
  obtain ⟨a1, a2⟩ := A _ hb
  by_cases e : w.idxOf (w.getD p 0) = p
  · exact e
  · exact absurd a2 (getD_ne h2 h1 a1 hp e)
section MG
variable {I : xMem} {n d : Nat} {h a L : Nat → Nat}
def stepsQ (I : xMem) (n : Nat) (w : List Nat) (st : List Nat → Nat) (o : Option (List Nat)) (J : xMem) : Prop := J 0 15 = oI ((nrs st o [w]).map st) ∧ (∀ v, nrs st o [w] = some v → ∀ p, p < n → J 12 p = nI (v.getD p 0)) ∧ (∀ j, j ≠ 15 → J 0 j = I 0 j) ∧ ∀ c, c ≠ 0 → c ≠ 12 → J c = I c
theorem c_lookAtSteps {w : List Nat} {o : Option (List Nat)} (hd : 1 ≤ d) (hn : n ≤ 8) (hM : MSt I n h a L) (hL : ∀ p, p < n → L p < n) (hw : w ∈ perms n) (hO : OrdL I n w) (ho : I 0 15 = oI (o.map (stp n L))) (hv : ∀ v, o = some v → ∀ p, p < n → I 12 p = nI (v.getD p 0)) : Cx LM yX6_lookAtSteps mX6_lookAtSteps d [.ref 0] I (xRv (stepsQ I n w (stp n L) o)) := by
  obtain ⟨hpos, hord⟩ := perms_pos hw
  have hpl : ∀ x, x < n → Cx LM yX6_placeOf mX6_placeOf 0 [.ref 0, .int (nI x)] I (xRi (fun r J => r = nI (w.idxOf x) ∧ J = I)) := fun x hx => by
    obtain ⟨p1, p2⟩ := hpos x hx
    exact c_placeOf (o := fun p => w.getD p 0) hn p1 (by omega) (fun p hp => by have := (hord p hp).1; omega) hO p2 (fun p hp e => by have := (hord p (by omega)).2; rw [e] at this; omega)
  have hst := stQ_le (fun g => w.idxOf g) n L
  have hsq : n * n ≤ 64 := Nat.mul_le_mul hn hn
  have fin : ∀ (v2 v3 : Value), Wx LM mX6_lookAtSteps d (xRv (stepsQ I n w (stp n L) o)) 77 [.ref 0, .int (nI (stp n L w)), v2, v3] [] I := by
    intro v2 v3
    have hs : stp n L w < 2 ^ 31 := by have e : stp n L w = stQ (fun g => w.idxOf g) n L := rfl; omega
    refine x_aload_n dX6_lookAtSteps_77 rfl ?_
    refine x_getI 5 15 (v := oI (o.map (stp n L))) rfl (by decide) fl_X6_123 dX6_lookAtSteps_78 rfl rfl rfl ho ?_
    have kp : ∀ (o' : Option (List Nat)), nrs (stp n L) o [w] = some w → Wx LM mX6_lookAtSteps d (xRv (stepsQ I n w (stp n L) o)) 92 [.ref 0, .int (nI (stp n L w)), v2, v3] [] I := by
      intro o' hnr
      refine x_aload_n dX6_lookAtSteps_92 rfl ?_
      refine x_iload_n dX6_lookAtSteps_93 rfl ?_
      refine x_put 5 15 rfl (by decide) fl_X6_123 rfl rfl rfl rfl dX6_lookAtSteps_94 rfl rfl rfl ?_
      generalize hK : xup I 0 15 (nI (stp n L w)) = K
      refine x_aload_n dX6_lookAtSteps_97 rfl ?_
      refine x_aload_n dX6_lookAtSteps_98 rfl ?_
      refine x_getR 5 16 rfl (by decide) fl_X6_44 dX6_lookAtSteps_99 rfl rfl rfl ?_
      refine x_callVv 5 ml_X6_116 in_X6_keep se_X6_keep ct_X6_keep rfl (c_keep_12 (d := 0)) dX6_lookAtSteps_102 hd rfl rfl rfl rfl (Nat.le_of_ble_eq_true rfl) (fun J0 h0 => ?_)
      obtain ⟨hJ1, hJ2⟩ := h0
      refine x_vretv dX6_lookAtSteps_105 rfl ⟨?_, fun v e p hp => ?_, fun j hj => ?_, fun c e0 e12 => ?_⟩
      · rw [hJ2 0 (by decide), ← hK, xup_eq, if_pos rfl, hnr]; rfl
      · rw [hnr] at e; cases e
        rw [hJ1 p (by omega), ← hK, xup_ne (by decide)]; exact hO p hp
      · rw [hJ2 0 (by decide), ← hK, xup_eq, if_neg hj]
      · rw [hJ2 c e12, ← hK, xup_ne e0]
    cases hF : o with
    | none =>
      refine x_if_lt (tgt := 92) dX6_lookAtSteps_81 rfl (fun c => ?_) (fun c => ?_)
      ·
        exact hF ▸ kp none (by rw [hF]; rfl)
      ·
        exact absurd (show oI none < 0 by decide +kernel) c
    | some v =>
      have hs2 : stp n L v < 2 ^ 31 := by have := stQ_le (fun g => v.idxOf g) n L; have e : stp n L v = stQ (fun g => v.idxOf g) n L := rfl; omega
      refine x_if_lt (tgt := 92) dX6_lookAtSteps_81 rfl (fun c => ?_) (fun c => ?_)
      ·
        exact absurd c (nI_pos hs2)
      ·
        refine x_iload_n dX6_lookAtSteps_84 rfl ?_
        refine x_aload_n dX6_lookAtSteps_85 rfl ?_
        refine x_getI 5 15 (v := nI (stp n L v)) rfl (by decide) fl_X6_123 dX6_lookAtSteps_86 rfl rfl rfl (by rw [ho, hF]; rfl) ?_
        refine x_icmpn_ge (a := stp n L w) (b := stp n L v) (by omega) (by omega) (tgt := 105) dX6_lookAtSteps_89 rfl (fun c2 => ?_) (fun c2 => ?_)
        ·
          have e : nrs (stp n L) (some v) [w] = some v := by simp only [nrs]; rw [if_neg (by omega)]
          refine x_vretv dX6_lookAtSteps_105 rfl ⟨by rw [e, ho, hF], fun v' e' p hp => by rw [e] at e'; exact hv v' (by rw [hF]; exact e') p hp, fun _ _ => rfl, fun _ _ _ => rfl⟩
        ·
          have e : nrs (stp n L) (some v) [w] = some w := by simp only [nrs]; rw [if_pos c2]
          exact hF ▸ kp none (by rw [hF]; exact e)
  have inn : ∀ (k x y acc : Nat), y + k = n → x < n → x < y → acc + sumF (fun y => (decide (w.idxOf (L y) < w.idxOf (L x))).toNat) y k + sumF (stI (fun g => w.idxOf g) n L) (x + 1) (n - 1 - x) = stp n L w → (∀ acc v3, acc + sumF (stI (fun g => w.idxOf g) n L) (x + 1) (n - 1 - x) = stp n L w → Wx LM mX6_lookAtSteps d (xRv (stepsQ I n w (stp n L) o)) 4 [.ref 0, .int (nI acc), .int (nI (x + 1)), v3] [] I) → Wx LM mX6_lookAtSteps d (xRv (stepsQ I n w (stp n L) o)) 18 [.ref 0, .int (nI acc), .int (nI x), .int (nI y)] [] I := by
    intro k
    induction k with
    | zero =>
      intro x y acc hy hx hxy hac kk
      rw [sumF_0] at hac
      refine x_iload_n dX6_lookAtSteps_18 rfl ?_
      refine x_aload_n dX6_lookAtSteps_19 rfl ?_
      refine x_getR 5 0 rfl (by decide) fl_X6_7 dX6_lookAtSteps_20 rfl rfl rfl ?_
      refine x_iconst dX6_lookAtSteps_23 ic_0 ?_
      refine x_iald (p := 0) (v := nI n) dX6_lookAtSteps_24 rfl rfl rfl rfl (by omega) hM.1 ?_
      refine x_icmpn_ge (a := y) (b := n) (by omega) (by omega) (tgt := 71) dX6_lookAtSteps_25 rfl (fun c => ?_) (fun c => ?_)
      ·
        refine x_iinc (v := nI (x + 1)) (ls' := [.ref 0, .int (nI acc), .int (nI (x + 1)), .int (nI y)]) dX6_lookAtSteps_71 rfl (inc_1 _) rfl rfl ?_
        refine x_goto (tgt := 4) dX6_lookAtSteps_74 rfl ?_
        exact kk acc _ (by omega)
      ·
        omega
    | succ k ih =>
      intro x y acc hy hx hxy hac kk
      rw [sumF_s] at hac
      have b1 := hL x hx
      have b2 := hL y (by omega)
      have p1 := (hpos _ b1).1
      have p2 := (hpos _ b2).1
      refine x_iload_n dX6_lookAtSteps_18 rfl ?_
      refine x_aload_n dX6_lookAtSteps_19 rfl ?_
      refine x_getR 5 0 rfl (by decide) fl_X6_7 dX6_lookAtSteps_20 rfl rfl rfl ?_
      refine x_iconst dX6_lookAtSteps_23 ic_0 ?_
      refine x_iald (p := 0) (v := nI n) dX6_lookAtSteps_24 rfl rfl rfl rfl (by omega) hM.1 ?_
      refine x_icmpn_ge (a := y) (b := n) (by omega) (by omega) (tgt := 71) dX6_lookAtSteps_25 rfl (fun c => ?_) (fun c => ?_)
      ·
        omega
      ·
        refine x_iload_n dX6_lookAtSteps_28 rfl ?_
        refine x_aload_n dX6_lookAtSteps_29 rfl ?_
        refine x_aload_n dX6_lookAtSteps_30 rfl ?_
        refine x_getR 5 0 rfl (by decide) fl_X6_7 dX6_lookAtSteps_31 rfl rfl rfl ?_
        refine x_bipush dX6_lookAtSteps_34 bp_17 ?_
        refine x_iload_n dX6_lookAtSteps_36 rfl ?_
        refine x_iadd (v := nI (17 + x)) dX6_lookAtSteps_37 (nI_add _ _) ?_
        refine x_iald (p := 17 + x) (v := nI (L x)) dX6_lookAtSteps_38 rfl rfl rfl rfl (by omega) (hM.2.2.2 x (by omega)) ?_
        refine x_callVi 5 ml_X6_120 in_X6_placeOf se_X6_placeOf ct_X6_placeOf rfl (hpl _ b1) dX6_lookAtSteps_39 hd rfl rfl rfl rfl (Nat.le_of_ble_eq_true rfl) (fun r0 J0 h0 => ?_)
        obtain ⟨rfl, hJ0⟩ := h0
        obtain rfl := hJ0.symm
        refine x_aload_n dX6_lookAtSteps_42 rfl ?_
        refine x_aload_n dX6_lookAtSteps_43 rfl ?_
        refine x_getR 5 0 rfl (by decide) fl_X6_7 dX6_lookAtSteps_44 rfl rfl rfl ?_
        refine x_bipush dX6_lookAtSteps_47 bp_17 ?_
        refine x_iload_n dX6_lookAtSteps_49 rfl ?_
        refine x_iadd (v := nI (17 + y)) dX6_lookAtSteps_50 (nI_add _ _) ?_
        refine x_iald (p := 17 + y) (v := nI (L y)) dX6_lookAtSteps_51 rfl rfl rfl rfl (by omega) (hM.2.2.2 y (by omega)) ?_
        refine x_callVi 5 ml_X6_120 in_X6_placeOf se_X6_placeOf ct_X6_placeOf rfl (hpl _ b2) dX6_lookAtSteps_52 hd rfl rfl rfl rfl (Nat.le_of_ble_eq_true rfl) (fun r0 J0 h0 => ?_)
        obtain ⟨rfl, hJ0⟩ := h0
        obtain rfl := hJ0.symm
        refine x_icmpn_le (a := w.idxOf (L x)) (b := w.idxOf (L y)) (by omega) (by omega) (tgt := 62) dX6_lookAtSteps_55 rfl (fun c2 => ?_) (fun c2 => ?_)
        ·
          refine x_iconst dX6_lookAtSteps_62 ic_0 ?_
          refine x_iadd (v := nI (acc + 0)) dX6_lookAtSteps_63 (nI_add _ _) ?_
          refine x_istore_n (ls' := [.ref 0, .int (nI (acc + 0)), .int (nI x), .int (nI y)]) dX6_lookAtSteps_64 rfl rfl ?_
          refine x_iinc (v := nI (y + 1)) (ls' := [.ref 0, .int (nI (acc + 0)), .int (nI x), .int (nI (y + 1))]) dX6_lookAtSteps_65 rfl (inc_1 _) rfl rfl ?_
          refine x_goto (tgt := 18) dX6_lookAtSteps_68 rfl ?_
          rw [decide_eq_false (by omega)] at hac
          exact ih x (y + 1) _ (by omega) hx (by omega) (by simp at hac ⊢; omega) kk
        ·
          refine x_iconst dX6_lookAtSteps_58 ic_1 ?_
          refine x_goto (tgt := 63) dX6_lookAtSteps_59 rfl ?_
          refine x_iadd (v := nI (acc + 1)) dX6_lookAtSteps_63 (nI_add _ _) ?_
          refine x_istore_n (ls' := [.ref 0, .int (nI (acc + 1)), .int (nI x), .int (nI y)]) dX6_lookAtSteps_64 rfl rfl ?_
          refine x_iinc (v := nI (y + 1)) (ls' := [.ref 0, .int (nI (acc + 1)), .int (nI x), .int (nI (y + 1))]) dX6_lookAtSteps_65 rfl (inc_1 _) rfl rfl ?_
          refine x_goto (tgt := 18) dX6_lookAtSteps_68 rfl ?_
          rw [decide_eq_true c2] at hac
          exact ih x (y + 1) _ (by omega) hx (by omega) (by simp at hac ⊢; omega) kk
  have out : ∀ (k x acc : Nat) (v3 : Value), x + k = n → acc + sumF (stI (fun g => w.idxOf g) n L) x k = stp n L w → Wx LM mX6_lookAtSteps d (xRv (stepsQ I n w (stp n L) o)) 4 [.ref 0, .int (nI acc), .int (nI x), v3] [] I := by
    intro k
    induction k with
    | zero =>
      intro x acc v3 hx hac
      rw [sumF_0] at hac
      refine x_iload_n dX6_lookAtSteps_4 rfl ?_
      refine x_aload_n dX6_lookAtSteps_5 rfl ?_
      refine x_getR 5 0 rfl (by decide) fl_X6_7 dX6_lookAtSteps_6 rfl rfl rfl ?_
      refine x_iconst dX6_lookAtSteps_9 ic_0 ?_
      refine x_iald (p := 0) (v := nI n) dX6_lookAtSteps_10 rfl rfl rfl rfl (by omega) hM.1 ?_
      refine x_icmpn_ge (a := x) (b := n) (by omega) (by omega) (tgt := 77) dX6_lookAtSteps_11 rfl (fun c => ?_) (fun c => ?_)
      ·
        have e : acc = stp n L w := by omega
        subst e
        exact fin _ _
      ·
        omega
    | succ k ih =>
      intro x acc v3 hx hac
      rw [sumF_s] at hac
      refine x_iload_n dX6_lookAtSteps_4 rfl ?_
      refine x_aload_n dX6_lookAtSteps_5 rfl ?_
      refine x_getR 5 0 rfl (by decide) fl_X6_7 dX6_lookAtSteps_6 rfl rfl rfl ?_
      refine x_iconst dX6_lookAtSteps_9 ic_0 ?_
      refine x_iald (p := 0) (v := nI n) dX6_lookAtSteps_10 rfl rfl rfl rfl (by omega) hM.1 ?_
      refine x_icmpn_ge (a := x) (b := n) (by omega) (by omega) (tgt := 77) dX6_lookAtSteps_11 rfl (fun c => ?_) (fun c => ?_)
      ·
        omega
      ·
        refine x_iload_n dX6_lookAtSteps_14 rfl ?_
        refine x_iconst dX6_lookAtSteps_15 ic_1 ?_
        refine x_iadd (v := nI (x + 1)) dX6_lookAtSteps_16 (nI_add _ _) ?_
        refine x_istore_n (ls' := [.ref 0, .int (nI acc), .int (nI x), .int (nI (x + 1))]) dX6_lookAtSteps_17 rfl rfl ?_
        have ek : k = n - 1 - x := by omega
        subst ek
        exact inn (n - 1 - x) x (x + 1) acc (by omega) (by omega) (by omega) (by simp only [stI] at hac ⊢; omega) (fun acc v3 h => ih (x + 1) acc v3 (by omega) h)
  refine Cx.of [.ref 0, .null, .null, .null] (by decide) rfl rfl (Nat.le_of_ble_eq_true rfl) rfl ?_
  refine x_iconst dX6_lookAtSteps_0 ic_0 ?_
  refine x_istore_n (ls' := [.ref 0, .int (nI 0), .null, .null]) dX6_lookAtSteps_1 rfl rfl ?_
  refine x_iconst dX6_lookAtSteps_2 ic_0 ?_
  refine x_istore_n (ls' := [.ref 0, .int (nI 0), .int (nI 0), .null]) dX6_lookAtSteps_3 rfl rfl ?_
  exact out n 0 0 _ (by omega) (by rw [Nat.zero_add]; rfl)
/-- the graves beside place k -/
def nbo (n : Nat) (o : Nat → Nat) (k : Nat) : Nat := (if 0 < k then 1 <<< o (k - 1) else 0) ||| (if k + 1 < n then 1 <<< o (k + 1) else 0)
def p7 (pos : Nat → Nat) (k j g x : Nat) : Bool := decide ((pos g < k ∧ pos g < pos x) ∨ (pos g = k ∧ k < pos x ∧ pos x < j))
/-- the first loop of look, as far as place k: what was, and what came -/
def lkI (n : Nat) (o pos : Nat → Nat) (c6 c7 : Nat → Nat → Nat) (b8 b8' b9 : Nat → Nat) (I : xMem) (k j : Nat) (q : Bool) (J : xMem) : Prop :=
  (∀ g x, g < n → x < 8 → J 6 (8 * g + x) = nI (c6 g x + (decide ((x < k ∨ (q = true ∧ x = k)) ∧ pos g = x)).toNat)) ∧
  (∀ g x, g < n → x < n → J 7 (8 * g + x) = nI (c7 g x + (p7 pos k j g x).toNat)) ∧
  (∀ g, g < n → J 8 g = nI (if pos g < k ∨ (q = true ∧ pos g = k) then b8' g else b8 g)) ∧
  (∀ g, g < n → J 9 g = nI (if pos g < k ∨ (q = true ∧ pos g = k) then b9 g ||| nbo n o (pos g) else b9 g)) ∧
  ∀ c, c ≠ 6 → c ≠ 7 → c ≠ 8 → c ≠ 9 → J c = I c
theorem b2n (p q : Prop) [Decidable p] [Decidable q] (h : p ↔ q) : (decide p).toNat = (decide q).toNat := by rw [decide_eq_decide.mpr h]
theorem look_a {Q : Option Value → xMem → Prop} {o pos : Nat → Nat} {c6 c7 : Nat → Nat → Nat} {b8 b8' b9 : Nat → Nat} {m : Nat} (hn : n ≤ 8) (h0 : I 1 0 = nI n) (ho : ∀ p, p < n → o p < n ∧ pos (o p) = p) (hp : ∀ g, g < n → pos g < n ∧ o (pos g) = g) (hO : ∀ p, p < n → I 4 p = nI (o p)) (hm : I 0 6 = nI m) (hm2 : m < 2 ^ 31) (hb8 : ∀ g, g < n → b8' g = if m = 0 then nbo n o (pos g) else b8 g &&& nbo n o (pos g))
    (K : ∀ (v3 v4 v5 : Value) (J : xMem), lkI n o pos c6 c7 b8 b8' b9 I n 0 false J → Wx LM mX6_look d Q 160 [.ref 0, .int (nI n), .int (nI n), v3, v4, v5] [] J) :
    ∀ (t k : Nat) (v3 v4 v5 : Value) (J : xMem), k + t = n → lkI n o pos c6 c7 b8 b8' b9 I k 0 false J → Wx LM mX6_look d Q 9 [.ref 0, .int (nI n), .int (nI k), v3, v4, v5] [] J := by
  have inn : ∀ (t j k : Nat) (v4 : Value) (J : xMem), j + t = n → k < n → k < j → lkI n o pos c6 c7 b8 b8' b9 I k j true J → (∀ (v3 v4 v5 : Value) (J : xMem), lkI n o pos c6 c7 b8 b8' b9 I (k + 1) 0 false J → Wx LM mX6_look d Q 9 [.ref 0, .int (nI n), .int (nI (k + 1)), v3, v4, v5] [] J) → Wx LM mX6_look d Q 121 [.ref 0, .int (nI n), .int (nI k), .int (nI (o k)), v4, .int (nI j)] [] J := by
    intro t
    induction t with
    | zero =>
      intro j k v4 J hj hk hkj hJ kk
      refine x_iload dX6_look_121 rfl ?_
      refine x_iload_n dX6_look_123 rfl ?_
      refine x_icmpn_ge (a := j) (b := n) (by omega) (by omega) (tgt := 154) dX6_look_124 rfl (fun c => ?_) (fun c => ?_)
      ·
        refine x_iinc (v := nI (k + 1)) (ls' := [.ref 0, .int (nI n), .int (nI (k + 1)), .int (nI (o k)), v4, .int (nI j)]) dX6_look_154 rfl (inc_1 _) rfl rfl ?_
        refine x_goto (tgt := 9) dX6_look_157 rfl ?_
        refine kk _ _ _ J ⟨fun g x hg hx => ?_, fun g x hg hx => ?_, fun g hg => ?_, fun g hg => ?_, hJ.2.2.2.2⟩
        · rw [hJ.1 g x hg hx]; congr 2; exact b2n _ _ (by simp; omega)
        · rw [hJ.2.1 g x hg hx]; congr 2; simp only [p7]; exact b2n _ _ (by have := hp x hx; omega)
        · rw [hJ.2.2.1 g hg]; congr 1
          by_cases e : pos g < k + 1
          · rw [if_pos (by simp; omega), if_pos (by simp; omega)]
          · rw [if_neg (by simp; omega), if_neg (by simp; omega)]
        · rw [hJ.2.2.2.1 g hg]; congr 1
          by_cases e : pos g < k + 1
          · rw [if_pos (by simp; omega), if_pos (by simp; omega)]
          · rw [if_neg (by simp; omega), if_neg (by simp; omega)]
      ·
        omega
    | succ t ih =>
      intro j k v4 J hj hk hkj hJ kk
      have ok := ho k hk
      have oj := ho j (by omega)
      have J4 : J 4 j = nI (o j) := by rw [hJ.2.2.2.2 4 (by decide) (by decide) (by decide) (by decide)]; exact hO j (by omega)
      refine x_iload dX6_look_121 rfl ?_
      refine x_iload_n dX6_look_123 rfl ?_
      refine x_icmpn_ge (a := j) (b := n) (by omega) (by omega) (tgt := 154) dX6_look_124 rfl (fun c => ?_) (fun c => ?_)
      ·
        omega
      ·
        refine x_aload_n dX6_look_127 rfl ?_
        refine x_getR 5 10 rfl (by decide) fl_X6_29 dX6_look_128 rfl rfl rfl ?_
        refine x_bipush dX6_look_131 bp_8 ?_
        refine x_iload_n dX6_look_133 rfl ?_
        refine x_imul (v := nI (8 * (o k))) dX6_look_134 (pk_mul _ _) ?_
        refine x_aload_n dX6_look_135 rfl ?_
        refine x_getR 5 3 rfl (by decide) fl_X6_20 dX6_look_136 rfl rfl rfl ?_
        refine x_iload dX6_look_139 rfl ?_
        refine x_iald (p := j) (v := nI (o j)) dX6_look_141 rfl rfl rfl rfl (by omega) J4 ?_
        refine x_iadd (v := nI ((8 * (o k)) + (o j))) dX6_look_142 (nI_add _ _) ?_
        refine x_dup2 dX6_look_143 rfl rfl ?_
        refine x_iald (p := (8 * (o k)) + (o j)) (v := nI (c7 (o k) (o j) + (p7 pos k j (o k) (o j)).toNat)) dX6_look_144 rfl rfl rfl rfl (by omega) (hJ.2.1 _ _ ok.1 oj.1) ?_
        refine x_iconst dX6_look_145 ic_1 ?_
        refine x_iadd (v := nI ((c7 (o k) (o j) + (p7 pos k j (o k) (o j)).toNat) + 1)) dX6_look_146 (nI_add _ _) ?_
        refine x_iast (p := (8 * (o k)) + (o j)) dX6_look_147 rfl rfl rfl rfl (by omega) ?_
        generalize hK1 : xup J 7 ((8 * (o k)) + (o j)) (nI ((c7 (o k) (o j) + (p7 pos k j (o k) (o j)).toNat) + 1)) = K1
        refine x_iinc (v := nI (j + 1)) (ls' := [.ref 0, .int (nI n), .int (nI k), .int (nI (o k)), v4, .int (nI (j + 1))]) dX6_look_148 rfl (inc_1 _) rfl rfl ?_
        refine x_goto (tgt := 121) dX6_look_151 rfl ?_
        refine ih (j + 1) k _ K1 (by omega) hk (by omega) ⟨fun g x hg hx => ?_, fun g x hg hx => ?_, fun g hg => ?_, fun g hg => ?_, fun c e6 e7 e8 e9 => ?_⟩ kk
        · rw [← hK1, xup_ne (by decide)]; exact hJ.1 g x hg hx
        · rw [← hK1, xup_eq]
          by_cases e : 8 * g + x = 8 * o k + o j
          · have e1 : g = o k := by omega
            have e2 : x = o j := by omega
            subst e1; subst e2
            rw [if_pos rfl]
            congr 1
            have f1 : p7 pos k j (o k) (o j) = false := decide_eq_false (by rw [ok.2, oj.2]; omega)
            have f2 : p7 pos k (j + 1) (o k) (o j) = true := decide_eq_true (by rw [ok.2, oj.2]; omega)
            rw [f1, f2]; rfl
          · rw [if_neg e, hJ.2.1 g x hg hx]
            congr 2
            simp only [p7]
            have pg := hp g hg
            have px := hp x hx
            exact b2n _ _ ⟨fun h => by omega, fun h => by
              rcases h with h | ⟨h1, h2, h3⟩
              · exact Or.inl h
              · refine Or.inr ⟨h1, h2, ?_⟩
                by_cases e3 : pos x = j
                · exfalso; apply e; rw [← pg.2, ← px.2, h1, e3]
                · omega⟩
        · rw [← hK1, xup_ne (by decide)]; exact hJ.2.2.1 g hg
        · rw [← hK1, xup_ne (by decide)]; exact hJ.2.2.2.1 g hg
        · rw [← hK1, xup_ne e7]; exact hJ.2.2.2.2 c e6 e7 e8 e9
  intro t
  induction t with
  | zero =>
    intro k v3 v4 v5 J hk hJ
    have e : k = n := by omega
    subst e
    refine x_iload_n dX6_look_9 rfl ?_
    refine x_iload_n dX6_look_10 rfl ?_
    refine x_icmpn_ge (a := k) (b := k) (by omega) (by omega) (tgt := 160) dX6_look_11 rfl (fun c => ?_) (fun c => ?_)
    ·
      exact K _ _ _ J hJ
    ·
      omega
  | succ t ih =>
    intro k v3 v4 v5 J hk hJ
    have ok := ho k (by omega)
    have fr := hJ.2.2.2.2
    have J4 : ∀ p, p < n → J 4 p = nI (o p) := fun p hp => by rw [fr 4 (by decide) (by decide) (by decide) (by decide)]; exact hO p hp
    have J6 : J 0 6 = nI m := by rw [fr 0 (by decide) (by decide) (by decide) (by decide)]; exact hm
    -- behind the set of neighbours
    have tail : ∀ (J5 : Value), Wx LM mX6_look d Q 61 [.ref 0, .int (nI n), .int (nI k), .int (nI (o k)), v4, v5] [.int (nI (nbo n o k))] J := by
      intro _
      have stx : ∀ (x : Nat), x = b8' (o k) → Wx LM mX6_look d Q 89 [.ref 0, .int (nI n), .int (nI k), .int (nI (o k)), .int (nI (nbo n o k)), v5] [.int (nI x), .int (nI (o k)), .ref 8] J := by
        intro x ex
        refine x_iast (p := o k) dX6_look_89 rfl rfl rfl rfl (by omega) ?_
        generalize hK1 : xup J 8 (o k) (nI x) = K1
        refine x_aload_n dX6_look_90 rfl ?_
        refine x_getR 5 12 rfl (by decide) fl_X6_35 dX6_look_91 rfl rfl rfl ?_
        refine x_iload_n dX6_look_94 rfl ?_
        refine x_dup2 dX6_look_95 rfl rfl ?_
        refine x_iald (p := o k) (v := nI (b9 (o k))) dX6_look_96 rfl rfl rfl rfl (by omega) (by rw [← hK1, xup_ne (by decide), hJ.2.2.2.1 _ ok.1, if_neg (by rw [ok.2]; simp)]) ?_
        refine x_iload dX6_look_97 rfl ?_
        refine x_ior (v := nI ((b9 (o k)) ||| (nbo n o k))) dX6_look_99 (nI_or _ _) ?_
        refine x_iast (p := o k) dX6_look_100 rfl rfl rfl rfl (by omega) ?_
        generalize hK2 : xup K1 9 (o k) (nI ((b9 (o k)) ||| (nbo n o k))) = K2
        refine x_aload_n dX6_look_101 rfl ?_
        refine x_getR 5 9 rfl (by decide) fl_X6_26 dX6_look_102 rfl rfl rfl ?_
        refine x_bipush dX6_look_105 bp_8 ?_
        refine x_iload_n dX6_look_107 rfl ?_
        refine x_imul (v := nI (8 * (o k))) dX6_look_108 (pk_mul _ _) ?_
        refine x_iload_n dX6_look_109 rfl ?_
        refine x_iadd (v := nI ((8 * (o k)) + k)) dX6_look_110 (nI_add _ _) ?_
        refine x_dup2 dX6_look_111 rfl rfl ?_
        refine x_iald (p := (8 * (o k)) + k) (v := nI (c6 (o k) k)) dX6_look_112 rfl rfl rfl rfl (by omega) (by rw [← hK2, xup_ne (by decide), ← hK1, xup_ne (by decide), hJ.1 _ _ ok.1 (by omega), decide_eq_false (by simp)]; rfl) ?_
        refine x_iconst dX6_look_113 ic_1 ?_
        refine x_iadd (v := nI ((c6 (o k) k) + 1)) dX6_look_114 (nI_add _ _) ?_
        refine x_iast (p := (8 * (o k)) + k) dX6_look_115 rfl rfl rfl rfl (by omega) ?_
        generalize hK3 : xup K2 6 ((8 * (o k)) + k) (nI ((c6 (o k) k) + 1)) = K3
        refine x_iload_n dX6_look_116 rfl ?_
        refine x_iconst dX6_look_117 ic_1 ?_
        refine x_iadd (v := nI (k + 1)) dX6_look_118 (nI_add _ _) ?_
        refine x_istore (ls' := [.ref 0, .int (nI n), .int (nI k), .int (nI (o k)), .int (nI (nbo n o k)), .int (nI (k + 1))]) dX6_look_119 rfl rfl ?_
        refine inn (n - (k + 1)) (k + 1) k _ K3 (by omega) (by omega) (by omega) ⟨fun g x hg hx => ?_, fun g x hg hx => ?_, fun g hg => ?_, fun g hg => ?_, fun c e6 e7 e8 e9 => ?_⟩ (fun v3 v4 v5 J h => ih (k + 1) v3 v4 v5 J (by omega) h)
        · rw [← hK3, xup_eq]
          have pg := hp g hg
          by_cases e : 8 * g + x = 8 * o k + k
          · have e1 : g = o k := by omega
            have e2 : x = k := by omega
            subst e1; subst e2
            rw [if_pos rfl, decide_eq_true (by simp [ok.2])]; rfl
          · rw [if_neg e, ← hK2, xup_ne (by decide), ← hK1, xup_ne (by decide), hJ.1 g x hg hx]
            congr 2
            exact b2n _ _ ⟨fun h => by simp at h ⊢; omega, fun h => by
              simp at h ⊢
              refine ⟨?_, h.2⟩
              rcases h.1 with h1 | h1
              · exact h1
              · exfalso; apply e; rw [← pg.2, h.2, h1]⟩
        · rw [← hK3, xup_ne (by decide), ← hK2, xup_ne (by decide), ← hK1, xup_ne (by decide), hJ.2.1 g x hg hx]
          congr 2
          simp only [p7]
          exact b2n _ _ (by omega)
        · rw [← hK3, xup_ne (by decide), ← hK2, xup_ne (by decide), ← hK1, xup_eq]
          have pg := hp g hg
          by_cases e : g = o k
          · subst e; rw [if_pos rfl, if_pos (by simp [ok.2]), ex]
          · rw [if_neg e, hJ.2.2.1 g hg]
            congr 1
            have : pos g ≠ k := fun h => e (by rw [← pg.2, h])
            by_cases e2 : pos g < k
            · rw [if_pos (Or.inl e2), if_pos (Or.inl e2)]
            · rw [if_neg (by simp; omega), if_neg (by simp; omega)]
        · rw [← hK3, xup_ne (by decide), ← hK2, xup_eq]
          have pg := hp g hg
          by_cases e : g = o k
          · subst e; rw [if_pos rfl, if_pos (by simp [ok.2]), ok.2]
          · rw [if_neg e, ← hK1, xup_ne (by decide), hJ.2.2.2.1 g hg]
            congr 1
            have : pos g ≠ k := fun h => e (by rw [← pg.2, h])
            by_cases e2 : pos g < k
            · rw [if_pos (Or.inl e2), if_pos (Or.inl e2)]
            · rw [if_neg (by simp; omega), if_neg (by simp; omega)]
        · rw [← hK3, xup_ne e6, ← hK2, xup_ne e9, ← hK1, xup_ne e8]; exact fr c e6 e7 e8 e9
      refine x_istore (ls' := [.ref 0, .int (nI n), .int (nI k), .int (nI (o k)), .int (nI (nbo n o k)), v5]) dX6_look_61 rfl rfl ?_
      refine x_aload_n dX6_look_63 rfl ?_
      refine x_getR 5 11 rfl (by decide) fl_X6_32 dX6_look_64 rfl rfl rfl ?_
      refine x_iload_n dX6_look_67 rfl ?_
      refine x_aload_n dX6_look_68 rfl ?_
      refine x_getI 5 6 (v := nI m) rfl (by decide) fl_X6_107 dX6_look_69 rfl rfl rfl J6 ?_
      refine x_ifn_ne (a := m) (by omega) (tgt := 80) dX6_look_72 rfl (fun c => ?_) (fun c => ?_)
      ·
        refine x_aload_n dX6_look_80 rfl ?_
        refine x_getR 5 11 rfl (by decide) fl_X6_32 dX6_look_81 rfl rfl rfl ?_
        refine x_iload_n dX6_look_84 rfl ?_
        refine x_iald (p := o k) (v := nI (b8 (o k))) dX6_look_85 rfl rfl rfl rfl (by omega) (by rw [hJ.2.2.1 _ ok.1, if_neg (by rw [ok.2]; simp)]) ?_
        refine x_iload dX6_look_86 rfl ?_
        refine x_iand (v := nI ((b8 (o k)) &&& (nbo n o k))) dX6_look_88 (nI_and _ _) ?_
        exact stx _ (by rw [hb8 _ ok.1, if_neg c, ok.2])
      ·
        refine x_iload dX6_look_75 rfl ?_
        refine x_goto (tgt := 89) dX6_look_77 rfl ?_
        exact stx _ (by rw [hb8 _ ok.1, if_pos c, ok.2])
    refine x_iload_n dX6_look_9 rfl ?_
    refine x_iload_n dX6_look_10 rfl ?_
    refine x_icmpn_ge (a := k) (b := n) (by omega) (by omega) (tgt := 160) dX6_look_11 rfl (fun c => ?_) (fun c => ?_)
    ·
      omega
    ·
      refine x_aload_n dX6_look_14 rfl ?_
      refine x_getR 5 3 rfl (by decide) fl_X6_20 dX6_look_15 rfl rfl rfl ?_
      refine x_iload_n dX6_look_18 rfl ?_
      refine x_iald (p := k) (v := nI (o k)) dX6_look_19 rfl rfl rfl rfl (by omega) (J4 k (by omega)) ?_
      refine x_istore_n (ls' := [.ref 0, .int (nI n), .int (nI k), .int (nI (o k)), v4, v5]) dX6_look_20 rfl rfl ?_
      refine x_iload_n dX6_look_21 rfl ?_
      refine x_ifn_le (a := k) (by omega) (tgt := 38) dX6_look_22 rfl (fun c2 => ?_) (fun c2 => ?_)
      ·
        refine x_iconst dX6_look_38 ic_0 ?_
        refine x_iload_n dX6_look_39 rfl ?_
        refine x_iload_n dX6_look_40 rfl ?_
        refine x_iconst dX6_look_41 ic_1 ?_
        refine x_isub (v := nI (n - 1)) dX6_look_42 (pk_sub (by omega)) ?_
        refine x_icmpn_ge (a := k) (b := n - 1) (by omega) (by omega) (tgt := 59) dX6_look_43 rfl (fun c3 => ?_) (fun c3 => ?_)
        ·
          refine x_iconst dX6_look_59 ic_0 ?_
          refine x_ior (v := nI (0 ||| 0)) dX6_look_60 (nI_or _ _) ?_
          have e : nbo n o k = 0 ||| 0 := by rw [nbo, if_neg (by omega), if_neg (by omega)]
          rw [← e]
          exact tail v4
        ·
          refine x_iconst dX6_look_46 ic_1 ?_
          refine x_aload_n dX6_look_47 rfl ?_
          refine x_getR 5 3 rfl (by decide) fl_X6_20 dX6_look_48 rfl rfl rfl ?_
          refine x_iload_n dX6_look_51 rfl ?_
          refine x_iconst dX6_look_52 ic_1 ?_
          refine x_iadd (v := nI (k + 1)) dX6_look_53 (nI_add _ _) ?_
          refine x_iald (p := k + 1) (v := nI (o (k + 1))) dX6_look_54 rfl rfl rfl rfl (by omega) (J4 (k + 1) (by omega)) ?_
          refine x_ishl (v := nI (1 <<< (o (k + 1)))) dX6_look_55 (nI_shl _ (by have := (ho (k + 1) (by omega)).1; omega)) ?_
          refine x_goto (tgt := 60) dX6_look_56 rfl ?_
          refine x_ior (v := nI (0 ||| (1 <<< (o (k + 1))))) dX6_look_60 (nI_or _ _) ?_
          have e : nbo n o k = 0 ||| 1 <<< o (k + 1) := by rw [nbo, if_neg (by omega), if_pos (by omega)]
          rw [← e]
          exact tail v4
      ·
        refine x_iconst dX6_look_25 ic_1 ?_
        refine x_aload_n dX6_look_26 rfl ?_
        refine x_getR 5 3 rfl (by decide) fl_X6_20 dX6_look_27 rfl rfl rfl ?_
        refine x_iload_n dX6_look_30 rfl ?_
        refine x_iconst dX6_look_31 ic_1 ?_
        refine x_isub (v := nI (k - 1)) dX6_look_32 (pk_sub (by omega)) ?_
        refine x_iald (p := k - 1) (v := nI (o (k - 1))) dX6_look_33 rfl rfl rfl rfl (by omega) (J4 (k - 1) (by omega)) ?_
        refine x_ishl (v := nI (1 <<< (o (k - 1)))) dX6_look_34 (nI_shl _ (by have := (ho (k - 1) (by omega)).1; omega)) ?_
        refine x_goto (tgt := 39) dX6_look_35 rfl ?_
        refine x_iload_n dX6_look_39 rfl ?_
        refine x_iload_n dX6_look_40 rfl ?_
        refine x_iconst dX6_look_41 ic_1 ?_
        refine x_isub (v := nI (n - 1)) dX6_look_42 (pk_sub (by omega)) ?_
        refine x_icmpn_ge (a := k) (b := n - 1) (by omega) (by omega) (tgt := 59) dX6_look_43 rfl (fun c3 => ?_) (fun c3 => ?_)
        ·
          refine x_iconst dX6_look_59 ic_0 ?_
          refine x_ior (v := nI ((1 <<< (o (k - 1))) ||| 0)) dX6_look_60 (nI_or _ _) ?_
          have e : nbo n o k = 1 <<< o (k - 1) ||| 0 := by rw [nbo, if_pos c2, if_neg (by omega)]
          rw [← e]
          exact tail v4
        ·
          refine x_iconst dX6_look_46 ic_1 ?_
          refine x_aload_n dX6_look_47 rfl ?_
          refine x_getR 5 3 rfl (by decide) fl_X6_20 dX6_look_48 rfl rfl rfl ?_
          refine x_iload_n dX6_look_51 rfl ?_
          refine x_iconst dX6_look_52 ic_1 ?_
          refine x_iadd (v := nI (k + 1)) dX6_look_53 (nI_add _ _) ?_
          refine x_iald (p := k + 1) (v := nI (o (k + 1))) dX6_look_54 rfl rfl rfl rfl (by omega) (J4 (k + 1) (by omega)) ?_
          refine x_ishl (v := nI (1 <<< (o (k + 1)))) dX6_look_55 (nI_shl _ (by have := (ho (k + 1) (by omega)).1; omega)) ?_
          refine x_goto (tgt := 60) dX6_look_56 rfl ?_
          refine x_ior (v := nI ((1 <<< (o (k - 1))) ||| (1 <<< (o (k + 1))))) dX6_look_60 (nI_or _ _) ?_
          have e : nbo n o k = 1 <<< o (k - 1) ||| 1 <<< o (k + 1) := by rw [nbo, if_pos c2, if_pos (by omega)]
          rw [← e]
          exact tail v4
end MG
end
section
/-! the reference: what is known of a list of best orders -/
def cAt (V : List (List Nat)) (g x : Nat) : Nat := V.countP (fun w => decide (w.idxOf g = x))
def cBf (V : List (List Nat)) (g x : Nat) : Nat := V.countP (fun w => decide (w.idxOf g < w.idxOf x))
def nbw (n : Nat) (w : List Nat) (g : Nat) : Nat := nbo n (fun p => w.getD p 0) (w.idxOf g)
def bAl (n : Nat) (V : List (List Nat)) (g : Nat) : Nat := match V with
  | [] => 0
  | w :: l => l.foldl (fun s w => s &&& nbw n w g) (nbw n w g)
def bAn (n : Nat) (V : List (List Nat)) (g : Nat) : Nat := V.foldl (fun s w => s ||| nbw n w g) 0
def fS (h : Nat → Nat) (s : Nat) (w : List Nat) : Nat := rs h s false w - 1
theorem bAl_app (n : Nat) (V : List (List Nat)) (w : List Nat) (g : Nat) : bAl n (V ++ [w]) g = if V.length = 0 then nbw n w g else bAl n V g &&& nbw n w g := by
  cases V with
  | nil => rfl
  | cons v V => simp [bAl]
theorem bAn_app (n : Nat) (V : List (List Nat)) (w : List Nat) (g : Nat) : bAn n (V ++ [w]) g = bAn n V g ||| nbw n w g := by simp [bAn]
theorem cAt_app (V : List (List Nat)) (w : List Nat) (g x : Nat) : cAt (V ++ [w]) g x = cAt V g x + (decide (w.idxOf g = x)).toNat := by
  simp only [cAt, List.countP_append, List.countP_cons, List.countP_nil]
  cases decide (w.idxOf g = x) <;> simp
theorem cBf_app (V : List (List Nat)) (w : List Nat) (g x : Nat) : cBf (V ++ [w]) g x = cBf V g x + (decide (w.idxOf g < w.idxOf x)).toNat := by
  simp only [cBf, List.countP_append, List.countP_cons, List.countP_nil]
  cases decide (w.idxOf g < w.idxOf x) <;> simp
theorem fwm_bd {f : List Nat → Nat} {B : Nat} : ∀ (l : List (List Nat)) (o : Option Nat) (x : Nat), (∀ w ∈ l, f w ≤ B) → (∀ y, o = some y → y ≤ B) → fwm f o l = some x → x ≤ B
  | [], o, x, _, h, e => by cases o <;> simp [fwm] at e; exact h x (by rw [e])
  | w :: l, none, x, hf, h, e => fwm_bd l _ x (fun v hv => hf v (List.mem_cons_of_mem _ hv)) (fun y hy => by cases hy; exact hf w List.mem_cons_self) e
  | w :: l, some m, x, hf, h, e => fwm_bd l _ x (fun v hv => hf v (List.mem_cons_of_mem _ hv)) (fun y hy => by cases hy; split; exact hf w List.mem_cons_self; exact h m rfl) e
def Acc (J : xMem) (n : Nat) (h L : Nat → Nat) (x : Int32) (V : List (List Nat)) : Prop :=
  J 0 6 = nI V.length ∧ J 0 7 = x ∧ J 0 15 = oI ((nrs (stp n L) none V).map (stp n L)) ∧ (∀ v, nrs (stp n L) none V = some v → ∀ p, p < n → J 12 p = nI (v.getD p 0)) ∧
  (∀ i w, V[i]? = some w → x = nI i → ∀ p, p < n → J 5 p = nI (w.getD p 0)) ∧
  (∀ g k, g < n → k < 8 → J 6 (8 * g + k) = nI (cAt V g k)) ∧ (∀ g k, g < n → k < n → J 7 (8 * g + k) = nI (cBf V g k)) ∧
  (∀ g, g < n → J 8 g = nI (bAl n V g)) ∧ (∀ g, g < n → J 9 g = nI (bAn n V g)) ∧ ∀ s, s < 10 → J 10 s = oI (fwm (fS h s) none V)
section MG
variable {I : xMem} {n d : Nat} {h a L : Nat → Nat}
theorem c_look {w : List Nat} {V : List (List Nat)} {x : Int32} (hd : 2 ≤ d) (hn : n ≤ 8) (hh : ∀ g, h g < 1024) (hM : MSt I n h a L) (hL : ∀ p, p < n → L p < n) (hw : w ∈ perms n) (hO : OrdL I n w) (hV : ∀ v ∈ V, v.length = n) (hVl : V.length < 20000000) (hA : Acc I n h L x V) : Cx LM yX6_look mX6_look d [.ref 0] I (xRv (fun J => Acc J n h L x (V ++ [w]) ∧ J 0 4 = I 0 4 ∧ J 0 5 = I 0 5 ∧ J 1 = I 1 ∧ J 2 = I 2 ∧ J 3 = I 3 ∧ J 4 = I 4 ∧ J 11 = I 11)) := by
  obtain ⟨hpos, hord⟩ := perms_pos hw
  have hwl := (perms_mem hw).1
  obtain ⟨A6, A7, A15, A12, A5, B6, B7, B8, B9, B10⟩ := hA
  -- the end: steps, the wanted one, one more
  have fin : ∀ (v1 v2 v3 v4 v5 : Value) (J : xMem), lkI n (fun p => w.getD p 0) (fun g => w.idxOf g) (cAt V) (cBf V) (bAl n V) (bAl n (V ++ [w])) (bAn n V) (fun c => if c = 10 then J 10 else I c) n 0 false J → (∀ s, s < 10 → J 10 s = oI (fwm (fS h s) none (V ++ [w]))) → Wx LM mX6_look d (xRv (fun J => Acc J n h L x (V ++ [w]) ∧ J 0 4 = I 0 4 ∧ J 0 5 = I 0 5 ∧ J 1 = I 1 ∧ J 2 = I 2 ∧ J 3 = I 3 ∧ J 4 = I 4 ∧ J 11 = I 11)) 215 [.ref 0, v1, v2, v3, v4, v5] [] J := by
    intro v1 v2 v3 v4 v5 J hJ h10
    have fr : ∀ c, c ≠ 6 → c ≠ 7 → c ≠ 8 → c ≠ 9 → c ≠ 10 → J c = I c := fun c e6 e7 e8 e9 e10 => (hJ.2.2.2.2 c e6 e7 e8 e9).trans (if_neg e10)
    have j0 : J 0 = I 0 := fr 0 (by decide) (by decide) (by decide) (by decide) (by decide)
    have j1 : J 1 = I 1 := fr 1 (by decide) (by decide) (by decide) (by decide) (by decide)
    have j4 : J 4 = I 4 := fr 4 (by decide) (by decide) (by decide) (by decide) (by decide)
    have j12 : J 12 = I 12 := fr 12 (by decide) (by decide) (by decide) (by decide) (by decide)
    have last : ∀ (K : xMem), stepsQ J n w (stp n L) (nrs (stp n L) none V) K → ∀ (K2 : xMem), (K2 = K ∨ ((∀ p, p < 8 → K2 5 p = K 4 p) ∧ ∀ c, c ≠ 5 → K2 c = K c)) → (x = nI V.length → ∀ p, p < 8 → K2 5 p = K 4 p) → (¬ x = nI V.length → K2 = K) → Wx LM mX6_look d (xRv (fun J => Acc J n h L x (V ++ [w]) ∧ J 0 4 = I 0 4 ∧ J 0 5 = I 0 5 ∧ J 1 = I 1 ∧ J 2 = I 2 ∧ J 3 = I 3 ∧ J 4 = I 4 ∧ J 11 = I 11)) 238 [.ref 0, v1, v2, v3, v4, v5] [] K2 := by
      intro K hK K2 hK2 hx1 hx2
      obtain ⟨s15, s12, s0, sf⟩ := hK
      have k2 : ∀ c, c ≠ 5 → K2 c = K c := by
        rcases hK2 with e | e
        · exact fun c _ => by rw [e]
        · exact e.2
      have k6 : K2 0 6 = nI V.length := by rw [k2 0 (by decide), s0 6 (by decide), j0]; exact A6
      refine x_aload_n dX6_look_238 rfl ?_
      refine x_dup dX6_look_239 rfl ?_
      refine x_getI 5 6 (v := nI V.length) rfl (by decide) fl_X6_107 dX6_look_240 rfl rfl rfl k6 ?_
      refine x_iconst dX6_look_243 ic_1 ?_
      refine x_iadd (v := nI (V.length + 1)) dX6_look_244 (nI_add _ _) ?_
      refine x_put 5 6 rfl (by decide) fl_X6_107 rfl rfl rfl rfl dX6_look_245 rfl rfl rfl ?_
      generalize hMM : xup K2 0 6 (nI (V.length + 1)) = M
      have mne : ∀ c, c ≠ 0 → M c = K2 c := fun c hc => by rw [← hMM, xup_ne hc]
      have m0 : ∀ j, j ≠ 6 → M 0 j = K2 0 j := fun j hj => by rw [← hMM, xup_eq, if_neg hj]
      have kf : ∀ c, c ≠ 0 → c ≠ 5 → c ≠ 12 → M c = J c := fun c e0 e5 e12 => by rw [mne c e0, k2 c e5, sf c e0 e12]
      have kg : ∀ j, j ≠ 6 → j ≠ 15 → M 0 j = I 0 j := fun j e6 e15 => by rw [m0 j e6, k2 0 (by decide), s0 j e15, j0]
      refine x_vretv dX6_look_248 rfl ⟨⟨?_, ?_, ?_, ?_, ?_, ?_, ?_, ?_, ?_, ?_⟩, kg 4 (by decide) (by decide), kg 5 (by decide) (by decide), ?_, ?_, ?_, ?_, ?_⟩
      · rw [← hMM, xup_eq, if_pos rfl]; simp
      · rw [kg 7 (by decide) (by decide)]; exact A7
      · rw [m0 15 (by decide), k2 0 (by decide), s15, nrs_app]
      · intro v hv p hp
        rw [nrs_app] at hv
        rw [mne 12 (by decide), k2 12 (by decide)]; exact s12 v hv p hp
      · intro i w' hi hxi p hp
        by_cases e : i = V.length
        · subst e
          rw [List.getElem?_append_right (Nat.le_refl _), Nat.sub_self] at hi
          simp at hi
          subst hi
          rw [mne 5 (by decide), hx1 hxi p (by omega), sf 4 (by decide) (by decide), j4]; exact hO p hp
        · have hi' : i < V.length := by
            have := (List.getElem?_eq_some_iff.mp hi).1
            simp at this; omega
          rw [List.getElem?_append_left hi'] at hi
          have hxn : ¬ x = nI V.length := fun e2 => e ((nI_eq (by omega) (by omega)).mp (hxi.symm.trans e2))
          rw [mne 5 (by decide), hx2 hxn, sf 5 (by decide) (by decide), fr 5 (by decide) (by decide) (by decide) (by decide) (by decide)]
          exact A5 i w' hi hxi p hp
      · intro g k hg hk
        rw [kf 6 (by decide) (by decide) (by decide), hJ.1 g k hg hk, cAt_app]
        congr 2
        exact b2n _ _ (by have := (hpos g hg).1; simp; omega)
      · intro g k hg hk
        rw [kf 7 (by decide) (by decide) (by decide), hJ.2.1 g k hg hk, cBf_app]
        congr 2
        simp only [p7]
        exact b2n _ _ (by have := (hpos g hg).1; simp; omega)
      · intro g hg
        rw [kf 8 (by decide) (by decide) (by decide), hJ.2.2.1 g hg, if_pos (Or.inl (hpos g hg).1)]
      · intro g hg
        rw [kf 9 (by decide) (by decide) (by decide), hJ.2.2.2.1 g hg, if_pos (Or.inl (hpos g hg).1), bAn_app]; rfl
      · intro s hs
        rw [kf 10 (by decide) (by decide) (by decide)]; exact h10 s hs
      · rw [kf 1 (by decide) (by decide) (by decide)]; exact j1
      · rw [kf 2 (by decide) (by decide) (by decide)]; exact fr 2 (by decide) (by decide) (by decide) (by decide) (by decide)
      · rw [kf 3 (by decide) (by decide) (by decide)]; exact fr 3 (by decide) (by decide) (by decide) (by decide) (by decide)
      · rw [kf 4 (by decide) (by decide) (by decide)]; exact j4
      · rw [kf 11 (by decide) (by decide) (by decide)]; exact fr 11 (by decide) (by decide) (by decide) (by decide) (by decide)
    refine x_aload_n dX6_look_215 rfl ?_
    refine x_callVv 5 ml_X6_110 in_X6_lookAtSteps se_X6_lookAtSteps ct_X6_lookAtSteps rfl (c_lookAtSteps (d := 1) (w := w) (o := nrs (stp n L) none V) (by decide) hn (hM.kept j1) hL hw (fun p hp => by rw [j4]; exact hO p hp) (by rw [j0]; exact A15) (fun v hv p hp => by rw [j12]; exact A12 v hv p hp)) dX6_look_216 hd rfl rfl rfl rfl (Nat.le_of_ble_eq_true rfl) (fun J0 h0 => ?_)
    have hQ := h0
    refine x_aload_n dX6_look_219 rfl ?_
    refine x_getI 5 6 (v := nI V.length) rfl (by decide) fl_X6_107 dX6_look_220 rfl rfl rfl (by rw [hQ.2.2.1 6 (by decide), j0]; exact A6) ?_
    refine x_aload_n dX6_look_223 rfl ?_
    refine x_getI 5 7 (v := x) rfl (by decide) fl_X6_113 dX6_look_224 rfl rfl rfl (by rw [hQ.2.2.1 7 (by decide), j0]; exact A7) ?_
    refine x_icmp_ne (tgt := 238) dX6_look_227 rfl (fun c => ?_) (fun c => ?_)
    ·
      exact last J0 hQ J0 (Or.inl rfl) (fun e => absurd e.symm c) (fun _ => rfl)
    ·
      refine x_aload_n dX6_look_230 rfl ?_
      refine x_aload_n dX6_look_231 rfl ?_
      refine x_getR 5 8 rfl (by decide) fl_X6_23 dX6_look_232 rfl rfl rfl ?_
      refine x_callVv 5 ml_X6_116 in_X6_keep se_X6_keep ct_X6_keep rfl (c_keep_5 (d := 0)) dX6_look_235 (by omega) rfl rfl rfl rfl (Nat.le_of_ble_eq_true rfl) (fun J0 h0 => ?_)
      obtain ⟨hk1, hk2⟩ := h0
      exact last _ hQ J0 (Or.inr ⟨hk1, hk2⟩) (fun _ => hk1) (fun e => absurd c.symm e)
  -- the breaks of each sort
  have srt : ∀ (t s : Nat) (v1 v3 v4 v5 : Value) (J : xMem), s + t = 10 → lkI n (fun p => w.getD p 0) (fun g => w.idxOf g) (cAt V) (cBf V) (bAl n V) (bAl n (V ++ [w])) (bAn n V) (fun c => if c = 10 then J 10 else I c) n 0 false J → (∀ q, q < 10 → J 10 q = oI (if q < s then fwm (fS h q) none (V ++ [w]) else fwm (fS h q) none V)) → Wx LM mX6_look d (xRv (fun J => Acc J n h L x (V ++ [w]) ∧ J 0 4 = I 0 4 ∧ J 0 5 = I 0 5 ∧ J 1 = I 1 ∧ J 2 = I 2 ∧ J 3 = I 3 ∧ J 4 = I 4 ∧ J 11 = I 11)) 162 [.ref 0, v1, .int (nI s), v3, v4, v5] [] J := by
    intro t
    induction t with
    | zero =>
      intro s v1 v3 v4 v5 J hs hJ h10
      refine x_iload_n dX6_look_162 rfl ?_
      refine x_bipush dX6_look_163 bp_10 ?_
      refine x_icmpn_ge (a := s) (b := 10) (by omega) (by omega) (tgt := 215) dX6_look_165 rfl (fun c => ?_) (fun c => ?_)
      ·
        exact fin _ _ _ _ _ J hJ (fun q hq => by rw [h10 q hq, if_pos (by omega)])
      ·
        omega
    | succ t ih =>
      intro s v1 v3 v4 v5 J hs hJ h10
      have fr : ∀ c, c ≠ 6 → c ≠ 7 → c ≠ 8 → c ≠ 9 → c ≠ 10 → J c = I c := fun c e6 e7 e8 e9 e10 => (hJ.2.2.2.2 c e6 e7 e8 e9).trans (if_neg e10)
      have j1 : J 1 = I 1 := fr 1 (by decide) (by decide) (by decide) (by decide) (by decide)
      have j4 : J 4 = I 4 := fr 4 (by decide) (by decide) (by decide) (by decide) (by decide)
      have e10 : J 10 s = oI (fwm (fS h s) none V) := by rw [h10 s (by omega), if_neg (Nat.lt_irrefl _)]
      have hfs := rs_len h s w
      have cB := c_breaksOf (I := J) (d := 1) (s := s) (o := fun p => w.getD p 0) (by decide) (by omega) hh (fun p hp => by have := (hord p hp).1; omega) (fun p hp => by rw [j4]; exact hO p hp) (hM.kept j1) hn
      rw [seg_getD hwl] at cB
      have stx : ∀ (y : Int32), y = oI (fwm (fS h s) none (V ++ [w])) → Wx LM mX6_look d (xRv (fun J => Acc J n h L x (V ++ [w]) ∧ J 0 4 = I 0 4 ∧ J 0 5 = I 0 5 ∧ J 1 = I 1 ∧ J 2 = I 2 ∧ J 3 = I 3 ∧ J 4 = I 4 ∧ J 11 = I 11)) 208 [.ref 0, v1, .int (nI s), .int (nI (fS h s w)), v4, v5] [.int y, .int (nI s), .ref 10] J := by
        intro y ey
        refine x_iast (p := s) dX6_look_208 rfl rfl rfl rfl (by omega) ?_
        generalize hK : xup J 10 s y = K
        refine x_iinc (v := nI (s + 1)) (ls' := [.ref 0, v1, .int (nI (s + 1)), .int (nI (fS h s w)), v4, v5]) dX6_look_209 rfl (inc_1 _) rfl rfl ?_
        refine x_goto (tgt := 162) dX6_look_212 rfl ?_
        refine ih (s + 1) _ _ _ _ K (by omega) ⟨fun g q hg hq => ?_, fun g q hg hq => ?_, fun g hg => ?_, fun g hg => ?_, fun c e6 e7 e8 e9 => ?_⟩ (fun q hq => ?_)
        · rw [← hK, xup_ne (by decide)]; exact hJ.1 g q hg hq
        · rw [← hK, xup_ne (by decide)]; exact hJ.2.1 g q hg hq
        · rw [← hK, xup_ne (by decide)]; exact hJ.2.2.1 g hg
        · rw [← hK, xup_ne (by decide)]; exact hJ.2.2.2.1 g hg
        · by_cases e : c = 10
          · subst e; exact (if_pos rfl).symm
          · refine Eq.trans ?_ (if_neg e).symm
            rw [← hK, xup_ne e]; exact fr c e6 e7 e8 e9 e
        · rw [← hK, xup_eq]
          by_cases e : q = s
          · subst e; rw [if_pos rfl, if_pos (Nat.lt_succ_self _), ey]
          · rw [if_neg e, h10 q hq]
            congr 1
            by_cases e2 : q < s
            · rw [if_pos e2, if_pos (by omega)]
            · rw [if_neg e2, if_neg (by omega)]
      refine x_iload_n dX6_look_162 rfl ?_
      refine x_bipush dX6_look_163 bp_10 ?_
      refine x_icmpn_ge (a := s) (b := 10) (by omega) (by omega) (tgt := 215) dX6_look_165 rfl (fun c => ?_) (fun c => ?_)
      ·
        omega
      ·
        refine x_aload_n dX6_look_168 rfl ?_
        refine x_iload_n dX6_look_169 rfl ?_
        refine x_callVi 5 ml_X6_80 in_X6_breaksOf se_X6_breaksOf ct_X6_breaksOf rfl cB dX6_look_170 hd rfl rfl rfl rfl (Nat.le_of_ble_eq_true rfl) (fun r0 J0 h0 => ?_)
        obtain ⟨rfl, hJ0⟩ := h0
        obtain rfl := hJ0.symm
        refine x_istore_n (ls' := [.ref 0, v1, .int (nI s), .int (nI (fS h s w)), v4, v5]) dX6_look_173 rfl rfl ?_
        refine x_aload_n dX6_look_174 rfl ?_
        refine x_getR 5 13 rfl (by decide) fl_X6_38 dX6_look_175 rfl rfl rfl ?_
        refine x_iload_n dX6_look_178 rfl ?_
        refine x_aload_n dX6_look_179 rfl ?_
        refine x_getR 5 13 rfl (by decide) fl_X6_38 dX6_look_180 rfl rfl rfl ?_
        refine x_iload_n dX6_look_183 rfl ?_
        refine x_iald (p := s) (v := oI (fwm (fS h s) none V)) dX6_look_184 rfl rfl rfl rfl (by omega) e10 ?_
        cases hF : fwm (fS h s) none V with
        | none =>
          refine x_if_lt (tgt := 198) dX6_look_185 rfl (fun c3 => ?_) (fun c3 => ?_)
          ·
            refine x_iload_n dX6_look_198 rfl ?_
            refine x_goto (tgt := 208) dX6_look_199 rfl ?_
            exact stx _ (by rw [fwm_app, hF]; rfl)
          ·
            exact absurd (show oI none < 0 by decide +kernel) c3
        | some m =>
          have hm : m ≤ n := fwm_bd V none m (fun v hv => by have := rs_len h s v; rw [hV v hv] at this; exact this) (fun y hy => by cases hy) hF
          have hsl : fS h s w ≤ n := by rw [← hwl]; exact hfs
          refine x_if_lt (tgt := 198) dX6_look_185 rfl (fun c3 => ?_) (fun c3 => ?_)
          ·
            exact absurd c3 (nI_pos (by omega))
          ·
            refine x_iload_n dX6_look_188 rfl ?_
            refine x_aload_n dX6_look_189 rfl ?_
            refine x_getR 5 13 rfl (by decide) fl_X6_38 dX6_look_190 rfl rfl rfl ?_
            refine x_iload_n dX6_look_193 rfl ?_
            refine x_iald (p := s) (v := nI m) dX6_look_194 rfl rfl rfl rfl (by omega) (by rw [e10, hF]; rfl) ?_
            refine x_icmpn_ge (a := fS h s w) (b := m) (by omega) (by omega) (tgt := 202) dX6_look_195 rfl (fun c4 => ?_) (fun c4 => ?_)
            ·
              refine x_aload_n dX6_look_202 rfl ?_
              refine x_getR 5 13 rfl (by decide) fl_X6_38 dX6_look_203 rfl rfl rfl ?_
              refine x_iload_n dX6_look_206 rfl ?_
              refine x_iald (p := s) (v := nI m) dX6_look_207 rfl rfl rfl rfl (by omega) (by rw [e10, hF]; rfl) ?_
              exact stx _ (by rw [fwm_app, hF]; simp only [fwm]; rw [if_neg (by omega)]; rfl)
            ·
              refine x_iload_n dX6_look_198 rfl ?_
              refine x_goto (tgt := 208) dX6_look_199 rfl ?_
              exact stx _ (by rw [fwm_app, hF]; simp only [fwm]; rw [if_pos c4]; rfl)
  refine Cx.of [.ref 0, .null, .null, .null, .null, .null] (by decide) rfl rfl (Nat.le_of_ble_eq_true rfl) rfl ?_
  refine x_aload_n dX6_look_0 rfl ?_
  refine x_getR 5 0 rfl (by decide) fl_X6_7 dX6_look_1 rfl rfl rfl ?_
  refine x_iconst dX6_look_4 ic_0 ?_
  refine x_iald (p := 0) (v := nI n) dX6_look_5 rfl rfl rfl rfl (by omega) hM.1 ?_
  refine x_istore_n (ls' := [.ref 0, .int (nI n), .null, .null, .null, .null]) dX6_look_6 rfl rfl ?_
  refine x_iconst dX6_look_7 ic_0 ?_
  refine x_istore_n (ls' := [.ref 0, .int (nI n), .int (nI 0), .null, .null, .null]) dX6_look_8 rfl rfl ?_
  refine look_a (o := fun p => w.getD p 0) (pos := fun g => w.idxOf g) (c6 := cAt V) (c7 := cBf V) (b8 := bAl n V) (b8' := bAl n (V ++ [w])) (b9 := bAn n V) (m := V.length) hn hM.1 hord hpos hO A6 (by omega) (fun g hg => bAl_app n V w g) ?_ n 0 _ _ _ I (by omega) ⟨fun g q hg hq => ?_, fun g q hg hq => ?_, fun g hg => ?_, fun g hg => ?_, fun _ _ _ _ _ => rfl⟩
  · intro v3 v4 v5 J hJ
    refine x_iconst dX6_look_160 ic_0 ?_
    refine x_istore_n (ls' := [.ref 0, .int (nI n), .int (nI 0), v3, v4, v5]) dX6_look_161 rfl rfl ?_
    refine srt 10 0 _ _ _ _ J rfl ⟨hJ.1, hJ.2.1, hJ.2.2.1, hJ.2.2.2.1, fun c e6 e7 e8 e9 => ?_⟩ (fun q hq => ?_)
    · by_cases e : c = 10
      · subst e; exact (if_pos rfl).symm
      · exact (hJ.2.2.2.2 c e6 e7 e8 e9).trans (if_neg e).symm
    · rw [hJ.2.2.2.2 10 (by decide) (by decide) (by decide) (by decide), if_neg (by omega)]; exact B10 q hq
  · rw [B6 g q hg hq, decide_eq_false (by simp)]; rfl
  · rw [B7 g q hg hq]
    have : p7 (fun g => w.idxOf g) 0 0 g q = false := decide_eq_false (by omega)
    rw [this]; rfl
  · rw [B8 g hg, if_neg (by simp)]
  · rw [B9 g hg, if_neg (by simp)]
end MG
end
section
/-! the reference: all orders are gone through -/
theorem ext_len {n : Nat} : ∀ (k S : Nat), (ext n k S).length ≤ n ^ k
  | 0, S => by simp [ext]
  | k + 1, S => by
    rw [ext_s, List.length_flatMap]
    have h1 : ∀ (l : List Nat), (l.map (fun g => ((ext n k (S ||| 1 <<< g)).map (g :: ·)).length)).sum ≤ l.length * n ^ k := by
      intro l
      induction l with
      | nil => simp
      | cons g l ih => simp only [List.map_cons, List.sum_cons, List.length_cons, Nat.succ_mul, List.length_map]; have := ext_len (n := n) k (S ||| 1 <<< g); simp only [List.length_map] at ih; omega
    refine Nat.le_trans (h1 _) ?_
    rw [Nat.pow_succ, Nat.mul_comm]
    refine Nat.mul_le_mul_left _ ?_
    have := List.length_filter_le (fun g => !S.testBit g) (List.range n)
    rw [List.length_range] at this
    exact this
theorem perms_len {n : Nat} (hn : n ≤ 8) : (perms n).length ≤ 16777216 := by
  refine Nat.le_trans (ext_len n 0) (Nat.le_trans (Nat.pow_le_pow_left hn n) (Nat.le_trans (Nat.pow_le_pow_right (by decide) hn) (by decide)))
theorem fewB_lt {n : Nat} {h a : Nat → Nat} (hn : n ≤ 8) : ∀ m, fewB n h a = some m → m < 2 ^ 31 := by
  intro m hm
  have := fwm_bd (f := brk h) (B := 80) (fea n a) none m (fun w hw => by
    have h1 := (perms_mem (n := n) (List.mem_filter.mp hw).1).1
    have := brk_le h w
    omega) (fun y hy => by cases hy) hm
  omega
section MG
variable {I : xMem} {n d : Nat} {h a L : Nat → Nat}
theorem g_isBest {w : List Nat} (hd : 3 ≤ d) (hn : n ≤ 8) (hh : ∀ g, h g < 1024) (ha : ∀ g, a g < 256) (hw : w ∈ perms n) (hO : OrdL I n w) (hM : MSt I n h a L) (hf : I 0 5 = oI (fewB n h a)) : Cx LM yX6_isBest mX6_isBest d [.ref 0] I (xRi (fun r J => r = nI (isB n h a w).toNat ∧ J = I)) :=
  c_isBest hd hn hh ha (fewB_lt hn) hM hf (g_isAllowed ha hw hO hM hn) (g_breaksNow (by decide) hh hw hO hM hn) (by have := (perms_mem hw).1; omega)
def Base (I : xMem) (n : Nat) (h a : Nat → Nat) (J : xMem) : Prop := J 0 4 = nI 1 ∧ J 0 5 = oI (fewB n h a) ∧ J 1 = I 1 ∧ J 2 = I 2 ∧ J 3 = I 3
def allQ (I : xMem) (n : Nat) (h a L : Nat → Nat) (x : Int32) (J : xMem) : Prop := Acc J n h L x (bests n h a) ∧ Base I n h a J
theorem filt_1 {p : List Nat → Bool} {u : List (List Nat)} {w : List Nat} (h : p w = true) : (u ++ [w]).filter p = u.filter p ++ [w] := by simp [List.filter_append, h]
theorem filt_0 {p : List Nat → Bool} {u : List (List Nat)} {w : List Nat} (h : p w = false) : (u ++ [w]).filter p = u.filter p := by simp [List.filter_append, h]
theorem c_lookAtAll {x : Int32} (hd : 4 ≤ d) (h1 : 1 ≤ n) (hn : n ≤ 8) (hh : ∀ g, h g < 1024) (ha : ∀ g, a g < 256) (hL : ∀ p, p < n → L p < n) (hM : MSt I n h a L) (hf : I 0 4 = nI 0 ∨ (I 0 4 = nI 1 ∧ I 0 5 = oI (fewB n h a))) : Cx LM yX6_lookAtAll mX6_lookAtAll d [.ref 0, .int x] I (xRv (allQ I n h a L x)) := by
  have body : ∀ (u v : List (List Nat)) (w : List Nat) (J : xMem), perms n = u ++ w :: v → OrdL J n w → Base I n h a J → Acc J n h L x (u.filter (isB n h a)) → (∀ (J : xMem), OrdL J n w → Base I n h a J → Acc J n h L x ((u ++ [w]).filter (isB n h a)) → Wx LM mX6_lookAtAll d (xRv (allQ I n h a L x)) 119 [.ref 0, .int x, .int (nI 1)] [] J) → Wx LM mX6_lookAtAll d (xRv (allQ I n h a L x)) 104 [.ref 0, .int x, .int (nI 1)] [] J := by
    intro u v w J hP hO hB hA kk
    have hw : w ∈ perms n := by rw [hP]; simp
    have hMJ : MSt J n h a L := hM.kept hB.2.2.1
    have hul : (u.filter (isB n h a)).length < 20000000 := by
      have e1 := List.length_filter_le (isB n h a) u
      have e2 := perms_len hn
      rw [hP, List.length_append] at e2
      omega
    refine x_iload_n dX6_lookAtAll_104 rfl ?_
    refine x_ifn_eq (a := 1) (by decide) (tgt := 127) dX6_lookAtAll_105 rfl (fun c => ?_) (fun c => ?_)
    ·
      exact absurd c (by decide)
    ·
      refine x_aload_n dX6_lookAtAll_108 rfl ?_
      refine x_callVi 5 ml_X6_126 in_X6_isBest se_X6_isBest ct_X6_isBest rfl (g_isBest (d := 3) (by decide) hn hh ha hw hO hMJ hB.2.1) dX6_lookAtAll_109 hd rfl rfl rfl rfl (Nat.le_of_ble_eq_true rfl) (fun r0 J0 h0 => ?_)
      obtain ⟨rfl, hJ0⟩ := h0
      obtain rfl := hJ0.symm
      refine x_ifb_eq (b := isB n h a w) (tgt := 119) dX6_lookAtAll_112 rfl (fun c2 => ?_) (fun c2 => ?_)
      ·
        exact kk J hO hB (by rw [filt_0 c2]; exact hA)
      ·
        refine x_aload_n dX6_lookAtAll_115 rfl ?_
        refine x_callVv 5 ml_X6_129 in_X6_look se_X6_look ct_X6_look rfl (c_look (d := 3) (w := w) (by decide) hn hh hMJ hL hw hO (fun v hv => (perms_mem (n := n) (by rw [hP]; exact List.mem_append_left _ (List.mem_filter.mp hv).1)).1) hul hA) dX6_lookAtAll_116 hd rfl rfl rfl rfl (Nat.le_of_ble_eq_true rfl) (fun J0 h0 => ?_)
        obtain ⟨q1, q2, q3, q4, q5, q6, q7, _⟩ := h0
        exact kk J0 (fun p hp => by rw [q7]; exact hO p hp) ⟨by rw [q2]; exact hB.1, by rw [q3]; exact hB.2.1, by rw [q4]; exact hB.2.2.1, by rw [q5]; exact hB.2.2.2.1, by rw [q6]; exact hB.2.2.2.2⟩ (by rw [filt_1 c2]; exact q1)
  have lp : ∀ (v u : List (List Nat)) (w : List Nat) (J : xMem), perms n = u ++ w :: v → OrdL J n w → Base I n h a J → Acc J n h L x (u.filter (isB n h a)) → Wx LM mX6_lookAtAll d (xRv (allQ I n h a L x)) 104 [.ref 0, .int x, .int (nI 1)] [] J := by
    intro v
    induction v with
    | nil =>
      intro u w J hP hO hB hA
      refine body u [] w J hP hO hB hA ?_
      clear hO hB hA
      intro J hO hB hA
      refine x_aload_n dX6_lookAtAll_119 rfl ?_
      refine x_callVi 5 ml_X6_101 in_X6_goOn se_X6_goOn ct_X6_goOn rfl (g_goOn (d := 1) (by decide) h1 hn (hM.kept hB.2.2.1).1 hP hO) dX6_lookAtAll_120 (by omega) rfl rfl rfl rfl (Nat.le_of_ble_eq_true rfl) (fun r0 J0 h0 => ?_)
      obtain ⟨_, rfl, rfl⟩ | ⟨y, v', hv, _⟩ := h0
      ·
        refine x_istore_n (ls' := [.ref 0, .int x, .int (nI 0)]) dX6_lookAtAll_123 rfl rfl ?_
        refine x_goto (tgt := 104) dX6_lookAtAll_124 rfl ?_
        refine x_iload_n dX6_lookAtAll_104 rfl ?_
        refine x_ifn_eq (a := 0) (by decide) (tgt := 127) dX6_lookAtAll_105 rfl (fun c3 => ?_) (fun c3 => ?_)
        ·
          refine x_vretv dX6_lookAtAll_127 rfl ⟨by rw [bests, hP]; exact hA, hB⟩
        ·
          exact absurd rfl c3
      · cases hv
    | cons y v ih =>
      intro u w J hP hO hB hA
      refine body u (y :: v) w J hP hO hB hA ?_
      clear hO hB hA
      intro J hO hB hA
      refine x_aload_n dX6_lookAtAll_119 rfl ?_
      refine x_callVi 5 ml_X6_101 in_X6_goOn se_X6_goOn ct_X6_goOn rfl (g_goOn (d := 1) (by decide) h1 hn (hM.kept hB.2.2.1).1 hP hO) dX6_lookAtAll_120 (by omega) rfl rfl rfl rfl (Nat.le_of_ble_eq_true rfl) (fun r0 J0 h0 => ?_)
      obtain ⟨hv, _⟩ | ⟨y', v', hv, rfl, hO', hF'⟩ := h0
      · cases hv
      ·
        refine x_istore_n (ls' := [.ref 0, .int x, .int (nI 1)]) dX6_lookAtAll_123 rfl rfl ?_
        refine x_goto (tgt := 104) dX6_lookAtAll_124 rfl ?_
        obtain ⟨rfl, rfl⟩ := List.cons.inj hv
        refine ih (u ++ [w]) y J0 (by rw [hP]; simp) hO' ?_ ?_
        · unfold Base; rw [hF' 0 (by decide), hF' 1 (by decide), hF' 2 (by decide), hF' 3 (by decide)]; exact hB
        · unfold Acc; rw [hF' 0 (by decide), hF' 12 (by decide), hF' 5 (by decide), hF' 6 (by decide), hF' 7 (by decide), hF' 8 (by decide), hF' 9 (by decide), hF' 10 (by decide)]; exact hA
  have lpC : ∀ (t k : Nat) (J : xMem), k + t = 10 → Base I n h a J → J 0 6 = nI 0 → J 0 7 = x → J 0 15 = (-6) → (∀ q, q < 64 → J 6 q = nI 0 ∧ J 7 q = nI 0) → (∀ q, q < 8 → J 8 q = nI 0 ∧ J 9 q = nI 0) → (∀ q, q < k → J 10 q = (-6)) → Wx LM mX6_lookAtAll d (xRv (allQ I n h a L x)) 78 [.ref 0, .int x, .int (nI k)] [] J := by
    intro t
    induction t with
    | zero =>
      intro k J hk hB e6 e7 e15 z6 z8 z10
      refine x_iload_n dX6_lookAtAll_78 rfl ?_
      refine x_bipush dX6_lookAtAll_79 bp_10 ?_
      refine x_icmpn_ge (a := k) (b := 10) (by omega) (by omega) (tgt := 98) dX6_lookAtAll_81 rfl (fun c => ?_) (fun c => ?_)
      ·
        refine x_aload_n dX6_lookAtAll_98 rfl ?_
        refine x_callVv 5 ml_X6_91 in_X6_begin se_X6_begin ct_X6_begin rfl (c_begin (d := 0)) dX6_lookAtAll_99 (by omega) rfl rfl rfl rfl (Nat.le_of_ble_eq_true rfl) (fun J0 h0 => ?_)
        obtain ⟨hJ1, hJ2⟩ := h0
        refine x_iconst dX6_lookAtAll_102 ic_1 ?_
        refine x_istore_n (ls' := [.ref 0, .int x, .int (nI 1)]) dX6_lookAtAll_103 rfl rfl ?_
        obtain ⟨v, hv⟩ := perms_first (n := n) (by omega)
        refine lp v [] (List.range n) J0 (by rw [hv]; rfl) (fun p hp => ?_) ?_ ?_
        · rw [hJ1 p (by omega), List.getD_eq_getElem?_getD, List.getElem?_range hp]; rfl
        · unfold Base; rw [hJ2 0 (by decide), hJ2 1 (by decide), hJ2 2 (by decide), hJ2 3 (by decide)]; exact hB
        · unfold Acc; rw [hJ2 0 (by decide), hJ2 12 (by decide), hJ2 5 (by decide), hJ2 6 (by decide), hJ2 7 (by decide), hJ2 8 (by decide), hJ2 9 (by decide), hJ2 10 (by decide)]
          exact ⟨e6, e7, e15, fun v hv => by simp [nrs] at hv, fun i w hi => by simp at hi, fun g k hg hk => (z6 _ (by omega)).1, fun g k hg hk => (z6 _ (by omega)).2, fun g hg => (z8 g (by omega)).1, fun g hg => (z8 g (by omega)).2, fun s hs => z10 s (by omega)⟩
      ·
        omega
    | succ t ih =>
      intro k J hk hB e6 e7 e15 z6 z8 z10
      refine x_iload_n dX6_lookAtAll_78 rfl ?_
      refine x_bipush dX6_lookAtAll_79 bp_10 ?_
      refine x_icmpn_ge (a := k) (b := 10) (by omega) (by omega) (tgt := 98) dX6_lookAtAll_81 rfl (fun c => ?_) (fun c => ?_)
      ·
        omega
      ·
        refine x_aload_n dX6_lookAtAll_84 rfl ?_
        refine x_getR 5 13 rfl (by decide) fl_X6_38 dX6_lookAtAll_85 rfl rfl rfl ?_
        refine x_iload_n dX6_lookAtAll_88 rfl ?_
        refine x_bipush dX6_lookAtAll_89 bp_m6 ?_
        refine x_iast (p := k) dX6_lookAtAll_91 rfl rfl rfl rfl (by omega) ?_
        generalize hK : xup J 10 k (-6) = K
        refine x_iinc (v := nI (k + 1)) (ls' := [.ref 0, .int x, .int (nI (k + 1))]) dX6_lookAtAll_92 rfl (inc_1 _) rfl rfl ?_
        refine x_goto (tgt := 78) dX6_lookAtAll_95 rfl ?_
        refine ih (k + 1) K (by omega) ?_ ?_ ?_ ?_ ?_ ?_ (fun q hq => ?_)
        · unfold Base; rw [← hK, xup_ne (by decide), xup_ne (by decide), xup_ne (by decide), xup_ne (by decide)]; exact hB
        · rw [← hK, xup_ne (by decide)]; exact e6
        · rw [← hK, xup_ne (by decide)]; exact e7
        · rw [← hK, xup_ne (by decide)]; exact e15
        · rw [← hK, xup_ne (by decide), xup_ne (by decide)]; exact z6
        · rw [← hK, xup_ne (by decide), xup_ne (by decide)]; exact z8
        · rw [← hK, xup_eq]
          by_cases e : q = k
          · rw [if_pos e]
          · rw [if_neg e]; exact z10 q (by omega)
  have lpB : ∀ (t k : Nat) (J : xMem), k + t = 8 → Base I n h a J → J 0 6 = nI 0 → J 0 7 = x → J 0 15 = (-6) → (∀ q, q < 64 → J 6 q = nI 0 ∧ J 7 q = nI 0) → (∀ q, q < k → J 8 q = nI 0 ∧ J 9 q = nI 0) → Wx LM mX6_lookAtAll d (xRv (allQ I n h a L x)) 50 [.ref 0, .int x, .int (nI k)] [] J := by
    intro t
    induction t with
    | zero =>
      intro k J hk hB e6 e7 e15 z6 z8
      refine x_iload_n dX6_lookAtAll_50 rfl ?_
      refine x_bipush dX6_lookAtAll_51 bp_8 ?_
      refine x_icmpn_ge (a := k) (b := 8) (by omega) (by omega) (tgt := 76) dX6_lookAtAll_53 rfl (fun c => ?_) (fun c => ?_)
      ·
        refine x_iconst dX6_lookAtAll_76 ic_0 ?_
        refine x_istore_n (ls' := [.ref 0, .int x, .int (nI 0)]) dX6_lookAtAll_77 rfl rfl ?_
        exact lpC 10 0 J rfl hB e6 e7 e15 z6 (fun q hq => z8 q (by omega)) (fun q hq => by omega)
      ·
        omega
    | succ t ih =>
      intro k J hk hB e6 e7 e15 z6 z8
      refine x_iload_n dX6_lookAtAll_50 rfl ?_
      refine x_bipush dX6_lookAtAll_51 bp_8 ?_
      refine x_icmpn_ge (a := k) (b := 8) (by omega) (by omega) (tgt := 76) dX6_lookAtAll_53 rfl (fun c => ?_) (fun c => ?_)
      ·
        omega
      ·
        refine x_aload_n dX6_lookAtAll_56 rfl ?_
        refine x_getR 5 11 rfl (by decide) fl_X6_32 dX6_lookAtAll_57 rfl rfl rfl ?_
        refine x_iload_n dX6_lookAtAll_60 rfl ?_
        refine x_iconst dX6_lookAtAll_61 ic_0 ?_
        refine x_iast (p := k) dX6_lookAtAll_62 rfl rfl rfl rfl (by omega) ?_
        generalize hK : xup J 8 k (nI 0) = K
        refine x_aload_n dX6_lookAtAll_63 rfl ?_
        refine x_getR 5 12 rfl (by decide) fl_X6_35 dX6_lookAtAll_64 rfl rfl rfl ?_
        refine x_iload_n dX6_lookAtAll_67 rfl ?_
        refine x_iconst dX6_lookAtAll_68 ic_0 ?_
        refine x_iast (p := k) dX6_lookAtAll_69 rfl rfl rfl rfl (by omega) ?_
        generalize hMM : xup K 9 k (nI 0) = M
        refine x_iinc (v := nI (k + 1)) (ls' := [.ref 0, .int x, .int (nI (k + 1))]) dX6_lookAtAll_70 rfl (inc_1 _) rfl rfl ?_
        refine x_goto (tgt := 50) dX6_lookAtAll_73 rfl ?_
        refine ih (k + 1) M (by omega) ?_ ?_ ?_ ?_ ?_ (fun q hq => ⟨?_, ?_⟩)
        · unfold Base; rw [← hMM, xup_ne (by decide), xup_ne (by decide), xup_ne (by decide), xup_ne (by decide), ← hK, xup_ne (by decide), xup_ne (by decide), xup_ne (by decide), xup_ne (by decide)]; exact hB
        · rw [← hMM, xup_ne (by decide), ← hK, xup_ne (by decide)]; exact e6
        · rw [← hMM, xup_ne (by decide), ← hK, xup_ne (by decide)]; exact e7
        · rw [← hMM, xup_ne (by decide), ← hK, xup_ne (by decide)]; exact e15
        · rw [← hMM, xup_ne (by decide), xup_ne (by decide), ← hK, xup_ne (by decide), xup_ne (by decide)]; exact z6
        · rw [← hMM, xup_ne (by decide), ← hK, xup_eq]
          by_cases e : q = k
          · rw [if_pos e]
          · rw [if_neg e]; exact (z8 q (by omega)).1
        · rw [← hMM, xup_eq]
          by_cases e : q = k
          · rw [if_pos e]
          · rw [if_neg e, ← hK, xup_ne (by decide)]; exact (z8 q (by omega)).2
  have lpA : ∀ (t k : Nat) (J : xMem), k + t = 64 → Base I n h a J → J 0 6 = nI 0 → J 0 7 = x → J 0 15 = (-6) → (∀ q, q < k → J 6 q = nI 0 ∧ J 7 q = nI 0) → Wx LM mX6_lookAtAll d (xRv (allQ I n h a L x)) 22 [.ref 0, .int x, .int (nI k)] [] J := by
    intro t
    induction t with
    | zero =>
      intro k J hk hB e6 e7 e15 z6
      refine x_iload_n dX6_lookAtAll_22 rfl ?_
      refine x_bipush dX6_lookAtAll_23 bp_64 ?_
      refine x_icmpn_ge (a := k) (b := 64) (by omega) (by omega) (tgt := 48) dX6_lookAtAll_25 rfl (fun c => ?_) (fun c => ?_)
      ·
        refine x_iconst dX6_lookAtAll_48 ic_0 ?_
        refine x_istore_n (ls' := [.ref 0, .int x, .int (nI 0)]) dX6_lookAtAll_49 rfl rfl ?_
        exact lpB 8 0 J rfl hB e6 e7 e15 (fun q hq => z6 q (by omega)) (fun q hq => by omega)
      ·
        omega
    | succ t ih =>
      intro k J hk hB e6 e7 e15 z6
      refine x_iload_n dX6_lookAtAll_22 rfl ?_
      refine x_bipush dX6_lookAtAll_23 bp_64 ?_
      refine x_icmpn_ge (a := k) (b := 64) (by omega) (by omega) (tgt := 48) dX6_lookAtAll_25 rfl (fun c => ?_) (fun c => ?_)
      ·
        omega
      ·
        refine x_aload_n dX6_lookAtAll_28 rfl ?_
        refine x_getR 5 9 rfl (by decide) fl_X6_26 dX6_lookAtAll_29 rfl rfl rfl ?_
        refine x_iload_n dX6_lookAtAll_32 rfl ?_
        refine x_iconst dX6_lookAtAll_33 ic_0 ?_
        refine x_iast (p := k) dX6_lookAtAll_34 rfl rfl rfl rfl (by omega) ?_
        generalize hK : xup J 6 k (nI 0) = K
        refine x_aload_n dX6_lookAtAll_35 rfl ?_
        refine x_getR 5 10 rfl (by decide) fl_X6_29 dX6_lookAtAll_36 rfl rfl rfl ?_
        refine x_iload_n dX6_lookAtAll_39 rfl ?_
        refine x_iconst dX6_lookAtAll_40 ic_0 ?_
        refine x_iast (p := k) dX6_lookAtAll_41 rfl rfl rfl rfl (by omega) ?_
        generalize hMM : xup K 7 k (nI 0) = M
        refine x_iinc (v := nI (k + 1)) (ls' := [.ref 0, .int x, .int (nI (k + 1))]) dX6_lookAtAll_42 rfl (inc_1 _) rfl rfl ?_
        refine x_goto (tgt := 22) dX6_lookAtAll_45 rfl ?_
        refine ih (k + 1) M (by omega) ?_ ?_ ?_ ?_ (fun q hq => ⟨?_, ?_⟩)
        · unfold Base; rw [← hMM, xup_ne (by decide), xup_ne (by decide), xup_ne (by decide), xup_ne (by decide), ← hK, xup_ne (by decide), xup_ne (by decide), xup_ne (by decide), xup_ne (by decide)]; exact hB
        · rw [← hMM, xup_ne (by decide), ← hK, xup_ne (by decide)]; exact e6
        · rw [← hMM, xup_ne (by decide), ← hK, xup_ne (by decide)]; exact e7
        · rw [← hMM, xup_ne (by decide), ← hK, xup_ne (by decide)]; exact e15
        · rw [← hMM, xup_ne (by decide), ← hK, xup_eq]
          by_cases e : q = k
          · rw [if_pos e]
          · rw [if_neg e]; exact (z6 q (by omega)).1
        · rw [← hMM, xup_eq]
          by_cases e : q = k
          · rw [if_pos e]
          · rw [if_neg e, ← hK, xup_ne (by decide)]; exact (z6 q (by omega)).2
  refine Cx.of [.ref 0, .int x, .null] (by decide) rfl rfl (Nat.le_of_ble_eq_true rfl) rfl ?_
  refine x_aload_n dX6_lookAtAll_0 rfl ?_
  refine x_callVv 5 ml_X6_104 in_X6_layFewest se_X6_layFewest ct_X6_layFewest rfl (c_layFewest (d := 3) (by decide) h1 hn hh ha hM hf) dX6_lookAtAll_1 hd rfl rfl rfl rfl (Nat.le_of_ble_eq_true rfl) (fun J0 h0 => ?_)
  obtain ⟨f4, f5, f0, ff⟩ := h0
  refine x_aload_n dX6_lookAtAll_4 rfl ?_
  refine x_iconst dX6_lookAtAll_5 ic_0 ?_
  refine x_put 5 6 rfl (by decide) fl_X6_107 rfl rfl rfl rfl dX6_lookAtAll_6 rfl rfl rfl ?_
  generalize hK : xup J0 0 6 (nI 0) = K
  refine x_aload_n dX6_lookAtAll_9 rfl ?_
  refine x_iload_n dX6_lookAtAll_10 rfl ?_
  refine x_put 5 7 rfl (by decide) fl_X6_113 rfl rfl rfl rfl dX6_lookAtAll_11 rfl rfl rfl ?_
  generalize hK2 : xup K 0 7 x = K2
  refine x_aload_n dX6_lookAtAll_14 rfl ?_
  refine x_bipush dX6_lookAtAll_15 bp_m6 ?_
  refine x_put 5 15 rfl (by decide) fl_X6_123 rfl rfl rfl rfl dX6_lookAtAll_17 rfl rfl rfl ?_
  generalize hK3 : xup K2 0 15 (-6) = K3
  refine x_iconst dX6_lookAtAll_20 ic_0 ?_
  refine x_istore_n (ls' := [.ref 0, .int x, .int (nI 0)]) dX6_lookAtAll_21 rfl rfl ?_
  refine lpA 64 0 K3 rfl ⟨?_, ?_, ?_, ?_, ?_⟩ ?_ ?_ ?_ (fun q hq => by omega)
  · rw [← hK3, xup_eq, if_neg (by decide), ← hK2, xup_eq, if_neg (by decide), ← hK, xup_eq, if_neg (by decide)]; exact f4
  · rw [← hK3, xup_eq, if_neg (by decide), ← hK2, xup_eq, if_neg (by decide), ← hK, xup_eq, if_neg (by decide)]; exact f5
  · rw [← hK3, xup_ne (by decide), ← hK2, xup_ne (by decide), ← hK, xup_ne (by decide)]; exact ff 1 (by decide) (by decide)
  · rw [← hK3, xup_ne (by decide), ← hK2, xup_ne (by decide), ← hK, xup_ne (by decide)]; exact ff 2 (by decide) (by decide)
  · rw [← hK3, xup_ne (by decide), ← hK2, xup_ne (by decide), ← hK, xup_ne (by decide)]; exact ff 3 (by decide) (by decide)
  · rw [← hK3, xup_eq, if_neg (by decide), ← hK2, xup_eq, if_neg (by decide), ← hK, xup_eq, if_pos rfl]
  · rw [← hK3, xup_eq, if_neg (by decide), ← hK2, xup_eq, if_pos rfl]
  · rw [← hK3, xup_eq, if_pos rfl]
end MG
end
section
/-! what each call answers, and the state behind it -/
abbrev ST : Type := Nat × (Nat → Nat) × (Nat → Nat) × (Nat → Nat)
abbrev WS : Type := ST × (Bool × ST) × (Bool × ST)
def TOk (T : ST) : Prop := 1 ≤ T.1 ∧ T.1 ≤ 8 ∧ (∀ g, T.2.1 g < 1024) ∧ (∀ g, T.2.2.1 g < 256) ∧ (∀ p, p < T.1 → T.2.2.2 p < T.1) ∧ (∀ p q, p < T.1 → q < T.1 → T.2.2.2 p = T.2.2.2 q → p = q) ∧ ∀ p, p < 8 → T.2.2.2 p < 8
def WOk (W : WS) : Prop := TOk W.1 ∧ (W.2.1.1 = true → TOk W.2.1.2) ∧ (W.2.2.1 = true → TOk W.2.2.2)
def bst (T : ST) : List (List Nat) := bests T.1 T.2.1 T.2.2.1
def rw0 (T : ST) : List Nat := seg T.2.2.2 0 T.1
def tN (x : Int32) : Nat := x.toInt.toNat
theorem tN_nI {j : Nat} (h : j < 2 ^ 31) : tN (nI j) = j := by unfold tN; rw [nI_toInt h]; rfl
def fup (f : Nat → Nat) (k v : Nat) : Nat → Nat := fun j => if j = k then v else f j
def spMany (x : Int32) (W : WS) : Int32 × WS := if inB x (nI 1) (nI 8) then (nI W.1.1, ((tN x, szH (tN x) W.1.2.1, szA (tN x) W.1.2.2.1, id), W.2)) else (-2, W)
def spFind (g s on : Int32) (W : WS) : Int32 × WS := if inR g W.1.1 && inR s 10 then (if inR on 2 then (nI (pop (wmem (W.1.2.1 (tN g)) (tN s) (tN on))), ((W.1.1, fup W.1.2.1 (tN g) (wmem (W.1.2.1 (tN g)) (tN s) (tN on)), W.1.2.2), W.2)) else (-2, W)) else (-1, W)
def spAhead (x y on : Int32) (W : WS) : Int32 × WS := if inR x W.1.1 && inR y W.1.1 then (if inR on 2 && decide (¬ x = y) then (nI (rf (fun s g => s + pop (fup W.1.2.2.1 (tN x) (wmem (W.1.2.2.1 (tN x)) (tN y) (tN on)) g)) 0 8), ((W.1.1, W.1.2.1, fup W.1.2.2.1 (tN x) (wmem (W.1.2.2.1 (tN x)) (tN y) (tN on)), W.1.2.2.2), W.2)) else (-2, W)) else (-1, W)
def plOf (T : ST) (g : Nat) : Nat := (rw0 T).idxOf g
def spGrave (g what : Int32) (W : WS) : Int32 := if inR g W.1.1 then (if what = nI 0 then nI (W.1.2.1 (tN g)) else if what = nI 1 then nI (W.1.2.2.1 (tN g)) else if what = nI 2 then nI (erl W.1.2.2.1 (tN g) W.1.1) else if what = nI 3 then nI (plOf W.1 (tN g)) else (-2)) else (-1)
def spSort (s what : Int32) (W : WS) : Int32 := if inR s 10 then (if what = nI 0 then nI (cwi W.1.2.1 (tN s) W.1.1) else if what = nI 1 then nI (fS W.1.2.1 (tN s) (rw0 W.1)) else if what = nI 2 then oI (fwm (fS W.1.2.1 (tN s)) none (bst W.1)) else (-2)) else (-1)
def spAlike (x y : Int32) (W : WS) : Int32 := if inR x W.1.1 && inR y W.1.1 then nI (pop (W.1.2.1 (tN x) &&& W.1.2.1 (tN y))) else (-1)
def spLeast (W : WS) : Int32 := oI (fewB W.1.1 W.1.2.1 W.1.2.2.1)
def spBest (W : WS) : Int32 := nI (bst W.1).length
def spOrder (i p : Int32) (W : WS) : Int32 := if ¬ i < 0 ∧ inR p W.1.1 = true then (match (bst W.1)[tN i]? with | none => (-6) | some w => nI (w.getD (tN p) 0)) else (-2)
def spBeside (g what : Int32) (W : WS) : Int32 := if inR g W.1.1 then (if what = nI 0 then nI (bAl W.1.1 (bst W.1) (tN g)) else if what = nI 1 then nI (bAn W.1.1 (bst W.1) (tN g)) else (-2)) else (-1)
def lstP (V : List (List Nat)) (n g : Nat) : Option Nat := (List.range n).find? (fun k => decide (0 < cAt V g k))
def grtP (V : List (List Nat)) (n g : Nat) : Option Nat := (List.range n).reverse.find? (fun k => decide (0 < cAt V g k))
def spPlace (g what : Int32) (W : WS) : Int32 := if inR g W.1.1 then (if what = nI 0 then oI (lstP (bst W.1) W.1.1 (tN g)) else if what = nI 1 then oI (grtP (bst W.1) W.1.1 (tN g)) else if inR (what - nI 10) W.1.1 then nI (cAt (bst W.1) (tN g) (tN (what - nI 10))) else (-2)) else (-1)
def spBefore (x y : Int32) (W : WS) : Int32 := if inR x W.1.1 && inR y W.1.1 then (if x = y then (-2) else nI (cBf (bst W.1) (tN x) (tN y))) else (-1)
def spTogether (S : Int32) (W : WS) : Int32 := if inB S (nI 1) (nI (1 <<< W.1.1 - 1)) then nI ((bst W.1).countP (togM (tN S))) else (-2)
def clB (T : ST) (S : Nat) : Bool := (fewB T.1 T.2.1 T.2.2.1).isSome && decide (S < 1 <<< T.1) && decide (1 < pop S) && (bst T).all (togM S)
def clmp (T : ST) : List Nat := (List.range 256).filter (clB T)
def spClump (i : Int32) (W : WS) : Int32 := if i < (-1) then (-2) else if i = (-1) then nI (clmp W.1).length else (match (clmp W.1)[tN i]? with | none => (-6) | some S => nI S)
def spRow (p : Int32) (W : WS) : Int32 := if inR p W.1.1 then nI (W.1.2.2.2 (tN p)) else (-2)
def spBreaks (what : Int32) (W : WS) : Int32 := if what = nI 0 then nI (brk W.1.2.1 (rw0 W.1)) else if what = nI 1 then nI (al W.1.2.2.1 0 (rw0 W.1)).toNat else if what = nI 2 then nI (isB W.1.1 W.1.2.1 W.1.2.2.1 (rw0 W.1)).toNat else (-2)
def setL (W : WS) (L : Nat → Nat) : WS := ((W.1.1, W.1.2.1, W.1.2.2.1, L), W.2)
def spSwap (k : Int32) (W : WS) : Int32 × WS := if inR k (W.1.1 - 1) then (nI (brk W.1.2.1 (seg (swp W.1.2.2.2 (tN k)) 0 W.1.1)), setL W (swp W.1.2.2.2 (tN k))) else (-2, W)
def bsw (T : ST) : Int32 := beL (fun k => brk T.2.1 (seg (swp T.2.2.2 k) 0 T.1)) 0 (T.1 - 1) (brk T.2.1 (rw0 T)) (-6)
def swI (L : Nat → Nat) (r : Int32) : Nat → Nat := if r < 0 then L else swp L (tN r)
def spBetter (W : WS) : Int32 × WS := (bsw W.1, setL W (swI W.1.2.2.2 (bsw W.1)))
def clF : Nat → WS → Nat × WS
  | 0, W => (0, W)
  | f + 1, W => if (spBetter W).1 < 0 then (0, W) else ((clF f (spBetter W).2).1 + 1, (clF f (spBetter W).2).2)
def spClimb (W : WS) : Int32 × WS := (nI (clF 1000 W).1, (clF 1000 W).2)
def nrst (T : ST) : Option (List Nat) := nrs (stp T.1 T.2.2.2) none (bst T)
def spNearest (p : Int32) (W : WS) : Int32 := if inB p (-1) (nI (W.1.1 - 1)) then (match nrst W.1 with | none => (-6) | some w => if p = (-1) then nI (stp W.1.1 W.1.2.2.2 w) else nI (w.getD (tN p) 0)) else (-2)
def spSettle (W : WS) : Int32 × WS := match nrst W.1 with
  | none => (-3, W)
  | some w => (nI (stp W.1.1 W.1.2.2.2 w), setL W (fun p => if p < W.1.1 then w.getD p 0 else W.1.2.2.2 p))
def spCount (what : Int32) (W : WS) : Int32 := if what = nI 0 then nI W.1.1 else if what = nI 1 then nI (rf (fun s g => s + pop (W.1.2.1 g)) 0 8) else if what = nI 2 then nI (rf (fun s g => s + pop (W.1.2.2.1 g)) 0 8) else if what = nI 3 then nI (W.2.1.1.toNat + 2 * W.2.2.1.toNat) else (-2)
def spImage (k : Int32) (W : WS) : Int32 × WS := if k = nI 0 then (nI 1, (W.1, (true, W.1), W.2.2)) else if k = nI 1 then (nI 1, (W.1, W.2.1, (true, W.1))) else (-2, W)
def spRestore (k : Int32) (W : WS) : Int32 × WS := if k = nI 0 then (if W.2.1.1 then (nI 1, (W.2.1.2, W.2)) else (-3, W)) else if k = nI 1 then (if W.2.2.1 then (nI 1, (W.2.2.2, W.2)) else (-3, W)) else (-2, W)
/-- the reference's rows of a state -/
def stA (T : ST) (i : Nat) : Nat := if i = 0 then T.1 else if i < 9 then T.2.1 (i - 1) else if i < 17 then T.2.2.1 (i - 9) else T.2.2.2 (i - 17)
def MR (J : xMem) (W : WS) : Prop := MSt J W.1.1 W.1.2.1 W.1.2.2.1 W.1.2.2.2 ∧ (J 0 4 = nI 0 ∨ (J 0 4 = nI 1 ∧ J 0 5 = oI (fewB W.1.1 W.1.2.1 W.1.2.2.1))) ∧ J 3 0 = nI W.2.1.1.toNat ∧ J 3 1 = nI W.2.2.1.toNat ∧ (W.2.1.1 = true → ∀ i, i < 25 → J 2 i = nI (stA W.2.1.2 i)) ∧ (W.2.2.1 = true → ∀ i, i < 25 → J 2 (25 + i) = nI (stA W.2.2.2 i))
theorem MSt.idx {J : xMem} {T : ST} : MSt J T.1 T.2.1 T.2.2.1 T.2.2.2 ↔ ∀ i, i < 25 → J 1 i = nI (stA T i) := by
  constructor
  · intro h i hi
    unfold stA
    by_cases e0 : i = 0
    · subst e0; rw [if_pos rfl]; exact h.1
    · rw [if_neg e0]
      by_cases e1 : i < 9
      · rw [if_pos e1]; have := h.2.1 (i - 1) (by omega); rwa [show 1 + (i - 1) = i by omega] at this
      · rw [if_neg e1]
        by_cases e2 : i < 17
        · rw [if_pos e2]; have := h.2.2.1 (i - 9) (by omega); rwa [show 9 + (i - 9) = i by omega] at this
        · rw [if_neg e2]; have := h.2.2.2 (i - 17) (by omega); rwa [show 17 + (i - 17) = i by omega] at this
  · intro h
    refine ⟨h 0 (by decide), fun g hg => ?_, fun g hg => ?_, fun g hg => ?_⟩
    · rw [h (1 + g) (by omega), stA, if_neg (by omega), if_pos (by omega), show 1 + g - 1 = g by omega]
    · rw [h (9 + g) (by omega), stA, if_neg (by omega), if_neg (by omega), if_pos (by omega), show 9 + g - 9 = g by omega]
    · rw [h (17 + g) (by omega), stA, if_neg (by omega), if_neg (by omega), if_neg (by omega), show 17 + g - 17 = g by omega]
theorem MR.base {I J : xMem} {W : WS} (hR : MR I W) (hB : Base I W.1.1 W.1.2.1 W.1.2.2.1 J) : MR J W := by
  obtain ⟨b4, b5, b1, b2, b3⟩ := hB
  refine ⟨hR.1.kept b1, Or.inr ⟨b4, b5⟩, by rw [b3]; exact hR.2.2.1, by rw [b3]; exact hR.2.2.2.1, by rw [b2]; exact hR.2.2.2.2.1, by rw [b2]; exact hR.2.2.2.2.2⟩
/-- only the order changed -/
theorem MR.ord {I J : xMem} {W : WS} (hR : MR I W) (h : ∀ c, c ≠ 4 → J c = I c) : MR J W := by
  unfold MR MSt
  rw [h 0 (by decide), h 1 (by decide), h 2 (by decide), h 3 (by decide)]
  exact hR
/-- the state changed, the images not; nothing is known of the fewest breaks, or they are the same -/
theorem MR.st {I J : xMem} {W : WS} {T : ST} (hR : MR I W) (h1 : MSt J T.1 T.2.1 T.2.2.1 T.2.2.2) (h0 : J 0 4 = nI 0 ∨ (J 0 4 = nI 1 ∧ J 0 5 = oI (fewB T.1 T.2.1 T.2.2.1))) (h2 : J 2 = I 2) (h3 : J 3 = I 3) : MR J (T, W.2) :=
  ⟨h1, h0, by rw [h3]; exact hR.2.2.1, by rw [h3]; exact hR.2.2.2.1, by rw [h2]; exact hR.2.2.2.2.1, by rw [h2]; exact hR.2.2.2.2.2⟩
end
section
/-! the reference: its calls -/
theorem out_ne {x : Int32} {n j : Nat} (h : inR x n = false) (hj : j < n) (hn : n < 2 ^ 31) : ¬ x = nI j := fun e => by
  rw [e, inR_nI hn hj] at h; cases h
theorem nIe {a b : Nat} (ha : a < 2 ^ 31) (hb : b < 2 ^ 31) (h : a ≠ b) : ¬ nI a = nI b := fun e => h ((nI_eq ha hb).mp e)
theorem inB_4 {x : Int32} : inB x (nI 0) (nI 3) = inR x 4 := inB_R (n := 4) (by decide) (by decide)
theorem inB_3 {x : Int32} : inB x (nI 0) (nI 2) = inR x 3 := inB_R (n := 3) (by decide) (by decide)
theorem inB_2 {x : Int32} : inB x (nI 0) (nI 1) = inR x 2 := inB_R (n := 2) (by decide) (by decide)
theorem idx_row {T : ST} (hT : TOk T) {p : Nat} (hp : p < T.1) : (rw0 T).idxOf (T.2.2.2 p) = p := by
  have hlen : (rw0 T).length = T.1 := seg_len _ _ _
  have hat : ∀ q, q < T.1 → (rw0 T)[q]? = some (T.2.2.2 q) := fun q hq => by rw [rw0, seg_at hq, Nat.zero_add]
  have hm : T.2.2.2 p ∈ rw0 T := List.mem_of_getElem? (hat p hp)
  have hl := List.idxOf_lt_length_of_mem hm
  have h2 : (rw0 T)[(rw0 T).idxOf (T.2.2.2 p)]? = some (T.2.2.2 p) := by rw [List.getElem?_eq_getElem hl]; simp
  rw [hat _ (by omega)] at h2
  exact hT.2.2.2.2.2.1 _ _ (by omega) hp (Option.some.inj h2)
/-- every grave lies somewhere -/
theorem row_full {T : ST} (hT : TOk T) {g : Nat} (hg : g < T.1) : ∃ p, p < T.1 ∧ T.2.2.2 p = g := by
  have hnd : (rw0 T).Nodup := by
    rw [rw0, seg]
    refine List.Pairwise.map _ (fun a b (h : a ∈ List.range' 0 T.1 ∧ b ∈ List.range' 0 T.1 ∧ a ≠ b) => ?_) ?_ (R := fun a b => a ∈ List.range' 0 T.1 ∧ b ∈ List.range' 0 T.1 ∧ a ≠ b)
    · intro e
      have h1 := List.mem_range'_1.mp h.1
      have h2 := List.mem_range'_1.mp h.2.1
      exact h.2.2 (hT.2.2.2.2.2.1 a b (by omega) (by omega) e)
    · exact List.Pairwise.imp_of_mem (fun ha hb h => ⟨ha, hb, h⟩) (List.nodup_range' 1 (by decide))
  have key : ∀ (l : List Nat) (m : Nat), l.Nodup → (∀ x ∈ l, x < m) → m ≤ l.length → ∀ g, g < m → g ∈ l := by
    intro l m
    induction m generalizing l with
    | zero => intro _ _ _ g hg; omega
    | succ m ih =>
      intro hn hb hl g hg
      by_cases hmm : m ∈ l
      · by_cases e : g = m
        · subst e; exact hmm
        · have h1 := filter_ne_len hn hmm
          have := ih (l.filter (fun i => i ≠ m)) (List.Pairwise.filter _ hn) (fun x hx => by
            have h2 := List.mem_filter.mp hx
            have h3 := hb x h2.1
            have h4 : x ≠ m := by simpa using h2.2
            omega) (by omega) g (by omega)
          exact (List.mem_filter.mp this).1
      · exfalso
        have : ∀ (l : List Nat) (m : Nat), l.Nodup → (∀ x ∈ l, x < m) → l.length ≤ m := by
          intro l m
          induction m generalizing l with
          | zero => intro _ hb; cases l with
            | nil => simp
            | cons x l => have := hb x List.mem_cons_self; omega
          | succ m ih2 =>
            intro hn hb
            by_cases hm : m ∈ l
            · have h1 := filter_ne_len hn hm
              have := ih2 (l.filter (fun i => i ≠ m)) (List.Pairwise.filter _ hn) (fun x hx => by
                have h2 := List.mem_filter.mp hx
                have h3 := hb x h2.1
                have h4 : x ≠ m := by simpa using h2.2
                omega)
              omega
            · have := ih2 l hn (fun x hx => by have := hb x hx; have : x ≠ m := fun e => hm (e ▸ hx); omega)
              omega
        have := this l m hn (fun x hx => by have := hb x hx; have : x ≠ m := fun e => hmm (e ▸ hx); omega)
        omega
  have hm := key (rw0 T) T.1 hnd (fun x hx => by
    obtain ⟨i, hi, rfl⟩ := seg_mem.mp hx
    rw [Nat.zero_add]; exact hT.2.2.2.2.1 i hi) (by rw [rw0, seg_len]; exact Nat.le_refl _) g hg
  obtain ⟨i, hi, e⟩ := seg_mem.mp hm
  exact ⟨i, hi, by rw [e, Nat.zero_add]⟩
section MP
variable {I : xMem} {W : WS}
theorem m_least (hW : WOk W) (hR : MR I W) : Cx LM yX6_least mX6_least 8 [.ref 0] I (xRi (fun r J => r = spLeast W ∧ MR J W)) := by
  obtain ⟨⟨n, h, a, L⟩, im⟩ := W
  have h1 : 1 ≤ n := hW.1.1
  have hn : n ≤ 8 := hW.1.2.1
  have hh : ∀ g, h g < 1024 := hW.1.2.2.1
  have ha : ∀ g, a g < 256 := hW.1.2.2.2.1
  have hL : ∀ p, p < n → L p < n := hW.1.2.2.2.2.1
  have hinj : ∀ p q, p < n → q < n → L p = L q → p = q := hW.1.2.2.2.2.2.1
  have hL8 : ∀ p, p < 8 → L p < 8 := hW.1.2.2.2.2.2.2
  have hM : MSt I n h a L := hR.1
  have hF : I 0 4 = nI 0 ∨ (I 0 4 = nI 1 ∧ I 0 5 = oI (fewB n h a)) := hR.2.1
  refine Cx.of [.ref 0] (by decide) rfl rfl (Nat.le_of_ble_eq_true rfl) rfl ?_
  refine x_aload_n dX6_least_0 rfl ?_
  refine x_callVv 5 ml_X6_104 in_X6_layFewest se_X6_layFewest ct_X6_layFewest rfl (c_layFewest (d := 3) (by decide) h1 hn hh ha hM hF) dX6_least_1 (by decide) rfl rfl rfl rfl (Nat.le_of_ble_eq_true rfl) (fun J0 h0 => ?_)
  obtain ⟨f4, f5, f0, ff⟩ := h0
  refine x_aload_n dX6_least_4 rfl ?_
  refine x_getI 5 5 (v := oI (fewB n h a)) rfl (by decide) fl_X6_87 dX6_least_5 rfl rfl rfl f5 ?_
  refine x_ireti dX6_least_8 rfl ⟨rfl, hR.base ⟨f4, f5, ff 1 (by decide) (by decide), ff 2 (by decide) (by decide), ff 3 (by decide) (by decide)⟩⟩
theorem m_best (hW : WOk W) (hR : MR I W) : Cx LM yX6_best mX6_best 8 [.ref 0] I (xRi (fun r J => r = spBest W ∧ MR J W)) := by
  obtain ⟨⟨n, h, a, L⟩, im⟩ := W
  have h1 : 1 ≤ n := hW.1.1
  have hn : n ≤ 8 := hW.1.2.1
  have hh : ∀ g, h g < 1024 := hW.1.2.2.1
  have ha : ∀ g, a g < 256 := hW.1.2.2.2.1
  have hL : ∀ p, p < n → L p < n := hW.1.2.2.2.2.1
  have hinj : ∀ p q, p < n → q < n → L p = L q → p = q := hW.1.2.2.2.2.2.1
  have hL8 : ∀ p, p < 8 → L p < 8 := hW.1.2.2.2.2.2.2
  have hM : MSt I n h a L := hR.1
  have hF : I 0 4 = nI 0 ∨ (I 0 4 = nI 1 ∧ I 0 5 = oI (fewB n h a)) := hR.2.1
  refine Cx.of [.ref 0] (by decide) rfl rfl (Nat.le_of_ble_eq_true rfl) rfl ?_
  refine x_aload_n dX6_best_0 rfl ?_
  refine x_iconst dX6_best_1 ic_0 ?_
  refine x_callVv 5 ml_X6_132 in_X6_lookAtAll se_X6_lookAtAll ct_X6_lookAtAll rfl (c_lookAtAll (d := 4) (x := nI 0) (by decide) h1 hn hh ha hL hM hF) dX6_best_2 (by decide) rfl rfl rfl rfl (Nat.le_of_ble_eq_true rfl) (fun J0 h0 => ?_)
  obtain ⟨q1, q2⟩ := h0
  refine x_aload_n dX6_best_5 rfl ?_
  refine x_getI 5 6 (v := nI (bests n h a).length) rfl (by decide) fl_X6_107 dX6_best_6 rfl rfl rfl q1.1 ?_
  refine x_ireti dX6_best_9 rfl ⟨rfl, hR.base q2⟩
theorem m_row {p : Int32} (hW : WOk W) (hR : MR I W) : Cx LM yX6_row mX6_row 8 [.ref 0, .int p] I (xRi (fun r J => r = spRow p W ∧ MR J W)) := by
  obtain ⟨⟨n, h, a, L⟩, im⟩ := W
  have h1 : 1 ≤ n := hW.1.1
  have hn : n ≤ 8 := hW.1.2.1
  have hh : ∀ g, h g < 1024 := hW.1.2.2.1
  have ha : ∀ g, a g < 256 := hW.1.2.2.2.1
  have hL : ∀ p, p < n → L p < n := hW.1.2.2.2.2.1
  have hinj : ∀ p q, p < n → q < n → L p = L q → p = q := hW.1.2.2.2.2.2.1
  have hL8 : ∀ p, p < 8 → L p < 8 := hW.1.2.2.2.2.2.2
  have hM : MSt I n h a L := hR.1
  have hF : I 0 4 = nI 0 ∨ (I 0 4 = nI 1 ∧ I 0 5 = oI (fewB n h a)) := hR.2.1
  refine Cx.of [.ref 0, .int p] (by decide) rfl rfl (Nat.le_of_ble_eq_true rfl) rfl ?_
  refine x_iload_n dX6_row_0 rfl ?_
  refine x_iconst dX6_row_1 ic_0 ?_
  refine x_aload_n dX6_row_2 rfl ?_
  refine x_getR 5 0 rfl (by decide) fl_X6_7 dX6_row_3 rfl rfl rfl ?_
  refine x_iconst dX6_row_6 ic_0 ?_
  refine x_iald (p := 0) (v := nI n) dX6_row_7 rfl rfl rfl rfl (by omega) hM.1 ?_
  refine x_iconst dX6_row_8 ic_1 ?_
  refine x_isub (v := nI (n - 1)) dX6_row_9 (pk_sub (by omega)) ?_
  refine x_callSi (as := [.int p, .int (nI 0), .int (nI (n - 1))]) ml_X6_50 st_X6_in ct_X6_in (c_in (d := 0)) dX6_row_10 (by decide) rfl rfl (Nat.le_of_ble_eq_true rfl) (fun r0 J0 h0 => ?_)
  obtain ⟨rfl, hJ0⟩ := h0
  obtain rfl := hJ0.symm
  rw [inB_R h1 (by omega)]
  refine x_ifb_eq (b := inR p n) (tgt := 28) dX6_row_13 rfl (fun c => ?_) (fun c => ?_)
  ·
    refine x_bipush dX6_row_28 bp_m2 ?_
    refine x_ireti dX6_row_30 rfl ⟨(if_neg (by rw [c]; decide)).symm, hR⟩
  ·
    obtain ⟨j, hj, rfl⟩ := inR_of c
    refine x_aload_n dX6_row_16 rfl ?_
    refine x_getR 5 0 rfl (by decide) fl_X6_7 dX6_row_17 rfl rfl rfl ?_
    refine x_bipush dX6_row_20 bp_17 ?_
    refine x_iload_n dX6_row_22 rfl ?_
    refine x_iadd (v := nI (17 + j)) dX6_row_23 (nI_add _ _) ?_
    refine x_iald (p := 17 + j) (v := nI (L j)) dX6_row_24 rfl rfl rfl rfl (by omega) (hM.2.2.2 j (by omega)) ?_
    refine x_goto (tgt := 30) dX6_row_25 rfl ?_
    refine x_ireti dX6_row_30 rfl ⟨by rw [spRow]; dsimp only; rw [if_pos c, tN_nI (by omega)], hR⟩
theorem m_alike {x y : Int32} (hW : WOk W) (hR : MR I W) : Cx LM yX6_alike mX6_alike 8 [.ref 0, .int x, .int y] I (xRi (fun r J => r = spAlike x y W ∧ MR J W)) := by
  obtain ⟨⟨n, h, a, L⟩, im⟩ := W
  have h1 : 1 ≤ n := hW.1.1
  have hn : n ≤ 8 := hW.1.2.1
  have hh : ∀ g, h g < 1024 := hW.1.2.2.1
  have ha : ∀ g, a g < 256 := hW.1.2.2.2.1
  have hL : ∀ p, p < n → L p < n := hW.1.2.2.2.2.1
  have hinj : ∀ p q, p < n → q < n → L p = L q → p = q := hW.1.2.2.2.2.2.1
  have hL8 : ∀ p, p < 8 → L p < 8 := hW.1.2.2.2.2.2.2
  have hM : MSt I n h a L := hR.1
  have hF : I 0 4 = nI 0 ∨ (I 0 4 = nI 1 ∧ I 0 5 = oI (fewB n h a)) := hR.2.1
  refine Cx.of [.ref 0, .int x, .int y] (by decide) rfl rfl (Nat.le_of_ble_eq_true rfl) rfl ?_
  refine x_aload_n dX6_alike_0 rfl ?_
  refine x_iload_n dX6_alike_1 rfl ?_
  refine x_callVi 5 ml_X6_58 in_X6_isGrave se_X6_isGrave ct_X6_isGrave rfl (cm_isGrave (d := 1) (by decide) h1 hn hM.1) dX6_alike_2 (by decide) rfl rfl rfl rfl (Nat.le_of_ble_eq_true rfl) (fun r0 J0 h0 => ?_)
  obtain ⟨rfl, hJ0⟩ := h0
  obtain rfl := hJ0.symm
  refine x_ifb_eq (b := inR x n) (tgt := 39) dX6_alike_5 rfl (fun c => ?_) (fun c => ?_)
  ·
    refine x_iconst dX6_alike_39 ic_m1 ?_
    refine x_ireti dX6_alike_40 rfl ⟨by rw [spAlike]; dsimp only; rw [c]; rfl, hR⟩
  ·
    obtain ⟨j, hj, rfl⟩ := inR_of c
    refine x_aload_n dX6_alike_8 rfl ?_
    refine x_iload_n dX6_alike_9 rfl ?_
    refine x_callVi 5 ml_X6_58 in_X6_isGrave se_X6_isGrave ct_X6_isGrave rfl (cm_isGrave (d := 1) (by decide) h1 hn hM.1) dX6_alike_10 (by decide) rfl rfl rfl rfl (Nat.le_of_ble_eq_true rfl) (fun r0 J0 h0 => ?_)
    obtain ⟨rfl, hJ0⟩ := h0
    obtain rfl := hJ0.symm
    refine x_ifb_eq (b := inR y n) (tgt := 39) dX6_alike_13 rfl (fun c2 => ?_) (fun c2 => ?_)
    ·
      refine x_iconst dX6_alike_39 ic_m1 ?_
      refine x_ireti dX6_alike_40 rfl ⟨by rw [spAlike]; dsimp only; rw [c, c2]; rfl, hR⟩
    ·
      obtain ⟨k, hk, rfl⟩ := inR_of c2
      refine x_aload_n dX6_alike_16 rfl ?_
      refine x_getR 5 0 rfl (by decide) fl_X6_7 dX6_alike_17 rfl rfl rfl ?_
      refine x_iconst dX6_alike_20 ic_1 ?_
      refine x_iload_n dX6_alike_21 rfl ?_
      refine x_iadd (v := nI (1 + j)) dX6_alike_22 (nI_add _ _) ?_
      refine x_iald (p := 1 + j) (v := nI (h j)) dX6_alike_23 rfl rfl rfl rfl (by omega) (hM.2.1 j (by omega)) ?_
      refine x_aload_n dX6_alike_24 rfl ?_
      refine x_getR 5 0 rfl (by decide) fl_X6_7 dX6_alike_25 rfl rfl rfl ?_
      refine x_iconst dX6_alike_28 ic_1 ?_
      refine x_iload_n dX6_alike_29 rfl ?_
      refine x_iadd (v := nI (1 + k)) dX6_alike_30 (nI_add _ _) ?_
      refine x_iald (p := 1 + k) (v := nI (h k)) dX6_alike_31 rfl rfl rfl rfl (by omega) (hM.2.1 k (by omega)) ?_
      refine x_iand (v := nI ((h j) &&& (h k))) dX6_alike_32 (nI_and _ _) ?_
      refine x_callSi (as := [.int (nI ((h j) &&& (h k)))]) ml_X6_65 st_X6_bits ct_X6_bits (c_bits (d := 0) (by have := and_lt1024 (s := h k) (hh j); omega)) dX6_alike_33 (by decide) rfl rfl (Nat.le_of_ble_eq_true rfl) (fun r0 J0 h0 => ?_)
      obtain ⟨rfl, hJ0⟩ := h0
      obtain rfl := hJ0.symm
      refine x_goto (tgt := 40) dX6_alike_36 rfl ?_
      refine x_ireti dX6_alike_40 rfl ⟨by rw [spAlike]; dsimp only; rw [c, c2, tN_nI (by omega), tN_nI (by omega)]; rfl, hR⟩
theorem m_grave {g what : Int32} (hW : WOk W) (hR : MR I W) : Cx LM yX6_grave mX6_grave 8 [.ref 0, .int g, .int what] I (xRi (fun r J => r = spGrave g what W ∧ MR J W)) := by
  obtain ⟨⟨n, h, a, L⟩, im⟩ := W
  have h1 : 1 ≤ n := hW.1.1
  have hn : n ≤ 8 := hW.1.2.1
  have hh : ∀ g, h g < 1024 := hW.1.2.2.1
  have ha : ∀ g, a g < 256 := hW.1.2.2.2.1
  have hL : ∀ p, p < n → L p < n := hW.1.2.2.2.2.1
  have hinj : ∀ p q, p < n → q < n → L p = L q → p = q := hW.1.2.2.2.2.2.1
  have hL8 : ∀ p, p < 8 → L p < 8 := hW.1.2.2.2.2.2.2
  have hM : MSt I n h a L := hR.1
  have hF : I 0 4 = nI 0 ∨ (I 0 4 = nI 1 ∧ I 0 5 = oI (fewB n h a)) := hR.2.1
  refine Cx.of [.ref 0, .int g, .int what, .null, .null] (by decide) rfl rfl (Nat.le_of_ble_eq_true rfl) rfl ?_
  refine x_aload_n dX6_grave_0 rfl ?_
  refine x_iload_n dX6_grave_1 rfl ?_
  refine x_callVi 5 ml_X6_58 in_X6_isGrave se_X6_isGrave ct_X6_isGrave rfl (cm_isGrave (d := 1) (by decide) h1 hn hM.1) dX6_grave_2 (by decide) rfl rfl rfl rfl (Nat.le_of_ble_eq_true rfl) (fun r0 J0 h0 => ?_)
  obtain ⟨rfl, hJ0⟩ := h0
  obtain rfl := hJ0.symm
  refine x_ifb_ne (b := inR g n) (tgt := 10) dX6_grave_5 rfl (fun c => ?_) (fun c => ?_)
  ·
    obtain ⟨j, hj, rfl⟩ := inR_of c
    refine x_iload_n dX6_grave_10 rfl ?_
    refine x_iconst dX6_grave_11 ic_0 ?_
    refine x_iconst dX6_grave_12 ic_3 ?_
    refine x_callSi (as := [.int what, .int (nI 0), .int (nI 3)]) ml_X6_50 st_X6_in ct_X6_in (c_in (d := 0)) dX6_grave_13 (by decide) rfl rfl (Nat.le_of_ble_eq_true rfl) (fun r0 J0 h0 => ?_)
    obtain ⟨rfl, hJ0⟩ := h0
    obtain rfl := hJ0.symm
    rw [inB_4]
    refine x_ifb_ne (b := inR what 4) (tgt := 22) dX6_grave_16 rfl (fun c2 => ?_) (fun c2 => ?_)
    ·
      obtain ⟨q, hq, rfl⟩ := inR_of c2
      have fin : ∀ v4, Wx LM mX6_grave 8 (xRi (fun r J => r = spGrave (nI j) (nI q) ((n, h, a, L), im) ∧ MR J ((n, h, a, L), im))) 72 [.ref 0, .int (nI j), .int (nI q), .int (nI (erl a j n)), v4] [] I := by
        intro v4
        obtain ⟨p0, hp0, ep0⟩ := row_full hW.1 (g := j) hj
        have ep0 : L p0 = j := ep0
        have hpl : plOf (n, h, a, L) j = p0 := by rw [← ep0]; exact idx_row hW.1 hp0
        refine x_iload_n dX6_grave_72 rfl ?_
        refine x_ifn_ne (a := q) (by omega) (tgt := 87) dX6_grave_73 rfl (fun d1 => ?_) (fun d1 => ?_)
        ·
          refine x_iload_n dX6_grave_87 rfl ?_
          refine x_iconst dX6_grave_88 ic_1 ?_
          refine x_icmpn_ne (a := q) (b := 1) (by omega) (by omega) (tgt := 104) dX6_grave_89 rfl (fun d2 => ?_) (fun d2 => ?_)
          ·
            refine x_iload_n dX6_grave_104 rfl ?_
            refine x_iconst dX6_grave_105 ic_2 ?_
            refine x_icmpn_ne (a := q) (b := 2) (by omega) (by omega) (tgt := 113) dX6_grave_106 rfl (fun d3 => ?_) (fun d3 => ?_)
            ·
              refine x_aload_n dX6_grave_113 rfl ?_
              refine x_iload_n dX6_grave_114 rfl ?_
              refine x_callVi 5 ml_X6_77 in_X6_placeInRow se_X6_placeInRow ct_X6_placeInRow rfl (c_placeInRow (d := 0) (p0 := p0) hp0 (by omega) hL8 (fun p hp => ⟨fun e => hinj p p0 hp hp0 (by rw [e, ep0]), fun e => by rw [e, ep0]⟩) hM hn) dX6_grave_115 (by decide) rfl rfl rfl rfl (Nat.le_of_ble_eq_true rfl) (fun r0 J0 h0 => ?_)
              obtain ⟨rfl, hJ0⟩ := h0
              obtain rfl := hJ0.symm
              refine x_ireti dX6_grave_118 rfl ⟨by rw [spGrave]; dsimp only; rw [c, if_pos rfl, if_neg (nIe (by omega) (by omega) d1), if_neg (nIe (by omega) (by omega) d2), if_neg (nIe (by omega) (by omega) d3), show q = 3 by omega, if_pos rfl, tN_nI (by omega), hpl], hR⟩
            ·
              refine x_iload_n dX6_grave_109 rfl ?_
              refine x_goto (tgt := 118) dX6_grave_110 rfl ?_
              refine x_ireti dX6_grave_118 rfl ⟨by rw [spGrave]; dsimp only; rw [c, if_pos rfl, if_neg (nIe (by omega) (by omega) d1), if_neg (nIe (by omega) (by omega) d2), d3, if_pos rfl, tN_nI (by omega)], hR⟩
          ·
            refine x_aload_n dX6_grave_92 rfl ?_
            refine x_getR 5 0 rfl (by decide) fl_X6_7 dX6_grave_93 rfl rfl rfl ?_
            refine x_bipush dX6_grave_96 bp_9 ?_
            refine x_iload_n dX6_grave_98 rfl ?_
            refine x_iadd (v := nI (9 + j)) dX6_grave_99 (nI_add _ _) ?_
            refine x_iald (p := 9 + j) (v := nI (a j)) dX6_grave_100 rfl rfl rfl rfl (by omega) (hM.2.2.1 j (by omega)) ?_
            refine x_goto (tgt := 118) dX6_grave_101 rfl ?_
            refine x_ireti dX6_grave_118 rfl ⟨by rw [spGrave]; dsimp only; rw [c, if_pos rfl, if_neg (nIe (by omega) (by omega) d1), d2, if_pos rfl, tN_nI (by omega)], hR⟩
        ·
          refine x_aload_n dX6_grave_76 rfl ?_
          refine x_getR 5 0 rfl (by decide) fl_X6_7 dX6_grave_77 rfl rfl rfl ?_
          refine x_iconst dX6_grave_80 ic_1 ?_
          refine x_iload_n dX6_grave_81 rfl ?_
          refine x_iadd (v := nI (1 + j)) dX6_grave_82 (nI_add _ _) ?_
          refine x_iald (p := 1 + j) (v := nI (h j)) dX6_grave_83 rfl rfl rfl rfl (by omega) (hM.2.1 j (by omega)) ?_
          refine x_goto (tgt := 118) dX6_grave_84 rfl ?_
          refine x_ireti dX6_grave_118 rfl ⟨by rw [spGrave]; dsimp only; rw [c, if_pos rfl, d1, if_pos rfl, tN_nI (by omega)], hR⟩
      have lp : ∀ (k g : Nat), g + k = n → Wx LM mX6_grave 8 (xRi (fun r J => r = spGrave (nI j) (nI q) ((n, h, a, L), im) ∧ MR J ((n, h, a, L), im))) 27 [.ref 0, .int (nI j), .int (nI q), .int (nI (erl a j g)), .int (nI g)] [] I := by
        intro k
        induction k with
        | zero =>
          intro g hg
          have e : g = n := by omega
          subst e
          refine x_iload dX6_grave_27 rfl ?_
          refine x_aload_n dX6_grave_29 rfl ?_
          refine x_getR 5 0 rfl (by decide) fl_X6_7 dX6_grave_30 rfl rfl rfl ?_
          refine x_iconst dX6_grave_33 ic_0 ?_
          refine x_iald (p := 0) (v := nI g) dX6_grave_34 rfl rfl rfl rfl (by omega) hM.1 ?_
          refine x_icmpn_ge (a := g) (b := g) (by omega) (by omega) (tgt := 72) dX6_grave_35 rfl (fun e1 => ?_) (fun e1 => ?_)
          ·
            exact fin _
          ·
            omega
        | succ k ih =>
          intro g hg
          have hb := ha g
          refine x_iload dX6_grave_27 rfl ?_
          refine x_aload_n dX6_grave_29 rfl ?_
          refine x_getR 5 0 rfl (by decide) fl_X6_7 dX6_grave_30 rfl rfl rfl ?_
          refine x_iconst dX6_grave_33 ic_0 ?_
          refine x_iald (p := 0) (v := nI n) dX6_grave_34 rfl rfl rfl rfl (by omega) hM.1 ?_
          refine x_icmpn_ge (a := g) (b := n) (by omega) (by omega) (tgt := 72) dX6_grave_35 rfl (fun e1 => ?_) (fun e1 => ?_)
          ·
            omega
          ·
            refine x_iload_n dX6_grave_38 rfl ?_
            refine x_aload_n dX6_grave_39 rfl ?_
            refine x_getR 5 0 rfl (by decide) fl_X6_7 dX6_grave_40 rfl rfl rfl ?_
            refine x_bipush dX6_grave_43 bp_9 ?_
            refine x_iload dX6_grave_45 rfl ?_
            refine x_iadd (v := nI (9 + g)) dX6_grave_47 (nI_add _ _) ?_
            refine x_iald (p := 9 + g) (v := nI (a g)) dX6_grave_48 rfl rfl rfl rfl (by omega) (hM.2.2.1 g (by omega)) ?_
            refine x_iload_n dX6_grave_49 rfl ?_
            refine x_callSi (as := [.int (nI (a g)), .int (nI j)]) ml_X6_73 st_X6_has ct_X6_has (c_has (d := 0) (by omega) (by omega)) dX6_grave_50 (by decide) rfl rfl (Nat.le_of_ble_eq_true rfl) (fun r0 J0 h0 => ?_)
            obtain ⟨rfl, hJ0⟩ := h0
            obtain rfl := hJ0.symm
            refine x_ifb_eq (b := (a g).testBit j) (tgt := 63) dX6_grave_53 rfl (fun e2 => ?_) (fun e2 => ?_)
            ·
              refine x_iconst dX6_grave_63 ic_0 ?_
              refine x_ior (v := nI ((erl a j g) ||| 0)) dX6_grave_64 (nI_or _ _) ?_
              refine x_istore_n (ls' := [.ref 0, .int (nI j), .int (nI q), .int (nI ((erl a j g) ||| 0)), .int (nI g)]) dX6_grave_65 rfl rfl ?_
              refine x_iinc (v := nI (g + 1)) (ls' := [.ref 0, .int (nI j), .int (nI q), .int (nI ((erl a j g) ||| 0)), .int (nI (g + 1))]) dX6_grave_66 rfl (inc_1 _) rfl rfl ?_
              refine x_goto (tgt := 27) dX6_grave_69 rfl ?_
              have e : erl a j (g + 1) = erl a j g ||| 0 := by simp [erl, e2]
              rw [← e]
              exact ih (g + 1) (by omega)
            ·
              refine x_iconst dX6_grave_56 ic_1 ?_
              refine x_iload dX6_grave_57 rfl ?_
              refine x_ishl (v := nI (1 <<< g)) dX6_grave_59 (nI_shl _ (by omega)) ?_
              refine x_goto (tgt := 64) dX6_grave_60 rfl ?_
              refine x_ior (v := nI ((erl a j g) ||| (1 <<< g))) dX6_grave_64 (nI_or _ _) ?_
              refine x_istore_n (ls' := [.ref 0, .int (nI j), .int (nI q), .int (nI ((erl a j g) ||| (1 <<< g))), .int (nI g)]) dX6_grave_65 rfl rfl ?_
              refine x_iinc (v := nI (g + 1)) (ls' := [.ref 0, .int (nI j), .int (nI q), .int (nI ((erl a j g) ||| (1 <<< g))), .int (nI (g + 1))]) dX6_grave_66 rfl (inc_1 _) rfl rfl ?_
              refine x_goto (tgt := 27) dX6_grave_69 rfl ?_
              have e : erl a j (g + 1) = erl a j g ||| 1 <<< g := by simp [erl, e2]
              rw [← e]
              exact ih (g + 1) (by omega)
      refine x_iconst dX6_grave_22 ic_0 ?_
      refine x_istore_n (ls' := [.ref 0, .int (nI j), .int (nI q), .int (nI 0), .null]) dX6_grave_23 rfl rfl ?_
      refine x_iconst dX6_grave_24 ic_0 ?_
      refine x_istore (ls' := [.ref 0, .int (nI j), .int (nI q), .int (nI 0), .int (nI 0)]) dX6_grave_25 rfl rfl ?_
      exact lp n 0 (by omega)
    ·
      refine x_bipush dX6_grave_19 bp_m2 ?_
      refine x_ireti dX6_grave_21 rfl ⟨by rw [spGrave]; dsimp only; rw [c, if_pos rfl, if_neg (out_ne c2 (by decide) (by decide)), if_neg (out_ne c2 (by decide) (by decide)), if_neg (out_ne c2 (by decide) (by decide)), if_neg (out_ne c2 (by decide) (by decide))], hR⟩
  ·
    refine x_iconst dX6_grave_8 ic_m1 ?_
    refine x_ireti dX6_grave_9 rfl ⟨by rw [spGrave]; dsimp only; rw [c]; rfl, hR⟩
end MP
end
section
/-! the reference: its calls, on -/
section MP
variable {I : xMem} {W : WS}
theorem m_order {i p : Int32} (hW : WOk W) (hR : MR I W) : Cx LM yX6_order mX6_order 8 [.ref 0, .int i, .int p] I (xRi (fun r J => r = spOrder i p W ∧ MR J W)) := by
  obtain ⟨⟨n, h, a, L⟩, im⟩ := W
  have h1 : 1 ≤ n := hW.1.1
  have hn : n ≤ 8 := hW.1.2.1
  have hh : ∀ g, h g < 1024 := hW.1.2.2.1
  have ha : ∀ g, a g < 256 := hW.1.2.2.2.1
  have hL : ∀ p, p < n → L p < n := hW.1.2.2.2.2.1
  have hinj : ∀ p q, p < n → q < n → L p = L q → p = q := hW.1.2.2.2.2.2.1
  have hL8 : ∀ p, p < 8 → L p < 8 := hW.1.2.2.2.2.2.2
  have hM : MSt I n h a L := hR.1
  have hF : I 0 4 = nI 0 ∨ (I 0 4 = nI 1 ∧ I 0 5 = oI (fewB n h a)) := hR.2.1
  refine Cx.of [.ref 0, .int i, .int p] (by decide) rfl rfl (Nat.le_of_ble_eq_true rfl) rfl ?_
  refine x_iload_n dX6_order_0 rfl ?_
  refine x_if_lt (tgt := 20) dX6_order_1 rfl (fun c => ?_) (fun c => ?_)
  ·
    refine x_bipush dX6_order_20 bp_m2 ?_
    refine x_ireti dX6_order_22 rfl ⟨by rw [spOrder, if_neg (fun e => e.1 c)], hR⟩
  ·
    refine x_iload_n dX6_order_4 rfl ?_
    refine x_iconst dX6_order_5 ic_0 ?_
    refine x_aload_n dX6_order_6 rfl ?_
    refine x_getR 5 0 rfl (by decide) fl_X6_7 dX6_order_7 rfl rfl rfl ?_
    refine x_iconst dX6_order_10 ic_0 ?_
    refine x_iald (p := 0) (v := nI n) dX6_order_11 rfl rfl rfl rfl (by omega) hM.1 ?_
    refine x_iconst dX6_order_12 ic_1 ?_
    refine x_isub (v := nI (n - 1)) dX6_order_13 (pk_sub (by omega)) ?_
    refine x_callSi (as := [.int p, .int (nI 0), .int (nI (n - 1))]) ml_X6_50 st_X6_in ct_X6_in (c_in (d := 0)) dX6_order_14 (by decide) rfl rfl (Nat.le_of_ble_eq_true rfl) (fun r0 J0 h0 => ?_)
    obtain ⟨rfl, hJ0⟩ := h0
    obtain rfl := hJ0.symm
    rw [inB_R h1 (by omega)]
    refine x_ifb_ne (b := inR p n) (tgt := 23) dX6_order_17 rfl (fun c2 => ?_) (fun c2 => ?_)
    ·
      obtain ⟨q, hq, rfl⟩ := inR_of c2
      obtain ⟨k, hk, rfl⟩ := nI_of c
      have hlen : (bests n h a).length ≤ 16777216 := Nat.le_trans (List.length_filter_le _ _) (perms_len hn)
      refine x_aload_n dX6_order_23 rfl ?_
      refine x_iload_n dX6_order_24 rfl ?_
      refine x_callVv 5 ml_X6_132 in_X6_lookAtAll se_X6_lookAtAll ct_X6_lookAtAll rfl (c_lookAtAll (d := 4) (x := nI k) (by decide) h1 hn hh ha hL hM hF) dX6_order_25 (by decide) rfl rfl rfl rfl (Nat.le_of_ble_eq_true rfl) (fun J0 h0 => ?_)
      obtain ⟨q1, q2⟩ := h0
      refine x_iload_n dX6_order_28 rfl ?_
      refine x_aload_n dX6_order_29 rfl ?_
      refine x_getI 5 6 (v := nI ((bests n h a).length)) rfl (by decide) fl_X6_107 dX6_order_30 rfl rfl rfl q1.1 ?_
      refine x_icmpn_ge (a := k) (b := (bests n h a).length) (by omega) (by omega) (tgt := 45) dX6_order_33 rfl (fun c3 => ?_) (fun c3 => ?_)
      ·
        refine x_bipush dX6_order_45 bp_m6 ?_
        refine x_ireti dX6_order_47 rfl ⟨?_, hR.base q2⟩
        rw [spOrder, if_pos ⟨c, c2⟩, tN_nI hk, bst]
        dsimp only
        rw [List.getElem?_eq_none c3]
      ·
        have hg := List.getElem?_eq_getElem c3
        refine x_aload_n dX6_order_36 rfl ?_
        refine x_getR 5 8 rfl (by decide) fl_X6_23 dX6_order_37 rfl rfl rfl ?_
        refine x_iload_n dX6_order_40 rfl ?_
        refine x_iald (p := q) (v := nI (((bests n h a)[k]).getD q 0)) dX6_order_41 rfl rfl rfl rfl (by omega) (q1.2.2.2.2.1 k _ hg rfl q hq) ?_
        refine x_goto (tgt := 47) dX6_order_42 rfl ?_
        refine x_ireti dX6_order_47 rfl ⟨?_, hR.base q2⟩
        rw [spOrder, if_pos ⟨c, c2⟩, tN_nI hk, tN_nI (by omega), bst]
        dsimp only
        rw [hg]
    ·
      refine x_bipush dX6_order_20 bp_m2 ?_
      refine x_ireti dX6_order_22 rfl ⟨by rw [spOrder, if_neg (fun e => by have := e.2; dsimp only at this; rw [c2] at this; cases this)], hR⟩
theorem m_beside {g what : Int32} (hW : WOk W) (hR : MR I W) : Cx LM yX6_beside mX6_beside 8 [.ref 0, .int g, .int what] I (xRi (fun r J => r = spBeside g what W ∧ MR J W)) := by
  obtain ⟨⟨n, h, a, L⟩, im⟩ := W
  have h1 : 1 ≤ n := hW.1.1
  have hn : n ≤ 8 := hW.1.2.1
  have hh : ∀ g, h g < 1024 := hW.1.2.2.1
  have ha : ∀ g, a g < 256 := hW.1.2.2.2.1
  have hL : ∀ p, p < n → L p < n := hW.1.2.2.2.2.1
  have hinj : ∀ p q, p < n → q < n → L p = L q → p = q := hW.1.2.2.2.2.2.1
  have hL8 : ∀ p, p < 8 → L p < 8 := hW.1.2.2.2.2.2.2
  have hM : MSt I n h a L := hR.1
  have hF : I 0 4 = nI 0 ∨ (I 0 4 = nI 1 ∧ I 0 5 = oI (fewB n h a)) := hR.2.1
  refine Cx.of [.ref 0, .int g, .int what] (by decide) rfl rfl (Nat.le_of_ble_eq_true rfl) rfl ?_
  refine x_aload_n dX6_beside_0 rfl ?_
  refine x_iload_n dX6_beside_1 rfl ?_
  refine x_callVi 5 ml_X6_58 in_X6_isGrave se_X6_isGrave ct_X6_isGrave rfl (cm_isGrave (d := 1) (by decide) h1 hn hM.1) dX6_beside_2 (by decide) rfl rfl rfl rfl (Nat.le_of_ble_eq_true rfl) (fun r0 J0 h0 => ?_)
  obtain ⟨rfl, hJ0⟩ := h0
  obtain rfl := hJ0.symm
  refine x_ifb_ne (b := inR g n) (tgt := 10) dX6_beside_5 rfl (fun c => ?_) (fun c => ?_)
  ·
    obtain ⟨j, hj, rfl⟩ := inR_of c
    refine x_iload_n dX6_beside_10 rfl ?_
    refine x_iconst dX6_beside_11 ic_0 ?_
    refine x_iconst dX6_beside_12 ic_1 ?_
    refine x_callSi (as := [.int what, .int (nI 0), .int (nI 1)]) ml_X6_50 st_X6_in ct_X6_in (c_in (d := 0)) dX6_beside_13 (by decide) rfl rfl (Nat.le_of_ble_eq_true rfl) (fun r0 J0 h0 => ?_)
    obtain ⟨rfl, hJ0⟩ := h0
    obtain rfl := hJ0.symm
    rw [inB_2]
    refine x_ifb_ne (b := inR what 2) (tgt := 22) dX6_beside_16 rfl (fun c2 => ?_) (fun c2 => ?_)
    ·
      obtain ⟨q, hq, rfl⟩ := inR_of c2
      refine x_aload_n dX6_beside_22 rfl ?_
      refine x_iconst dX6_beside_23 ic_0 ?_
      refine x_callVv 5 ml_X6_132 in_X6_lookAtAll se_X6_lookAtAll ct_X6_lookAtAll rfl (c_lookAtAll (d := 4) (x := nI 0) (by decide) h1 hn hh ha hL hM hF) dX6_beside_24 (by decide) rfl rfl rfl rfl (Nat.le_of_ble_eq_true rfl) (fun J0 h0 => ?_)
      obtain ⟨q1, q2⟩ := h0
      refine x_iload_n dX6_beside_27 rfl ?_
      refine x_ifn_ne (a := q) (by omega) (tgt := 40) dX6_beside_28 rfl (fun c3 => ?_) (fun c3 => ?_)
      ·
        refine x_aload_n dX6_beside_40 rfl ?_
        refine x_getR 5 12 rfl (by decide) fl_X6_35 dX6_beside_41 rfl rfl rfl ?_
        refine x_iload_n dX6_beside_44 rfl ?_
        refine x_iald (p := j) (v := nI (bAn n (bests n h a) j)) dX6_beside_45 rfl rfl rfl rfl (by omega) (q1.2.2.2.2.2.2.2.2.1 j hj) ?_
        refine x_ireti dX6_beside_46 rfl ⟨by rw [spBeside]; dsimp only; rw [c, if_pos rfl, if_neg (nIe (by omega) (by omega) c3), show q = 1 by omega, if_pos rfl, tN_nI (by omega)]; rfl, hR.base q2⟩
      ·
        refine x_aload_n dX6_beside_31 rfl ?_
        refine x_getR 5 11 rfl (by decide) fl_X6_32 dX6_beside_32 rfl rfl rfl ?_
        refine x_iload_n dX6_beside_35 rfl ?_
        refine x_iald (p := j) (v := nI (bAl n (bests n h a) j)) dX6_beside_36 rfl rfl rfl rfl (by omega) (q1.2.2.2.2.2.2.2.1 j hj) ?_
        refine x_goto (tgt := 46) dX6_beside_37 rfl ?_
        refine x_ireti dX6_beside_46 rfl ⟨by rw [spBeside]; dsimp only; rw [c, if_pos rfl, c3, if_pos rfl, tN_nI (by omega)]; rfl, hR.base q2⟩
    ·
      refine x_bipush dX6_beside_19 bp_m2 ?_
      refine x_ireti dX6_beside_21 rfl ⟨by rw [spBeside]; dsimp only; rw [c, if_pos rfl, if_neg (out_ne c2 (by decide) (by decide)), if_neg (out_ne c2 (by decide) (by decide))], hR⟩
  ·
    refine x_iconst dX6_beside_8 ic_m1 ?_
    refine x_ireti dX6_beside_9 rfl ⟨by rw [spBeside]; dsimp only; rw [c]; rfl, hR⟩
theorem m_before {x y : Int32} (hW : WOk W) (hR : MR I W) : Cx LM yX6_before mX6_before 8 [.ref 0, .int x, .int y] I (xRi (fun r J => r = spBefore x y W ∧ MR J W)) := by
  obtain ⟨⟨n, h, a, L⟩, im⟩ := W
  have h1 : 1 ≤ n := hW.1.1
  have hn : n ≤ 8 := hW.1.2.1
  have hh : ∀ g, h g < 1024 := hW.1.2.2.1
  have ha : ∀ g, a g < 256 := hW.1.2.2.2.1
  have hL : ∀ p, p < n → L p < n := hW.1.2.2.2.2.1
  have hinj : ∀ p q, p < n → q < n → L p = L q → p = q := hW.1.2.2.2.2.2.1
  have hL8 : ∀ p, p < 8 → L p < 8 := hW.1.2.2.2.2.2.2
  have hM : MSt I n h a L := hR.1
  have hF : I 0 4 = nI 0 ∨ (I 0 4 = nI 1 ∧ I 0 5 = oI (fewB n h a)) := hR.2.1
  refine Cx.of [.ref 0, .int x, .int y] (by decide) rfl rfl (Nat.le_of_ble_eq_true rfl) rfl ?_
  refine x_aload_n dX6_before_0 rfl ?_
  refine x_iload_n dX6_before_1 rfl ?_
  refine x_callVi 5 ml_X6_58 in_X6_isGrave se_X6_isGrave ct_X6_isGrave rfl (cm_isGrave (d := 1) (by decide) h1 hn hM.1) dX6_before_2 (by decide) rfl rfl rfl rfl (Nat.le_of_ble_eq_true rfl) (fun r0 J0 h0 => ?_)
  obtain ⟨rfl, hJ0⟩ := h0
  obtain rfl := hJ0.symm
  refine x_ifb_eq (b := inR x n) (tgt := 16) dX6_before_5 rfl (fun c => ?_) (fun c => ?_)
  ·
    refine x_iconst dX6_before_16 ic_m1 ?_
    refine x_ireti dX6_before_17 rfl ⟨by rw [spBefore]; dsimp only; rw [c]; rfl, hR⟩
  ·
    obtain ⟨j, hj, rfl⟩ := inR_of c
    refine x_aload_n dX6_before_8 rfl ?_
    refine x_iload_n dX6_before_9 rfl ?_
    refine x_callVi 5 ml_X6_58 in_X6_isGrave se_X6_isGrave ct_X6_isGrave rfl (cm_isGrave (d := 1) (by decide) h1 hn hM.1) dX6_before_10 (by decide) rfl rfl rfl rfl (Nat.le_of_ble_eq_true rfl) (fun r0 J0 h0 => ?_)
    obtain ⟨rfl, hJ0⟩ := h0
    obtain rfl := hJ0.symm
    refine x_ifb_ne (b := inR y n) (tgt := 18) dX6_before_13 rfl (fun c2 => ?_) (fun c2 => ?_)
    ·
      obtain ⟨k, hk, rfl⟩ := inR_of c2
      refine x_iload_n dX6_before_18 rfl ?_
      refine x_iload_n dX6_before_19 rfl ?_
      refine x_icmpn_ne (a := j) (b := k) (by omega) (by omega) (tgt := 26) dX6_before_20 rfl (fun c3 => ?_) (fun c3 => ?_)
      ·
        refine x_aload_n dX6_before_26 rfl ?_
        refine x_iconst dX6_before_27 ic_0 ?_
        refine x_callVv 5 ml_X6_132 in_X6_lookAtAll se_X6_lookAtAll ct_X6_lookAtAll rfl (c_lookAtAll (d := 4) (x := nI 0) (by decide) h1 hn hh ha hL hM hF) dX6_before_28 (by decide) rfl rfl rfl rfl (Nat.le_of_ble_eq_true rfl) (fun J0 h0 => ?_)
        obtain ⟨q1, q2⟩ := h0
        refine x_aload_n dX6_before_31 rfl ?_
        refine x_getR 5 10 rfl (by decide) fl_X6_29 dX6_before_32 rfl rfl rfl ?_
        refine x_bipush dX6_before_35 bp_8 ?_
        refine x_iload_n dX6_before_37 rfl ?_
        refine x_imul (v := nI (8 * j)) dX6_before_38 (pk_mul _ _) ?_
        refine x_iload_n dX6_before_39 rfl ?_
        refine x_iadd (v := nI ((8 * j) + k)) dX6_before_40 (nI_add _ _) ?_
        refine x_iald (p := (8 * j) + k) (v := nI (cBf (bests n h a) j k)) dX6_before_41 rfl rfl rfl rfl (by omega) (q1.2.2.2.2.2.2.1 j k hj hk) ?_
        refine x_ireti dX6_before_42 rfl ⟨by rw [spBefore]; dsimp only; rw [c, c2, Bool.and_self, if_pos rfl, if_neg (nIe (by omega) (by omega) c3), tN_nI (by omega), tN_nI (by omega)]; rfl, hR.base q2⟩
      ·
        refine x_bipush dX6_before_23 bp_m2 ?_
        refine x_ireti dX6_before_25 rfl ⟨by rw [spBefore]; dsimp only; rw [c, c2, Bool.and_self, if_pos rfl, c3, if_pos rfl], hR⟩
    ·
      refine x_iconst dX6_before_16 ic_m1 ?_
      refine x_ireti dX6_before_17 rfl ⟨by rw [spBefore]; dsimp only; rw [c, c2]; rfl, hR⟩
theorem cAt_ge {V : List (List Nat)} {n g x : Nat} (hV : ∀ w ∈ V, w ∈ perms n) (hg : g < n) (hx : n ≤ x) : cAt V g x = 0 := by
  rw [cAt, List.countP_eq_zero]
  intro w hw
  have := ((perms_pos (hV w hw)).1 g hg).1
  simp; omega
theorem cAt_le (V : List (List Nat)) (g x : Nat) : cAt V g x ≤ V.length := List.countP_le_length
theorem bests_perms {n : Nat} {h a : Nat → Nat} : ∀ w ∈ bests n h a, w ∈ perms n := fun w hw => (List.mem_filter.mp hw).1
theorem bests_len {n : Nat} {h a : Nat → Nat} (hn : n ≤ 8) : (bests n h a).length ≤ 16777216 := Nat.le_trans (List.length_filter_le _ _) (perms_len hn)
/-- the loop of place: the least, the greatest so far -/
def plK (c : Nat → Nat) : Nat → Option Nat × Option Nat
  | 0 => (none, none)
  | k + 1 => if 0 < c k then ((match (plK c k).1 with | none => some k | some m => some m), some k) else plK c k
theorem plK_1 (c : Nat → Nat) (k : Nat) : (plK c k).1 = (List.range k).find? (fun j => decide (0 < c j)) := by
  induction k with
  | zero => rfl
  | succ k ih =>
    rw [List.range_succ, List.find?_append]
    simp only [plK]
    by_cases h : 0 < c k
    · rw [if_pos h]
      dsimp only
      rw [ih]
      cases (List.range k).find? (fun j => decide (0 < c j)) <;> simp [h]
    · rw [if_neg h, ih]; simp [h]
theorem plK_2 (c : Nat → Nat) (k : Nat) : (plK c k).2 = (List.range k).reverse.find? (fun j => decide (0 < c j)) := by
  induction k with
  | zero => rfl
  | succ k ih =>
    rw [List.range_succ, List.reverse_append]
    simp only [plK, List.reverse_cons, List.reverse_nil, List.nil_append, List.singleton_append, List.cons_append]
    by_cases h : 0 < c k
    · rw [if_pos h, List.find?_cons_of_pos (by simpa using h)]
    · rw [if_neg h, List.find?_cons_of_neg (by simpa using h), ih]
theorem plK_stop {c : Nat → Nat} {n : Nat} (hc : ∀ x, n ≤ x → c x = 0) : ∀ k, plK c (n + k) = plK c n
  | 0 => rfl
  | k + 1 => by rw [← Nat.add_assoc]; simp only [plK]; rw [if_neg (by rw [hc _ (by omega)]; omega), plK_stop hc k]
theorem plK_lt (c : Nat → Nat) : ∀ (k m : Nat), (plK c k).1 = some m ∨ (plK c k).2 = some m → m < k
  | 0, m, h => by simp [plK] at h
  | k + 1, m, h => by
    simp only [plK] at h
    by_cases e : 0 < c k
    · rw [if_pos e] at h
      rcases h with h | h
      · cases hp : (plK c k).1 with
        | none => rw [hp] at h; simp at h; omega
        | some q => rw [hp] at h; simp at h; have := plK_lt c k q (Or.inl hp); omega
      · simp at h; omega
    · rw [if_neg e] at h; have := plK_lt c k m h; omega
theorem m_place {g what : Int32} (hW : WOk W) (hR : MR I W) : Cx LM yX6_place mX6_place 8 [.ref 0, .int g, .int what] I (xRi (fun r J => r = spPlace g what W ∧ MR J W)) := by
  obtain ⟨⟨n, h, a, L⟩, im⟩ := W
  have h1 : 1 ≤ n := hW.1.1
  have hn : n ≤ 8 := hW.1.2.1
  have hh : ∀ g, h g < 1024 := hW.1.2.2.1
  have ha : ∀ g, a g < 256 := hW.1.2.2.2.1
  have hL : ∀ p, p < n → L p < n := hW.1.2.2.2.2.1
  have hinj : ∀ p q, p < n → q < n → L p = L q → p = q := hW.1.2.2.2.2.2.1
  have hL8 : ∀ p, p < 8 → L p < 8 := hW.1.2.2.2.2.2.2
  have hM : MSt I n h a L := hR.1
  have hF : I 0 4 = nI 0 ∨ (I 0 4 = nI 1 ∧ I 0 5 = oI (fewB n h a)) := hR.2.1
  refine Cx.of [.ref 0, .int g, .int what, .null, .null, .null] (by decide) rfl rfl (Nat.le_of_ble_eq_true rfl) rfl ?_
  refine x_aload_n dX6_place_0 rfl ?_
  refine x_iload_n dX6_place_1 rfl ?_
  refine x_callVi 5 ml_X6_58 in_X6_isGrave se_X6_isGrave ct_X6_isGrave rfl (cm_isGrave (d := 1) (by decide) h1 hn hM.1) dX6_place_2 (by decide) rfl rfl rfl rfl (Nat.le_of_ble_eq_true rfl) (fun r0 J0 h0 => ?_)
  obtain ⟨rfl, hJ0⟩ := h0
  obtain rfl := hJ0.symm
  refine x_ifb_ne (b := inR g n) (tgt := 10) dX6_place_5 rfl (fun c => ?_) (fun c => ?_)
  ·
    obtain ⟨j, hj, rfl⟩ := inR_of c
    have hbl := bests_len (n := n) (h := h) (a := a) hn
    have hcz : ∀ x, n ≤ x → cAt (bests n h a) j x = 0 := fun x hx => cAt_ge bests_perms hj hx
    have e8 : plK (cAt (bests n h a) j) 8 = plK (cAt (bests n h a) j) n := by
      have := plK_stop hcz (8 - n); rwa [show n + (8 - n) = 8 by omega] at this
    refine x_iload_n dX6_place_10 rfl ?_
    refine x_iconst dX6_place_11 ic_0 ?_
    refine x_iconst dX6_place_12 ic_1 ?_
    refine x_callSi (as := [.int what, .int (nI 0), .int (nI 1)]) ml_X6_50 st_X6_in ct_X6_in (c_in (d := 0)) dX6_place_13 (by decide) rfl rfl (Nat.le_of_ble_eq_true rfl) (fun r0 J0 h0 => ?_)
    obtain ⟨rfl, hJ0⟩ := h0
    obtain rfl := hJ0.symm
    rw [inB_2]
    refine x_ifb_ne (b := inR what 2) (tgt := 40) dX6_place_16 rfl (fun c2 => ?_) (fun c2 => ?_)
    ·
      obtain ⟨q, hq, rfl⟩ := inR_of c2
      have lp : ∀ (t k : Nat) (J : xMem), k + t = 8 → Acc J n h L (nI 0) (bests n h a) → Base I n h a J → Wx LM mX6_place 8 (xRi (fun r J => r = spPlace (nI j) (nI q) ((n, h, a, L), im) ∧ MR J ((n, h, a, L), im))) 76 [.ref 0, .int (nI j), .int (nI q), .int (oI (plK (cAt (bests n h a) j) k).1), .int (oI (plK (cAt (bests n h a) j) k).2), .int (nI k)] [] J := by
        intro t
        induction t with
        | zero =>
          intro k J hk q1 q2
          have e : k = 8 := by omega
          subst e
          refine x_iload dX6_place_76 rfl ?_
          refine x_bipush dX6_place_78 bp_8 ?_
          refine x_icmpn_ge (a := 8) (b := 8) (by omega) (by omega) (tgt := 119) dX6_place_80 rfl (fun e1 => ?_) (fun e1 => ?_)
          ·
            refine x_iload_n dX6_place_119 rfl ?_
            refine x_ifn_ne (a := q) (by omega) (tgt := 127) dX6_place_120 rfl (fun e2 => ?_) (fun e2 => ?_)
            ·
              refine x_iload dX6_place_127 rfl ?_
              refine x_ireti dX6_place_129 rfl ⟨by rw [spPlace]; dsimp only; rw [c, if_pos rfl, if_neg (nIe (by omega) (by omega) e2), show q = 1 by omega, if_pos rfl, tN_nI (by omega), e8, plK_2]; rfl, hR.base q2⟩
            ·
              refine x_iload_n dX6_place_123 rfl ?_
              refine x_goto (tgt := 129) dX6_place_124 rfl ?_
              refine x_ireti dX6_place_129 rfl ⟨by rw [spPlace]; dsimp only; rw [c, if_pos rfl, e2, if_pos rfl, tN_nI (by omega), e8, plK_1]; rfl, hR.base q2⟩
          ·
            omega
        | succ t ih =>
          intro k J hk q1 q2
          have hc1 := cAt_le (bests n h a) j k
          have key : plK (cAt (bests n h a) j) (k + 1) = if 0 < cAt (bests n h a) j k then ((match (plK (cAt (bests n h a) j) k).1 with | none => some k | some m => some m), some k) else plK (cAt (bests n h a) j) k := rfl
          have := ih (k + 1) J (by omega) q1 q2
          rw [key] at this
          refine x_iload dX6_place_76 rfl ?_
          refine x_bipush dX6_place_78 bp_8 ?_
          refine x_icmpn_ge (a := k) (b := 8) (by omega) (by omega) (tgt := 119) dX6_place_80 rfl (fun e1 => ?_) (fun e1 => ?_)
          ·
            omega
          ·
            refine x_aload_n dX6_place_83 rfl ?_
            refine x_getR 5 9 rfl (by decide) fl_X6_26 dX6_place_84 rfl rfl rfl ?_
            refine x_bipush dX6_place_87 bp_8 ?_
            refine x_iload_n dX6_place_89 rfl ?_
            refine x_imul (v := nI (8 * j)) dX6_place_90 (pk_mul _ _) ?_
            refine x_iload dX6_place_91 rfl ?_
            refine x_iadd (v := nI ((8 * j) + k)) dX6_place_93 (nI_add _ _) ?_
            refine x_iald (p := (8 * j) + k) (v := nI (cAt (bests n h a) j k)) dX6_place_94 rfl rfl rfl rfl (by omega) (q1.2.2.2.2.2.1 j k hj (by omega)) ?_
            refine x_ifn_le (a := cAt (bests n h a) j k) (by omega) (tgt := 113) dX6_place_95 rfl (fun e2 => ?_) (fun e2 => ?_)
            ·
              refine x_iinc (v := nI (k + 1)) (ls' := [.ref 0, .int (nI j), .int (nI q), .int (oI (plK (cAt (bests n h a) j) k).1), .int (oI (plK (cAt (bests n h a) j) k).2), .int (nI (k + 1))]) dX6_place_113 rfl (inc_1 _) rfl rfl ?_
              refine x_goto (tgt := 76) dX6_place_116 rfl ?_
              rw [if_neg (by omega)] at this
              exact this
            ·
              rw [if_pos e2] at this
              refine x_iload_n dX6_place_98 rfl ?_
              cases hp : (plK (cAt (bests n h a) j) k).1 with
              | none =>
                rw [hp] at this
                refine x_if_ge (tgt := 107) dX6_place_99 rfl (fun e3 => ?_) (fun e3 => ?_)
                ·
                  exact absurd e3 (by decide +kernel)
                ·
                  refine x_iload dX6_place_102 rfl ?_
                  refine x_goto (tgt := 108) dX6_place_104 rfl ?_
                  refine x_istore_n (ls' := [.ref 0, .int (nI j), .int (nI q), .int (nI k), .int (oI (plK (cAt (bests n h a) j) k).2), .int (nI k)]) dX6_place_108 rfl rfl ?_
                  refine x_iload dX6_place_109 rfl ?_
                  refine x_istore (ls' := [.ref 0, .int (nI j), .int (nI q), .int (nI k), .int (nI k), .int (nI k)]) dX6_place_111 rfl rfl ?_
                  refine x_iinc (v := nI (k + 1)) (ls' := [.ref 0, .int (nI j), .int (nI q), .int (nI k), .int (nI k), .int (nI (k + 1))]) dX6_place_113 rfl (inc_1 _) rfl rfl ?_
                  refine x_goto (tgt := 76) dX6_place_116 rfl ?_
                  exact this
              | some m =>
                rw [hp] at this
                have hm := plK_lt _ k m (Or.inl hp)
                refine x_if_ge (tgt := 107) dX6_place_99 rfl (fun e3 => ?_) (fun e3 => ?_)
                ·
                  refine x_iload_n dX6_place_107 rfl ?_
                  refine x_istore_n (ls' := [.ref 0, .int (nI j), .int (nI q), .int (nI m), .int (oI (plK (cAt (bests n h a) j) k).2), .int (nI k)]) dX6_place_108 rfl rfl ?_
                  refine x_iload dX6_place_109 rfl ?_
                  refine x_istore (ls' := [.ref 0, .int (nI j), .int (nI q), .int (nI m), .int (nI k), .int (nI k)]) dX6_place_111 rfl rfl ?_
                  refine x_iinc (v := nI (k + 1)) (ls' := [.ref 0, .int (nI j), .int (nI q), .int (nI m), .int (nI k), .int (nI (k + 1))]) dX6_place_113 rfl (inc_1 _) rfl rfl ?_
                  refine x_goto (tgt := 76) dX6_place_116 rfl ?_
                  exact this
                ·
                  exact absurd (nI_pos' (by omega)) e3
      refine x_aload_n dX6_place_40 rfl ?_
      refine x_iconst dX6_place_41 ic_0 ?_
      refine x_callVv 5 ml_X6_132 in_X6_lookAtAll se_X6_lookAtAll ct_X6_lookAtAll rfl (c_lookAtAll (d := 4) (x := nI 0) (by decide) h1 hn hh ha hL hM hF) dX6_place_42 (by decide) rfl rfl rfl rfl (Nat.le_of_ble_eq_true rfl) (fun J0 h0 => ?_)
      obtain ⟨q1, q2⟩ := h0
      refine x_iload_n dX6_place_45 rfl ?_
      refine x_bipush dX6_place_46 bp_9 ?_
      refine x_icmpn_le (a := q) (b := 9) (by omega) (by omega) (tgt := 66) dX6_place_48 rfl (fun e0 => ?_) (fun e0 => ?_)
      ·
        refine x_bipush dX6_place_66 bp_m6 ?_
        refine x_istore_n (ls' := [.ref 0, .int (nI j), .int (nI q), .int (-6), .null, .null]) dX6_place_68 rfl rfl ?_
        refine x_bipush dX6_place_69 bp_m6 ?_
        refine x_istore (ls' := [.ref 0, .int (nI j), .int (nI q), .int (-6), .int (-6), .null]) dX6_place_71 rfl rfl ?_
        refine x_iconst dX6_place_73 ic_0 ?_
        refine x_istore (ls' := [.ref 0, .int (nI j), .int (nI q), .int (-6), .int (-6), .int (nI 0)]) dX6_place_74 rfl rfl ?_
        exact lp 8 0 J0 rfl q1 q2
      ·
        omega
    ·
      refine x_iload_n dX6_place_19 rfl ?_
      refine x_bipush dX6_place_20 bp_10 ?_
      refine x_bipush dX6_place_22 bp_9 ?_
      refine x_aload_n dX6_place_24 rfl ?_
      refine x_getR 5 0 rfl (by decide) fl_X6_7 dX6_place_25 rfl rfl rfl ?_
      refine x_iconst dX6_place_28 ic_0 ?_
      refine x_iald (p := 0) (v := nI n) dX6_place_29 rfl rfl rfl rfl (by omega) hM.1 ?_
      refine x_iadd (v := nI (9 + n)) dX6_place_30 (nI_add _ _) ?_
      refine x_callSi (as := [.int what, .int (nI 10), .int (nI (9 + n))]) ml_X6_50 st_X6_in ct_X6_in (c_in (d := 0)) dX6_place_31 (by decide) rfl rfl (Nat.le_of_ble_eq_true rfl) (fun r0 J0 h0 => ?_)
      obtain ⟨rfl, hJ0⟩ := h0
      obtain rfl := hJ0.symm
      have e10 : inB what (nI 10) (nI (9 + n)) = inR (what - nI 10) n := by
        rcases Bool.eq_false_or_eq_true (inB what (nI 10) (nI (9 + n))) with e | e
        · have := of_decide_eq_true e
          rw [nI_toInt (by decide), nI_toInt (by omega)] at this
          obtain ⟨w, hw, rfl⟩ : ∃ w : Nat, w < 9 + n + 1 ∧ what = nI w := ⟨what.toInt.toNat, by omega, Int32.toInt_inj.mp (by rw [nI_toInt (by omega)]; omega)⟩
          rw [nI_toInt (by omega)] at this
          rw [e, pk_sub (by omega), inR_nI (by omega) (by omega)]
        · rw [e]
          cases e2 : inR (what - nI 10) n with
          | false => rfl
          | true =>
            obtain ⟨w, hw, ew⟩ := inR_of e2
            have : what = nI (w + 10) := by
              rw [← nI_add, ← ew]
              simp
            rw [this] at e
            have := of_decide_eq_false e
            rw [nI_toInt (by decide), nI_toInt (by omega), nI_toInt (by omega)] at this
            omega
      rw [e10]
      refine x_ifb_ne (b := inR (what - nI 10) n) (tgt := 40) dX6_place_34 rfl (fun c3 => ?_) (fun c3 => ?_)
      ·
        obtain ⟨w, hw, ew⟩ := inR_of c3
        have ew2 : what = nI (w + 10) := by rw [← nI_add, ← ew]; simp
        subst ew2
        refine x_aload_n dX6_place_40 rfl ?_
        refine x_iconst dX6_place_41 ic_0 ?_
        refine x_callVv 5 ml_X6_132 in_X6_lookAtAll se_X6_lookAtAll ct_X6_lookAtAll rfl (c_lookAtAll (d := 4) (x := nI 0) (by decide) h1 hn hh ha hL hM hF) dX6_place_42 (by decide) rfl rfl rfl rfl (Nat.le_of_ble_eq_true rfl) (fun J0 h0 => ?_)
        obtain ⟨q1, q2⟩ := h0
        refine x_iload_n dX6_place_45 rfl ?_
        refine x_bipush dX6_place_46 bp_9 ?_
        refine x_icmpn_le (a := w + 10) (b := 9) (by omega) (by omega) (tgt := 66) dX6_place_48 rfl (fun e0 => ?_) (fun e0 => ?_)
        ·
          omega
        ·
          refine x_aload_n dX6_place_51 rfl ?_
          refine x_getR 5 9 rfl (by decide) fl_X6_26 dX6_place_52 rfl rfl rfl ?_
          refine x_bipush dX6_place_55 bp_8 ?_
          refine x_iload_n dX6_place_57 rfl ?_
          refine x_imul (v := nI (8 * j)) dX6_place_58 (pk_mul _ _) ?_
          refine x_iload_n dX6_place_59 rfl ?_
          refine x_iadd (v := nI ((8 * j) + (w + 10))) dX6_place_60 (nI_add _ _) ?_
          refine x_bipush dX6_place_61 bp_10 ?_
          refine x_isub (v := nI (((8 * j) + (w + 10)) - 10)) dX6_place_63 (pk_sub (by omega)) ?_
          refine x_iald (p := 8 * j + w) (v := nI (cAt (bests n h a) j w)) dX6_place_64 rfl rfl rfl (by congr 1) (by omega) (q1.2.2.2.2.2.1 j w hj (by omega)) ?_
          refine x_ireti dX6_place_65 rfl ⟨by rw [spPlace]; dsimp only; rw [c, if_pos rfl, if_neg (nIe (by omega) (by omega) (by omega)), if_neg (nIe (by omega) (by omega) (by omega)), c3, if_pos rfl, ew, tN_nI (by omega), tN_nI (by omega)]; rfl, hR.base q2⟩
      ·
        refine x_bipush dX6_place_37 bp_m2 ?_
        refine x_ireti dX6_place_39 rfl ⟨by rw [spPlace]; dsimp only; rw [c, if_pos rfl, if_neg (out_ne c2 (by decide) (by decide)), if_neg (out_ne c2 (by decide) (by decide)), c3]; rfl, hR⟩
  ·
    refine x_iconst dX6_place_8 ic_m1 ?_
    refine x_ireti dX6_place_9 rfl ⟨by rw [spPlace]; dsimp only; rw [c]; rfl, hR⟩
end MP
end
section
/-! the reference: its calls, on -/
section MP
variable {I : xMem} {W : WS} {n d : Nat} {h a L : Nat → Nat}
theorem g_isTogether {w : List Nat} {S : Nat} (hd : 1 ≤ d) (hS : S < 1024) (hw : w ∈ perms n) (hO : OrdL I n w) (h0 : I 1 0 = nI n) (hn : n ≤ 8) : Cx LM yX6_isTogether mX6_isTogether d [.ref 0, .int (nI S)] I (xRi (fun r J => r = nI (togM S w).toNat ∧ J = I)) := by
  have hm := perms_mem hw
  have := c_isTogether (I := I) (d := d) (o := fun p => w.getD p 0) hd hS (fun p hp => by have := getD_lt hm.2.2 hm.1 hp; omega) hO h0 hn
  rw [seg_getD hm.1] at this
  exact this
theorem shl_le {n : Nat} (hn : n ≤ 8) : 1 <<< n ≤ 256 ∧ 1 ≤ 1 <<< n := by
  rw [Nat.one_shiftLeft]
  exact ⟨Nat.le_trans (Nat.pow_le_pow_right (by decide) hn) (by decide), Nat.one_le_two_pow⟩
theorem m_together {x : Int32} (hW : WOk W) (hR : MR I W) : Cx LM yX6_together mX6_together 8 [.ref 0, .int x] I (xRi (fun r J => r = spTogether x W ∧ MR J W)) := by
  obtain ⟨⟨n, h, a, L⟩, im⟩ := W
  have h1 : 1 ≤ n := hW.1.1
  have hn : n ≤ 8 := hW.1.2.1
  have hh : ∀ g, h g < 1024 := hW.1.2.2.1
  have ha : ∀ g, a g < 256 := hW.1.2.2.2.1
  have hL : ∀ p, p < n → L p < n := hW.1.2.2.2.2.1
  have hinj : ∀ p q, p < n → q < n → L p = L q → p = q := hW.1.2.2.2.2.2.1
  have hL8 : ∀ p, p < 8 → L p < 8 := hW.1.2.2.2.2.2.2
  have hM : MSt I n h a L := hR.1
  have hF : I 0 4 = nI 0 ∨ (I 0 4 = nI 1 ∧ I 0 5 = oI (fewB n h a)) := hR.2.1
  obtain ⟨p1, p2⟩ := shl_le hn
  refine Cx.of [.ref 0, .int x, .null, .null] (by decide) rfl rfl (Nat.le_of_ble_eq_true rfl) rfl ?_
  refine x_iload_n dX6_together_0 rfl ?_
  refine x_iconst dX6_together_1 ic_1 ?_
  refine x_iconst dX6_together_2 ic_1 ?_
  refine x_aload_n dX6_together_3 rfl ?_
  refine x_getR 5 0 rfl (by decide) fl_X6_7 dX6_together_4 rfl rfl rfl ?_
  refine x_iconst dX6_together_7 ic_0 ?_
  refine x_iald (p := 0) (v := nI n) dX6_together_8 rfl rfl rfl rfl (by omega) hM.1 ?_
  refine x_ishl (v := nI (1 <<< n)) dX6_together_9 (nI_shl _ (by omega)) ?_
  refine x_iconst dX6_together_10 ic_1 ?_
  refine x_isub (v := nI ((1 <<< n) - 1)) dX6_together_11 (pk_sub (by omega)) ?_
  refine x_callSi (as := [.int x, .int (nI 1), .int (nI ((1 <<< n) - 1))]) ml_X6_50 st_X6_in ct_X6_in (c_in (d := 0)) dX6_together_12 (by decide) rfl rfl (Nat.le_of_ble_eq_true rfl) (fun r0 J0 h0 => ?_)
  obtain ⟨rfl, hJ0⟩ := h0
  obtain rfl := hJ0.symm
  refine x_ifb_ne (b := (inB x (nI 1) (nI (1 <<< n - 1)))) (tgt := 21) dX6_together_15 rfl (fun c => ?_) (fun c => ?_)
  ·
    have hx := of_decide_eq_true c
    rw [nI_toInt (by decide), nI_toInt (by omega)] at hx
    obtain ⟨S, hS, rfl⟩ : ∃ S : Nat, S < 1 <<< n ∧ x = nI S := ⟨x.toInt.toNat, by omega, Int32.toInt_inj.mp (by rw [nI_toInt (by omega)]; omega)⟩
    have eans : spTogether (nI S) ((n, h, a, L), im) = nI ((bests n h a).countP (togM S)) := by
      rw [spTogether]; dsimp only; rw [c, if_pos rfl, tN_nI (by omega)]; rfl
    have body : ∀ (u v : List (List Nat)) (w : List Nat) (J : xMem), perms n = u ++ w :: v → OrdL J n w → Base I n h a J → (∀ (J : xMem), OrdL J n w → Base I n h a J → Wx LM mX6_together 8 (xRi (fun r J => r = spTogether (nI S) ((n, h, a, L), im) ∧ MR J ((n, h, a, L), im))) 60 [.ref 0, .int (nI S), .int (nI (((u ++ [w]).filter (isB n h a)).countP (togM S))), .int (nI 1)] [] J) → Wx LM mX6_together 8 (xRi (fun r J => r = spTogether (nI S) ((n, h, a, L), im) ∧ MR J ((n, h, a, L), im))) 33 [.ref 0, .int (nI S), .int (nI ((u.filter (isB n h a)).countP (togM S))), .int (nI 1)] [] J := by
      intro u v w J hP hO hB kk
      have hw : w ∈ perms n := by rw [hP]; simp
      have hMJ : MSt J n h a L := hM.kept hB.2.2.1
      have kk := kk J hO hB
      refine x_iload_n dX6_together_33 rfl ?_
      refine x_ifn_eq (a := 1) (by decide) (tgt := 68) dX6_together_34 rfl (fun d1 => ?_) (fun d1 => ?_)
      ·
        exact absurd d1 (by decide)
      ·
        refine x_iload_n dX6_together_37 rfl ?_
        refine x_aload_n dX6_together_38 rfl ?_
        refine x_callVi 5 ml_X6_126 in_X6_isBest se_X6_isBest ct_X6_isBest rfl (g_isBest (d := 3) (by decide) hn hh ha hw hO hMJ hB.2.1) dX6_together_39 (by decide) rfl rfl rfl rfl (Nat.le_of_ble_eq_true rfl) (fun r0 J0 h0 => ?_)
        obtain ⟨rfl, hJ0⟩ := h0
        obtain rfl := hJ0.symm
        refine x_ifb_eq (b := isB n h a w) (tgt := 57) dX6_together_42 rfl (fun d2 => ?_) (fun d2 => ?_)
        ·
          rw [filt_0 d2] at kk
          refine x_iconst dX6_together_57 ic_0 ?_
          refine x_iadd (v := nI (((u.filter (isB n h a)).countP (togM S)) + 0)) dX6_together_58 (nI_add _ _) ?_
          refine x_istore_n (ls' := [.ref 0, .int (nI S), .int (nI (((u.filter (isB n h a)).countP (togM S)) + 0)), .int (nI 1)]) dX6_together_59 rfl rfl ?_
          exact kk
        ·
          rw [filt_1 d2, List.countP_append] at kk
          refine x_aload_n dX6_together_45 rfl ?_
          refine x_iload_n dX6_together_46 rfl ?_
          refine x_callVi 5 ml_X6_136 in_X6_isTogether se_X6_isTogether ct_X6_isTogether rfl (g_isTogether (d := 1) (by decide) (by omega) hw hO hMJ.1 hn) dX6_together_47 (by decide) rfl rfl rfl rfl (Nat.le_of_ble_eq_true rfl) (fun r0 J0 h0 => ?_)
          obtain ⟨rfl, hJ0⟩ := h0
          obtain rfl := hJ0.symm
          refine x_ifb_eq (b := togM S w) (tgt := 57) dX6_together_50 rfl (fun d3 => ?_) (fun d3 => ?_)
          ·
            refine x_iconst dX6_together_57 ic_0 ?_
            refine x_iadd (v := nI (((u.filter (isB n h a)).countP (togM S)) + 0)) dX6_together_58 (nI_add _ _) ?_
            refine x_istore_n (ls' := [.ref 0, .int (nI S), .int (nI (((u.filter (isB n h a)).countP (togM S)) + 0)), .int (nI 1)]) dX6_together_59 rfl rfl ?_
            simp [d3] at kk
            exact kk
          ·
            refine x_iconst dX6_together_53 ic_1 ?_
            refine x_goto (tgt := 58) dX6_together_54 rfl ?_
            refine x_iadd (v := nI (((u.filter (isB n h a)).countP (togM S)) + 1)) dX6_together_58 (nI_add _ _) ?_
            refine x_istore_n (ls' := [.ref 0, .int (nI S), .int (nI (((u.filter (isB n h a)).countP (togM S)) + 1)), .int (nI 1)]) dX6_together_59 rfl rfl ?_
            simp [d3] at kk
            exact kk
    have lp : ∀ (v u : List (List Nat)) (w : List Nat) (J : xMem), perms n = u ++ w :: v → OrdL J n w → Base I n h a J → Wx LM mX6_together 8 (xRi (fun r J => r = spTogether (nI S) ((n, h, a, L), im) ∧ MR J ((n, h, a, L), im))) 33 [.ref 0, .int (nI S), .int (nI ((u.filter (isB n h a)).countP (togM S))), .int (nI 1)] [] J := by
      intro v
      induction v with
      | nil =>
        intro u w J hP hO hB
        refine body u [] w J hP hO hB ?_
        clear hO hB
        intro J hO hB
        refine x_aload_n dX6_together_60 rfl ?_
        refine x_callVi 5 ml_X6_101 in_X6_goOn se_X6_goOn ct_X6_goOn rfl (g_goOn (d := 1) (by decide) h1 hn (hM.kept hB.2.2.1).1 hP hO) dX6_together_61 (by decide) rfl rfl rfl rfl (Nat.le_of_ble_eq_true rfl) (fun r0 J0 h0 => ?_)
        obtain ⟨_, rfl, rfl⟩ | ⟨y, v', hv, _⟩ := h0
        ·
          refine x_istore_n (ls' := [.ref 0, .int (nI S), .int (nI (((u ++ [w]).filter (isB n h a)).countP (togM S))), .int (nI 0)]) dX6_together_64 rfl rfl ?_
          refine x_goto (tgt := 33) dX6_together_65 rfl ?_
          refine x_iload_n dX6_together_33 rfl ?_
          refine x_ifn_eq (a := 0) (by decide) (tgt := 68) dX6_together_34 rfl (fun c3 => ?_) (fun c3 => ?_)
          ·
            refine x_iload_n dX6_together_68 rfl ?_
            refine x_ireti dX6_together_69 rfl ⟨by rw [eans, bests, hP], hR.base hB⟩
          ·
            exact absurd rfl c3
        · cases hv
      | cons y v ih =>
        intro u w J hP hO hB
        refine body u (y :: v) w J hP hO hB ?_
        clear hO hB
        intro J hO hB
        refine x_aload_n dX6_together_60 rfl ?_
        refine x_callVi 5 ml_X6_101 in_X6_goOn se_X6_goOn ct_X6_goOn rfl (g_goOn (d := 1) (by decide) h1 hn (hM.kept hB.2.2.1).1 hP hO) dX6_together_61 (by decide) rfl rfl rfl rfl (Nat.le_of_ble_eq_true rfl) (fun r0 J0 h0 => ?_)
        obtain ⟨hv, _⟩ | ⟨y', v', hv, rfl, hO', hF'⟩ := h0
        · cases hv
        ·
          refine x_istore_n (ls' := [.ref 0, .int (nI S), .int (nI (((u ++ [w]).filter (isB n h a)).countP (togM S))), .int (nI 1)]) dX6_together_64 rfl rfl ?_
          refine x_goto (tgt := 33) dX6_together_65 rfl ?_
          obtain ⟨rfl, rfl⟩ := List.cons.inj hv
          refine ih (u ++ [w]) y J0 (by rw [hP]; simp) hO' ?_
          unfold Base; rw [hF' 0 (by decide), hF' 1 (by decide), hF' 2 (by decide), hF' 3 (by decide)]; exact hB
    refine x_aload_n dX6_together_21 rfl ?_
    refine x_callVv 5 ml_X6_104 in_X6_layFewest se_X6_layFewest ct_X6_layFewest rfl (c_layFewest (d := 3) (by decide) h1 hn hh ha hM hF) dX6_together_22 (by decide) rfl rfl rfl rfl (Nat.le_of_ble_eq_true rfl) (fun J0 h0 => ?_)
    obtain ⟨f4, f5, f0, ff⟩ := h0
    refine x_aload_n dX6_together_25 rfl ?_
    refine x_callVv 5 ml_X6_91 in_X6_begin se_X6_begin ct_X6_begin rfl (c_begin (d := 0)) dX6_together_26 (by decide) rfl rfl rfl rfl (Nat.le_of_ble_eq_true rfl) (fun J0 h0 => ?_)
    obtain ⟨hJ1, hJ2⟩ := h0
    refine x_iconst dX6_together_29 ic_0 ?_
    refine x_istore_n (ls' := [.ref 0, .int (nI S), .int (nI 0), .null]) dX6_together_30 rfl rfl ?_
    refine x_iconst dX6_together_31 ic_1 ?_
    refine x_istore_n (ls' := [.ref 0, .int (nI S), .int (nI 0), .int (nI 1)]) dX6_together_32 rfl rfl ?_
    obtain ⟨v, hv⟩ := perms_first (n := n) (by omega)
    refine lp v [] (List.range n) _ (by rw [hv]; rfl) (fun p hp => ?_) ?_
    · rw [hJ1 p (by omega), List.getD_eq_getElem?_getD, List.getElem?_range hp]; rfl
    · unfold Base; rw [hJ2 0 (by decide), hJ2 1 (by decide), hJ2 2 (by decide), hJ2 3 (by decide)]
      exact ⟨f4, f5, ff 1 (by decide) (by decide), ff 2 (by decide) (by decide), ff 3 (by decide) (by decide)⟩
  ·
    refine x_bipush dX6_together_18 bp_m2 ?_
    refine x_ireti dX6_together_20 rfl ⟨by rw [spTogether]; dsimp only; rw [c]; rfl, hR⟩
theorem isB_some {w : List Nat} (hb : isB n h a w = true) : (fewB n h a).isSome = true := by
  simp only [isB, Bool.and_eq_true, decide_eq_true_eq] at hb
  rw [hb.2]; rfl
/-- which sets lie together in all of a list -/
def cl0 (n : Nat) (h a : Nat → Nat) (S : Nat) : Bool := (fewB n h a).isSome && decide (S < 1 <<< n) && decide (1 < pop S)
def clV (n : Nat) (h a : Nat → Nat) (V : List (List Nat)) (S : Nat) : Bool := cl0 n h a S && V.all (togM S)
theorem c_layClumps (hd : 4 ≤ d) (h1 : 1 ≤ n) (hn : n ≤ 8) (hh : ∀ g, h g < 1024) (ha : ∀ g, a g < 256) (hM : MSt I n h a L) (hf : I 0 4 = nI 0 ∨ (I 0 4 = nI 1 ∧ I 0 5 = oI (fewB n h a))) : Cx LM yX6_layClumps mX6_layClumps d [.ref 0] I (xRv (fun J => Base I n h a J ∧ ∀ S, S < 256 → J 11 S = nI (clV n h a (bests n h a) S).toNat)) := by
  obtain ⟨p1, p2⟩ := shl_le hn
  have inn : ∀ (t S : Nat) (u : List (List Nat)) (w : List Nat) (J : xMem), S + t = 256 → w ∈ perms n → OrdL J n w → Base I n h a J → (∀ q, q < 256 → J 11 q = nI (if q < S then clV n h a (u ++ [w]) q else clV n h a u q).toNat) → (∀ (v2 : Value) (J : xMem), OrdL J n w → Base I n h a J → (∀ q, q < 256 → J 11 q = nI (clV n h a (u ++ [w]) q).toNat) → Wx LM mX6_layClumps d (xRv (fun J => Base I n h a J ∧ ∀ S, S < 256 → J 11 S = nI (clV n h a (bests n h a) S).toNat)) 117 [.ref 0, .int (nI 1), v2] [] J) → Wx LM mX6_layClumps d (xRv (fun J => Base I n h a J ∧ ∀ S, S < 256 → J 11 S = nI (clV n h a (bests n h a) S).toNat)) 76 [.ref 0, .int (nI 1), .int (nI S)] [] J := by
    intro t
    induction t with
    | zero =>
      intro S u w J hS hw hO hB h11 kk
      refine x_iload_n dX6_layClumps_76 rfl ?_
      refine x_sipush dX6_layClumps_77 sp_256 ?_
      refine x_icmpn_ge (a := S) (b := 256) (by omega) (by omega) (tgt := 117) dX6_layClumps_80 rfl (fun c => ?_) (fun c => ?_)
      ·
        exact kk _ J hO hB (fun q hq => by rw [h11 q hq, if_pos (by omega)])
      ·
        omega
    | succ t ih =>
      intro S u w J hS hw hO hB h11 kk
      have e11 : J 11 S = nI (clV n h a u S).toNat := by rw [h11 S (by omega), if_neg (Nat.lt_irrefl _)]
      have stx : ∀ (b : Bool), b = clV n h a (u ++ [w]) S → Wx LM mX6_layClumps d (xRv (fun J => Base I n h a J ∧ ∀ S, S < 256 → J 11 S = nI (clV n h a (bests n h a) S).toNat)) 110 [.ref 0, .int (nI 1), .int (nI S)] [.int (nI b.toNat), .int (nI S), .ref 11] J := by
        intro b eb
        refine x_zast (p := S) dX6_layClumps_110 rfl rfl rfl rfl (by omega) (bz01 b) ?_
        generalize hK : xup J 11 S (nI b.toNat) = K
        refine x_iinc (v := nI (S + 1)) (ls' := [.ref 0, .int (nI 1), .int (nI (S + 1))]) dX6_layClumps_111 rfl (inc_1 _) rfl rfl ?_
        refine x_goto (tgt := 76) dX6_layClumps_114 rfl ?_
        refine ih (S + 1) u w K (by omega) hw (fun p hp => by rw [← hK, xup_ne (by decide)]; exact hO p hp) ?_ (fun q hq => ?_) kk
        · unfold Base; rw [← hK, xup_ne (by decide), xup_ne (by decide), xup_ne (by decide), xup_ne (by decide)]; exact hB
        · rw [← hK, xup_eq]
          by_cases e : q = S
          · subst e; rw [if_pos rfl, if_pos (Nat.lt_succ_self _), eb]
          · rw [if_neg e, h11 q hq]
            by_cases e2 : q < S
            · rw [if_pos e2, if_pos (by omega)]
            · rw [if_neg e2, if_neg (by omega)]
      have hcl : clV n h a (u ++ [w]) S = (clV n h a u S && togM S w) := by simp [clV, List.all_append, Bool.and_assoc]
      refine x_iload_n dX6_layClumps_76 rfl ?_
      refine x_sipush dX6_layClumps_77 sp_256 ?_
      refine x_icmpn_ge (a := S) (b := 256) (by omega) (by omega) (tgt := 117) dX6_layClumps_80 rfl (fun c => ?_) (fun c => ?_)
      ·
        omega
      ·
        refine x_aload_n dX6_layClumps_83 rfl ?_
        refine x_getR 5 14 rfl (by decide) fl_X6_41 dX6_layClumps_84 rfl rfl rfl ?_
        refine x_iload_n dX6_layClumps_87 rfl ?_
        refine x_aload_n dX6_layClumps_88 rfl ?_
        refine x_getR 5 14 rfl (by decide) fl_X6_41 dX6_layClumps_89 rfl rfl rfl ?_
        refine x_iload_n dX6_layClumps_92 rfl ?_
        refine x_zald (p := S) (v := nI ((clV n h a u S).toNat)) dX6_layClumps_93 rfl rfl rfl rfl (by omega) e11 ?_
        refine x_ifb_eq (b := clV n h a u S) (tgt := 109) dX6_layClumps_94 rfl (fun c2 => ?_) (fun c2 => ?_)
        ·
          refine x_iconst dX6_layClumps_109 ic_0 ?_
          exact stx false (by rw [hcl, c2]; rfl)
        ·
          refine x_aload_n dX6_layClumps_97 rfl ?_
          refine x_iload_n dX6_layClumps_98 rfl ?_
          refine x_callVi 5 ml_X6_136 in_X6_isTogether se_X6_isTogether ct_X6_isTogether rfl (g_isTogether (d := 1) (by decide) (by omega) hw hO (hM.kept hB.2.2.1).1 hn) dX6_layClumps_99 (by omega) rfl rfl rfl rfl (Nat.le_of_ble_eq_true rfl) (fun r0 J0 h0 => ?_)
          obtain ⟨rfl, hJ0⟩ := h0
          obtain rfl := hJ0.symm
          refine x_ifb_eq (b := togM S w) (tgt := 109) dX6_layClumps_102 rfl (fun c3 => ?_) (fun c3 => ?_)
          ·
            refine x_iconst dX6_layClumps_109 ic_0 ?_
            exact stx false (by rw [hcl, c3, Bool.and_false])
          ·
            refine x_iconst dX6_layClumps_105 ic_1 ?_
            refine x_goto (tgt := 110) dX6_layClumps_106 rfl ?_
            exact stx true (by rw [hcl, c2, c3]; rfl)
  have body : ∀ (u v : List (List Nat)) (w : List Nat) (v2 : Value) (J : xMem), perms n = u ++ w :: v → OrdL J n w → Base I n h a J → (∀ q, q < 256 → J 11 q = nI (clV n h a (u.filter (isB n h a)) q).toNat) → (∀ (v2 : Value) (J : xMem), OrdL J n w → Base I n h a J → (∀ q, q < 256 → J 11 q = nI (clV n h a ((u ++ [w]).filter (isB n h a)) q).toNat) → Wx LM mX6_layClumps d (xRv (fun J => Base I n h a J ∧ ∀ S, S < 256 → J 11 S = nI (clV n h a (bests n h a) S).toNat)) 117 [.ref 0, .int (nI 1), v2] [] J) → Wx LM mX6_layClumps d (xRv (fun J => Base I n h a J ∧ ∀ S, S < 256 → J 11 S = nI (clV n h a (bests n h a) S).toNat)) 63 [.ref 0, .int (nI 1), v2] [] J := by
    intro u v w v2 J hP hO hB h11 kk
    have hw : w ∈ perms n := by rw [hP]; simp
    refine x_iload_n dX6_layClumps_63 rfl ?_
    refine x_ifn_eq (a := 1) (by decide) (tgt := 125) dX6_layClumps_64 rfl (fun d1 => ?_) (fun d1 => ?_)
    ·
      exact absurd d1 (by decide)
    ·
      refine x_aload_n dX6_layClumps_67 rfl ?_
      refine x_callVi 5 ml_X6_126 in_X6_isBest se_X6_isBest ct_X6_isBest rfl (g_isBest (d := 3) (by decide) hn hh ha hw hO (hM.kept hB.2.2.1) hB.2.1) dX6_layClumps_68 hd rfl rfl rfl rfl (Nat.le_of_ble_eq_true rfl) (fun r0 J0 h0 => ?_)
      obtain ⟨rfl, hJ0⟩ := h0
      obtain rfl := hJ0.symm
      refine x_ifb_eq (b := isB n h a w) (tgt := 117) dX6_layClumps_71 rfl (fun d2 => ?_) (fun d2 => ?_)
      ·
        rw [filt_0 d2] at kk
        exact kk _ J hO hB h11
      ·
        rw [filt_1 d2] at kk
        refine x_iconst dX6_layClumps_74 ic_0 ?_
        refine x_istore_n (ls' := [.ref 0, .int (nI 1), .int (nI 0)]) dX6_layClumps_75 rfl rfl ?_
        exact inn 256 0 (u.filter (isB n h a)) w J rfl hw hO hB (fun q hq => by rw [if_neg (by omega)]; exact h11 q hq) kk
  have lp : ∀ (v u : List (List Nat)) (w : List Nat) (v2 : Value) (J : xMem), perms n = u ++ w :: v → OrdL J n w → Base I n h a J → (∀ q, q < 256 → J 11 q = nI (clV n h a (u.filter (isB n h a)) q).toNat) → Wx LM mX6_layClumps d (xRv (fun J => Base I n h a J ∧ ∀ S, S < 256 → J 11 S = nI (clV n h a (bests n h a) S).toNat)) 63 [.ref 0, .int (nI 1), v2] [] J := by
    intro v
    induction v with
    | nil =>
      intro u w v2 J hP hO hB h11
      refine body u [] w v2 J hP hO hB h11 ?_
      clear hO hB h11
      intro v2 J hO hB h11
      refine x_aload_n dX6_layClumps_117 rfl ?_
      refine x_callVi 5 ml_X6_101 in_X6_goOn se_X6_goOn ct_X6_goOn rfl (g_goOn (d := 1) (by decide) h1 hn (hM.kept hB.2.2.1).1 hP hO) dX6_layClumps_118 (by omega) rfl rfl rfl rfl (Nat.le_of_ble_eq_true rfl) (fun r0 J0 h0 => ?_)
      obtain ⟨_, rfl, rfl⟩ | ⟨y, v', hv, _⟩ := h0
      ·
        refine x_istore_n (ls' := [.ref 0, .int (nI 0), v2]) dX6_layClumps_121 rfl rfl ?_
        refine x_goto (tgt := 63) dX6_layClumps_122 rfl ?_
        refine x_iload_n dX6_layClumps_63 rfl ?_
        refine x_ifn_eq (a := 0) (by decide) (tgt := 125) dX6_layClumps_64 rfl (fun c3 => ?_) (fun c3 => ?_)
        ·
          refine x_vretv dX6_layClumps_125 rfl ⟨hB, by rw [bests, hP]; exact h11⟩
        ·
          exact absurd rfl c3
      · cases hv
    | cons y v ih =>
      intro u w v2 J hP hO hB h11
      refine body u (y :: v) w v2 J hP hO hB h11 ?_
      clear hO hB h11
      intro v2 J hO hB h11
      refine x_aload_n dX6_layClumps_117 rfl ?_
      refine x_callVi 5 ml_X6_101 in_X6_goOn se_X6_goOn ct_X6_goOn rfl (g_goOn (d := 1) (by decide) h1 hn (hM.kept hB.2.2.1).1 hP hO) dX6_layClumps_118 (by omega) rfl rfl rfl rfl (Nat.le_of_ble_eq_true rfl) (fun r0 J0 h0 => ?_)
      obtain ⟨hv, _⟩ | ⟨y', v', hv, rfl, hO', hF'⟩ := h0
      · cases hv
      ·
        refine x_istore_n (ls' := [.ref 0, .int (nI 1), v2]) dX6_layClumps_121 rfl rfl ?_
        refine x_goto (tgt := 63) dX6_layClumps_122 rfl ?_
        obtain ⟨rfl, rfl⟩ := List.cons.inj hv
        refine ih (u ++ [w]) y _ J0 (by rw [hP]; simp) hO' ?_ (by rw [hF' 11 (by decide)]; exact h11)
        unfold Base; rw [hF' 0 (by decide), hF' 1 (by decide), hF' 2 (by decide), hF' 3 (by decide)]; exact hB
  have ini : ∀ (t S : Nat) (J : xMem), S + t = 256 → Base I n h a J → (∀ q, q < S → J 11 q = nI (clV n h a [] q).toNat) → Wx LM mX6_layClumps d (xRv (fun J => Base I n h a J ∧ ∀ S, S < 256 → J 11 S = nI (clV n h a (bests n h a) S).toNat)) 6 [.ref 0, .int (nI S), .null] [] J := by
    intro t
    induction t with
    | zero =>
      intro S J hS hB h11
      refine x_iload_n dX6_layClumps_6 rfl ?_
      refine x_sipush dX6_layClumps_7 sp_256 ?_
      refine x_icmpn_ge (a := S) (b := 256) (by omega) (by omega) (tgt := 57) dX6_layClumps_10 rfl (fun c => ?_) (fun c => ?_)
      ·
        refine x_aload_n dX6_layClumps_57 rfl ?_
        refine x_callVv 5 ml_X6_91 in_X6_begin se_X6_begin ct_X6_begin rfl (c_begin (d := 0)) dX6_layClumps_58 (by omega) rfl rfl rfl rfl (Nat.le_of_ble_eq_true rfl) (fun J0 h0 => ?_)
        obtain ⟨hJ1, hJ2⟩ := h0
        refine x_iconst dX6_layClumps_61 ic_1 ?_
        refine x_istore_n (ls' := [.ref 0, .int (nI 1), .null]) dX6_layClumps_62 rfl rfl ?_
        obtain ⟨v, hv⟩ := perms_first (n := n) (by omega)
        refine lp v [] (List.range n) _ J0 (by rw [hv]; rfl) (fun p hp => ?_) ?_ (fun q hq => by rw [hJ2 11 (by decide)]; exact h11 q (by omega))
        · rw [hJ1 p (by omega), List.getD_eq_getElem?_getD, List.getElem?_range hp]; rfl
        · unfold Base; rw [hJ2 0 (by decide), hJ2 1 (by decide), hJ2 2 (by decide), hJ2 3 (by decide)]; exact hB
      ·
        omega
    | succ t ih =>
      intro S J hS hB h11
      have stx : ∀ (b : Bool), b = cl0 n h a S → Wx LM mX6_layClumps d (xRv (fun J => Base I n h a J ∧ ∀ S, S < 256 → J 11 S = nI (clV n h a (bests n h a) S).toNat)) 50 [.ref 0, .int (nI S), .null] [.int (nI b.toNat), .int (nI S), .ref 11] J := by
        intro b eb
        refine x_zast (p := S) dX6_layClumps_50 rfl rfl rfl rfl (by omega) (bz01 b) ?_
        generalize hK : xup J 11 S (nI b.toNat) = K
        refine x_iinc (v := nI (S + 1)) (ls' := [.ref 0, .int (nI (S + 1)), .null]) dX6_layClumps_51 rfl (inc_1 _) rfl rfl ?_
        refine x_goto (tgt := 6) dX6_layClumps_54 rfl ?_
        refine ih (S + 1) K (by omega) ?_ (fun q hq => ?_)
        · unfold Base; rw [← hK, xup_ne (by decide), xup_ne (by decide), xup_ne (by decide), xup_ne (by decide)]; exact hB
        · rw [← hK, xup_eq]
          by_cases e : q = S
          · subst e; rw [if_pos rfl, eb]; simp [clV]
          · rw [if_neg e]; exact h11 q (by omega)
      refine x_iload_n dX6_layClumps_6 rfl ?_
      refine x_sipush dX6_layClumps_7 sp_256 ?_
      refine x_icmpn_ge (a := S) (b := 256) (by omega) (by omega) (tgt := 57) dX6_layClumps_10 rfl (fun c => ?_) (fun c => ?_)
      ·
        omega
      ·
        refine x_aload_n dX6_layClumps_13 rfl ?_
        refine x_getR 5 14 rfl (by decide) fl_X6_41 dX6_layClumps_14 rfl rfl rfl ?_
        refine x_iload_n dX6_layClumps_17 rfl ?_
        refine x_aload_n dX6_layClumps_18 rfl ?_
        refine x_getI 5 5 (v := oI (fewB n h a)) rfl (by decide) fl_X6_87 dX6_layClumps_19 rfl rfl rfl hB.2.1 ?_
        cases hf2 : fewB n h a with
        | none =>
          refine x_if_lt (tgt := 49) dX6_layClumps_22 rfl (fun c2 => ?_) (fun c2 => ?_)
          ·
            refine x_iconst dX6_layClumps_49 ic_0 ?_
            exact stx false (by simp [cl0, hf2])
          ·
            exact absurd (show oI none < 0 by decide +kernel) c2
        | some m =>
          have hm := fewB_lt hn m hf2
          refine x_if_lt (tgt := 49) dX6_layClumps_22 rfl (fun c2 => ?_) (fun c2 => ?_)
          ·
            exact absurd c2 (nI_pos hm)
          ·
            refine x_iload_n dX6_layClumps_25 rfl ?_
            refine x_iconst dX6_layClumps_26 ic_1 ?_
            refine x_aload_n dX6_layClumps_27 rfl ?_
            refine x_getR 5 0 rfl (by decide) fl_X6_7 dX6_layClumps_28 rfl rfl rfl ?_
            refine x_iconst dX6_layClumps_31 ic_0 ?_
            refine x_iald (p := 0) (v := nI n) dX6_layClumps_32 rfl rfl rfl rfl (by omega) (hM.kept hB.2.2.1).1 ?_
            refine x_ishl (v := nI (1 <<< n)) dX6_layClumps_33 (nI_shl _ (by omega)) ?_
            refine x_icmpn_ge (a := S) (b := 1 <<< n) (by omega) (by omega) (tgt := 49) dX6_layClumps_34 rfl (fun c3 => ?_) (fun c3 => ?_)
            ·
              refine x_iconst dX6_layClumps_49 ic_0 ?_
              exact stx false (by simp [cl0, Nat.not_lt.mpr c3])
            ·
              have hpl := pop_le S
              refine x_iload_n dX6_layClumps_37 rfl ?_
              refine x_callSi (as := [.int (nI S)]) ml_X6_65 st_X6_bits ct_X6_bits (c_bits (d := 0) (by omega)) dX6_layClumps_38 (by omega) rfl rfl (Nat.le_of_ble_eq_true rfl) (fun r0 J0 h0 => ?_)
              obtain ⟨rfl, hJ0⟩ := h0
              obtain rfl := hJ0.symm
              refine x_iconst dX6_layClumps_41 ic_1 ?_
              refine x_icmpn_le (a := pop S) (b := 1) (by omega) (by omega) (tgt := 49) dX6_layClumps_42 rfl (fun c4 => ?_) (fun c4 => ?_)
              ·
                refine x_iconst dX6_layClumps_49 ic_0 ?_
                exact stx false (by simp [cl0, Nat.not_lt.mpr c4])
              ·
                refine x_iconst dX6_layClumps_45 ic_1 ?_
                refine x_goto (tgt := 50) dX6_layClumps_46 rfl ?_
                exact stx true (by simp [cl0, hf2, c3, c4])
  refine Cx.of [.ref 0, .null, .null] (by decide) rfl rfl (Nat.le_of_ble_eq_true rfl) rfl ?_
  refine x_aload_n dX6_layClumps_0 rfl ?_
  refine x_callVv 5 ml_X6_104 in_X6_layFewest se_X6_layFewest ct_X6_layFewest rfl (c_layFewest (d := 3) (by decide) h1 hn hh ha hM hf) dX6_layClumps_1 hd rfl rfl rfl rfl (Nat.le_of_ble_eq_true rfl) (fun J0 h0 => ?_)
  obtain ⟨f4, f5, f0, ff⟩ := h0
  refine x_iconst dX6_layClumps_4 ic_0 ?_
  refine x_istore_n (ls' := [.ref 0, .int (nI 0), .null]) dX6_layClumps_5 rfl rfl ?_
  exact ini 256 0 J0 rfl ⟨f4, f5, ff 1 (by decide) (by decide), ff 2 (by decide) (by decide), ff 3 (by decide) (by decide)⟩ (fun q hq => by omega)
end MP
end
section
/-! the reference: its calls, on -/
section MP
variable {I : xMem} {W : WS} {n d : Nat} {h a L : Nat → Nat}
/-- counting through a list of those that hold -/
theorem filt_at (p : Nat → Bool) : ∀ (k N : Nat), p N = true → N < k → ((List.range k).filter p)[((List.range N).filter p).length]? = some N := by
  intro k
  induction k with
  | zero => intro N _ h; omega
  | succ k ih =>
    intro N hp hN
    rw [List.range_succ, List.filter_append]
    by_cases e : N = k
    · subst e
      rw [List.getElem?_append_right (Nat.le_refl _), Nat.sub_self]; simp [hp]
    · have := ih N hp (by omega)
      rw [List.getElem?_append_left (List.getElem?_eq_some_iff.mp this).1]; exact this
theorem m_clump {x : Int32} (hW : WOk W) (hR : MR I W) : Cx LM yX6_clump mX6_clump 8 [.ref 0, .int x] I (xRi (fun r J => r = spClump x W ∧ MR J W)) := by
  obtain ⟨⟨n, h, a, L⟩, im⟩ := W
  have h1 : 1 ≤ n := hW.1.1
  have hn : n ≤ 8 := hW.1.2.1
  have hh : ∀ g, h g < 1024 := hW.1.2.2.1
  have ha : ∀ g, a g < 256 := hW.1.2.2.2.1
  have hL : ∀ p, p < n → L p < n := hW.1.2.2.2.2.1
  have hinj : ∀ p q, p < n → q < n → L p = L q → p = q := hW.1.2.2.2.2.2.1
  have hL8 : ∀ p, p < 8 → L p < 8 := hW.1.2.2.2.2.2.2
  have hM : MSt I n h a L := hR.1
  have hF : I 0 4 = nI 0 ∨ (I 0 4 = nI 1 ∧ I 0 5 = oI (fewB n h a)) := hR.2.1
  refine Cx.of [.ref 0, .int x, .null, .null] (by decide) rfl rfl (Nat.le_of_ble_eq_true rfl) rfl ?_
  refine x_iload_n dX6_clump_0 rfl ?_
  refine x_iconst dX6_clump_1 ic_m1 ?_
  refine x_icmp_ge (tgt := 8) dX6_clump_2 rfl (fun c => ?_) (fun c => ?_)
  ·
    have cge : ¬ x < (-1) := Int32.not_lt.mpr c
    have ecl : ∀ S, clB (n, h, a, L) S = clV n h a (bests n h a) S := fun S => rfl
    have hbl : ∀ k, ((List.range k).filter (clB (n, h, a, L))).length ≤ k := fun k => by have := List.length_filter_le (clB (n, h, a, L)) (List.range k); rw [List.length_range] at this; exact this
    have lp : ∀ (t S : Nat) (J : xMem), S + t = 256 → Base I n h a J → (∀ q, q < 256 → J 11 q = nI (clB (n, h, a, L) q).toNat) → (∀ k, k < ((List.range S).filter (clB (n, h, a, L))).length → ¬ x = nI k) → Wx LM mX6_clump 8 (xRi (fun r J => r = spClump x ((n, h, a, L), im) ∧ MR J ((n, h, a, L), im))) 16 [.ref 0, .int x, .int (nI ((List.range S).filter (clB (n, h, a, L))).length), .int (nI S)] [] J := by
      intro t
      induction t with
      | zero =>
        intro S J hS hB h11 hno
        have e : S = 256 := by omega
        subst e
        refine x_iload_n dX6_clump_16 rfl ?_
        refine x_sipush dX6_clump_17 sp_256 ?_
        refine x_icmpn_ge (a := 256) (b := 256) (by omega) (by omega) (tgt := 48) dX6_clump_20 rfl (fun c1 => ?_) (fun c1 => ?_)
        ·
          refine x_iload_n dX6_clump_48 rfl ?_
          refine x_iconst dX6_clump_49 ic_m1 ?_
          refine x_icmp_ne (tgt := 57) dX6_clump_50 rfl (fun c2 => ?_) (fun c2 => ?_)
          ·
            refine x_bipush dX6_clump_57 bp_m6 ?_
            refine x_ireti dX6_clump_59 rfl ⟨?_, hR.base hB⟩
            rw [spClump, if_neg cge, if_neg c2]
            have hx0 : ¬ x < 0 := by
              intro hl
              rw [Int32.lt_iff_toInt_lt] at hl
              rw [Int32.le_iff_toInt_le] at c
              have e0 : (0 : Int32).toInt = 0 := rfl
              have e1 : (-1 : Int32).toInt = -1 := by decide +kernel
              exact c2 (Int32.toInt_inj.mp (by omega))
            obtain ⟨k, hk, rfl⟩ := nI_of hx0
            rw [tN_nI hk, clmp]
            dsimp only
            rw [List.getElem?_eq_none]
            rcases Nat.lt_or_ge k ((List.range 256).filter (clB (n, h, a, L))).length with e | e
            · exact absurd rfl (hno k e)
            · exact e
          ·
            refine x_iload_n dX6_clump_53 rfl ?_
            refine x_goto (tgt := 59) dX6_clump_54 rfl ?_
            refine x_ireti dX6_clump_59 rfl ⟨by rw [spClump, if_neg cge, if_pos c2]; rfl, hR.base hB⟩
        ·
          omega
      | succ t ih =>
        intro S J hS hB h11 hno
        have h0 := hbl S
        have es : ((List.range (S + 1)).filter (clB (n, h, a, L))) = (List.range S).filter (clB (n, h, a, L)) ++ [S].filter (clB (n, h, a, L)) := by rw [List.range_succ, List.filter_append]
        have ih := ih (S + 1) J (by omega) hB h11
        rw [es] at ih
        refine x_iload_n dX6_clump_16 rfl ?_
        refine x_sipush dX6_clump_17 sp_256 ?_
        refine x_icmpn_ge (a := S) (b := 256) (by omega) (by omega) (tgt := 48) dX6_clump_20 rfl (fun c1 => ?_) (fun c1 => ?_)
        ·
          omega
        ·
          refine x_aload_n dX6_clump_23 rfl ?_
          refine x_getR 5 14 rfl (by decide) fl_X6_41 dX6_clump_24 rfl rfl rfl ?_
          refine x_iload_n dX6_clump_27 rfl ?_
          refine x_zald (p := S) (v := nI ((clB (n, h, a, L) S).toNat)) dX6_clump_28 rfl rfl rfl rfl (by omega) (h11 S (by omega)) ?_
          refine x_ifb_eq (b := clB (n, h, a, L) S) (tgt := 42) dX6_clump_29 rfl (fun c2 => ?_) (fun c2 => ?_)
          ·
            refine x_iinc (v := nI (S + 1)) (ls' := [.ref 0, .int x, .int (nI (((List.range S).filter (clB (n, h, a, L))).length)), .int (nI (S + 1))]) dX6_clump_42 rfl (inc_1 _) rfl rfl ?_
            refine x_goto (tgt := 16) dX6_clump_45 rfl ?_
            simp [c2] at ih
            exact ih (fun k hk => hno k hk)
          ·
            refine x_iload_n dX6_clump_32 rfl ?_
            refine x_iload_n dX6_clump_33 rfl ?_
            refine x_icmp_ne (tgt := 39) dX6_clump_34 rfl (fun c3 => ?_) (fun c3 => ?_)
            ·
              refine x_iinc (v := nI ((((List.range S).filter (clB (n, h, a, L))).length) + 1)) (ls' := [.ref 0, .int x, .int (nI ((((List.range S).filter (clB (n, h, a, L))).length) + 1)), .int (nI S)]) dX6_clump_39 rfl (inc_1 _) rfl rfl ?_
              refine x_iinc (v := nI (S + 1)) (ls' := [.ref 0, .int x, .int (nI ((((List.range S).filter (clB (n, h, a, L))).length) + 1)), .int (nI (S + 1))]) dX6_clump_42 rfl (inc_1 _) rfl rfl ?_
              refine x_goto (tgt := 16) dX6_clump_45 rfl ?_
              simp [c2] at ih
              refine ih (fun k hk e => ?_)
              by_cases e2 : k = ((List.range S).filter (clB (n, h, a, L))).length
              · subst e2; exact c3 e.symm
              · exact hno k (by omega) e
            ·
              refine x_iload_n dX6_clump_37 rfl ?_
              refine x_ireti dX6_clump_38 rfl ⟨?_, hR.base hB⟩
              have hx0 : ¬ x = (-1) := by
                rw [← c3]; intro e
                have := congrArg Int32.toInt e
                rw [nI_toInt (by omega)] at this
                have e1 : (-1 : Int32).toInt = -1 := by decide +kernel
                omega
              rw [spClump, if_neg cge, if_neg hx0, ← c3, tN_nI (by omega), clmp]
              dsimp only
              rw [filt_at _ 256 S c2 (by omega)]
    refine x_aload_n dX6_clump_8 rfl ?_
    refine x_callVv 5 ml_X6_139 in_X6_layClumps se_X6_layClumps ct_X6_layClumps rfl (c_layClumps (d := 4) (by decide) h1 hn hh ha hM hF) dX6_clump_9 (by decide) rfl rfl rfl rfl (Nat.le_of_ble_eq_true rfl) (fun J0 h0 => ?_)
    obtain ⟨hB, h11⟩ := h0
    refine x_iconst dX6_clump_12 ic_0 ?_
    refine x_istore_n (ls' := [.ref 0, .int x, .int (nI 0), .null]) dX6_clump_13 rfl rfl ?_
    refine x_iconst dX6_clump_14 ic_0 ?_
    refine x_istore_n (ls' := [.ref 0, .int x, .int (nI 0), .int (nI 0)]) dX6_clump_15 rfl rfl ?_
    exact lp 256 0 J0 rfl hB (fun q hq => by rw [ecl]; exact h11 q hq) (fun k hk => by simp at hk)
  ·
    refine x_bipush dX6_clump_5 bp_m2 ?_
    refine x_ireti dX6_clump_7 rfl ⟨by rw [spClump, if_pos (Int32.not_le.mp c)], hR⟩
theorem m_sort {s what : Int32} (hW : WOk W) (hR : MR I W) : Cx LM yX6_sort mX6_sort 8 [.ref 0, .int s, .int what] I (xRi (fun r J => r = spSort s what W ∧ MR J W)) := by
  obtain ⟨⟨n, h, a, L⟩, im⟩ := W
  have h1 : 1 ≤ n := hW.1.1
  have hn : n ≤ 8 := hW.1.2.1
  have hh : ∀ g, h g < 1024 := hW.1.2.2.1
  have ha : ∀ g, a g < 256 := hW.1.2.2.2.1
  have hL : ∀ p, p < n → L p < n := hW.1.2.2.2.2.1
  have hinj : ∀ p q, p < n → q < n → L p = L q → p = q := hW.1.2.2.2.2.2.1
  have hL8 : ∀ p, p < 8 → L p < 8 := hW.1.2.2.2.2.2.2
  have hM : MSt I n h a L := hR.1
  have hF : I 0 4 = nI 0 ∨ (I 0 4 = nI 1 ∧ I 0 5 = oI (fewB n h a)) := hR.2.1
  refine Cx.of [.ref 0, .int s, .int what, .null, .null] (by decide) rfl rfl (Nat.le_of_ble_eq_true rfl) rfl ?_
  refine x_iload_n dX6_sort_0 rfl ?_
  refine x_callSi (as := [.int s]) ml_X6_62 st_X6_isSort ct_X6_isSort (cm_isSort (d := 1) (by decide)) dX6_sort_1 (by decide) rfl rfl (Nat.le_of_ble_eq_true rfl) (fun r0 J0 h0 => ?_)
  obtain ⟨rfl, hJ0⟩ := h0
  obtain rfl := hJ0.symm
  refine x_ifb_ne (b := inR s 10) (tgt := 9) dX6_sort_4 rfl (fun c => ?_) (fun c => ?_)
  ·
    obtain ⟨j, hj, rfl⟩ := inR_of c
    refine x_iload_n dX6_sort_9 rfl ?_
    refine x_iconst dX6_sort_10 ic_0 ?_
    refine x_iconst dX6_sort_11 ic_2 ?_
    refine x_callSi (as := [.int what, .int (nI 0), .int (nI 2)]) ml_X6_50 st_X6_in ct_X6_in (c_in (d := 0)) dX6_sort_12 (by decide) rfl rfl (Nat.le_of_ble_eq_true rfl) (fun r0 J0 h0 => ?_)
    obtain ⟨rfl, hJ0⟩ := h0
    obtain rfl := hJ0.symm
    rw [inB_3]
    refine x_ifb_ne (b := inR what 3) (tgt := 21) dX6_sort_15 rfl (fun c2 => ?_) (fun c2 => ?_)
    ·
      obtain ⟨q, hq, rfl⟩ := inR_of c2
      have lp : ∀ (k g : Nat), g + k = n → Wx LM mX6_sort 8 (xRi (fun r J => r = spSort (nI j) (nI q) ((n, h, a, L), im) ∧ MR J ((n, h, a, L), im))) 26 [.ref 0, .int (nI j), .int (nI q), .int (nI (cwi h j g)), .int (nI g)] [] I := by
        intro k
        induction k with
        | zero =>
          intro g hg
          have e : g = n := by omega
          subst e
          refine x_iload dX6_sort_26 rfl ?_
          refine x_aload_n dX6_sort_28 rfl ?_
          refine x_getR 5 0 rfl (by decide) fl_X6_7 dX6_sort_29 rfl rfl rfl ?_
          refine x_iconst dX6_sort_32 ic_0 ?_
          refine x_iald (p := 0) (v := nI g) dX6_sort_33 rfl rfl rfl rfl (by omega) hM.1 ?_
          refine x_icmpn_ge (a := g) (b := g) (by omega) (by omega) (tgt := 67) dX6_sort_34 rfl (fun e1 => ?_) (fun e1 => ?_)
          ·
            refine x_iload_n dX6_sort_67 rfl ?_
            refine x_ifn_ne (a := q) (by omega) (tgt := 73) dX6_sort_68 rfl (fun d1 => ?_) (fun d1 => ?_)
            ·
              refine x_iload_n dX6_sort_73 rfl ?_
              refine x_iconst dX6_sort_74 ic_1 ?_
              refine x_icmpn_ne (a := q) (b := 1) (by omega) (by omega) (tgt := 88) dX6_sort_75 rfl (fun d2 => ?_) (fun d2 => ?_)
              ·
                refine x_aload_n dX6_sort_88 rfl ?_
                refine x_iconst dX6_sort_89 ic_0 ?_
                refine x_callVv 5 ml_X6_132 in_X6_lookAtAll se_X6_lookAtAll ct_X6_lookAtAll rfl (c_lookAtAll (d := 4) (x := nI 0) (by decide) h1 hn hh ha hL hM hF) dX6_sort_90 (by decide) rfl rfl rfl rfl (Nat.le_of_ble_eq_true rfl) (fun J0 h0 => ?_)
                obtain ⟨q1, q2⟩ := h0
                refine x_aload_n dX6_sort_93 rfl ?_
                refine x_getR 5 13 rfl (by decide) fl_X6_38 dX6_sort_94 rfl rfl rfl ?_
                refine x_iload_n dX6_sort_97 rfl ?_
                refine x_iald (p := j) (v := oI (fwm (fS h j) none (bests g h a))) dX6_sort_98 rfl rfl rfl rfl (by omega) (q1.2.2.2.2.2.2.2.2.2 j hj) ?_
                refine x_ireti dX6_sort_99 rfl ⟨by rw [spSort]; dsimp only; rw [c, if_pos rfl, if_neg (nIe (by omega) (by omega) d1), if_neg (nIe (by omega) (by omega) d2), show q = 2 by omega, if_pos rfl, tN_nI (by omega)]; rfl, hR.base q2⟩
              ·
                refine x_aload_n dX6_sort_78 rfl ?_
                refine x_callVv 5 ml_X6_142 in_X6_takeRow se_X6_takeRow ct_X6_takeRow rfl (c_takeRow (d := 0) hM.2.2.2) dX6_sort_79 (by decide) rfl rfl rfl rfl (Nat.le_of_ble_eq_true rfl) (fun J0 h0 => ?_)
                obtain ⟨t1, t2⟩ := h0
                refine x_aload_n dX6_sort_82 rfl ?_
                refine x_iload_n dX6_sort_83 rfl ?_
                refine x_callVi 5 ml_X6_80 in_X6_breaksOf se_X6_breaksOf ct_X6_breaksOf rfl (c_breaksOf (d := 1) (o := L) (by decide) (by omega) hh (fun p hp => hL8 p (by omega)) (fun p hp => t1 p (by omega)) (hM.kept (t2 1 (by decide))) hn) dX6_sort_84 (by decide) rfl rfl rfl rfl (Nat.le_of_ble_eq_true rfl) (fun r0 J0 h0 => ?_)
                obtain ⟨rfl, hJ0⟩ := h0
                obtain rfl := hJ0.symm
                refine x_ireti dX6_sort_87 rfl ⟨by rw [spSort]; dsimp only; rw [c, if_pos rfl, if_neg (nIe (by omega) (by omega) d1), d2, if_pos rfl, tN_nI (by omega)]; rfl, hR.ord t2⟩
            ·
              refine x_iload_n dX6_sort_71 rfl ?_
              refine x_ireti dX6_sort_72 rfl ⟨by rw [spSort]; dsimp only; rw [c, if_pos rfl, d1, if_pos rfl, tN_nI (by omega)], hR⟩
          ·
            omega
        | succ k ih =>
          intro g hg
          have hb := hh g
          refine x_iload dX6_sort_26 rfl ?_
          refine x_aload_n dX6_sort_28 rfl ?_
          refine x_getR 5 0 rfl (by decide) fl_X6_7 dX6_sort_29 rfl rfl rfl ?_
          refine x_iconst dX6_sort_32 ic_0 ?_
          refine x_iald (p := 0) (v := nI n) dX6_sort_33 rfl rfl rfl rfl (by omega) hM.1 ?_
          refine x_icmpn_ge (a := g) (b := n) (by omega) (by omega) (tgt := 67) dX6_sort_34 rfl (fun e1 => ?_) (fun e1 => ?_)
          ·
            omega
          ·
            refine x_iload_n dX6_sort_37 rfl ?_
            refine x_aload_n dX6_sort_38 rfl ?_
            refine x_getR 5 0 rfl (by decide) fl_X6_7 dX6_sort_39 rfl rfl rfl ?_
            refine x_iconst dX6_sort_42 ic_1 ?_
            refine x_iload dX6_sort_43 rfl ?_
            refine x_iadd (v := nI (1 + g)) dX6_sort_45 (nI_add _ _) ?_
            refine x_iald (p := 1 + g) (v := nI (h g)) dX6_sort_46 rfl rfl rfl rfl (by omega) (hM.2.1 g (by omega)) ?_
            refine x_iload_n dX6_sort_47 rfl ?_
            refine x_callSi (as := [.int (nI (h g)), .int (nI j)]) ml_X6_73 st_X6_has ct_X6_has (c_has (d := 0) (by omega) (by omega)) dX6_sort_48 (by decide) rfl rfl (Nat.le_of_ble_eq_true rfl) (fun r0 J0 h0 => ?_)
            obtain ⟨rfl, hJ0⟩ := h0
            obtain rfl := hJ0.symm
            refine x_ifb_eq (b := (h g).testBit j) (tgt := 58) dX6_sort_51 rfl (fun e2 => ?_) (fun e2 => ?_)
            ·
              refine x_iconst dX6_sort_58 ic_0 ?_
              refine x_iadd (v := nI ((cwi h j g) + 0)) dX6_sort_59 (nI_add _ _) ?_
              refine x_istore_n (ls' := [.ref 0, .int (nI j), .int (nI q), .int (nI ((cwi h j g) + 0)), .int (nI g)]) dX6_sort_60 rfl rfl ?_
              refine x_iinc (v := nI (g + 1)) (ls' := [.ref 0, .int (nI j), .int (nI q), .int (nI ((cwi h j g) + 0)), .int (nI (g + 1))]) dX6_sort_61 rfl (inc_1 _) rfl rfl ?_
              refine x_goto (tgt := 26) dX6_sort_64 rfl ?_
              have e : cwi h j (g + 1) = cwi h j g + 0 := by simp [cwi, e2]
              rw [← e]
              exact ih (g + 1) (by omega)
            ·
              refine x_iconst dX6_sort_54 ic_1 ?_
              refine x_goto (tgt := 59) dX6_sort_55 rfl ?_
              refine x_iadd (v := nI ((cwi h j g) + 1)) dX6_sort_59 (nI_add _ _) ?_
              refine x_istore_n (ls' := [.ref 0, .int (nI j), .int (nI q), .int (nI ((cwi h j g) + 1)), .int (nI g)]) dX6_sort_60 rfl rfl ?_
              refine x_iinc (v := nI (g + 1)) (ls' := [.ref 0, .int (nI j), .int (nI q), .int (nI ((cwi h j g) + 1)), .int (nI (g + 1))]) dX6_sort_61 rfl (inc_1 _) rfl rfl ?_
              refine x_goto (tgt := 26) dX6_sort_64 rfl ?_
              have e : cwi h j (g + 1) = cwi h j g + 1 := by simp [cwi, e2]
              rw [← e]
              exact ih (g + 1) (by omega)
      refine x_iconst dX6_sort_21 ic_0 ?_
      refine x_istore_n (ls' := [.ref 0, .int (nI j), .int (nI q), .int (nI 0), .null]) dX6_sort_22 rfl rfl ?_
      refine x_iconst dX6_sort_23 ic_0 ?_
      refine x_istore (ls' := [.ref 0, .int (nI j), .int (nI q), .int (nI 0), .int (nI 0)]) dX6_sort_24 rfl rfl ?_
      exact lp n 0 (by omega)
    ·
      refine x_bipush dX6_sort_18 bp_m2 ?_
      refine x_ireti dX6_sort_20 rfl ⟨by rw [spSort]; dsimp only; rw [c, if_pos rfl, if_neg (out_ne c2 (by decide) (by decide)), if_neg (out_ne c2 (by decide) (by decide)), if_neg (out_ne c2 (by decide) (by decide))], hR⟩
  ·
    refine x_iconst dX6_sort_7 ic_m1 ?_
    refine x_ireti dX6_sort_8 rfl ⟨by rw [spSort]; dsimp only; rw [c]; rfl, hR⟩
theorem m_breaks {what : Int32} (hW : WOk W) (hR : MR I W) : Cx LM yX6_breaks mX6_breaks 8 [.ref 0, .int what] I (xRi (fun r J => r = spBreaks what W ∧ MR J W)) := by
  obtain ⟨⟨n, h, a, L⟩, im⟩ := W
  have h1 : 1 ≤ n := hW.1.1
  have hn : n ≤ 8 := hW.1.2.1
  have hh : ∀ g, h g < 1024 := hW.1.2.2.1
  have ha : ∀ g, a g < 256 := hW.1.2.2.2.1
  have hL : ∀ p, p < n → L p < n := hW.1.2.2.2.2.1
  have hinj : ∀ p q, p < n → q < n → L p = L q → p = q := hW.1.2.2.2.2.2.1
  have hL8 : ∀ p, p < 8 → L p < 8 := hW.1.2.2.2.2.2.2
  have hM : MSt I n h a L := hR.1
  have hF : I 0 4 = nI 0 ∨ (I 0 4 = nI 1 ∧ I 0 5 = oI (fewB n h a)) := hR.2.1
  refine Cx.of [.ref 0, .int what] (by decide) rfl rfl (Nat.le_of_ble_eq_true rfl) rfl ?_
  refine x_iload_n dX6_breaks_0 rfl ?_
  refine x_iconst dX6_breaks_1 ic_0 ?_
  refine x_iconst dX6_breaks_2 ic_2 ?_
  refine x_callSi (as := [.int what, .int (nI 0), .int (nI 2)]) ml_X6_50 st_X6_in ct_X6_in (c_in (d := 0)) dX6_breaks_3 (by decide) rfl rfl (Nat.le_of_ble_eq_true rfl) (fun r0 J0 h0 => ?_)
  obtain ⟨rfl, hJ0⟩ := h0
  obtain rfl := hJ0.symm
  rw [inB_3]
  refine x_ifb_ne (b := inR what 3) (tgt := 12) dX6_breaks_6 rfl (fun c2 => ?_) (fun c2 => ?_)
  ·
    obtain ⟨q, hq, rfl⟩ := inR_of c2
    refine x_aload_n dX6_breaks_12 rfl ?_
    refine x_callVv 5 ml_X6_104 in_X6_layFewest se_X6_layFewest ct_X6_layFewest rfl (c_layFewest (d := 3) (by decide) h1 hn hh ha hM hF) dX6_breaks_13 (by decide) rfl rfl rfl rfl (Nat.le_of_ble_eq_true rfl) (fun J0 h0 => ?_)
    obtain ⟨f4, f5, f0, ff⟩ := h0
    refine x_aload_n dX6_breaks_16 rfl ?_
    refine x_callVv 5 ml_X6_142 in_X6_takeRow se_X6_takeRow ct_X6_takeRow rfl (c_takeRow (d := 0) (L := L) (by rw [ff 1 (by decide) (by decide)]; exact hM.2.2.2)) dX6_breaks_17 (by decide) rfl rfl rfl rfl (Nat.le_of_ble_eq_true rfl) (fun J0 h0 => ?_)
    obtain ⟨t1, t2⟩ := h0
    refine x_iload_n dX6_breaks_20 rfl ?_
    have hMJ : MSt J0 n h a L := hM.kept (by rw [t2 1 (by decide)]; exact ff 1 (by decide) (by decide))
    have hRJ : MR J0 ((n, h, a, L), im) := hR.base (by
      unfold Base; rw [t2 0 (by decide), t2 1 (by decide), t2 2 (by decide), t2 3 (by decide)]
      exact ⟨f4, f5, ff 1 (by decide) (by decide), ff 2 (by decide) (by decide), ff 3 (by decide) (by decide)⟩)
    have tO : ∀ p, p < n → J0 4 p = nI (L p) := fun p hp => t1 p (by omega)
    have t8 : ∀ p, p < n → L p < 8 := fun p hp => hL8 p (by omega)
    refine x_ifn_ne (a := q) (by omega) (tgt := 31) dX6_breaks_21 rfl (fun d1 => ?_) (fun d1 => ?_)
    ·
      refine x_iload_n dX6_breaks_31 rfl ?_
      refine x_iconst dX6_breaks_32 ic_1 ?_
      refine x_icmpn_ne (a := q) (b := 1) (by omega) (by omega) (tgt := 51) dX6_breaks_33 rfl (fun d2 => ?_) (fun d2 => ?_)
      ·
        refine x_aload_n dX6_breaks_51 rfl ?_
        refine x_callVi 5 ml_X6_126 in_X6_isBest se_X6_isBest ct_X6_isBest rfl (c_isBest (d := 3) (w := seg L 0 n) (by decide) hn hh ha (fewB_lt hn) hMJ (by rw [t2 0 (by decide)]; exact f5) (c_isAllowed ha t8 tO hMJ hn) (c_breaksNow (by decide) hh t8 tO hMJ hn) (by rw [seg_len]; exact hn)) dX6_breaks_52 (by decide) rfl rfl rfl rfl (Nat.le_of_ble_eq_true rfl) (fun r0 J0 h0 => ?_)
        obtain ⟨rfl, hJ0⟩ := h0
        obtain rfl := hJ0.symm
        refine x_ifb_eq (b := (isB n h a (seg L 0 n))) (tgt := 62) dX6_breaks_55 rfl (fun d3 => ?_) (fun d3 => ?_)
        ·
          refine x_iconst dX6_breaks_62 ic_0 ?_
          refine x_ireti dX6_breaks_63 rfl ⟨by rw [spBreaks]; rw [if_neg (nIe (by omega) (by omega) d1), if_neg (nIe (by omega) (by omega) d2), show q = 2 by omega, if_pos rfl]; dsimp only [rw0]; rw [d3]; rfl, hRJ⟩
        ·
          refine x_iconst dX6_breaks_58 ic_1 ?_
          refine x_goto (tgt := 63) dX6_breaks_59 rfl ?_
          refine x_ireti dX6_breaks_63 rfl ⟨by rw [spBreaks]; rw [if_neg (nIe (by omega) (by omega) d1), if_neg (nIe (by omega) (by omega) d2), show q = 2 by omega, if_pos rfl]; dsimp only [rw0]; rw [d3]; rfl, hRJ⟩
      ·
        refine x_aload_n dX6_breaks_36 rfl ?_
        refine x_callVi 5 ml_X6_94 in_X6_isAllowed se_X6_isAllowed ct_X6_isAllowed rfl (c_isAllowed (d := 3) ha t8 tO hMJ hn) dX6_breaks_37 (by decide) rfl rfl rfl rfl (Nat.le_of_ble_eq_true rfl) (fun r0 J0 h0 => ?_)
        obtain ⟨rfl, hJ0⟩ := h0
        obtain rfl := hJ0.symm
        refine x_ifb_eq (b := (al a 0 (seg L 0 n))) (tgt := 47) dX6_breaks_40 rfl (fun d3 => ?_) (fun d3 => ?_)
        ·
          refine x_iconst dX6_breaks_47 ic_0 ?_
          refine x_goto (tgt := 63) dX6_breaks_48 rfl ?_
          refine x_ireti dX6_breaks_63 rfl ⟨by rw [spBreaks]; rw [if_neg (nIe (by omega) (by omega) d1), d2, if_pos rfl]; dsimp only [rw0]; rw [d3]; rfl, hRJ⟩
        ·
          refine x_iconst dX6_breaks_43 ic_1 ?_
          refine x_goto (tgt := 63) dX6_breaks_44 rfl ?_
          refine x_ireti dX6_breaks_63 rfl ⟨by rw [spBreaks]; rw [if_neg (nIe (by omega) (by omega) d1), d2, if_pos rfl]; dsimp only [rw0]; rw [d3]; rfl, hRJ⟩
    ·
      refine x_aload_n dX6_breaks_24 rfl ?_
      refine x_callVi 5 ml_X6_98 in_X6_breaksNow se_X6_breaksNow ct_X6_breaksNow rfl (c_breaksNow (d := 3) (by decide) hh t8 tO hMJ hn) dX6_breaks_25 (by decide) rfl rfl rfl rfl (Nat.le_of_ble_eq_true rfl) (fun r0 J0 h0 => ?_)
      obtain ⟨rfl, hJ0⟩ := h0
      obtain rfl := hJ0.symm
      refine x_goto (tgt := 63) dX6_breaks_28 rfl ?_
      refine x_ireti dX6_breaks_63 rfl ⟨by rw [spBreaks]; rw [d1, if_pos rfl]; rfl, hRJ⟩
  ·
    refine x_bipush dX6_breaks_9 bp_m2 ?_
    refine x_ireti dX6_breaks_11 rfl ⟨by rw [spBreaks, if_neg (out_ne c2 (by decide) (by decide)), if_neg (out_ne c2 (by decide) (by decide)), if_neg (out_ne c2 (by decide) (by decide))], hR⟩
theorem inB_R0 {x : Int32} {n : Nat} (h1 : 1 ≤ n) (hn : n < 2 ^ 31) : inB x (nI 0) (nI n - nI 2) = inR x (n - 1) := by
  rcases Nat.lt_or_ge n 2 with e | e
  · have en : n = 1 := by omega
    subst en
    have e1 : nI 1 - nI 2 = (-1) := by decide +kernel
    have e2 : (-1 : Int32).toInt = -1 := by decide +kernel
    rw [e1]
    unfold inB inR
    rw [nI_toInt (by omega), e2]
    exact decide_eq_decide.mpr (by omega)
  · rw [pk_sub e, ← inB_R (by omega) (by omega)]; rfl
theorem m_swap {k : Int32} (hW : WOk W) (hR : MR I W) : Cx LM yX6_swap mX6_swap 8 [.ref 0, .int k] I (xRi (fun r J => r = (spSwap k W).1 ∧ MR J (spSwap k W).2)) := by
  obtain ⟨⟨n, h, a, L⟩, im⟩ := W
  have h1 : 1 ≤ n := hW.1.1
  have hn : n ≤ 8 := hW.1.2.1
  have hh : ∀ g, h g < 1024 := hW.1.2.2.1
  have ha : ∀ g, a g < 256 := hW.1.2.2.2.1
  have hL : ∀ p, p < n → L p < n := hW.1.2.2.2.2.1
  have hinj : ∀ p q, p < n → q < n → L p = L q → p = q := hW.1.2.2.2.2.2.1
  have hL8 : ∀ p, p < 8 → L p < 8 := hW.1.2.2.2.2.2.2
  have hM : MSt I n h a L := hR.1
  have hF : I 0 4 = nI 0 ∨ (I 0 4 = nI 1 ∧ I 0 5 = oI (fewB n h a)) := hR.2.1
  refine Cx.of [.ref 0, .int k] (by decide) rfl rfl (Nat.le_of_ble_eq_true rfl) rfl ?_
  refine x_iload_n dX6_swap_0 rfl ?_
  refine x_iconst dX6_swap_1 ic_0 ?_
  refine x_aload_n dX6_swap_2 rfl ?_
  refine x_getR 5 0 rfl (by decide) fl_X6_7 dX6_swap_3 rfl rfl rfl ?_
  refine x_iconst dX6_swap_6 ic_0 ?_
  refine x_iald (p := 0) (v := nI n) dX6_swap_7 rfl rfl rfl rfl (by omega) hM.1 ?_
  refine x_iconst dX6_swap_8 ic_2 ?_
  refine x_isub (v := nI n - nI 2) dX6_swap_9 rfl ?_
  refine x_callSi (as := [.int k, .int (nI 0), .int (nI n - nI 2)]) ml_X6_50 st_X6_in ct_X6_in (c_in (d := 0)) dX6_swap_10 (by decide) rfl rfl (Nat.le_of_ble_eq_true rfl) (fun r0 J0 h0 => ?_)
  obtain ⟨rfl, hJ0⟩ := h0
  obtain rfl := hJ0.symm
  rw [inB_R0 h1 (by omega)]
  refine x_ifb_ne (b := inR k (n - 1)) (tgt := 19) dX6_swap_13 rfl (fun c => ?_) (fun c => ?_)
  ·
    obtain ⟨j, hj, rfl⟩ := inR_of c
    have e0 : spSwap (nI j) ((n, h, a, L), im) = (nI (brk h (seg (swp L j) 0 n)), ((n, h, a, swp L j), im)) := by
      rw [spSwap]; dsimp only; rw [c, if_pos rfl, tN_nI (by omega)]; rfl
    refine x_aload_n dX6_swap_19 rfl ?_
    refine x_iload_n dX6_swap_20 rfl ?_
    refine x_callVv 5 ml_X6_145 in_X6_swapRow se_X6_swapRow ct_X6_swapRow rfl (c_swapRow (d := 0) (by omega)) dX6_swap_21 (by decide) rfl rfl rfl rfl (Nat.le_of_ble_eq_true rfl) (fun J0 h0 => ?_)
    obtain rfl := h0.symm
    refine x_aload_n dX6_swap_24 rfl ?_
    refine x_callVi 5 ml_X6_148 in_X6_rowBreaks se_X6_rowBreaks ct_X6_rowBreaks rfl (c_rowBreaks (d := 3) (L := swp L j) (by decide) hh (fun p hp => by unfold swp; split; exact hL8 _ (by omega); split; exact hL8 _ (by omega); exact hL8 _ (by omega)) (hM.ex (by omega)) hn) dX6_swap_25 (by decide) rfl rfl rfl rfl (Nat.le_of_ble_eq_true rfl) (fun r0 J0 h0 => ?_)
    obtain ⟨rfl, t2⟩ := h0
    refine x_ireti dX6_swap_28 rfl ⟨by rw [e0], ?_⟩
    rw [e0]
    have hMx := hM.ex (k := j) (by omega)
    refine MR.st (W := ((n, h, a, L), im)) (T := (n, h, a, swp L j)) hR (hMx.kept (t2 1 (by decide))) ?_ ?_ ?_
    · rw [t2 0 (by decide), exI_ne _ (by decide)]; exact hF
    · rw [t2 2 (by decide), exI_ne _ (by decide)]
    · rw [t2 3 (by decide), exI_ne _ (by decide)]
  ·
    refine x_bipush dX6_swap_16 bp_m2 ?_
    have e0 : spSwap k ((n, h, a, L), im) = (-2, ((n, h, a, L), im)) := by rw [spSwap]; dsimp only; rw [c]; rfl
    refine x_ireti dX6_swap_18 rfl ⟨by rw [e0], by rw [e0]; exact hR⟩
end MP
end
section
/-! the reference: its calls, to the end -/
theorem beL_or (f : Nat → Nat) : ∀ (c k fw : Nat) (fd : Int32), beL f k c fw fd = fd ∨ ∃ j, k ≤ j ∧ j < k + c ∧ beL f k c fw fd = nI j ∧ f j < fw
  | 0, k, fw, fd => Or.inl rfl
  | c + 1, k, fw, fd => by
    simp only [beL]
    by_cases e : f k < fw
    · rw [if_pos e]
      rcases beL_or f c (k + 1) (f k) (nI k) with h | ⟨j, h1, h2, h3, h4⟩
      · exact Or.inr ⟨k, Nat.le_refl _, by omega, h, e⟩
      · exact Or.inr ⟨j, by omega, by omega, h3, by omega⟩
    · rw [if_neg e]
      rcases beL_or f c (k + 1) fw fd with h | ⟨j, h1, h2, h3, h4⟩
      · exact Or.inl h
      · exact Or.inr ⟨j, by omega, by omega, h3, h4⟩
theorem neg6 : (-6 : Int32) < 0 := by decide +kernel
theorem bsw_or (T : ST) : bsw T = (-6) ∨ ∃ j, j < T.1 - 1 ∧ bsw T = nI j ∧ brk T.2.1 (seg (swp T.2.2.2 j) 0 T.1) < brk T.2.1 (rw0 T) := by
  rcases beL_or (fun k => brk T.2.1 (seg (swp T.2.2.2 k) 0 T.1)) (T.1 - 1) 0 (brk T.2.1 (rw0 T)) (-6) with h | ⟨j, h1, h2, h3, h4⟩
  · exact Or.inl h
  · exact Or.inr ⟨j, by omega, h3, h4⟩
theorem TOk_swp {n : Nat} {h a L : Nat → Nat} (hT : TOk (n, h, a, L)) {j : Nat} (hj : j + 1 < n) : TOk (n, h, a, swp L j) := by
  obtain ⟨h1, h2, h3, h4, h5, h6, h7⟩ := hT
  dsimp only at *
  have key : ∀ p, p < n → ∃ q, q < n ∧ swp L j p = L q ∧ (q = if p = j + 1 then j else if p = j then j + 1 else p) := by
    intro p hp
    unfold swp
    by_cases e1 : p = j + 1
    · rw [if_pos e1, if_pos e1]; exact ⟨j, by omega, rfl, rfl⟩
    · rw [if_neg e1, if_neg e1]
      by_cases e2 : p = j
      · rw [if_pos e2, if_pos e2]; exact ⟨j + 1, hj, rfl, rfl⟩
      · rw [if_neg e2, if_neg e2]; exact ⟨p, hp, rfl, rfl⟩
  refine ⟨h1, h2, h3, h4, fun p hp => ?_, fun p q hp hq e => ?_, fun p hp => ?_⟩
  · obtain ⟨q, hq, e, _⟩ := key p hp
    show _ < n
    rw [show (n, h, a, swp L j).2.2.2 p = _ from e]; exact h5 q hq
  · obtain ⟨p', hp', e1, f1⟩ := key p hp
    obtain ⟨q', hq', e2, f2⟩ := key q hq
    have e : L p' = L q' := by rw [← e1, ← e2]; exact e
    have := h6 p' q' hp' hq' e
    rw [f1, f2] at this
    clear f1 f2 e1 e2
    repeat' split at this
    all_goals omega
  · show swp L j p < 8
    unfold swp
    split
    · exact h7 _ (by omega)
    · split
      · exact h7 _ (by omega)
      · exact h7 _ hp
theorem WOk_better {W : WS} (hW : WOk W) : WOk (spBetter W).2 := by
  obtain ⟨⟨n, h, a, L⟩, im⟩ := W
  refine ⟨?_, hW.2⟩
  show TOk (n, h, a, swI L (bsw (n, h, a, L)))
  unfold swI
  have h1 : 1 ≤ n := hW.1.1
  have hn : n ≤ 8 := hW.1.2.1
  rcases bsw_or (n, h, a, L) with e | ⟨j, hj, e, _⟩
  · rw [e, if_pos neg6]; exact hW.1
  · have hj : j < n - 1 := hj
    rw [e, if_neg (nI_pos (by omega)), tN_nI (by omega)]; exact TOk_swp hW.1 (by omega)
section MP
variable {I : xMem} {W : WS} {n d : Nat} {h a L : Nat → Nat}
theorem exI_back {J K : xMem} {c q : Nat} (e : K c = exI J c q c) : exI K c q c = J c := by
  funext p
  rw [exI_at, e, exI_at, exI_at, exI_at]
  by_cases h1 : p = q + 1
  · subst h1; simp
  · by_cases h2 : p = q
    · subst h2; simp
    · simp [h1, h2]
theorem c_makeBest (hd : 4 ≤ d) (h1 : 1 ≤ n) (hn : n ≤ 8) (hh : ∀ g, h g < 1024) (hL8 : ∀ p, p < 8 → L p < 8) (hM : MSt I n h a L) : Cx LM yX6_makeBest mX6_makeBest d [.ref 0] I (xRi (fun r J => r = bsw (n, h, a, L) ∧ MSt J n h a (swI L r) ∧ ∀ c, c ≠ 1 → c ≠ 4 → J c = I c)) := by
  have fin : ∀ (v1 v3 v4 : Value) (J : xMem), (∀ c, c ≠ 4 → J c = I c) → Wx LM mX6_makeBest d (xRi (fun r J => r = bsw (n, h, a, L) ∧ MSt J n h a (swI L r) ∧ ∀ c, c ≠ 1 → c ≠ 4 → J c = I c)) 69 [.ref 0, v1, .int (bsw (n, h, a, L)), v3, v4] [] J := by
    intro v1 v3 v4 J hJ
    have hMJ := hM.kept (hJ 1 (by decide))
    refine x_iload_n dX6_makeBest_69 rfl ?_
    rcases bsw_or (n, h, a, L) with e | ⟨j, hj, e, _⟩
    ·
      refine x_if_lt (tgt := 78) dX6_makeBest_70 rfl (fun c => ?_) (fun c => ?_)
      ·
        refine x_iload_n dX6_makeBest_78 rfl ?_
        refine x_ireti dX6_makeBest_79 rfl ⟨rfl, by unfold swI; rw [if_pos c]; exact hMJ, fun c _ e4 => hJ c e4⟩
      ·
        exact absurd (by rw [e]; exact neg6) c
    ·
      have hj : j < n - 1 := hj
      refine x_if_lt (tgt := 78) dX6_makeBest_70 rfl (fun c => ?_) (fun c => ?_)
      ·
        exact absurd (by rw [e] at c; exact c) (nI_pos (by omega))
      ·
        have e2 : swI L (bsw (n, h, a, L)) = swp L j := by unfold swI; rw [if_neg c, e, tN_nI (by omega)]
        rw [e]
        refine x_aload_n dX6_makeBest_73 rfl ?_
        refine x_iload_n dX6_makeBest_74 rfl ?_
        refine x_callVv 5 ml_X6_145 in_X6_swapRow se_X6_swapRow ct_X6_swapRow rfl (c_swapRow (d := 0) (by omega)) dX6_makeBest_75 (by omega) rfl rfl rfl rfl (Nat.le_of_ble_eq_true rfl) (fun J0 h0 => ?_)
        obtain rfl := h0.symm
        refine x_iload_n dX6_makeBest_78 rfl ?_
        refine x_ireti dX6_makeBest_79 rfl ⟨rfl, by rw [← e, e2]; exact hMJ.ex (by omega), fun c e1 e4 => by rw [exI_ne _ e1]; exact hJ c e4⟩
  have lp : ∀ (k j fw : Nat) (fd : Int32) (v4 : Value) (J : xMem), j + k = n - 1 → fw ≤ 80 → beL (fun k => brk h (seg (swp L k) 0 n)) j k fw fd = bsw (n, h, a, L) → (∀ c, c ≠ 4 → J c = I c) → Wx LM mX6_makeBest d (xRi (fun r J => r = bsw (n, h, a, L) ∧ MSt J n h a (swI L r) ∧ ∀ c, c ≠ 1 → c ≠ 4 → J c = I c)) 10 [.ref 0, .int (nI fw), .int fd, .int (nI j), v4] [] J := by
    intro k
    induction k with
    | zero =>
      intro j fw fd v4 J hj hfw hb hJ
      simp only [beL] at hb
      have hMJ := hM.kept (hJ 1 (by decide))
      subst hb
      refine x_iload_n dX6_makeBest_10 rfl ?_
      refine x_aload_n dX6_makeBest_11 rfl ?_
      refine x_getR 5 0 rfl (by decide) fl_X6_7 dX6_makeBest_12 rfl rfl rfl ?_
      refine x_iconst dX6_makeBest_15 ic_0 ?_
      refine x_iald (p := 0) (v := nI n) dX6_makeBest_16 rfl rfl rfl rfl (by omega) hMJ.1 ?_
      refine x_iconst dX6_makeBest_17 ic_1 ?_
      refine x_isub (v := nI (n - 1)) dX6_makeBest_18 (pk_sub (by omega)) ?_
      refine x_icmpn_ge (a := j) (b := n - 1) (by omega) (by omega) (tgt := 69) dX6_makeBest_19 rfl (fun c => ?_) (fun c => ?_)
      ·
        exact fin _ _ _ J hJ
      ·
        omega
    | succ k ih =>
      intro j fw fd v4 J hj hfw hb hJ
      simp only [beL] at hb
      have hMJ := hM.kept (hJ 1 (by decide))
      have hbl := brk_le h (seg (swp L j) 0 n)
      rw [seg_len] at hbl
      refine x_iload_n dX6_makeBest_10 rfl ?_
      refine x_aload_n dX6_makeBest_11 rfl ?_
      refine x_getR 5 0 rfl (by decide) fl_X6_7 dX6_makeBest_12 rfl rfl rfl ?_
      refine x_iconst dX6_makeBest_15 ic_0 ?_
      refine x_iald (p := 0) (v := nI n) dX6_makeBest_16 rfl rfl rfl rfl (by omega) hMJ.1 ?_
      refine x_iconst dX6_makeBest_17 ic_1 ?_
      refine x_isub (v := nI (n - 1)) dX6_makeBest_18 (pk_sub (by omega)) ?_
      refine x_icmpn_ge (a := j) (b := n - 1) (by omega) (by omega) (tgt := 69) dX6_makeBest_19 rfl (fun c => ?_) (fun c => ?_)
      ·
        omega
      ·
        refine x_aload_n dX6_makeBest_22 rfl ?_
        refine x_iload_n dX6_makeBest_23 rfl ?_
        refine x_callVv 5 ml_X6_145 in_X6_swapRow se_X6_swapRow ct_X6_swapRow rfl (c_swapRow (d := 0) (by omega)) dX6_makeBest_24 (by omega) rfl rfl rfl rfl (Nat.le_of_ble_eq_true rfl) (fun J0 h0 => ?_)
        obtain rfl := h0.symm
        refine x_aload_n dX6_makeBest_27 rfl ?_
        refine x_callVi 5 ml_X6_148 in_X6_rowBreaks se_X6_rowBreaks ct_X6_rowBreaks rfl (c_rowBreaks (d := 3) (L := swp L j) (by decide) hh (fun p hp => by unfold swp; split; exact hL8 _ (by omega); split; exact hL8 _ (by omega); exact hL8 _ (by omega)) (hMJ.ex (by omega)) hn) dX6_makeBest_28 hd rfl rfl rfl rfl (Nat.le_of_ble_eq_true rfl) (fun r0 J0 h0 => ?_)
        obtain ⟨rfl, t2⟩ := h0
        refine x_istore (ls' := [.ref 0, .int (nI fw), .int fd, .int (nI j), .int (nI (brk h (seg (swp L j) 0 n)))]) dX6_makeBest_31 rfl rfl ?_
        refine x_aload_n dX6_makeBest_33 rfl ?_
        refine x_iload_n dX6_makeBest_34 rfl ?_
        refine x_callVv 5 ml_X6_145 in_X6_swapRow se_X6_swapRow ct_X6_swapRow rfl (c_swapRow (d := 0) (by omega)) dX6_makeBest_35 (by omega) rfl rfl rfl rfl (Nat.le_of_ble_eq_true rfl) (fun J0 h0 => ?_)
        have eJ := h0
        refine x_iload dX6_makeBest_38 rfl ?_
        refine x_iload_n dX6_makeBest_40 rfl ?_
        have hJ' : ∀ c, c ≠ 4 → J0 c = I c := by
          intro c e4
          rw [eJ]
          by_cases e1 : c = 1
          · subst e1; rw [exI_back (t2 1 (by decide))]; exact hJ 1 e4
          · rw [exI_ne _ e1, t2 c e4, exI_ne _ e1]; exact hJ c e4
        refine x_icmpn_ge (a := brk h (seg (swp L j) 0 n)) (b := fw) (by omega) (by omega) (tgt := 48) dX6_makeBest_41 rfl (fun c2 => ?_) (fun c2 => ?_)
        ·
          refine x_iload_n dX6_makeBest_48 rfl ?_
          refine x_istore_n (ls' := [.ref 0, .int (nI fw), .int fd, .int (nI j), .int (nI (brk h (seg (swp L j) 0 n)))]) dX6_makeBest_49 rfl rfl ?_
          refine x_iload dX6_makeBest_50 rfl ?_
          refine x_iload_n dX6_makeBest_52 rfl ?_
          refine x_icmpn_ge (a := brk h (seg (swp L j) 0 n)) (b := fw) (by omega) (by omega) (tgt := 61) dX6_makeBest_53 rfl (fun c3 => ?_) (fun c3 => ?_)
          ·
            refine x_iload_n dX6_makeBest_61 rfl ?_
            refine x_istore_n (ls' := [.ref 0, .int (nI fw), .int fd, .int (nI j), .int (nI (brk h (seg (swp L j) 0 n)))]) dX6_makeBest_62 rfl rfl ?_
            refine x_iinc (v := nI (j + 1)) (ls' := [.ref 0, .int (nI fw), .int fd, .int (nI (j + 1)), .int (nI (brk h (seg (swp L j) 0 n)))]) dX6_makeBest_63 rfl (inc_1 _) rfl rfl ?_
            refine x_goto (tgt := 10) dX6_makeBest_66 rfl ?_
            rw [if_neg (by omega)] at hb
            exact ih (j + 1) _ _ _ _ (by omega) (by omega) hb hJ'
          ·
            omega
        ·
          refine x_iload_n dX6_makeBest_44 rfl ?_
          refine x_goto (tgt := 49) dX6_makeBest_45 rfl ?_
          refine x_istore_n (ls' := [.ref 0, .int (nI fw), .int (nI j), .int (nI j), .int (nI (brk h (seg (swp L j) 0 n)))]) dX6_makeBest_49 rfl rfl ?_
          refine x_iload dX6_makeBest_50 rfl ?_
          refine x_iload_n dX6_makeBest_52 rfl ?_
          refine x_icmpn_ge (a := brk h (seg (swp L j) 0 n)) (b := fw) (by omega) (by omega) (tgt := 61) dX6_makeBest_53 rfl (fun c3 => ?_) (fun c3 => ?_)
          ·
            omega
          ·
            refine x_iload dX6_makeBest_56 rfl ?_
            refine x_goto (tgt := 62) dX6_makeBest_58 rfl ?_
            refine x_istore_n (ls' := [.ref 0, .int (nI (brk h (seg (swp L j) 0 n))), .int (nI j), .int (nI j), .int (nI (brk h (seg (swp L j) 0 n)))]) dX6_makeBest_62 rfl rfl ?_
            refine x_iinc (v := nI (j + 1)) (ls' := [.ref 0, .int (nI (brk h (seg (swp L j) 0 n))), .int (nI j), .int (nI (j + 1)), .int (nI (brk h (seg (swp L j) 0 n)))]) dX6_makeBest_63 rfl (inc_1 _) rfl rfl ?_
            refine x_goto (tgt := 10) dX6_makeBest_66 rfl ?_
            rw [if_pos c2] at hb
            exact ih (j + 1) _ _ _ _ (by omega) (by omega) hb hJ'
  have hb0 := brk_le h (seg L 0 n)
  rw [seg_len] at hb0
  refine Cx.of [.ref 0, .null, .null, .null, .null] (by decide) rfl rfl (Nat.le_of_ble_eq_true rfl) rfl ?_
  refine x_aload_n dX6_makeBest_0 rfl ?_
  refine x_callVi 5 ml_X6_148 in_X6_rowBreaks se_X6_rowBreaks ct_X6_rowBreaks rfl (c_rowBreaks (d := 3) (by decide) hh (fun p hp => hL8 p (by omega)) hM hn) dX6_makeBest_1 hd rfl rfl rfl rfl (Nat.le_of_ble_eq_true rfl) (fun r0 J0 h0 => ?_)
  obtain ⟨rfl, t2⟩ := h0
  refine x_istore_n (ls' := [.ref 0, .int (nI (brk h (seg L 0 n))), .null, .null, .null]) dX6_makeBest_4 rfl rfl ?_
  refine x_bipush dX6_makeBest_5 bp_m6 ?_
  refine x_istore_n (ls' := [.ref 0, .int (nI (brk h (seg L 0 n))), .int (-6), .null, .null]) dX6_makeBest_7 rfl rfl ?_
  refine x_iconst dX6_makeBest_8 ic_0 ?_
  refine x_istore_n (ls' := [.ref 0, .int (nI (brk h (seg L 0 n))), .int (-6), .int (nI 0), .null]) dX6_makeBest_9 rfl rfl ?_
  exact lp (n - 1) 0 _ _ _ J0 (by omega) (by omega) rfl t2
theorem g_makeBest (hd : 4 ≤ d) (hW : WOk W) (hR : MR I W) : Cx LM yX6_makeBest mX6_makeBest d [.ref 0] I (xRi (fun r J => r = (spBetter W).1 ∧ MR J (spBetter W).2)) := by
  obtain ⟨⟨n, h, a, L⟩, im⟩ := W
  have h1 : 1 ≤ n := hW.1.1
  have hn : n ≤ 8 := hW.1.2.1
  have hh : ∀ g, h g < 1024 := hW.1.2.2.1
  have ha : ∀ g, a g < 256 := hW.1.2.2.2.1
  have hL : ∀ p, p < n → L p < n := hW.1.2.2.2.2.1
  have hinj : ∀ p q, p < n → q < n → L p = L q → p = q := hW.1.2.2.2.2.2.1
  have hL8 : ∀ p, p < 8 → L p < 8 := hW.1.2.2.2.2.2.2
  have hM : MSt I n h a L := hR.1
  have hF : I 0 4 = nI 0 ∨ (I 0 4 = nI 1 ∧ I 0 5 = oI (fewB n h a)) := hR.2.1
  refine Cx.mono (c_makeBest hd h1 hn hh hL8 hM) ?_
  rintro v J ⟨r, rfl, rfl, q1, q2⟩
  refine ⟨_, rfl, rfl, ?_⟩
  refine MR.st (W := ((n, h, a, L), im)) (T := (n, h, a, swI L (bsw (n, h, a, L)))) hR q1 ?_ (q2 2 (by decide) (by decide)) (q2 3 (by decide) (by decide))
  rw [q2 0 (by decide) (by decide)]; exact hF
theorem m_better (hW : WOk W) (hR : MR I W) : Cx LM yX6_better mX6_better 8 [.ref 0] I (xRi (fun r J => r = (spBetter W).1 ∧ MR J (spBetter W).2)) := by
  refine Cx.of [.ref 0] (by decide) rfl rfl (Nat.le_of_ble_eq_true rfl) rfl ?_
  refine x_aload_n dX6_better_0 rfl ?_
  refine x_callVi 5 ml_X6_151 in_X6_makeBest se_X6_makeBest ct_X6_makeBest rfl (g_makeBest (d := 4) (by decide) hW hR) dX6_better_1 (by decide) rfl rfl rfl rfl (Nat.le_of_ble_eq_true rfl) (fun r0 J0 h0 => ?_)
  obtain ⟨rfl, q1⟩ := h0
  refine x_ireti dX6_better_4 rfl ⟨rfl, q1⟩
def bkW (W : WS) : Nat := brk W.1.2.1 (rw0 W.1)
theorem bkW_le {W : WS} (hW : WOk W) : bkW W ≤ 80 := by
  have := brk_le W.1.2.1 (rw0 W.1)
  rw [rw0, seg_len] at this
  have := hW.1.2.1
  unfold bkW rw0; omega
theorem bkW_lt {W : WS} (hW : WOk W) (h : ¬ (spBetter W).1 < 0) : bkW (spBetter W).2 < bkW W := by
  obtain ⟨⟨n, h0, a, L⟩, im⟩ := W
  have hn : n ≤ 8 := hW.1.2.1
  rcases bsw_or (n, h0, a, L) with e | ⟨j, hj, e, hl⟩
  · exact absurd (by show bsw (n, h0, a, L) < 0; rw [e]; exact neg6) h
  · have hj : j < n - 1 := hj
    show brk h0 (seg (swI L (bsw (n, h0, a, L))) 0 n) < _
    unfold swI
    rw [e, if_neg (nI_pos (by omega)), tN_nI (by omega)]; exact hl
theorem clF_s (f : Nat) (W : WS) : clF (f + 1) W = if (spBetter W).1 < 0 then (0, W) else ((clF f (spBetter W).2).1 + 1, (clF f (spBetter W).2).2) := rfl
theorem clF_le : ∀ (f : Nat) (W : WS), (clF f W).1 ≤ f
  | 0, W => Nat.le_refl _
  | f + 1, W => by
    simp only [clF]
    split
    · exact Nat.zero_le _
    · have := clF_le f (spBetter W).2; dsimp only; omega
theorem m_climb (hW : WOk W) (hR : MR I W) : Cx LM yX6_climb mX6_climb 8 [.ref 0] I (xRi (fun r J => r = (spClimb W).1 ∧ MR J (spClimb W).2)) := by
  have lp : ∀ (f c : Nat) (V : WS) (J : xMem), bkW V < f → WOk V → MR J V → c + (clF f V).1 = (clF 1000 W).1 → (clF f V).2 = (clF 1000 W).2 → Wx LM mX6_climb 8 (xRi (fun r J => r = (spClimb W).1 ∧ MR J (spClimb W).2)) 2 [.ref 0, .int (nI c)] [] J := by
    intro f
    induction f with
    | zero => intro c V J hb; omega
    | succ f ih =>
      intro c V J hb hV hRV e1 e2
      rw [clF_s] at e1 e2
      refine x_aload_n dX6_climb_2 rfl ?_
      refine x_callVi 5 ml_X6_151 in_X6_makeBest se_X6_makeBest ct_X6_makeBest rfl (g_makeBest (d := 4) (by decide) hV hRV) dX6_climb_3 (by decide) rfl rfl rfl rfl (Nat.le_of_ble_eq_true rfl) (fun r0 J0 h0 => ?_)
      obtain ⟨rfl, q1⟩ := h0
      refine x_if_lt (tgt := 15) dX6_climb_6 rfl (fun c1 => ?_) (fun c1 => ?_)
      ·
        rw [if_pos c1] at e1 e2
        dsimp only at e1 e2
        refine x_iload_n dX6_climb_15 rfl ?_
        refine x_ireti dX6_climb_16 rfl ⟨by rw [spClimb, ← e1]; rfl, by
          have : V = (spClimb W).2 := e2
          rw [← this]
          have hneg : (spBetter V).1 < 0 := c1
          have : (spBetter V).2 = V := by
            obtain ⟨⟨n, h, a, L⟩, im⟩ := V
            show ((n, h, a, swI L (bsw (n, h, a, L))), im) = _
            unfold swI
            rw [if_pos (show bsw (n, h, a, L) < 0 from hneg)]
          rw [this] at q1; exact q1⟩
      ·
        rw [if_neg c1] at e1 e2
        dsimp only at e1 e2
        refine x_iinc (v := nI (c + 1)) (ls' := [.ref 0, .int (nI (c + 1))]) dX6_climb_9 rfl (inc_1 _) rfl rfl ?_
        refine x_goto (tgt := 2) dX6_climb_12 rfl ?_
        exact ih (c + 1) _ J0 (by have := bkW_lt hV c1; omega) (WOk_better hV) q1 (by omega) e2
  have hb := bkW_le hW
  refine Cx.of [.ref 0, .null] (by decide) rfl rfl (Nat.le_of_ble_eq_true rfl) rfl ?_
  refine x_iconst dX6_climb_0 ic_0 ?_
  refine x_istore_n (ls' := [.ref 0, .int (nI 0)]) dX6_climb_1 rfl rfl ?_
  exact lp 1000 0 W I (by omega) hW hR (by omega) rfl
theorem m_nearest {p : Int32} (hW : WOk W) (hR : MR I W) : Cx LM yX6_nearest mX6_nearest 8 [.ref 0, .int p] I (xRi (fun r J => r = spNearest p W ∧ MR J W)) := by
  obtain ⟨⟨n, h, a, L⟩, im⟩ := W
  have h1 : 1 ≤ n := hW.1.1
  have hn : n ≤ 8 := hW.1.2.1
  have hh : ∀ g, h g < 1024 := hW.1.2.2.1
  have ha : ∀ g, a g < 256 := hW.1.2.2.2.1
  have hL : ∀ p, p < n → L p < n := hW.1.2.2.2.2.1
  have hinj : ∀ p q, p < n → q < n → L p = L q → p = q := hW.1.2.2.2.2.2.1
  have hL8 : ∀ p, p < 8 → L p < 8 := hW.1.2.2.2.2.2.2
  have hM : MSt I n h a L := hR.1
  have hF : I 0 4 = nI 0 ∨ (I 0 4 = nI 1 ∧ I 0 5 = oI (fewB n h a)) := hR.2.1
  refine Cx.of [.ref 0, .int p] (by decide) rfl rfl (Nat.le_of_ble_eq_true rfl) rfl ?_
  refine x_iload_n dX6_nearest_0 rfl ?_
  refine x_iconst dX6_nearest_1 ic_m1 ?_
  refine x_aload_n dX6_nearest_2 rfl ?_
  refine x_getR 5 0 rfl (by decide) fl_X6_7 dX6_nearest_3 rfl rfl rfl ?_
  refine x_iconst dX6_nearest_6 ic_0 ?_
  refine x_iald (p := 0) (v := nI n) dX6_nearest_7 rfl rfl rfl rfl (by omega) hM.1 ?_
  refine x_iconst dX6_nearest_8 ic_1 ?_
  refine x_isub (v := nI (n - 1)) dX6_nearest_9 (pk_sub (by omega)) ?_
  refine x_callSi (as := [.int p, .int (-1), .int (nI (n - 1))]) ml_X6_50 st_X6_in ct_X6_in (c_in (d := 0)) dX6_nearest_10 (by decide) rfl rfl (Nat.le_of_ble_eq_true rfl) (fun r0 J0 h0 => ?_)
  obtain ⟨rfl, hJ0⟩ := h0
  obtain rfl := hJ0.symm
  refine x_ifb_ne (b := inB p (-1) (nI (n - 1))) (tgt := 19) dX6_nearest_13 rfl (fun c => ?_) (fun c => ?_)
  ·
    have hbl := bests_len (n := n) (h := h) (a := a) hn
    have hnr : ∀ (l : List (List Nat)) (o : Option (List Nat)), (o ≠ none ∨ l ≠ []) → nrs (stp n L) o l ≠ none := by
      intro l
      induction l with
      | nil => intro o ho; rcases ho with ho | ho; cases o; exact absurd rfl ho; simp [nrs]; exact absurd rfl ho
      | cons w l ih => intro o ho; cases o <;> exact ih _ (Or.inl (by simp))
    refine x_aload_n dX6_nearest_19 rfl ?_
    refine x_iconst dX6_nearest_20 ic_0 ?_
    refine x_callVv 5 ml_X6_132 in_X6_lookAtAll se_X6_lookAtAll ct_X6_lookAtAll rfl (c_lookAtAll (d := 4) (x := nI 0) (by decide) h1 hn hh ha hL hM hF) dX6_nearest_21 (by decide) rfl rfl rfl rfl (Nat.le_of_ble_eq_true rfl) (fun J0 h0 => ?_)
    obtain ⟨q1, q2⟩ := h0
    refine x_aload_n dX6_nearest_24 rfl ?_
    refine x_getI 5 6 (v := nI ((bests n h a).length)) rfl (by decide) fl_X6_107 dX6_nearest_25 rfl rfl rfl q1.1 ?_
    refine x_ifn_ne (a := (bests n h a).length) (by omega) (tgt := 36) dX6_nearest_28 rfl (fun c2 => ?_) (fun c2 => ?_)
    ·
      obtain ⟨w, hw⟩ : ∃ w, nrst (n, h, a, L) = some w := by
        cases e : nrst (n, h, a, L) with
        | none => exact absurd e (hnr _ _ (Or.inr (fun e2 => c2 (by show (bst (n, h, a, L)).length = 0; rw [e2]; rfl))))
        | some w => exact ⟨w, rfl⟩
      have e0 : spNearest p ((n, h, a, L), im) = if p = (-1) then nI (stp n L w) else nI (w.getD (tN p) 0) := by
        rw [spNearest]; dsimp only; rw [c, if_pos rfl, hw]
      refine x_iload_n dX6_nearest_36 rfl ?_
      refine x_iconst dX6_nearest_37 ic_m1 ?_
      refine x_icmp_ne (tgt := 48) dX6_nearest_38 rfl (fun c3 => ?_) (fun c3 => ?_)
      ·
        obtain ⟨j, hj, rfl⟩ : ∃ j : Nat, j < n ∧ p = nI j := by
          have := of_decide_eq_true c
          have em : (-1 : Int32).toInt = -1 := by decide +kernel
          rw [nI_toInt (by omega), em] at this
          have : p.toInt ≠ -1 := fun e => c3 (Int32.toInt_inj.mp (by rw [e, em]))
          exact ⟨p.toInt.toNat, by omega, Int32.toInt_inj.mp (by rw [nI_toInt (by omega)]; omega)⟩
        refine x_aload_n dX6_nearest_48 rfl ?_
        refine x_getR 5 16 rfl (by decide) fl_X6_44 dX6_nearest_49 rfl rfl rfl ?_
        refine x_iload_n dX6_nearest_52 rfl ?_
        refine x_iald (p := j) (v := nI (w.getD j 0)) dX6_nearest_53 rfl rfl rfl rfl (by omega) (q1.2.2.2.1 w hw j hj) ?_
        refine x_ireti dX6_nearest_54 rfl ⟨by rw [e0, if_neg c3, tN_nI (by omega)], hR.base q2⟩
      ·
        refine x_aload_n dX6_nearest_41 rfl ?_
        refine x_getI 5 15 (v := nI (stp n L w)) rfl (by decide) fl_X6_123 dX6_nearest_42 rfl rfl rfl (by rw [q1.2.2.1]; show oI ((nrst (n, h, a, L)).map _) = _; rw [hw]; rfl) ?_
        refine x_goto (tgt := 54) dX6_nearest_45 rfl ?_
        refine x_ireti dX6_nearest_54 rfl ⟨by rw [e0, if_pos c3], hR.base q2⟩
    ·
      have e : nrst (n, h, a, L) = none := by
        show nrs _ none (bests n h a) = none
        rw [List.length_eq_zero_iff.mp c2]; rfl
      refine x_bipush dX6_nearest_31 bp_m6 ?_
      refine x_goto (tgt := 54) dX6_nearest_33 rfl ?_
      refine x_ireti dX6_nearest_54 rfl ⟨by rw [spNearest]; dsimp only; rw [c, if_pos rfl, e], hR.base q2⟩
  ·
    refine x_bipush dX6_nearest_16 bp_m2 ?_
    refine x_ireti dX6_nearest_18 rfl ⟨by rw [spNearest]; dsimp only; rw [c]; rfl, hR⟩
theorem m_settle (hW : WOk W) (hR : MR I W) : Cx LM yX6_settle mX6_settle 8 [.ref 0] I (xRi (fun r J => r = (spSettle W).1 ∧ MR J (spSettle W).2)) := by
  obtain ⟨⟨n, h, a, L⟩, im⟩ := W
  have h1 : 1 ≤ n := hW.1.1
  have hn : n ≤ 8 := hW.1.2.1
  have hh : ∀ g, h g < 1024 := hW.1.2.2.1
  have ha : ∀ g, a g < 256 := hW.1.2.2.2.1
  have hL : ∀ p, p < n → L p < n := hW.1.2.2.2.2.1
  have hinj : ∀ p q, p < n → q < n → L p = L q → p = q := hW.1.2.2.2.2.2.1
  have hL8 : ∀ p, p < 8 → L p < 8 := hW.1.2.2.2.2.2.2
  have hM : MSt I n h a L := hR.1
  have hF : I 0 4 = nI 0 ∨ (I 0 4 = nI 1 ∧ I 0 5 = oI (fewB n h a)) := hR.2.1
  have hbl := bests_len (n := n) (h := h) (a := a) hn
  have hnr : ∀ (l : List (List Nat)) (o : Option (List Nat)), (o ≠ none ∨ l ≠ []) → nrs (stp n L) o l ≠ none := by
    intro l
    induction l with
    | nil => intro o ho; rcases ho with ho | ho; cases o; exact absurd rfl ho; simp [nrs]; exact absurd rfl ho
    | cons w l ih => intro o ho; cases o <;> exact ih _ (Or.inl (by simp))
  refine Cx.of [.ref 0, .null] (by decide) rfl rfl (Nat.le_of_ble_eq_true rfl) rfl ?_
  refine x_aload_n dX6_settle_0 rfl ?_
  refine x_iconst dX6_settle_1 ic_0 ?_
  refine x_callVv 5 ml_X6_132 in_X6_lookAtAll se_X6_lookAtAll ct_X6_lookAtAll rfl (c_lookAtAll (d := 4) (x := nI 0) (by decide) h1 hn hh ha hL hM hF) dX6_settle_2 (by decide) rfl rfl rfl rfl (Nat.le_of_ble_eq_true rfl) (fun J0 h0 => ?_)
  obtain ⟨q1, q2⟩ := h0
  refine x_aload_n dX6_settle_5 rfl ?_
  refine x_getI 5 6 (v := nI ((bests n h a).length)) rfl (by decide) fl_X6_107 dX6_settle_6 rfl rfl rfl q1.1 ?_
  refine x_ifn_ne (a := (bests n h a).length) (by omega) (tgt := 15) dX6_settle_9 rfl (fun c2 => ?_) (fun c2 => ?_)
  ·
    obtain ⟨w, hw⟩ : ∃ w, nrst (n, h, a, L) = some w := by
      cases e : nrst (n, h, a, L) with
      | none => exact absurd e (hnr _ _ (Or.inr (fun e2 => c2 (by show (bst (n, h, a, L)).length = 0; rw [e2]; rfl))))
      | some w => exact ⟨w, rfl⟩
    have e0 : spSettle ((n, h, a, L), im) = (nI (stp n L w), ((n, h, a, fun p => if p < n then w.getD p 0 else L p), im)) := by
      rw [spSettle, hw]; rfl
    have lp : ∀ (t k : Nat) (J : xMem), k + t = n → J 0 15 = nI (stp n L w) → (∀ p, p < n → J 12 p = nI (w.getD p 0)) → MSt J n h a (fun p => if p < k then w.getD p 0 else L p) → (J 0 4 = nI 0 ∨ (J 0 4 = nI 1 ∧ J 0 5 = oI (fewB n h a))) → J 2 = I 2 → J 3 = I 3 → Wx LM mX6_settle 8 (xRi (fun r J => r = (spSettle ((n, h, a, L), im)).1 ∧ MR J (spSettle ((n, h, a, L), im)).2)) 17 [.ref 0, .int (nI k)] [] J := by
      intro t
      induction t with
      | zero =>
        intro k J hk e15 e12 hMJ hFJ e2 e3
        have e : k = n := by omega
        subst e
        refine x_iload_n dX6_settle_17 rfl ?_
        refine x_aload_n dX6_settle_18 rfl ?_
        refine x_getR 5 0 rfl (by decide) fl_X6_7 dX6_settle_19 rfl rfl rfl ?_
        refine x_iconst dX6_settle_22 ic_0 ?_
        refine x_iald (p := 0) (v := nI k) dX6_settle_23 rfl rfl rfl rfl (by omega) hMJ.1 ?_
        refine x_icmpn_ge (a := k) (b := k) (by omega) (by omega) (tgt := 48) dX6_settle_24 rfl (fun c => ?_) (fun c => ?_)
        ·
          refine x_aload_n dX6_settle_48 rfl ?_
          refine x_getI 5 15 (v := nI (stp k L w)) rfl (by decide) fl_X6_123 dX6_settle_49 rfl rfl rfl e15 ?_
          refine x_ireti dX6_settle_52 rfl ⟨by rw [e0], by rw [e0]; exact MR.st (W := ((k, h, a, L), im)) (T := (k, h, a, fun p => if p < k then w.getD p 0 else L p)) hR hMJ hFJ e2 e3⟩
        ·
          omega
      | succ t ih =>
        intro k J hk e15 e12 hMJ hFJ e2 e3
        refine x_iload_n dX6_settle_17 rfl ?_
        refine x_aload_n dX6_settle_18 rfl ?_
        refine x_getR 5 0 rfl (by decide) fl_X6_7 dX6_settle_19 rfl rfl rfl ?_
        refine x_iconst dX6_settle_22 ic_0 ?_
        refine x_iald (p := 0) (v := nI n) dX6_settle_23 rfl rfl rfl rfl (by omega) hMJ.1 ?_
        refine x_icmpn_ge (a := k) (b := n) (by omega) (by omega) (tgt := 48) dX6_settle_24 rfl (fun c => ?_) (fun c => ?_)
        ·
          omega
        ·
          refine x_aload_n dX6_settle_27 rfl ?_
          refine x_getR 5 0 rfl (by decide) fl_X6_7 dX6_settle_28 rfl rfl rfl ?_
          refine x_bipush dX6_settle_31 bp_17 ?_
          refine x_iload_n dX6_settle_33 rfl ?_
          refine x_iadd (v := nI (17 + k)) dX6_settle_34 (nI_add _ _) ?_
          refine x_aload_n dX6_settle_35 rfl ?_
          refine x_getR 5 16 rfl (by decide) fl_X6_44 dX6_settle_36 rfl rfl rfl ?_
          refine x_iload_n dX6_settle_39 rfl ?_
          refine x_iald (p := k) (v := nI (w.getD k 0)) dX6_settle_40 rfl rfl rfl rfl (by omega) (e12 k (by omega)) ?_
          refine x_iast (p := 17 + k) dX6_settle_41 rfl rfl rfl rfl (by omega) ?_
          generalize hK : xup J 1 (17 + k) (nI (w.getD k 0)) = K
          refine x_iinc (v := nI (k + 1)) (ls' := [.ref 0, .int (nI (k + 1))]) dX6_settle_42 rfl (inc_1 _) rfl rfl ?_
          refine x_goto (tgt := 17) dX6_settle_45 rfl ?_
          refine ih (k + 1) K (by omega) ?_ ?_ ⟨?_, fun g hg => ?_, fun g hg => ?_, fun g hg => ?_⟩ ?_ ?_ ?_
          · rw [← hK, xup_ne (by decide)]; exact e15
          · rw [← hK, xup_ne (by decide)]; exact e12
          · rw [← hK, xup_eq, if_neg (by omega)]; exact hMJ.1
          · rw [← hK, xup_eq, if_neg (by omega)]; exact hMJ.2.1 g hg
          · rw [← hK, xup_eq, if_neg (by omega)]; exact hMJ.2.2.1 g hg
          · rw [← hK, xup_eq]
            by_cases e : g = k
            · subst e; rw [if_pos rfl]; dsimp only; rw [if_pos (Nat.lt_succ_self _)]
            · rw [if_neg (by omega), hMJ.2.2.2 g hg]
              dsimp only
              by_cases e' : g < k
              · rw [if_pos e', if_pos (by omega)]
              · rw [if_neg e', if_neg (by omega)]
          · rw [← hK, xup_ne (by decide)]; exact hFJ
          · rw [← hK, xup_ne (by decide)]; exact e2
          · rw [← hK, xup_ne (by decide)]; exact e3
    refine x_iconst dX6_settle_15 ic_0 ?_
    refine x_istore_n (ls' := [.ref 0, .int (nI 0)]) dX6_settle_16 rfl rfl ?_
    refine lp n 0 J0 (by omega) ?_ (q1.2.2.2.1 w hw) ?_ (Or.inr ⟨q2.1, q2.2.1⟩) q2.2.2.2.1 q2.2.2.2.2
    · rw [q1.2.2.1]; show oI ((nrst (n, h, a, L)).map _) = _; rw [hw]; rfl
    · exact hM.kept q2.2.2.1
  ·
    have e : nrst (n, h, a, L) = none := by
      show nrs _ none (bests n h a) = none
      rw [List.length_eq_zero_iff.mp c2]; rfl
    refine x_bipush dX6_settle_12 bp_m3 ?_
    refine x_ireti dX6_settle_14 rfl ⟨by rw [spSettle, e], by rw [spSettle, e]; exact hR.base q2⟩
end MP
end
