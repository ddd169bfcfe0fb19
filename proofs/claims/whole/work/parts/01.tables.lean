-- ===== PART A: goes FIRST, ahead of the names: the tables' words, and 'selects' of the private methods out of them =====
/-- a private method of a class that the tables say can be made, by its rows of tables_1 -/
def lw_okq (q : MethodName × Nat) : Prop := (q.1.cls ≠ "java/lang/invoke/MethodHandle" ∧ q.1.cls ≠ "java/lang/invoke/VarHandle") ∧ Cond.instantiable q.1.cls q.2 ∈ tables_1 ∧ Cond.privateMethod q.1 ∈ tables_1 ∧ Cond.instanceMethod q.1 ∈ tables_1
theorem lw_p0 : lw_okq (⟨"WishTrees", "someHasTree", "()Z"⟩, 6) := ⟨⟨by decide +kernel, by decide +kernel⟩, List.mem_of_getElem? (i := 11) (by decide +kernel), List.mem_of_getElem? (i := 175) (by decide +kernel), List.mem_of_getElem? (i := 176) (by decide +kernel)⟩
theorem lw_p1 : lw_okq (⟨"WishTrees", "isNode", "(IIII)Z"⟩, 6) := ⟨⟨by decide +kernel, by decide +kernel⟩, List.mem_of_getElem? (i := 11) (by decide +kernel), List.mem_of_getElem? (i := 261) (by decide +kernel), List.mem_of_getElem? (i := 262) (by decide +kernel)⟩
theorem lw_p2 : lw_okq (⟨"WishTrees$Tree", "openNode", "()I"⟩, 9) := ⟨⟨by decide +kernel, by decide +kernel⟩, List.mem_of_getElem? (i := 201) (by decide +kernel), List.mem_of_getElem? (i := 279) (by decide +kernel), List.mem_of_getElem? (i := 280) (by decide +kernel)⟩
theorem lw_p3 : lw_okq (⟨"WishTrees", "creatureAt", "(I)LWishTrees$Creature;"⟩, 6) := ⟨⟨by decide +kernel, by decide +kernel⟩, List.mem_of_getElem? (i := 11) (by decide +kernel), List.mem_of_getElem? (i := 349) (by decide +kernel), List.mem_of_getElem? (i := 350) (by decide +kernel)⟩
theorem lw_p4 : lw_okq (⟨"WishTrees", "wholeTree", "(I)LWishTrees$Tree;"⟩, 6) := ⟨⟨by decide +kernel, by decide +kernel⟩, List.mem_of_getElem? (i := 11) (by decide +kernel), List.mem_of_getElem? (i := 353) (by decide +kernel), List.mem_of_getElem? (i := 354) (by decide +kernel)⟩
theorem lw_p5 : lw_okq (⟨"WishTrees$Mind", "breakOff", "(LWishTrees$Creature;I)V"⟩, 5) := ⟨⟨by decide +kernel, by decide +kernel⟩, List.mem_of_getElem? (i := 19) (by decide +kernel), List.mem_of_getElem? (i := 361) (by decide +kernel), List.mem_of_getElem? (i := 362) (by decide +kernel)⟩
theorem lw_p6 : lw_okq (⟨"WishTrees$Mind", "askNode", "(LWishTrees$Creature;II)I"⟩, 5) := ⟨⟨by decide +kernel, by decide +kernel⟩, List.mem_of_getElem? (i := 19) (by decide +kernel), List.mem_of_getElem? (i := 395) (by decide +kernel), List.mem_of_getElem? (i := 396) (by decide +kernel)⟩
theorem lw_p7 : lw_okq (⟨"WishTrees$Mind", "answerOf", "(LWishTrees$Creature;II)I"⟩, 5) := ⟨⟨by decide +kernel, by decide +kernel⟩, List.mem_of_getElem? (i := 19) (by decide +kernel), List.mem_of_getElem? (i := 403) (by decide +kernel), List.mem_of_getElem? (i := 404) (by decide +kernel)⟩
theorem lw_p8 : lw_okq (⟨"WishTrees$Mind", "askDoing", "(LWishTrees$Creature;II)I"⟩, 5) := ⟨⟨by decide +kernel, by decide +kernel⟩, List.mem_of_getElem? (i := 19) (by decide +kernel), List.mem_of_getElem? (i := 407) (by decide +kernel), List.mem_of_getElem? (i := 408) (by decide +kernel)⟩
theorem lw_p9 : lw_okq (⟨"WishTrees$Mind", "testHolds", "(LWishTrees$Creature;I)Z"⟩, 5) := ⟨⟨by decide +kernel, by decide +kernel⟩, List.mem_of_getElem? (i := 19) (by decide +kernel), List.mem_of_getElem? (i := 419) (by decide +kernel), List.mem_of_getElem? (i := 420) (by decide +kernel)⟩
theorem lw_p10 : lw_okq (⟨"WishTrees$Mind", "askInTurn", "(LWishTrees$Creature;III)I"⟩, 5) := ⟨⟨by decide +kernel, by decide +kernel⟩, List.mem_of_getElem? (i := 19) (by decide +kernel), List.mem_of_getElem? (i := 441) (by decide +kernel), List.mem_of_getElem? (i := 442) (by decide +kernel)⟩
theorem lw_p11 : lw_okq (⟨"WishTrees$Mind", "askBeside", "(LWishTrees$Creature;II)I"⟩, 5) := ⟨⟨by decide +kernel, by decide +kernel⟩, List.mem_of_getElem? (i := 19) (by decide +kernel), List.mem_of_getElem? (i := 445) (by decide +kernel), List.mem_of_getElem? (i := 446) (by decide +kernel)⟩
theorem lw_p12 : lw_okq (⟨"WishTrees$Mind", "askAgain", "(LWishTrees$Creature;II)I"⟩, 5) := ⟨⟨by decide +kernel, by decide +kernel⟩, List.mem_of_getElem? (i := 19) (by decide +kernel), List.mem_of_getElem? (i := 449) (by decide +kernel), List.mem_of_getElem? (i := 450) (by decide +kernel)⟩
theorem lw_p13 : lw_okq (⟨"WishTrees$Mind", "askPlan", "(LWishTrees$Creature;I)I"⟩, 5) := ⟨⟨by decide +kernel, by decide +kernel⟩, List.mem_of_getElem? (i := 19) (by decide +kernel), List.mem_of_getElem? (i := 456) (by decide +kernel), List.mem_of_getElem? (i := 457) (by decide +kernel)⟩
theorem lw_p14 : lw_okq (⟨"WishTrees$Mind", "hasWish", "(LWishTrees$Creature;I)Z"⟩, 5) := ⟨⟨by decide +kernel, by decide +kernel⟩, List.mem_of_getElem? (i := 19) (by decide +kernel), List.mem_of_getElem? (i := 460) (by decide +kernel), List.mem_of_getElem? (i := 461) (by decide +kernel)⟩
theorem lw_p15 : lw_okq (⟨"WishTrees$Mind", "wantsPlan", "(LWishTrees$Creature;I)Z"⟩, 5) := ⟨⟨by decide +kernel, by decide +kernel⟩, List.mem_of_getElem? (i := 19) (by decide +kernel), List.mem_of_getElem? (i := 464) (by decide +kernel), List.mem_of_getElem? (i := 465) (by decide +kernel)⟩
def lw_privs_1 : List (MethodName × Nat) := [(⟨"WishTrees", "someHasTree", "()Z"⟩, 6), (⟨"WishTrees", "isNode", "(IIII)Z"⟩, 6), (⟨"WishTrees$Tree", "openNode", "()I"⟩, 9), (⟨"WishTrees", "creatureAt", "(I)LWishTrees$Creature;"⟩, 6), (⟨"WishTrees", "wholeTree", "(I)LWishTrees$Tree;"⟩, 6), (⟨"WishTrees$Mind", "breakOff", "(LWishTrees$Creature;I)V"⟩, 5), (⟨"WishTrees$Mind", "askNode", "(LWishTrees$Creature;II)I"⟩, 5), (⟨"WishTrees$Mind", "answerOf", "(LWishTrees$Creature;II)I"⟩, 5), (⟨"WishTrees$Mind", "askDoing", "(LWishTrees$Creature;II)I"⟩, 5), (⟨"WishTrees$Mind", "testHolds", "(LWishTrees$Creature;I)Z"⟩, 5), (⟨"WishTrees$Mind", "askInTurn", "(LWishTrees$Creature;III)I"⟩, 5), (⟨"WishTrees$Mind", "askBeside", "(LWishTrees$Creature;II)I"⟩, 5), (⟨"WishTrees$Mind", "askAgain", "(LWishTrees$Creature;II)I"⟩, 5), (⟨"WishTrees$Mind", "askPlan", "(LWishTrees$Creature;I)I"⟩, 5), (⟨"WishTrees$Mind", "hasWish", "(LWishTrees$Creature;I)Z"⟩, 5), (⟨"WishTrees$Mind", "wantsPlan", "(LWishTrees$Creature;I)Z"⟩, 5)]
theorem lw_r1 : ∀ q ∈ lw_privs_1, lw_okq q := List.forall_mem_cons.mpr ⟨lw_p0, List.forall_mem_cons.mpr ⟨lw_p1, List.forall_mem_cons.mpr ⟨lw_p2, List.forall_mem_cons.mpr ⟨lw_p3, List.forall_mem_cons.mpr ⟨lw_p4, List.forall_mem_cons.mpr ⟨lw_p5, List.forall_mem_cons.mpr ⟨lw_p6, List.forall_mem_cons.mpr ⟨lw_p7, List.forall_mem_cons.mpr ⟨lw_p8, List.forall_mem_cons.mpr ⟨lw_p9, List.forall_mem_cons.mpr ⟨lw_p10, List.forall_mem_cons.mpr ⟨lw_p11, List.forall_mem_cons.mpr ⟨lw_p12, List.forall_mem_cons.mpr ⟨lw_p13, List.forall_mem_cons.mpr ⟨lw_p14, List.forall_mem_cons.mpr ⟨lw_p15, fun _ h => absurd h List.not_mem_nil⟩⟩⟩⟩⟩⟩⟩⟩⟩⟩⟩⟩⟩⟩⟩⟩
theorem lw_p16 : lw_okq (⟨"WishTrees$Planner", "takeSteps", "(LWishTrees$Doings;)V"⟩, 12) := ⟨⟨by decide +kernel, by decide +kernel⟩, List.mem_of_getElem? (i := 468) (by decide +kernel), List.mem_of_getElem? (i := 517) (by decide +kernel), List.mem_of_getElem? (i := 518) (by decide +kernel)⟩
theorem lw_p17 : lw_okq (⟨"WishTrees$Planner", "reachAll", "(LWishTrees$Doings;I)V"⟩, 12) := ⟨⟨by decide +kernel, by decide +kernel⟩, List.mem_of_getElem? (i := 468) (by decide +kernel), List.mem_of_getElem? (i := 521) (by decide +kernel), List.mem_of_getElem? (i := 522) (by decide +kernel)⟩
theorem lw_p18 : lw_okq (⟨"WishTrees$Planner", "reach", "(I)V"⟩, 12) := ⟨⟨by decide +kernel, by decide +kernel⟩, List.mem_of_getElem? (i := 468) (by decide +kernel), List.mem_of_getElem? (i := 525) (by decide +kernel), List.mem_of_getElem? (i := 526) (by decide +kernel)⟩
theorem lw_p19 : lw_okq (⟨"WishTrees$Planner", "valueAll", "()I"⟩, 12) := ⟨⟨by decide +kernel, by decide +kernel⟩, List.mem_of_getElem? (i := 468) (by decide +kernel), List.mem_of_getElem? (i := 532) (by decide +kernel), List.mem_of_getElem? (i := 533) (by decide +kernel)⟩
theorem lw_p20 : lw_okq (⟨"WishTrees$Planner", "valueOne", "(II)Z"⟩, 12) := ⟨⟨by decide +kernel, by decide +kernel⟩, List.mem_of_getElem? (i := 468) (by decide +kernel), List.mem_of_getElem? (i := 537) (by decide +kernel), List.mem_of_getElem? (i := 538) (by decide +kernel)⟩
theorem lw_p21 : lw_okq (⟨"WishTrees$Planner", "walk", "(II)V"⟩, 12) := ⟨⟨by decide +kernel, by decide +kernel⟩, List.mem_of_getElem? (i := 468) (by decide +kernel), List.mem_of_getElem? (i := 541) (by decide +kernel), List.mem_of_getElem? (i := 542) (by decide +kernel)⟩
theorem lw_p22 : lw_okq (⟨"WishTrees$Planner", "firstBest", "(II)I"⟩, 12) := ⟨⟨by decide +kernel, by decide +kernel⟩, List.mem_of_getElem? (i := 468) (by decide +kernel), List.mem_of_getElem? (i := 545) (by decide +kernel), List.mem_of_getElem? (i := 546) (by decide +kernel)⟩
theorem lw_p23 : lw_okq (⟨"WishTrees$Mind", "settleAll", "(LWishTrees$Creature;)V"⟩, 5) := ⟨⟨by decide +kernel, by decide +kernel⟩, List.mem_of_getElem? (i := 19) (by decide +kernel), List.mem_of_getElem? (i := 565) (by decide +kernel), List.mem_of_getElem? (i := 566) (by decide +kernel)⟩
theorem lw_p24 : lw_okq (⟨"WishTrees$Mind", "settle", "(LWishTrees$Creature;IZ)V"⟩, 5) := ⟨⟨by decide +kernel, by decide +kernel⟩, List.mem_of_getElem? (i := 19) (by decide +kernel), List.mem_of_getElem? (i := 573) (by decide +kernel), List.mem_of_getElem? (i := 574) (by decide +kernel)⟩
theorem lw_p25 : lw_okq (⟨"WishTrees$Mind", "endPlan", "(LWishTrees$Creature;I)V"⟩, 5) := ⟨⟨by decide +kernel, by decide +kernel⟩, List.mem_of_getElem? (i := 19) (by decide +kernel), List.mem_of_getElem? (i := 577) (by decide +kernel), List.mem_of_getElem? (i := 578) (by decide +kernel)⟩
theorem lw_p26 : lw_okq (⟨"WishTrees$World", "clearPlaces", "(I)V"⟩, 4) := ⟨⟨by decide +kernel, by decide +kernel⟩, List.mem_of_getElem? (i := 25) (by decide +kernel), List.mem_of_getElem? (i := 598) (by decide +kernel), List.mem_of_getElem? (i := 599) (by decide +kernel)⟩
theorem lw_p27 : lw_okq (⟨"WishTreesModel", "forgetPay", "()V"⟩, 52) := ⟨⟨by decide +kernel, by decide +kernel⟩, List.mem_of_getElem? (i := 650) (by decide +kernel), List.mem_of_getElem? (i := 823) (by decide +kernel), List.mem_of_getElem? (i := 824) (by decide +kernel)⟩
theorem lw_p28 : lw_okq (⟨"WishTreesModel", "isDoing", "(I)Z"⟩, 52) := ⟨⟨by decide +kernel, by decide +kernel⟩, List.mem_of_getElem? (i := 650) (by decide +kernel), List.mem_of_getElem? (i := 831) (by decide +kernel), List.mem_of_getElem? (i := 832) (by decide +kernel)⟩
theorem lw_p29 : lw_okq (⟨"WishTreesModel", "isUsed", "()Z"⟩, 52) := ⟨⟨by decide +kernel, by decide +kernel⟩, List.mem_of_getElem? (i := 650) (by decide +kernel), List.mem_of_getElem? (i := 836) (by decide +kernel), List.mem_of_getElem? (i := 837) (by decide +kernel)⟩
theorem lw_p30 : lw_okq (⟨"WishTreesModel", "isNode", "(IIII)Z"⟩, 52) := ⟨⟨by decide +kernel, by decide +kernel⟩, List.mem_of_getElem? (i := 650) (by decide +kernel), List.mem_of_getElem? (i := 853) (by decide +kernel), List.mem_of_getElem? (i := 854) (by decide +kernel)⟩
theorem lw_p31 : lw_okq (⟨"WishTreesModel", "isTest", "(III)Z"⟩, 52) := ⟨⟨by decide +kernel, by decide +kernel⟩, List.mem_of_getElem? (i := 650) (by decide +kernel), List.mem_of_getElem? (i := 857) (by decide +kernel), List.mem_of_getElem? (i := 858) (by decide +kernel)⟩
def lw_privs_2 : List (MethodName × Nat) := [(⟨"WishTrees$Planner", "takeSteps", "(LWishTrees$Doings;)V"⟩, 12), (⟨"WishTrees$Planner", "reachAll", "(LWishTrees$Doings;I)V"⟩, 12), (⟨"WishTrees$Planner", "reach", "(I)V"⟩, 12), (⟨"WishTrees$Planner", "valueAll", "()I"⟩, 12), (⟨"WishTrees$Planner", "valueOne", "(II)Z"⟩, 12), (⟨"WishTrees$Planner", "walk", "(II)V"⟩, 12), (⟨"WishTrees$Planner", "firstBest", "(II)I"⟩, 12), (⟨"WishTrees$Mind", "settleAll", "(LWishTrees$Creature;)V"⟩, 5), (⟨"WishTrees$Mind", "settle", "(LWishTrees$Creature;IZ)V"⟩, 5), (⟨"WishTrees$Mind", "endPlan", "(LWishTrees$Creature;I)V"⟩, 5), (⟨"WishTrees$World", "clearPlaces", "(I)V"⟩, 4), (⟨"WishTreesModel", "forgetPay", "()V"⟩, 52), (⟨"WishTreesModel", "isDoing", "(I)Z"⟩, 52), (⟨"WishTreesModel", "isUsed", "()Z"⟩, 52), (⟨"WishTreesModel", "isNode", "(IIII)Z"⟩, 52), (⟨"WishTreesModel", "isTest", "(III)Z"⟩, 52)]
theorem lw_r2 : ∀ q ∈ lw_privs_2, lw_okq q := List.forall_mem_cons.mpr ⟨lw_p16, List.forall_mem_cons.mpr ⟨lw_p17, List.forall_mem_cons.mpr ⟨lw_p18, List.forall_mem_cons.mpr ⟨lw_p19, List.forall_mem_cons.mpr ⟨lw_p20, List.forall_mem_cons.mpr ⟨lw_p21, List.forall_mem_cons.mpr ⟨lw_p22, List.forall_mem_cons.mpr ⟨lw_p23, List.forall_mem_cons.mpr ⟨lw_p24, List.forall_mem_cons.mpr ⟨lw_p25, List.forall_mem_cons.mpr ⟨lw_p26, List.forall_mem_cons.mpr ⟨lw_p27, List.forall_mem_cons.mpr ⟨lw_p28, List.forall_mem_cons.mpr ⟨lw_p29, List.forall_mem_cons.mpr ⟨lw_p30, List.forall_mem_cons.mpr ⟨lw_p31, fun _ h => absurd h List.not_mem_nil⟩⟩⟩⟩⟩⟩⟩⟩⟩⟩⟩⟩⟩⟩⟩⟩
theorem lw_p32 : lw_okq (⟨"WishTreesModel", "isCreature", "(I)Z"⟩, 52) := ⟨⟨by decide +kernel, by decide +kernel⟩, List.mem_of_getElem? (i := 650) (by decide +kernel), List.mem_of_getElem? (i := 880) (by decide +kernel), List.mem_of_getElem? (i := 881) (by decide +kernel)⟩
theorem lw_p33 : lw_okq (⟨"WishTreesModel", "breakOff", "(II)V"⟩, 52) := ⟨⟨by decide +kernel, by decide +kernel⟩, List.mem_of_getElem? (i := 650) (by decide +kernel), List.mem_of_getElem? (i := 884) (by decide +kernel), List.mem_of_getElem? (i := 885) (by decide +kernel)⟩
theorem lw_p34 : lw_okq (⟨"WishTreesModel", "doingOf", "(II)I"⟩, 52) := ⟨⟨by decide +kernel, by decide +kernel⟩, List.mem_of_getElem? (i := 650) (by decide +kernel), List.mem_of_getElem? (i := 888) (by decide +kernel), List.mem_of_getElem? (i := 889) (by decide +kernel)⟩
theorem lw_p35 : lw_okq (⟨"WishTreesModel", "comes", "(II)V"⟩, 52) := ⟨⟨by decide +kernel, by decide +kernel⟩, List.mem_of_getElem? (i := 650) (by decide +kernel), List.mem_of_getElem? (i := 892) (by decide +kernel), List.mem_of_getElem? (i := 893) (by decide +kernel)⟩
theorem lw_p36 : lw_okq (⟨"WishTreesModel", "tick", "(I)I"⟩, 52) := ⟨⟨by decide +kernel, by decide +kernel⟩, List.mem_of_getElem? (i := 650) (by decide +kernel), List.mem_of_getElem? (i := 900) (by decide +kernel), List.mem_of_getElem? (i := 901) (by decide +kernel)⟩
theorem lw_p37 : lw_okq (⟨"WishTreesModel", "begins", "(I)V"⟩, 52) := ⟨⟨by decide +kernel, by decide +kernel⟩, List.mem_of_getElem? (i := 650) (by decide +kernel), List.mem_of_getElem? (i := 904) (by decide +kernel), List.mem_of_getElem? (i := 905) (by decide +kernel)⟩
theorem lw_p38 : lw_okq (⟨"WishTreesModel", "does", "(II)I"⟩, 52) := ⟨⟨by decide +kernel, by decide +kernel⟩, List.mem_of_getElem? (i := 650) (by decide +kernel), List.mem_of_getElem? (i := 908) (by decide +kernel), List.mem_of_getElem? (i := 909) (by decide +kernel)⟩
theorem lw_p39 : lw_okq (⟨"WishTreesModel", "mayBegin", "(II)Z"⟩, 52) := ⟨⟨by decide +kernel, by decide +kernel⟩, List.mem_of_getElem? (i := 650) (by decide +kernel), List.mem_of_getElem? (i := 912) (by decide +kernel), List.mem_of_getElem? (i := 913) (by decide +kernel)⟩
theorem lw_p40 : lw_okq (⟨"WishTreesModel", "made", "(II)I"⟩, 52) := ⟨⟨by decide +kernel, by decide +kernel⟩, List.mem_of_getElem? (i := 650) (by decide +kernel), List.mem_of_getElem? (i := 916) (by decide +kernel), List.mem_of_getElem? (i := 917) (by decide +kernel)⟩
theorem lw_p41 : lw_okq (⟨"WishTreesModel", "answers", "(II)V"⟩, 52) := ⟨⟨by decide +kernel, by decide +kernel⟩, List.mem_of_getElem? (i := 650) (by decide +kernel), List.mem_of_getElem? (i := 920) (by decide +kernel), List.mem_of_getElem? (i := 921) (by decide +kernel)⟩
theorem lw_p42 : lw_okq (⟨"WishTreesModel", "holds", "(I)Z"⟩, 52) := ⟨⟨by decide +kernel, by decide +kernel⟩, List.mem_of_getElem? (i := 650) (by decide +kernel), List.mem_of_getElem? (i := 924) (by decide +kernel), List.mem_of_getElem? (i := 925) (by decide +kernel)⟩
theorem lw_p43 : lw_okq (⟨"WishTreesModel", "finds", "(II)V"⟩, 52) := ⟨⟨by decide +kernel, by decide +kernel⟩, List.mem_of_getElem? (i := 650) (by decide +kernel), List.mem_of_getElem? (i := 928) (by decide +kernel), List.mem_of_getElem? (i := 929) (by decide +kernel)⟩
theorem lw_p44 : lw_okq (⟨"WishTreesModel", "doesPlan", "(I)I"⟩, 52) := ⟨⟨by decide +kernel, by decide +kernel⟩, List.mem_of_getElem? (i := 650) (by decide +kernel), List.mem_of_getElem? (i := 932) (by decide +kernel), List.mem_of_getElem? (i := 933) (by decide +kernel)⟩
theorem lw_p45 : lw_okq (⟨"WishTreesModel", "plans", "(II)I"⟩, 52) := ⟨⟨by decide +kernel, by decide +kernel⟩, List.mem_of_getElem? (i := 650) (by decide +kernel), List.mem_of_getElem? (i := 939) (by decide +kernel), List.mem_of_getElem? (i := 940) (by decide +kernel)⟩
theorem lw_p46 : lw_okq (⟨"WishTreesModel", "layPay", "(II)V"⟩, 52) := ⟨⟨by decide +kernel, by decide +kernel⟩, List.mem_of_getElem? (i := 650) (by decide +kernel), List.mem_of_getElem? (i := 943) (by decide +kernel), List.mem_of_getElem? (i := 944) (by decide +kernel)⟩
theorem lw_p47 : lw_okq (⟨"WishTreesModel", "payBy", "(III)I"⟩, 52) := ⟨⟨by decide +kernel, by decide +kernel⟩, List.mem_of_getElem? (i := 650) (by decide +kernel), List.mem_of_getElem? (i := 948) (by decide +kernel), List.mem_of_getElem? (i := 949) (by decide +kernel)⟩
def lw_privs_3 : List (MethodName × Nat) := [(⟨"WishTreesModel", "isCreature", "(I)Z"⟩, 52), (⟨"WishTreesModel", "breakOff", "(II)V"⟩, 52), (⟨"WishTreesModel", "doingOf", "(II)I"⟩, 52), (⟨"WishTreesModel", "comes", "(II)V"⟩, 52), (⟨"WishTreesModel", "tick", "(I)I"⟩, 52), (⟨"WishTreesModel", "begins", "(I)V"⟩, 52), (⟨"WishTreesModel", "does", "(II)I"⟩, 52), (⟨"WishTreesModel", "mayBegin", "(II)Z"⟩, 52), (⟨"WishTreesModel", "made", "(II)I"⟩, 52), (⟨"WishTreesModel", "answers", "(II)V"⟩, 52), (⟨"WishTreesModel", "holds", "(I)Z"⟩, 52), (⟨"WishTreesModel", "finds", "(II)V"⟩, 52), (⟨"WishTreesModel", "doesPlan", "(I)I"⟩, 52), (⟨"WishTreesModel", "plans", "(II)I"⟩, 52), (⟨"WishTreesModel", "layPay", "(II)V"⟩, 52), (⟨"WishTreesModel", "payBy", "(III)I"⟩, 52)]
theorem lw_r3 : ∀ q ∈ lw_privs_3, lw_okq q := List.forall_mem_cons.mpr ⟨lw_p32, List.forall_mem_cons.mpr ⟨lw_p33, List.forall_mem_cons.mpr ⟨lw_p34, List.forall_mem_cons.mpr ⟨lw_p35, List.forall_mem_cons.mpr ⟨lw_p36, List.forall_mem_cons.mpr ⟨lw_p37, List.forall_mem_cons.mpr ⟨lw_p38, List.forall_mem_cons.mpr ⟨lw_p39, List.forall_mem_cons.mpr ⟨lw_p40, List.forall_mem_cons.mpr ⟨lw_p41, List.forall_mem_cons.mpr ⟨lw_p42, List.forall_mem_cons.mpr ⟨lw_p43, List.forall_mem_cons.mpr ⟨lw_p44, List.forall_mem_cons.mpr ⟨lw_p45, List.forall_mem_cons.mpr ⟨lw_p46, List.forall_mem_cons.mpr ⟨lw_p47, fun _ h => absurd h List.not_mem_nil⟩⟩⟩⟩⟩⟩⟩⟩⟩⟩⟩⟩⟩⟩⟩⟩
theorem lw_p48 : lw_okq (⟨"WishTreesModel", "waitsFor", "(II)V"⟩, 52) := ⟨⟨by decide +kernel, by decide +kernel⟩, List.mem_of_getElem? (i := 650) (by decide +kernel), List.mem_of_getElem? (i := 952) (by decide +kernel), List.mem_of_getElem? (i := 953) (by decide +kernel)⟩
theorem lw_p49 : lw_okq (⟨"WishTreesModel", "passes", "()V"⟩, 52) := ⟨⟨by decide +kernel, by decide +kernel⟩, List.mem_of_getElem? (i := 650) (by decide +kernel), List.mem_of_getElem? (i := 956) (by decide +kernel), List.mem_of_getElem? (i := 957) (by decide +kernel)⟩
theorem lw_p50 : lw_okq (⟨"WishTreesModel", "comesBack", "()V"⟩, 52) := ⟨⟨by decide +kernel, by decide +kernel⟩, List.mem_of_getElem? (i := 650) (by decide +kernel), List.mem_of_getElem? (i := 960) (by decide +kernel), List.mem_of_getElem? (i := 961) (by decide +kernel)⟩
theorem lw_p51 : lw_okq (⟨"WishTreesModel", "behind", "()V"⟩, 52) := ⟨⟨by decide +kernel, by decide +kernel⟩, List.mem_of_getElem? (i := 650) (by decide +kernel), List.mem_of_getElem? (i := 964) (by decide +kernel), List.mem_of_getElem? (i := 965) (by decide +kernel)⟩
theorem lw_p52 : lw_okq (⟨"WishTreesModel", "isEnded", "(I)Z"⟩, 52) := ⟨⟨by decide +kernel, by decide +kernel⟩, List.mem_of_getElem? (i := 650) (by decide +kernel), List.mem_of_getElem? (i := 968) (by decide +kernel), List.mem_of_getElem? (i := 969) (by decide +kernel)⟩
theorem lw_p53 : lw_okq (⟨"WishTreesModel", "isNodeOf", "(II)Z"⟩, 52) := ⟨⟨by decide +kernel, by decide +kernel⟩, List.mem_of_getElem? (i := 650) (by decide +kernel), List.mem_of_getElem? (i := 997) (by decide +kernel), List.mem_of_getElem? (i := 998) (by decide +kernel)⟩
def lw_privs_4 : List (MethodName × Nat) := [(⟨"WishTreesModel", "waitsFor", "(II)V"⟩, 52), (⟨"WishTreesModel", "passes", "()V"⟩, 52), (⟨"WishTreesModel", "comesBack", "()V"⟩, 52), (⟨"WishTreesModel", "behind", "()V"⟩, 52), (⟨"WishTreesModel", "isEnded", "(I)Z"⟩, 52), (⟨"WishTreesModel", "isNodeOf", "(II)Z"⟩, 52)]
theorem lw_r4 : ∀ q ∈ lw_privs_4, lw_okq q := List.forall_mem_cons.mpr ⟨lw_p48, List.forall_mem_cons.mpr ⟨lw_p49, List.forall_mem_cons.mpr ⟨lw_p50, List.forall_mem_cons.mpr ⟨lw_p51, List.forall_mem_cons.mpr ⟨lw_p52, List.forall_mem_cons.mpr ⟨lw_p53, fun _ h => absurd h List.not_mem_nil⟩⟩⟩⟩⟩⟩
def lw_privs : List (MethodName × Nat) := lw_privs_1 ++ (lw_privs_2 ++ (lw_privs_3 ++ (lw_privs_4)))
def lw_tbl : List Cond := k2_sels lw_privs ++ tables_1
theorem lw_privs_ok : ∀ q ∈ lw_privs, lw_okq q := by
  show ∀ q ∈ lw_privs_1 ++ (lw_privs_2 ++ (lw_privs_3 ++ (lw_privs_4))), lw_okq q
  exact List.forall_mem_append.mpr ⟨lw_r1, List.forall_mem_append.mpr ⟨lw_r2, List.forall_mem_append.mpr ⟨lw_r3, lw_r4⟩⟩⟩
def RX0 : String := "WishTrees$AskLog"
def TX0 : u_T := fun k => match k with
  | 0 => ("WishTrees$AskLog", "askings", "I", false)
  | 1 => ("WishTrees$AskLog", "nodes", "[I", true)
  | _ => ("WishTrees$AskLog", "answers", "[I", true)
def tyX0 : Nat → FieldType := fun k => match k with
  | 0 => .int
  | 1 => .array .int
  | _ => .array .int
abbrev wsX00 : List Cond := u_ws RX0 TX0 3
theorem nmX0 : ∀ a, a < 3 → ∀ b, b < 3 → a ≠ b → (TX0 a).2.1 ≠ (TX0 b).2.1 := by decide +kernel
theorem tyX0_ok : ∀ k, k < 3 → parseFieldDescriptor (TX0 k).2.2.1 = some (tyX0 k) := by decide +kernel
def RX1 : String := "WishTrees$Creature"
def TX1 : u_T := fun k => match k with
  | 0 => ("WishTrees$Creature", "tree", "LWishTrees$Tree;", false)
  | 1 => ("WishTrees$Creature", "latest", "[I", true)
  | 2 => ("WishTrees$Creature", "times", "[I", true)
  | 3 => ("WishTrees$Creature", "left", "[I", true)
  | 4 => ("WishTrees$Creature", "progress", "[I", true)
  | 5 => ("WishTrees$Creature", "planLengths", "[I", true)
  | 6 => ("WishTrees$Creature", "planned", "[I", true)
  | 7 => ("WishTrees$Creature", "foretold", "[I", true)
  | 8 => ("WishTrees$Creature", "askedNow", "[Z", true)
  | _ => ("WishTrees$Creature", "counts", "[I", true)
def tyX1 : Nat → FieldType := fun k => match k with
  | 0 => .object "WishTrees$Tree"
  | 1 => .array .int
  | 2 => .array .int
  | 3 => .array .int
  | 4 => .array .int
  | 5 => .array .int
  | 6 => .array .int
  | 7 => .array .int
  | 8 => .array .boolean
  | _ => .array .int
abbrev wsX10 : List Cond := u_ws RX1 TX1 10
theorem nmX1 : ∀ a, a < 10 → ∀ b, b < 10 → a ≠ b → (TX1 a).2.1 ≠ (TX1 b).2.1 := by decide +kernel
theorem tyX1_ok : ∀ k, k < 10 → parseFieldDescriptor (TX1 k).2.2.1 = some (tyX1 k) := by decide +kernel
def RX2 : String := "WishTrees$Doings"
def TX2 : u_T := fun k => match k with
  | 0 => ("WishTrees$Doings", "known", "I", false)
  | 1 => ("WishTrees$Doings", "lengths", "[I", true)
  | 2 => ("WishTrees$Doings", "costs", "[I", true)
  | 3 => ("WishTrees$Doings", "needMasks", "[I", true)
  | 4 => ("WishTrees$Doings", "needBits", "[I", true)
  | 5 => ("WishTrees$Doings", "makeMasks", "[I", true)
  | 6 => ("WishTrees$Doings", "makeBits", "[I", true)
  | 7 => ("WishTrees$Doings", "cells", "[I", true)
  | 8 => ("WishTrees$Doings", "gains", "[I", true)
  | _ => ("WishTrees$Doings", "finishes", "[I", true)
def tyX2 : Nat → FieldType := fun k => match k with
  | 0 => .int
  | 1 => .array .int
  | 2 => .array .int
  | 3 => .array .int
  | 4 => .array .int
  | 5 => .array .int
  | 6 => .array .int
  | 7 => .array .int
  | 8 => .array .int
  | _ => .array .int
abbrev wsX20 : List Cond := u_ws RX2 TX2 10
theorem nmX2 : ∀ a, a < 10 → ∀ b, b < 10 → a ≠ b → (TX2 a).2.1 ≠ (TX2 b).2.1 := by decide +kernel
theorem tyX2_ok : ∀ k, k < 10 → parseFieldDescriptor (TX2 k).2.2.1 = some (tyX2 k) := by decide +kernel
def RX3 : String := "WishTrees$Mind"
def TX3 : u_T := fun k => match k with
  | 0 => ("WishTrees$Mind", "world", "LWishTrees$World;", true)
  | 1 => ("WishTrees$Mind", "doings", "LWishTrees$Doings;", true)
  | 2 => ("WishTrees$Mind", "log", "LWishTrees$AskLog;", true)
  | 3 => ("WishTrees$Mind", "planner", "LWishTrees$Planner;", false)
  | _ => ("WishTrees$Mind", "withinEnded", "[Z", true)
def tyX3 : Nat → FieldType := fun k => match k with
  | 0 => .object "WishTrees$World"
  | 1 => .object "WishTrees$Doings"
  | 2 => .object "WishTrees$AskLog"
  | 3 => .object "WishTrees$Planner"
  | _ => .array .boolean
abbrev wsX30 : List Cond := u_ws RX3 TX3 5
theorem nmX3 : ∀ a, a < 5 → ∀ b, b < 5 → a ≠ b → (TX3 a).2.1 ≠ (TX3 b).2.1 := by decide +kernel
theorem tyX3_ok : ∀ k, k < 5 → parseFieldDescriptor (TX3 k).2.2.1 = some (tyX3 k) := by decide +kernel
def RX4 : String := "WishTrees$Planner"
def TX4 : u_T := fun k => match k with
  | 0 => ("WishTrees$Planner", "found", "[I", true)
  | 1 => ("WishTrees$Planner", "length", "I", false)
  | 2 => ("WishTrees$Planner", "wishMask", "I", false)
  | 3 => ("WishTrees$Planner", "wishBits", "I", false)
  | 4 => ("WishTrees$Planner", "steps", "[I", true)
  | 5 => ("WishTrees$Planner", "stepCount", "I", false)
  | 6 => ("WishTrees$Planner", "reached", "[I", true)
  | 7 => ("WishTrees$Planner", "reachedCount", "I", false)
  | 8 => ("WishTrees$Planner", "reachedBy", "[I", true)
  | 9 => ("WishTrees$Planner", "searches", "I", false)
  | 10 => ("WishTrees$Planner", "behind", "[I", true)
  | _ => ("WishTrees$Planner", "values", "[I", true)
def tyX4 : Nat → FieldType := fun k => match k with
  | 0 => .array .int
  | 1 => .int
  | 2 => .int
  | 3 => .int
  | 4 => .array .int
  | 5 => .int
  | 6 => .array .int
  | 7 => .int
  | 8 => .array .int
  | 9 => .int
  | 10 => .array .int
  | _ => .array .int
abbrev wsX40 : List Cond := u_ws RX4 TX4 12
theorem nmX4 : ∀ a, a < 12 → ∀ b, b < 12 → a ≠ b → (TX4 a).2.1 ≠ (TX4 b).2.1 := by decide +kernel
theorem tyX4_ok : ∀ k, k < 12 → parseFieldDescriptor (TX4 k).2.2.1 = some (tyX4 k) := by decide +kernel
def RX5 : String := "WishTrees$Tree"
def TX5 : u_T := fun k => match k with
  | 0 => ("WishTrees$Tree", "nodes", "I", false)
  | 1 => ("WishTrees$Tree", "missing", "I", false)
  | 2 => ("WishTrees$Tree", "kinds", "[I", true)
  | 3 => ("WishTrees$Tree", "as", "[I", true)
  | 4 => ("WishTrees$Tree", "bs", "[I", true)
  | 5 => ("WishTrees$Tree", "cs", "[I", true)
  | 6 => ("WishTrees$Tree", "parents", "[I", true)
  | 7 => ("WishTrees$Tree", "sizes", "[I", true)
  | _ => ("WishTrees$Tree", "partsToCome", "[I", true)
def tyX5 : Nat → FieldType := fun k => match k with
  | 0 => .int
  | 1 => .int
  | 2 => .array .int
  | 3 => .array .int
  | 4 => .array .int
  | 5 => .array .int
  | 6 => .array .int
  | 7 => .array .int
  | _ => .array .int
abbrev wsX50 : List Cond := u_ws RX5 TX5 9
theorem nmX5 : ∀ a, a < 9 → ∀ b, b < 9 → a ≠ b → (TX5 a).2.1 ≠ (TX5 b).2.1 := by decide +kernel
theorem tyX5_ok : ∀ k, k < 9 → parseFieldDescriptor (TX5 k).2.2.1 = some (tyX5 k) := by decide +kernel
def RX6 : String := "WishTrees$World"
def TX6 : u_T := fun k => match k with
  | 0 => ("WishTrees$World", "facts", "I", false)
  | 1 => ("WishTrees$World", "sorts", "[I", true)
  | 2 => ("WishTrees$World", "numbers", "[J", true)
  | _ => ("WishTrees$World", "places", "[I", true)
def tyX6 : Nat → FieldType := fun k => match k with
  | 0 => .int
  | 1 => .array .int
  | 2 => .array .long
  | _ => .array .int
abbrev wsX60 : List Cond := u_ws RX6 TX6 4
theorem nmX6 : ∀ a, a < 4 → ∀ b, b < 4 → a ≠ b → (TX6 a).2.1 ≠ (TX6 b).2.1 := by decide +kernel
theorem tyX6_ok : ∀ k, k < 4 → parseFieldDescriptor (TX6 k).2.2.1 = some (tyX6 k) := by decide +kernel
def RX7 : String := "WishTrees"
def TX7 : u_T := fun k => match k with
  | 0 => ("WishTrees", "mind", "LWishTrees$Mind;", true)
  | 1 => ("WishTrees", "trees", "[LWishTrees$Tree;", true)
  | 2 => ("WishTrees", "creatures", "[LWishTrees$Creature;", true)
  | 3 => ("WishTrees", "treeCount", "I", false)
  | 4 => ("WishTrees", "creatureCount", "I", false)
  | _ => ("WishTrees", "begun", "LWishTrees$Tree;", false)
def tyX7 : Nat → FieldType := fun k => match k with
  | 0 => .object "WishTrees$Mind"
  | 1 => .array (.object "WishTrees$Tree")
  | 2 => .array (.object "WishTrees$Creature")
  | 3 => .int
  | 4 => .int
  | _ => .object "WishTrees$Tree"
abbrev wsX70 : List Cond := u_ws RX7 TX7 6
theorem nmX7 : ∀ a, a < 6 → ∀ b, b < 6 → a ≠ b → (TX7 a).2.1 ≠ (TX7 b).2.1 := by decide +kernel
theorem tyX7_ok : ∀ k, k < 6 → parseFieldDescriptor (TX7 k).2.2.1 = some (tyX7 k) := by decide +kernel
def RX8 : String := "WishTreesModel"
def TX8 : u_T := fun k => match k with
  | 0 => ("WishTreesModel", "world", "I", false)
  | 1 => ("WishTreesModel", "cellSort", "[I", true)
  | 2 => ("WishTreesModel", "cellValue", "[J", true)
  | 3 => ("WishTreesModel", "cellRow", "[I", true)
  | 4 => ("WishTreesModel", "doings", "I", false)
  | 5 => ("WishTreesModel", "ticksOf", "[I", true)
  | 6 => ("WishTreesModel", "costs", "[I", true)
  | 7 => ("WishTreesModel", "needMask", "[I", true)
  | 8 => ("WishTreesModel", "needBits", "[I", true)
  | 9 => ("WishTreesModel", "makeMask", "[I", true)
  | 10 => ("WishTreesModel", "makeBits", "[I", true)
  | 11 => ("WishTreesModel", "cellOf", "[I", true)
  | 12 => ("WishTreesModel", "gains", "[I", true)
  | 13 => ("WishTreesModel", "finishes", "[I", true)
  | 14 => ("WishTreesModel", "trees", "I", false)
  | 15 => ("WishTreesModel", "isBegun", "Z", false)
  | 16 => ("WishTreesModel", "pending", "I", false)
  | 17 => ("WishTreesModel", "nodesOf", "[I", true)
  | 18 => ("WishTreesModel", "kind", "[I", true)
  | 19 => ("WishTreesModel", "a", "[I", true)
  | 20 => ("WishTreesModel", "b", "[I", true)
  | 21 => ("WishTreesModel", "c", "[I", true)
  | 22 => ("WishTreesModel", "parent", "[I", true)
  | 23 => ("WishTreesModel", "within", "[I", true)
  | 24 => ("WishTreesModel", "lack", "[I", true)
  | 25 => ("WishTreesModel", "creatures", "I", false)
  | 26 => ("WishTreesModel", "treeOf", "[I", true)
  | 27 => ("WishTreesModel", "counts", "[I", true)
  | 28 => ("WishTreesModel", "answer", "[I", true)
  | 29 => ("WishTreesModel", "times", "[I", true)
  | 30 => ("WishTreesModel", "isOn", "[Z", true)
  | 31 => ("WishTreesModel", "left", "[I", true)
  | 32 => ("WishTreesModel", "position", "[I", true)
  | 33 => ("WishTreesModel", "planMany", "[I", true)
  | 34 => ("WishTreesModel", "planRow", "[I", true)
  | 35 => ("WishTreesModel", "foretold", "[I", true)
  | 36 => ("WishTreesModel", "pay", "[I", true)
  | 37 => ("WishTreesModel", "isPaid", "[Z", true)
  | 38 => ("WishTreesModel", "paying", "I", false)
  | 39 => ("WishTreesModel", "askings", "I", false)
  | 40 => ("WishTreesModel", "askedNode", "[I", true)
  | 41 => ("WishTreesModel", "askedAnswer", "[I", true)
  | 42 => ("WishTreesModel", "isAsked", "[Z", true)
  | 43 => ("WishTreesModel", "waits", "I", false)
  | 44 => ("WishTreesModel", "waitNode", "[I", true)
  | 45 => ("WishTreesModel", "waitPart", "[I", true)
  | 46 => ("WishTreesModel", "waitNext", "[I", true)
  | 47 => ("WishTreesModel", "waitDone", "[I", true)
  | 48 => ("WishTreesModel", "waitUnder", "[I", true)
  | 49 => ("WishTreesModel", "creature", "I", false)
  | 50 => ("WishTreesModel", "given", "I", false)
  | _ => ("WishTreesModel", "asks", "I", false)
def tyX8 : Nat → FieldType := fun k => match k with
  | 0 => .int
  | 1 => .array .int
  | 2 => .array .long
  | 3 => .array .int
  | 4 => .int
  | 5 => .array .int
  | 6 => .array .int
  | 7 => .array .int
  | 8 => .array .int
  | 9 => .array .int
  | 10 => .array .int
  | 11 => .array .int
  | 12 => .array .int
  | 13 => .array .int
  | 14 => .int
  | 15 => .boolean
  | 16 => .int
  | 17 => .array .int
  | 18 => .array .int
  | 19 => .array .int
  | 20 => .array .int
  | 21 => .array .int
  | 22 => .array .int
  | 23 => .array .int
  | 24 => .array .int
  | 25 => .int
  | 26 => .array .int
  | 27 => .array .int
  | 28 => .array .int
  | 29 => .array .int
  | 30 => .array .boolean
  | 31 => .array .int
  | 32 => .array .int
  | 33 => .array .int
  | 34 => .array .int
  | 35 => .array .int
  | 36 => .array .int
  | 37 => .array .boolean
  | 38 => .int
  | 39 => .int
  | 40 => .array .int
  | 41 => .array .int
  | 42 => .array .boolean
  | 43 => .int
  | 44 => .array .int
  | 45 => .array .int
  | 46 => .array .int
  | 47 => .array .int
  | 48 => .array .int
  | 49 => .int
  | 50 => .int
  | _ => .int
abbrev wsX80 : List Cond := u_ws RX8 TX8 52
theorem nmX8 : ∀ a, a < 52 → ∀ b, b < 52 → a ≠ b → (TX8 a).2.1 ≠ (TX8 b).2.1 := by decide +kernel
theorem tyX8_ok : ∀ k, k < 52 → parseFieldDescriptor (TX8 k).2.2.1 = some (tyX8 k) := by decide +kernel
abbrev am_cl : List vw_C := [(RX0, TX0, 3), (RX1, TX1, 10), (RX2, TX2, 10), (RX3, TX3, 5), (RX4, TX4, 12), (RX5, TX5, 9), (RX6, TX6, 4), (RX7, TX7, 6), (RX8, TX8, 52)]
def am_tls : List (List Nat) := [[0, 3, 3], [3, 3, 3, 3, 3, 3, 3, 3, 3, 3], [0, 3, 3, 3, 3, 3, 3, 3, 3, 3], [3, 3, 3, 3, 3], [3, 0, 0, 0, 3, 0, 3, 0, 3, 0, 3, 3], [0, 0, 3, 3, 3, 3, 3, 3, 3], [0, 3, 3, 3], [3, 3, 3, 0, 0, 3], [0, 3, 3, 3, 0, 3, 3, 3, 3, 3, 3, 3, 3, 3, 0, 1, 0, 3, 3, 3, 3, 3, 3, 3, 3, 0, 3, 3, 3, 3, 3, 3, 3, 3, 3, 3, 3, 3, 0, 0, 3, 3, 3, 0, 3, 3, 3, 3, 3, 0, 0, 0]]
def am_tl (ci : Nat) : List Nat := am_tls.getD ci []
def lw_gt : List Cond := lw_tbl.filter goodWord
/-- words by their places -/
theorem am_wIn (ws : List Cond) (ps : List Nat) (h : ws.map some = ps.map (fun i => lw_tbl[i]?) ∧ ws.all goodWord = true) : ∀ w ∈ ws, w ∈ lw_gt := by
  obtain ⟨h, hg⟩ := h
  intro w hw
  refine List.mem_filter.mpr ⟨?_, List.all_eq_true.mp hg w hw⟩
  have h1 : some w ∈ ws.map some := List.mem_map.mpr ⟨w, hw, rfl⟩
  rw [h] at h1
  obtain ⟨i, -, hi⟩ := List.mem_map.mp h1
  exact List.mem_of_getElem? hi
def am_dv (t : Nat) : Value := match t with
  | 0 => .int 0
  | 1 => .int 0
  | 2 => .long 0
  | _ => .null
def am_wp0 : List Nat := [159, 161, 163]
theorem am_in0 : ∀ w ∈ u_ws RX0 TX0 3, w ∈ lw_gt := am_wIn _ am_wp0 (by decide +kernel)
theorem am_dv0 : ∀ j, j < 3 → defaultValue (tyX0 j) = am_dv ((am_tl 0).getD j 0) := by decide +kernel
def am_wp1 : List Nat := [377, 379, 381, 383, 385, 387, 389, 391, 393, 395]
theorem am_in1 : ∀ w ∈ u_ws RX1 TX1 10, w ∈ lw_gt := am_wIn _ am_wp1 (by decide +kernel)
theorem am_dv1 : ∀ j, j < 10 → defaultValue (tyX1 j) = am_dv ((am_tl 1).getD j 0) := by decide +kernel
def am_wp2 : List Nat := [125, 127, 129, 131, 133, 135, 137, 139, 141, 143]
theorem am_in2 : ∀ w ∈ u_ws RX2 TX2 10, w ∈ lw_gt := am_wIn _ am_wp2 (by decide +kernel)
theorem am_dv2 : ∀ j, j < 10 → defaultValue (tyX2 j) = am_dv ((am_tl 2).getD j 0) := by decide +kernel
def am_wp3 : List Nat := [174, 176, 178, 180, 182]
theorem am_in3 : ∀ w ∈ u_ws RX3 TX3 5, w ∈ lw_gt := am_wIn _ am_wp3 (by decide +kernel)
theorem am_dv3 : ∀ j, j < 5 → defaultValue (tyX3 j) = am_dv ((am_tl 3).getD j 0) := by decide +kernel
def am_wp4 : List Nat := [541, 543, 545, 547, 549, 551, 553, 555, 557, 559, 561, 563]
theorem am_in4 : ∀ w ∈ u_ws RX4 TX4 12, w ∈ lw_gt := am_wIn _ am_wp4 (by decide +kernel)
theorem am_dv4 : ∀ j, j < 12 → defaultValue (tyX4 j) = am_dv ((am_tl 4).getD j 0) := by decide +kernel
def am_wp5 : List Nat := [287, 289, 291, 293, 295, 297, 299, 301, 303]
theorem am_in5 : ∀ w ∈ u_ws RX5 TX5 9, w ∈ lw_gt := am_wIn _ am_wp5 (by decide +kernel)
theorem am_dv5 : ∀ j, j < 9 → defaultValue (tyX5 j) = am_dv ((am_tl 5).getD j 0) := by decide +kernel
def am_wp6 : List Nat := [91, 93, 95, 97]
theorem am_in6 : ∀ w ∈ u_ws RX6 TX6 4, w ∈ lw_gt := am_wIn _ am_wp6 (by decide +kernel)
theorem am_dv6 : ∀ j, j < 4 → defaultValue (tyX6 j) = am_dv ((am_tl 6).getD j 0) := by decide +kernel
def am_wp7 : List Nat := [196, 198, 200, 202, 204, 206]
theorem am_in7 : ∀ w ∈ u_ws RX7 TX7 6, w ∈ lw_gt := am_wIn _ am_wp7 (by decide +kernel)
theorem am_dv7 : ∀ j, j < 6 → defaultValue (tyX7 j) = am_dv ((am_tl 7).getD j 0) := by decide +kernel
def am_wp8 : List Nat := [762, 764, 766, 768, 770, 772, 774, 776, 778, 780, 782, 784, 786, 788, 790, 792, 794, 796, 798, 800, 802, 804, 806, 808, 810, 812, 814, 816, 818, 820, 822, 824, 826, 828, 830, 832, 834, 836, 838, 840, 842, 844, 846, 848, 850, 852, 854, 856, 858, 860, 862, 864]
theorem am_in8 : ∀ w ∈ u_ws RX8 TX8 52, w ∈ lw_gt := am_wIn _ am_wp8 (by decide +kernel)
theorem am_dv8 : ∀ j, j < 52 → defaultValue (tyX8 j) = am_dv ((am_tl 8).getD j 0) := by decide +kernel
theorem am_cl_in : ∀ (ci : Nat) (r : vw_C), am_cl[ci]? = some r → ∀ w ∈ u_ws r.1 r.2.1 r.2.2, w ∈ lw_gt := by
  intro ci r h
  match ci, h with
  | 0, h => cases h; exact am_in0
  | 1, h => cases h; exact am_in1
  | 2, h => cases h; exact am_in2
  | 3, h => cases h; exact am_in3
  | 4, h => cases h; exact am_in4
  | 5, h => cases h; exact am_in5
  | 6, h => cases h; exact am_in6
  | 7, h => cases h; exact am_in7
  | 8, h => cases h; exact am_in8
  | ci + 9, h => simp [am_cl] at h
theorem am_cl_ty : ∀ (ci : Nat) (r : vw_C), am_cl[ci]? = some r → ∃ ty : Nat → FieldType, (∀ k, k < r.2.2 → parseFieldDescriptor (r.2.1 k).2.2.1 = some (ty k)) ∧ ∀ j, j < r.2.2 → defaultValue (ty j) = am_dv ((am_tl ci).getD j 0) := by
  intro ci r h
  match ci, h with
  | 0, h => cases h; exact ⟨tyX0, tyX0_ok, am_dv0⟩
  | 1, h => cases h; exact ⟨tyX1, tyX1_ok, am_dv1⟩
  | 2, h => cases h; exact ⟨tyX2, tyX2_ok, am_dv2⟩
  | 3, h => cases h; exact ⟨tyX3, tyX3_ok, am_dv3⟩
  | 4, h => cases h; exact ⟨tyX4, tyX4_ok, am_dv4⟩
  | 5, h => cases h; exact ⟨tyX5, tyX5_ok, am_dv5⟩
  | 6, h => cases h; exact ⟨tyX6, tyX6_ok, am_dv6⟩
  | 7, h => cases h; exact ⟨tyX7, tyX7_ok, am_dv7⟩
  | 8, h => cases h; exact ⟨tyX8, tyX8_ok, am_dv8⟩
  | ci + 9, h => simp [am_cl] at h
theorem am_cl_nm : ∀ (ci : Nat) (r : vw_C), am_cl[ci]? = some r → ∀ a, a < r.2.2 → ∀ b, b < r.2.2 → a ≠ b → (r.2.1 a).2.1 ≠ (r.2.1 b).2.1 := by
  intro ci r h
  match ci, h with
  | 0, h => cases h; exact nmX0
  | 1, h => cases h; exact nmX1
  | 2, h => cases h; exact nmX2
  | 3, h => cases h; exact nmX3
  | 4, h => cases h; exact nmX4
  | 5, h => cases h; exact nmX5
  | 6, h => cases h; exact nmX6
  | 7, h => cases h; exact nmX7
  | 8, h => cases h; exact nmX8
  | ci + 9, h => simp [am_cl] at h
theorem am_cl_len : ∀ (ci : Nat) (r : vw_C), am_cl[ci]? = some r → (am_tl ci).length = r.2.2 := by
  intro ci r h
  match ci, h with
  | 0, h => cases h; rfl
  | 1, h => cases h; rfl
  | 2, h => cases h; rfl
  | 3, h => cases h; rfl
  | 4, h => cases h; rfl
  | 5, h => cases h; rfl
  | 6, h => cases h; rfl
  | 7, h => cases h; rfl
  | 8, h => cases h; rfl
  | ci + 9, h => simp [am_cl] at h
def am_kt : List (Nat × Nat × Nat) := [(0, 0, 3), (1, 1, 10), (2, 2, 10), (3, 3, 5), (4, 4, 12), (5, 5, 9), (6, 6, 4), (7, 7, 6), (8, 8, 52), (101, 20, 40), (102, 20, 40), (201, 20, 30), (202, 20, 30), (203, 20, 30), (204, 20, 30), (205, 20, 30), (206, 20, 360), (207, 20, 30), (208, 21, 30), (209, 20, 9), (301, 20, 10), (302, 20, 10), (303, 20, 10), (304, 20, 10), (305, 20, 10), (306, 20, 10), (307, 20, 10), (308, 20, 10), (309, 20, 10), (404, 21, 30), (500, 20, 12), (504, 20, 10), (506, 20, 256), (508, 20, 256), (510, 20, 2560), (511, 20, 3328), (602, 20, 30), (603, 20, 30), (604, 20, 30), (605, 20, 30), (606, 20, 30), (607, 20, 30), (608, 20, 30), (701, 20, 12), (702, 22, 12), (703, 20, 72), (801, 23, 8), (802, 24, 6), (901, 20, 12), (902, 22, 12), (903, 20, 72), (905, 20, 10), (906, 20, 10), (907, 20, 10), (908, 20, 10), (909, 20, 10), (910, 20, 10), (911, 20, 10), (912, 20, 10), (913, 20, 10), (917, 20, 9), (918, 20, 270), (919, 20, 270), (920, 20, 270), (921, 20, 270), (922, 20, 270), (923, 20, 270), (924, 20, 270), (926, 20, 6), (927, 20, 48), (928, 20, 180), (929, 20, 180), (930, 21, 180), (931, 20, 180), (932, 20, 180), (933, 20, 180), (934, 20, 2160), (935, 20, 180), (936, 20, 798720), (937, 21, 240), (940, 20, 40), (941, 20, 40), (942, 21, 30), (944, 20, 31), (945, 20, 31), (946, 20, 31), (947, 20, 31), (948, 20, 31)]
/-- a kind of cell: its class (20 and on: an array of int, boolean, long, Tree, Creature) and how many places -/
def am_c (k : Nat) : Nat := ((am_kt.lookup k).getD (99, 0)).1
def am_n (k : Nat) : Nat := ((am_kt.lookup k).getD (99, 0)).2
theorem am_kt_ok : ∀ x ∈ am_kt, (x.2.1 < 9 ∧ (am_tl x.2.1).length = x.2.2) ∨ (20 ≤ x.2.1 ∧ x.2.1 < 25 ∧ x.2.2 ≤ 800000) := by decide +kernel
