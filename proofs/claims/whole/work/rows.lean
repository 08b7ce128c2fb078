section
-- ===== PART A: goes FIRST, ahead of the names: the tables' words, and 'selects' of the private methods out of them =====
/-- a private method of a class that the tables say can be made, by its rows of tables_1 -/
def lw_okq (q : MethodName × Nat) : Prop := (q.1.cls ≠ "java/lang/invoke/MethodHandle" ∧ q.1.cls ≠ "java/lang/invoke/VarHandle") ∧ Cond.instantiable q.1.cls q.2 ∈ tables_1 ∧ Cond.privateMethod q.1 ∈ tables_1 ∧ Cond.instanceMethod q.1 ∈ tables_1
theorem lw_p0 : lw_okq (⟨"CenturyPosts", "faultOfRow", "(II)I"⟩, 15) := ⟨⟨by decide +kernel, by decide +kernel⟩, List.mem_of_getElem? (i := 13) (by decide +kernel), List.mem_of_getElem? (i := 246) (by decide +kernel), List.mem_of_getElem? (i := 247) (by decide +kernel)⟩
theorem lw_p1 : lw_okq (⟨"CenturyPosts", "faulty", "(I)I"⟩, 15) := ⟨⟨by decide +kernel, by decide +kernel⟩, List.mem_of_getElem? (i := 13) (by decide +kernel), List.mem_of_getElem? (i := 258) (by decide +kernel), List.mem_of_getElem? (i := 259) (by decide +kernel)⟩
theorem lw_p2 : lw_okq (⟨"CenturyPosts", "unsettle", "()V"⟩, 15) := ⟨⟨by decide +kernel, by decide +kernel⟩, List.mem_of_getElem? (i := 13) (by decide +kernel), List.mem_of_getElem? (i := 285) (by decide +kernel), List.mem_of_getElem? (i := 286) (by decide +kernel)⟩
theorem lw_p3 : lw_okq (⟨"CenturyPosts", "isPerson", "(I)Z"⟩, 15) := ⟨⟨by decide +kernel, by decide +kernel⟩, List.mem_of_getElem? (i := 13) (by decide +kernel), List.mem_of_getElem? (i := 293) (by decide +kernel), List.mem_of_getElem? (i := 294) (by decide +kernel)⟩
theorem lw_p4 : lw_okq (⟨"CenturyPosts", "isLand", "()Z"⟩, 15) := ⟨⟨by decide +kernel, by decide +kernel⟩, List.mem_of_getElem? (i := 13) (by decide +kernel), List.mem_of_getElem? (i := 305) (by decide +kernel), List.mem_of_getElem? (i := 306) (by decide +kernel)⟩
theorem lw_p5 : lw_okq (⟨"CenturyPosts", "isPost", "(I)Z"⟩, 15) := ⟨⟨by decide +kernel, by decide +kernel⟩, List.mem_of_getElem? (i := 13) (by decide +kernel), List.mem_of_getElem? (i := 317) (by decide +kernel), List.mem_of_getElem? (i := 318) (by decide +kernel)⟩
theorem lw_p6 : lw_okq (⟨"CenturyPosts", "asItGoes", "()LCenturyPosts$Course;"⟩, 15) := ⟨⟨by decide +kernel, by decide +kernel⟩, List.mem_of_getElem? (i := 13) (by decide +kernel), List.mem_of_getElem? (i := 340) (by decide +kernel), List.mem_of_getElem? (i := 341) (by decide +kernel)⟩
theorem lw_p7 : lw_okq (⟨"CenturyPosts$Course", "wakeAndBear", "(II)V"⟩, 14) := ⟨⟨by decide +kernel, by decide +kernel⟩, List.mem_of_getElem? (i := 138) (by decide +kernel), List.mem_of_getElem? (i := 349) (by decide +kernel), List.mem_of_getElem? (i := 350) (by decide +kernel)⟩
theorem lw_p8 : lw_okq (⟨"CenturyPosts$Course", "fillPosts", "(ILCenturyPosts$Orders;)V"⟩, 14) := ⟨⟨by decide +kernel, by decide +kernel⟩, List.mem_of_getElem? (i := 138) (by decide +kernel), List.mem_of_getElem? (i := 353) (by decide +kernel), List.mem_of_getElem? (i := 354) (by decide +kernel)⟩
theorem lw_p9 : lw_okq (⟨"CenturyPosts$Course", "chosenOf", "(IILCenturyPosts$Orders;)I"⟩, 14) := ⟨⟨by decide +kernel, by decide +kernel⟩, List.mem_of_getElem? (i := 138) (by decide +kernel), List.mem_of_getElem? (i := 357) (by decide +kernel), List.mem_of_getElem? (i := 358) (by decide +kernel)⟩
theorem lw_p10 : lw_okq (⟨"CenturyPosts$Course", "lawfulOf", "(II)I"⟩, 14) := ⟨⟨by decide +kernel, by decide +kernel⟩, List.mem_of_getElem? (i := 138) (by decide +kernel), List.mem_of_getElem? (i := 365) (by decide +kernel), List.mem_of_getElem? (i := 366) (by decide +kernel)⟩
theorem lw_p11 : lw_okq (⟨"CenturyPosts$Course", "layDown", "(III)V"⟩, 14) := ⟨⟨by decide +kernel, by decide +kernel⟩, List.mem_of_getElem? (i := 138) (by decide +kernel), List.mem_of_getElem? (i := 372) (by decide +kernel), List.mem_of_getElem? (i := 373) (by decide +kernel)⟩
theorem lw_p12 : lw_okq (⟨"CenturyPosts$Course", "noteAndGrowOld", "(I)V"⟩, 14) := ⟨⟨by decide +kernel, by decide +kernel⟩, List.mem_of_getElem? (i := 138) (by decide +kernel), List.mem_of_getElem? (i := 383) (by decide +kernel), List.mem_of_getElem? (i := 384) (by decide +kernel)⟩
theorem lw_p13 : lw_okq (⟨"CenturyPosts$Course", "stateNow", "(II)I"⟩, 14) := ⟨⟨by decide +kernel, by decide +kernel⟩, List.mem_of_getElem? (i := 138) (by decide +kernel), List.mem_of_getElem? (i := 387) (by decide +kernel), List.mem_of_getElem? (i := 388) (by decide +kernel)⟩
theorem lw_p14 : lw_okq (⟨"CenturyPosts", "findFalls", "()V"⟩, 15) := ⟨⟨by decide +kernel, by decide +kernel⟩, List.mem_of_getElem? (i := 13) (by decide +kernel), List.mem_of_getElem? (i := 435) (by decide +kernel), List.mem_of_getElem? (i := 436) (by decide +kernel)⟩
theorem lw_p15 : lw_okq (⟨"CenturyPosts", "findHelp", "()V"⟩, 15) := ⟨⟨by decide +kernel, by decide +kernel⟩, List.mem_of_getElem? (i := 13) (by decide +kernel), List.mem_of_getElem? (i := 455) (by decide +kernel), List.mem_of_getElem? (i := 456) (by decide +kernel)⟩
def lw_privs_1 : List (MethodName × Nat) := [(⟨"CenturyPosts", "faultOfRow", "(II)I"⟩, 15), (⟨"CenturyPosts", "faulty", "(I)I"⟩, 15), (⟨"CenturyPosts", "unsettle", "()V"⟩, 15), (⟨"CenturyPosts", "isPerson", "(I)Z"⟩, 15), (⟨"CenturyPosts", "isLand", "()Z"⟩, 15), (⟨"CenturyPosts", "isPost", "(I)Z"⟩, 15), (⟨"CenturyPosts", "asItGoes", "()LCenturyPosts$Course;"⟩, 15), (⟨"CenturyPosts$Course", "wakeAndBear", "(II)V"⟩, 14), (⟨"CenturyPosts$Course", "fillPosts", "(ILCenturyPosts$Orders;)V"⟩, 14), (⟨"CenturyPosts$Course", "chosenOf", "(IILCenturyPosts$Orders;)I"⟩, 14), (⟨"CenturyPosts$Course", "lawfulOf", "(II)I"⟩, 14), (⟨"CenturyPosts$Course", "layDown", "(III)V"⟩, 14), (⟨"CenturyPosts$Course", "noteAndGrowOld", "(I)V"⟩, 14), (⟨"CenturyPosts$Course", "stateNow", "(II)I"⟩, 14), (⟨"CenturyPosts", "findFalls", "()V"⟩, 15), (⟨"CenturyPosts", "findHelp", "()V"⟩, 15)]
theorem lw_r1 : ∀ q ∈ lw_privs_1, lw_okq q := List.forall_mem_cons.mpr ⟨lw_p0, List.forall_mem_cons.mpr ⟨lw_p1, List.forall_mem_cons.mpr ⟨lw_p2, List.forall_mem_cons.mpr ⟨lw_p3, List.forall_mem_cons.mpr ⟨lw_p4, List.forall_mem_cons.mpr ⟨lw_p5, List.forall_mem_cons.mpr ⟨lw_p6, List.forall_mem_cons.mpr ⟨lw_p7, List.forall_mem_cons.mpr ⟨lw_p8, List.forall_mem_cons.mpr ⟨lw_p9, List.forall_mem_cons.mpr ⟨lw_p10, List.forall_mem_cons.mpr ⟨lw_p11, List.forall_mem_cons.mpr ⟨lw_p12, List.forall_mem_cons.mpr ⟨lw_p13, List.forall_mem_cons.mpr ⟨lw_p14, List.forall_mem_cons.mpr ⟨lw_p15, fun _ h => absurd h List.not_mem_nil⟩⟩⟩⟩⟩⟩⟩⟩⟩⟩⟩⟩⟩⟩⟩⟩
theorem lw_p16 : lw_okq (⟨"CenturyPosts", "tryWill", "(III)V"⟩, 15) := ⟨⟨by decide +kernel, by decide +kernel⟩, List.mem_of_getElem? (i := 13) (by decide +kernel), List.mem_of_getElem? (i := 463) (by decide +kernel), List.mem_of_getElem? (i := 464) (by decide +kernel)⟩
theorem lw_p17 : lw_okq (⟨"CenturyPosts", "takeToldWills", "(III)Z"⟩, 15) := ⟨⟨by decide +kernel, by decide +kernel⟩, List.mem_of_getElem? (i := 13) (by decide +kernel), List.mem_of_getElem? (i := 471) (by decide +kernel), List.mem_of_getElem? (i := 472) (by decide +kernel)⟩
theorem lw_p18 : lw_okq (⟨"CenturyPosts", "allAreSo", "()Z"⟩, 15) := ⟨⟨by decide +kernel, by decide +kernel⟩, List.mem_of_getElem? (i := 13) (by decide +kernel), List.mem_of_getElem? (i := 492) (by decide +kernel), List.mem_of_getElem? (i := 493) (by decide +kernel)⟩
theorem lw_p19 : lw_okq (⟨"CenturyPosts", "tellEnchanted", "(I)I"⟩, 15) := ⟨⟨by decide +kernel, by decide +kernel⟩, List.mem_of_getElem? (i := 13) (by decide +kernel), List.mem_of_getElem? (i := 566) (by decide +kernel), List.mem_of_getElem? (i := 567) (by decide +kernel)⟩
theorem lw_p20 : lw_okq (⟨"CenturyPosts", "leave", "(I)V"⟩, 15) := ⟨⟨by decide +kernel, by decide +kernel⟩, List.mem_of_getElem? (i := 13) (by decide +kernel), List.mem_of_getElem? (i := 570) (by decide +kernel), List.mem_of_getElem? (i := 571) (by decide +kernel)⟩
theorem lw_p21 : lw_okq (⟨"CenturyPosts", "tellHeavy", "(I)I"⟩, 15) := ⟨⟨by decide +kernel, by decide +kernel⟩, List.mem_of_getElem? (i := 13) (by decide +kernel), List.mem_of_getElem? (i := 574) (by decide +kernel), List.mem_of_getElem? (i := 575) (by decide +kernel)⟩
theorem lw_p22 : lw_okq (⟨"CenturyPosts", "tellDreamer", "(I)I"⟩, 15) := ⟨⟨by decide +kernel, by decide +kernel⟩, List.mem_of_getElem? (i := 13) (by decide +kernel), List.mem_of_getElem? (i := 578) (by decide +kernel), List.mem_of_getElem? (i := 579) (by decide +kernel)⟩
theorem lw_p23 : lw_okq (⟨"CenturyPostsModel", "refused", "(I)I"⟩, 43) := ⟨⟨by decide +kernel, by decide +kernel⟩, List.mem_of_getElem? (i := 602) (by decide +kernel), List.mem_of_getElem? (i := 749) (by decide +kernel), List.mem_of_getElem? (i := 750) (by decide +kernel)⟩
theorem lw_p24 : lw_okq (⟨"CenturyPostsModel", "cellsBarred", "(IIIJ)I"⟩, 43) := ⟨⟨by decide +kernel, by decide +kernel⟩, List.mem_of_getElem? (i := 602) (by decide +kernel), List.mem_of_getElem? (i := 754) (by decide +kernel), List.mem_of_getElem? (i := 755) (by decide +kernel)⟩
theorem lw_p25 : lw_okq (⟨"CenturyPostsModel", "failed", "(I)I"⟩, 43) := ⟨⟨by decide +kernel, by decide +kernel⟩, List.mem_of_getElem? (i := 602) (by decide +kernel), List.mem_of_getElem? (i := 758) (by decide +kernel), List.mem_of_getElem? (i := 759) (by decide +kernel)⟩
theorem lw_p26 : lw_okq (⟨"CenturyPostsModel", "readsLand", "(II)Z"⟩, 43) := ⟨⟨by decide +kernel, by decide +kernel⟩, List.mem_of_getElem? (i := 602) (by decide +kernel), List.mem_of_getElem? (i := 765) (by decide +kernel), List.mem_of_getElem? (i := 766) (by decide +kernel)⟩
theorem lw_p27 : lw_okq (⟨"CenturyPostsModel", "codeAt", "(II)I"⟩, 43) := ⟨⟨by decide +kernel, by decide +kernel⟩, List.mem_of_getElem? (i := 602) (by decide +kernel), List.mem_of_getElem? (i := 769) (by decide +kernel), List.mem_of_getElem? (i := 770) (by decide +kernel)⟩
theorem lw_p28 : lw_okq (⟨"CenturyPostsModel", "figure", "(IIII)I"⟩, 43) := ⟨⟨by decide +kernel, by decide +kernel⟩, List.mem_of_getElem? (i := 602) (by decide +kernel), List.mem_of_getElem? (i := 773) (by decide +kernel), List.mem_of_getElem? (i := 774) (by decide +kernel)⟩
theorem lw_p29 : lw_okq (⟨"CenturyPostsModel", "readsPerson", "(II)Z"⟩, 43) := ⟨⟨by decide +kernel, by decide +kernel⟩, List.mem_of_getElem? (i := 602) (by decide +kernel), List.mem_of_getElem? (i := 777) (by decide +kernel), List.mem_of_getElem? (i := 778) (by decide +kernel)⟩
theorem lw_p30 : lw_okq (⟨"CenturyPostsModel", "noPerson", "(I)Z"⟩, 43) := ⟨⟨by decide +kernel, by decide +kernel⟩, List.mem_of_getElem? (i := 602) (by decide +kernel), List.mem_of_getElem? (i := 785) (by decide +kernel), List.mem_of_getElem? (i := 786) (by decide +kernel)⟩
theorem lw_p31 : lw_okq (⟨"CenturyPostsModel", "sleepOf", "(I)I"⟩, 43) := ⟨⟨by decide +kernel, by decide +kernel⟩, List.mem_of_getElem? (i := 602) (by decide +kernel), List.mem_of_getElem? (i := 789) (by decide +kernel), List.mem_of_getElem? (i := 790) (by decide +kernel)⟩
def lw_privs_2 : List (MethodName × Nat) := [(⟨"CenturyPosts", "tryWill", "(III)V"⟩, 15), (⟨"CenturyPosts", "takeToldWills", "(III)Z"⟩, 15), (⟨"CenturyPosts", "allAreSo", "()Z"⟩, 15), (⟨"CenturyPosts", "tellEnchanted", "(I)I"⟩, 15), (⟨"CenturyPosts", "leave", "(I)V"⟩, 15), (⟨"CenturyPosts", "tellHeavy", "(I)I"⟩, 15), (⟨"CenturyPosts", "tellDreamer", "(I)I"⟩, 15), (⟨"CenturyPostsModel", "refused", "(I)I"⟩, 43), (⟨"CenturyPostsModel", "cellsBarred", "(IIIJ)I"⟩, 43), (⟨"CenturyPostsModel", "failed", "(I)I"⟩, 43), (⟨"CenturyPostsModel", "readsLand", "(II)Z"⟩, 43), (⟨"CenturyPostsModel", "codeAt", "(II)I"⟩, 43), (⟨"CenturyPostsModel", "figure", "(IIII)I"⟩, 43), (⟨"CenturyPostsModel", "readsPerson", "(II)Z"⟩, 43), (⟨"CenturyPostsModel", "noPerson", "(I)Z"⟩, 43), (⟨"CenturyPostsModel", "sleepOf", "(I)I"⟩, 43)]
theorem lw_r2 : ∀ q ∈ lw_privs_2, lw_okq q := List.forall_mem_cons.mpr ⟨lw_p16, List.forall_mem_cons.mpr ⟨lw_p17, List.forall_mem_cons.mpr ⟨lw_p18, List.forall_mem_cons.mpr ⟨lw_p19, List.forall_mem_cons.mpr ⟨lw_p20, List.forall_mem_cons.mpr ⟨lw_p21, List.forall_mem_cons.mpr ⟨lw_p22, List.forall_mem_cons.mpr ⟨lw_p23, List.forall_mem_cons.mpr ⟨lw_p24, List.forall_mem_cons.mpr ⟨lw_p25, List.forall_mem_cons.mpr ⟨lw_p26, List.forall_mem_cons.mpr ⟨lw_p27, List.forall_mem_cons.mpr ⟨lw_p28, List.forall_mem_cons.mpr ⟨lw_p29, List.forall_mem_cons.mpr ⟨lw_p30, List.forall_mem_cons.mpr ⟨lw_p31, fun _ h => absurd h List.not_mem_nil⟩⟩⟩⟩⟩⟩⟩⟩⟩⟩⟩⟩⟩⟩⟩⟩
theorem lw_p32 : lw_okq (⟨"CenturyPostsModel", "noPost", "(I)Z"⟩, 43) := ⟨⟨by decide +kernel, by decide +kernel⟩, List.mem_of_getElem? (i := 602) (by decide +kernel), List.mem_of_getElem? (i := 808) (by decide +kernel), List.mem_of_getElem? (i := 809) (by decide +kernel)⟩
theorem lw_p33 : lw_okq (⟨"CenturyPostsModel", "goTo", "(I)V"⟩, 43) := ⟨⟨by decide +kernel, by decide +kernel⟩, List.mem_of_getElem? (i := 602) (by decide +kernel), List.mem_of_getElem? (i := 829) (by decide +kernel), List.mem_of_getElem? (i := 830) (by decide +kernel)⟩
theorem lw_p34 : lw_okq (⟨"CenturyPostsModel", "begin", "()V"⟩, 43) := ⟨⟨by decide +kernel, by decide +kernel⟩, List.mem_of_getElem? (i := 602) (by decide +kernel), List.mem_of_getElem? (i := 833) (by decide +kernel), List.mem_of_getElem? (i := 834) (by decide +kernel)⟩
theorem lw_p35 : lw_okq (⟨"CenturyPostsModel", "goDecade", "(I)V"⟩, 43) := ⟨⟨by decide +kernel, by decide +kernel⟩, List.mem_of_getElem? (i := 602) (by decide +kernel), List.mem_of_getElem? (i := 837) (by decide +kernel), List.mem_of_getElem? (i := 838) (by decide +kernel)⟩
theorem lw_p36 : lw_okq (⟨"CenturyPostsModel", "wakeAll", "(I)V"⟩, 43) := ⟨⟨by decide +kernel, by decide +kernel⟩, List.mem_of_getElem? (i := 602) (by decide +kernel), List.mem_of_getElem? (i := 841) (by decide +kernel), List.mem_of_getElem? (i := 842) (by decide +kernel)⟩
theorem lw_p37 : lw_okq (⟨"CenturyPostsModel", "all", "()I"⟩, 43) := ⟨⟨by decide +kernel, by decide +kernel⟩, List.mem_of_getElem? (i := 602) (by decide +kernel), List.mem_of_getElem? (i := 845) (by decide +kernel), List.mem_of_getElem? (i := 846) (by decide +kernel)⟩
theorem lw_p38 : lw_okq (⟨"CenturyPostsModel", "lierAt", "(II)I"⟩, 43) := ⟨⟨by decide +kernel, by decide +kernel⟩, List.mem_of_getElem? (i := 602) (by decide +kernel), List.mem_of_getElem? (i := 849) (by decide +kernel), List.mem_of_getElem? (i := 850) (by decide +kernel)⟩
theorem lw_p39 : lw_okq (⟨"CenturyPostsModel", "mayLie", "(I)Z"⟩, 43) := ⟨⟨by decide +kernel, by decide +kernel⟩, List.mem_of_getElem? (i := 602) (by decide +kernel), List.mem_of_getElem? (i := 853) (by decide +kernel), List.mem_of_getElem? (i := 854) (by decide +kernel)⟩
theorem lw_p40 : lw_okq (⟨"CenturyPostsModel", "isRather", "(III)Z"⟩, 43) := ⟨⟨by decide +kernel, by decide +kernel⟩, List.mem_of_getElem? (i := 602) (by decide +kernel), List.mem_of_getElem? (i := 857) (by decide +kernel), List.mem_of_getElem? (i := 858) (by decide +kernel)⟩
theorem lw_p41 : lw_okq (⟨"CenturyPostsModel", "endDecade", "()V"⟩, 43) := ⟨⟨by decide +kernel, by decide +kernel⟩, List.mem_of_getElem? (i := 602) (by decide +kernel), List.mem_of_getElem? (i := 864) (by decide +kernel), List.mem_of_getElem? (i := 865) (by decide +kernel)⟩
theorem lw_p42 : lw_okq (⟨"CenturyPostsModel", "refusedFor", "(I)I"⟩, 43) := ⟨⟨by decide +kernel, by decide +kernel⟩, List.mem_of_getElem? (i := 602) (by decide +kernel), List.mem_of_getElem? (i := 880) (by decide +kernel), List.mem_of_getElem? (i := 881) (by decide +kernel)⟩
theorem lw_p43 : lw_okq (⟨"CenturyPostsModel", "noneEmpty", "(I)Z"⟩, 43) := ⟨⟨by decide +kernel, by decide +kernel⟩, List.mem_of_getElem? (i := 602) (by decide +kernel), List.mem_of_getElem? (i := 900) (by decide +kernel), List.mem_of_getElem? (i := 901) (by decide +kernel)⟩
theorem lw_p44 : lw_okq (⟨"CenturyPostsModel", "allEmpties", "()I"⟩, 43) := ⟨⟨by decide +kernel, by decide +kernel⟩, List.mem_of_getElem? (i := 602) (by decide +kernel), List.mem_of_getElem? (i := 908) (by decide +kernel), List.mem_of_getElem? (i := 909) (by decide +kernel)⟩
theorem lw_p45 : lw_okq (⟨"CenturyPostsModel", "emptiesBy", "(II)I"⟩, 43) := ⟨⟨by decide +kernel, by decide +kernel⟩, List.mem_of_getElem? (i := 602) (by decide +kernel), List.mem_of_getElem? (i := 917) (by decide +kernel), List.mem_of_getElem? (i := 918) (by decide +kernel)⟩
theorem lw_p46 : lw_okq (⟨"CenturyPostsModel", "areSo", "()Z"⟩, 43) := ⟨⟨by decide +kernel, by decide +kernel⟩, List.mem_of_getElem? (i := 602) (by decide +kernel), List.mem_of_getElem? (i := 933) (by decide +kernel), List.mem_of_getElem? (i := 934) (by decide +kernel)⟩
theorem lw_p47 : lw_okq (⟨"CenturyPostsModel", "noCell", "(II)I"⟩, 43) := ⟨⟨by decide +kernel, by decide +kernel⟩, List.mem_of_getElem? (i := 602) (by decide +kernel), List.mem_of_getElem? (i := 972) (by decide +kernel), List.mem_of_getElem? (i := 973) (by decide +kernel)⟩
def lw_privs_3 : List (MethodName × Nat) := [(⟨"CenturyPostsModel", "noPost", "(I)Z"⟩, 43), (⟨"CenturyPostsModel", "goTo", "(I)V"⟩, 43), (⟨"CenturyPostsModel", "begin", "()V"⟩, 43), (⟨"CenturyPostsModel", "goDecade", "(I)V"⟩, 43), (⟨"CenturyPostsModel", "wakeAll", "(I)V"⟩, 43), (⟨"CenturyPostsModel", "all", "()I"⟩, 43), (⟨"CenturyPostsModel", "lierAt", "(II)I"⟩, 43), (⟨"CenturyPostsModel", "mayLie", "(I)Z"⟩, 43), (⟨"CenturyPostsModel", "isRather", "(III)Z"⟩, 43), (⟨"CenturyPostsModel", "endDecade", "()V"⟩, 43), (⟨"CenturyPostsModel", "refusedFor", "(I)I"⟩, 43), (⟨"CenturyPostsModel", "noneEmpty", "(I)Z"⟩, 43), (⟨"CenturyPostsModel", "allEmpties", "()I"⟩, 43), (⟨"CenturyPostsModel", "emptiesBy", "(II)I"⟩, 43), (⟨"CenturyPostsModel", "areSo", "()Z"⟩, 43), (⟨"CenturyPostsModel", "noCell", "(II)I"⟩, 43)]
theorem lw_r3 : ∀ q ∈ lw_privs_3, lw_okq q := List.forall_mem_cons.mpr ⟨lw_p32, List.forall_mem_cons.mpr ⟨lw_p33, List.forall_mem_cons.mpr ⟨lw_p34, List.forall_mem_cons.mpr ⟨lw_p35, List.forall_mem_cons.mpr ⟨lw_p36, List.forall_mem_cons.mpr ⟨lw_p37, List.forall_mem_cons.mpr ⟨lw_p38, List.forall_mem_cons.mpr ⟨lw_p39, List.forall_mem_cons.mpr ⟨lw_p40, List.forall_mem_cons.mpr ⟨lw_p41, List.forall_mem_cons.mpr ⟨lw_p42, List.forall_mem_cons.mpr ⟨lw_p43, List.forall_mem_cons.mpr ⟨lw_p44, List.forall_mem_cons.mpr ⟨lw_p45, List.forall_mem_cons.mpr ⟨lw_p46, List.forall_mem_cons.mpr ⟨lw_p47, fun _ h => absurd h List.not_mem_nil⟩⟩⟩⟩⟩⟩⟩⟩⟩⟩⟩⟩⟩⟩⟩⟩
theorem lw_p48 : lw_okq (⟨"CenturyPostsModel", "failedLong", "(I)J"⟩, 43) := ⟨⟨by decide +kernel, by decide +kernel⟩, List.mem_of_getElem? (i := 602) (by decide +kernel), List.mem_of_getElem? (i := 980) (by decide +kernel), List.mem_of_getElem? (i := 981) (by decide +kernel)⟩
theorem lw_p49 : lw_okq (⟨"CenturyPostsModel", "traced", "(I)V"⟩, 43) := ⟨⟨by decide +kernel, by decide +kernel⟩, List.mem_of_getElem? (i := 602) (by decide +kernel), List.mem_of_getElem? (i := 992) (by decide +kernel), List.mem_of_getElem? (i := 993) (by decide +kernel)⟩
def lw_privs_4 : List (MethodName × Nat) := [(⟨"CenturyPostsModel", "failedLong", "(I)J"⟩, 43), (⟨"CenturyPostsModel", "traced", "(I)V"⟩, 43)]
theorem lw_r4 : ∀ q ∈ lw_privs_4, lw_okq q := List.forall_mem_cons.mpr ⟨lw_p48, List.forall_mem_cons.mpr ⟨lw_p49, fun _ h => absurd h List.not_mem_nil⟩⟩
def lw_privs : List (MethodName × Nat) := lw_privs_1 ++ (lw_privs_2 ++ (lw_privs_3 ++ (lw_privs_4)))
def lw_tbl : List Cond := k2_sels lw_privs ++ tables_1
theorem lw_privs_ok : ∀ q ∈ lw_privs, lw_okq q := by
  show ∀ q ∈ lw_privs_1 ++ (lw_privs_2 ++ (lw_privs_3 ++ (lw_privs_4))), lw_okq q
  exact List.forall_mem_append.mpr ⟨lw_r1, List.forall_mem_append.mpr ⟨lw_r2, List.forall_mem_append.mpr ⟨lw_r3, lw_r4⟩⟩⟩
-- ===== end of PART A; then your names; then what follows =====
end
section
def RX0 : String := "CenturyPosts$Course"
def TX0 : u_T := fun k => match k with
  | 0 => ("CenturyPosts$Course", "gaps", "[I", true)
  | 1 => ("CenturyPosts$Course", "missed", "I", false)
  | 2 => ("CenturyPosts$Course", "ran", "I", false)
  | 3 => ("CenturyPosts$Course", "land", "LCenturyPosts$Land;", true)
  | 4 => ("CenturyPosts$Course", "guards", "[I", true)
  | 5 => ("CenturyPosts$Course", "choices", "[I", true)
  | 6 => ("CenturyPosts$Course", "states", "[I", true)
  | 7 => ("CenturyPosts$Course", "aged", "[I", true)
  | 8 => ("CenturyPosts$Course", "sleepers", "[I", true)
  | 9 => ("CenturyPosts$Course", "ends", "[I", true)
  | 10 => ("CenturyPosts$Course", "years", "[I", true)
  | 11 => ("CenturyPosts$Course", "up", "I", false)
  | 12 => ("CenturyPosts$Course", "down", "I", false)
  | _ => ("CenturyPosts$Course", "ready", "I", false)
def tyX0 : Nat → FieldType := fun k => match k with
  | 0 => .array .int
  | 1 => .int
  | 2 => .int
  | 3 => .object "CenturyPosts$Land"
  | 4 => .array .int
  | 5 => .array .int
  | 6 => .array .int
  | 7 => .array .int
  | 8 => .array .int
  | 9 => .array .int
  | 10 => .array .int
  | 11 => .int
  | 12 => .int
  | _ => .int
abbrev wsX00 : List Cond := u_ws RX0 TX0 14
theorem nmX0 : ∀ a, a < 14 → ∀ b, b < 14 → a ≠ b → (TX0 a).2.1 ≠ (TX0 b).2.1 := by decide +kernel
theorem tyX0_ok : ∀ k, k < 14 → parseFieldDescriptor (TX0 k).2.2.1 = some (tyX0 k) := by decide +kernel
abbrev cX0_init : ByteArray := prog_2_method_1_code
def yX0_init : MethodName := ⟨RX0, "<init>", "(LCenturyPosts$Land;)V"⟩
abbrev cX0_guardAt : ByteArray := prog_2_method_2_code
def yX0_guardAt : MethodName := ⟨RX0, "guardAt", "(II)I"⟩
abbrev cX0_stateAt : ByteArray := prog_2_method_3_code
def yX0_stateAt : MethodName := ⟨RX0, "stateAt", "(II)I"⟩
abbrev cX0_agedAt : ByteArray := prog_2_method_4_code
def yX0_agedAt : MethodName := ⟨RX0, "agedAt", "(II)I"⟩
abbrev cX0_missedBy : ByteArray := prog_2_method_5_code
def yX0_missedBy : MethodName := ⟨RX0, "missedBy", "(I)I"⟩
abbrev cX0_wouldTurn : ByteArray := prog_2_method_6_code
def yX0_wouldTurn : MethodName := ⟨RX0, "wouldTurn", "(III)Z"⟩
abbrev cX0_run : ByteArray := prog_2_method_7_code
def yX0_run : MethodName := ⟨RX0, "run", "(LCenturyPosts$Orders;II)V"⟩
abbrev cX0_wakeAndBear : ByteArray := prog_2_method_8_code
def yX0_wakeAndBear : MethodName := ⟨RX0, "wakeAndBear", "(II)V"⟩
abbrev cX0_fillPosts : ByteArray := prog_2_method_9_code
def yX0_fillPosts : MethodName := ⟨RX0, "fillPosts", "(ILCenturyPosts$Orders;)V"⟩
abbrev cX0_chosenOf : ByteArray := prog_2_method_10_code
def yX0_chosenOf : MethodName := ⟨RX0, "chosenOf", "(IILCenturyPosts$Orders;)I"⟩
abbrev cX0_layDown : ByteArray := prog_2_method_11_code
def yX0_layDown : MethodName := ⟨RX0, "layDown", "(III)V"⟩
abbrev cX0_lawfulOf : ByteArray := prog_2_method_12_code
def yX0_lawfulOf : MethodName := ⟨RX0, "lawfulOf", "(II)I"⟩
abbrev cX0_noteAndGrowOld : ByteArray := prog_2_method_13_code
def yX0_noteAndGrowOld : MethodName := ⟨RX0, "noteAndGrowOld", "(I)V"⟩
abbrev cX0_stateNow : ByteArray := prog_2_method_14_code
def yX0_stateNow : MethodName := ⟨RX0, "stateNow", "(II)I"⟩
def RX1 : String := "CenturyPosts$Land"
def TX1 : u_T := fun k => match k with
  | 0 => ("CenturyPosts$Land", "posts", "I", false)
  | 1 => ("CenturyPosts$Land", "persons", "I", false)
  | 2 => ("CenturyPosts$Land", "kinds", "[I", true)
  | 3 => ("CenturyPosts$Land", "homes", "[I", true)
  | 4 => ("CenturyPosts$Land", "borns", "[I", true)
  | 5 => ("CenturyPosts$Land", "lives", "[I", true)
  | _ => ("CenturyPosts$Land", "naps", "[I", true)
def tyX1 : Nat → FieldType := fun k => match k with
  | 0 => .int
  | 1 => .int
  | 2 => .array .int
  | 3 => .array .int
  | 4 => .array .int
  | 5 => .array .int
  | _ => .array .int
abbrev wsX10 : List Cond := u_ws RX1 TX1 7
theorem nmX1 : ∀ a, a < 7 → ∀ b, b < 7 → a ≠ b → (TX1 a).2.1 ≠ (TX1 b).2.1 := by decide +kernel
theorem tyX1_ok : ∀ k, k < 7 → parseFieldDescriptor (TX1 k).2.2.1 = some (tyX1 k) := by decide +kernel
abbrev cX1_init : ByteArray := prog_3_method_1_code
def yX1_init : MethodName := ⟨RX1, "<init>", "()V"⟩
abbrev cX1_firstFault : ByteArray := prog_3_method_2_code
def yX1_firstFault : MethodName := ⟨RX1, "firstFault", "(LCenturyPosts$Sheets;III)I"⟩
abbrev cX1_goesOn : ByteArray := prog_3_method_3_code
def yX1_goesOn : MethodName := ⟨RX1, "goesOn", "(III)Z"⟩
abbrev cX1_kindOf : ByteArray := prog_3_method_4_code
def yX1_kindOf : MethodName := ⟨RX1, "kindOf", "(I)I"⟩
abbrev cX1_settle : ByteArray := prog_3_method_5_code
def yX1_settle : MethodName := ⟨RX1, "settle", "(LCenturyPosts$Sheets;III)V"⟩
abbrev cX1_sleepOf : ByteArray := prog_3_method_6_code
def yX1_sleepOf : MethodName := ⟨RX1, "sleepOf", "(I)I"⟩
abbrev cX1_setCount : ByteArray := prog_3_method_7_code
def yX1_setCount : MethodName := ⟨RX1, "setCount", "()I"⟩
def RX2 : String := "CenturyPosts$Orders"
def TX2 : u_T := fun k => match k with
  | 0 => ("CenturyPosts$Orders", "rule", "I", false)
  | 1 => ("CenturyPosts$Orders", "refusing", "I", false)
  | 2 => ("CenturyPosts$Orders", "willCount", "I", false)
  | 3 => ("CenturyPosts$Orders", "givenUp", "[I", true)
  | 4 => ("CenturyPosts$Orders", "willPosts", "[I", true)
  | 5 => ("CenturyPosts$Orders", "willPersons", "[I", true)
  | _ => ("CenturyPosts$Orders", "willDecades", "[I", true)
def tyX2 : Nat → FieldType := fun k => match k with
  | 0 => .int
  | 1 => .int
  | 2 => .int
  | 3 => .array .int
  | 4 => .array .int
  | 5 => .array .int
  | _ => .array .int
abbrev wsX20 : List Cond := u_ws RX2 TX2 7
theorem nmX2 : ∀ a, a < 7 → ∀ b, b < 7 → a ≠ b → (TX2 a).2.1 ≠ (TX2 b).2.1 := by decide +kernel
theorem tyX2_ok : ∀ k, k < 7 → parseFieldDescriptor (TX2 k).2.2.1 = some (tyX2 k) := by decide +kernel
abbrev cX2_init : ByteArray := prog_4_method_1_code
def yX2_init : MethodName := ⟨RX2, "<init>", "()V"⟩
abbrev cX2_clear : ByteArray := prog_4_method_2_code
def yX2_clear : MethodName := ⟨RX2, "clear", "()V"⟩
abbrev cX2_takeOver : ByteArray := prog_4_method_3_code
def yX2_takeOver : MethodName := ⟨RX2, "takeOver", "(LCenturyPosts$Orders;)V"⟩
abbrev cX2_addWill : ByteArray := prog_4_method_4_code
def yX2_addWill : MethodName := ⟨RX2, "addWill", "(III)V"⟩
abbrev cX2_willedOf : ByteArray := prog_4_method_5_code
def yX2_willedOf : MethodName := ⟨RX2, "willedOf", "(III)I"⟩
def RX3 : String := "CenturyPosts$Readings"
def TX3 : u_T := fun k => match k with
  | 0 => ("CenturyPosts$Readings", "count", "I", false)
  | 1 => ("CenturyPosts$Readings", "posts", "[I", true)
  | 2 => ("CenturyPosts$Readings", "decades", "[I", true)
  | _ => ("CenturyPosts$Readings", "sleepers", "[I", true)
def tyX3 : Nat → FieldType := fun k => match k with
  | 0 => .int
  | 1 => .array .int
  | 2 => .array .int
  | _ => .array .int
abbrev wsX30 : List Cond := u_ws RX3 TX3 4
theorem nmX3 : ∀ a, a < 4 → ∀ b, b < 4 → a ≠ b → (TX3 a).2.1 ≠ (TX3 b).2.1 := by decide +kernel
theorem tyX3_ok : ∀ k, k < 4 → parseFieldDescriptor (TX3 k).2.2.1 = some (tyX3 k) := by decide +kernel
abbrev cX3_init : ByteArray := prog_5_method_1_code
def yX3_init : MethodName := ⟨RX3, "<init>", "()V"⟩
abbrev cX3_addReading : ByteArray := prog_5_method_2_code
def yX3_addReading : MethodName := ⟨RX3, "addReading", "(III)V"⟩
abbrev cX3_lastDecade : ByteArray := prog_5_method_3_code
def yX3_lastDecade : MethodName := ⟨RX3, "lastDecade", "()I"⟩
abbrev cX3_areSo : ByteArray := prog_5_method_4_code
def yX3_areSo : MethodName := ⟨RX3, "areSo", "(LCenturyPosts$Course;)Z"⟩
def RX4 : String := "CenturyPosts$Sheets"
def TX4 : u_T := fun k => match k with
  | 0 => ("CenturyPosts$Sheets", "lanes", "[I", true)
  | 1 => ("CenturyPosts$Sheets", "lengths", "[I", true)
  | _ => ("CenturyPosts$Sheets", "cells", "[I", true)
def tyX4 : Nat → FieldType := fun k => match k with
  | 0 => .array .int
  | 1 => .array .int
  | _ => .array .int
abbrev wsX40 : List Cond := u_ws RX4 TX4 3
theorem nmX4 : ∀ a, a < 3 → ∀ b, b < 3 → a ≠ b → (TX4 a).2.1 ≠ (TX4 b).2.1 := by decide +kernel
theorem tyX4_ok : ∀ k, k < 3 → parseFieldDescriptor (TX4 k).2.2.1 = some (tyX4 k) := by decide +kernel
abbrev cX4_init : ByteArray := prog_6_method_1_code
def yX4_init : MethodName := ⟨RX4, "<init>", "()V"⟩
abbrev cX4_has : ByteArray := prog_6_method_2_code
def yX4_has : MethodName := ⟨RX4, "has", "(I)Z"⟩
abbrev cX4_lay : ByteArray := prog_6_method_3_code
def yX4_lay : MethodName := ⟨RX4, "lay", "(III)V"⟩
abbrev cX4_drop : ByteArray := prog_6_method_4_code
def yX4_drop : MethodName := ⟨RX4, "drop", "(I)V"⟩
abbrev cX4_spans : ByteArray := prog_6_method_5_code
def yX4_spans : MethodName := ⟨RX4, "spans", "(III)Z"⟩
abbrev cX4_read : ByteArray := prog_6_method_6_code
def yX4_read : MethodName := ⟨RX4, "read", "(II)I"⟩
abbrev cX4_write : ByteArray := prog_6_method_7_code
def yX4_write : MethodName := ⟨RX4, "write", "(III)V"⟩
abbrev cX4_move : ByteArray := prog_6_method_8_code
def yX4_move : MethodName := ⟨RX4, "move", "(IIIII)V"⟩
def RX5 : String := "CenturyPosts"
def TX5 : u_T := fun k => match k with
  | 0 => ("CenturyPosts", "sheets", "LCenturyPosts$Sheets;", true)
  | 1 => ("CenturyPosts", "country", "LCenturyPosts$Land;", true)
  | 2 => ("CenturyPosts", "orders", "LCenturyPosts$Orders;", true)
  | 3 => ("CenturyPosts", "seen", "LCenturyPosts$Readings;", true)
  | 4 => ("CenturyPosts", "course", "LCenturyPosts$Course;", true)
  | 5 => ("CenturyPosts", "otherwise", "LCenturyPosts$Orders;", true)
  | 6 => ("CenturyPosts", "trial", "LCenturyPosts$Course;", true)
  | 7 => ("CenturyPosts", "falls", "[I", true)
  | 8 => ("CenturyPosts", "courseFresh", "Z", false)
  | 9 => ("CenturyPosts", "fallsFresh", "Z", false)
  | 10 => ("CenturyPosts", "helpFresh", "Z", false)
  | 11 => ("CenturyPosts", "helpingWill", "I", false)
  | 12 => ("CenturyPosts", "helpedMissed", "I", false)
  | 13 => ("CenturyPosts", "latestFault", "I", false)
  | _ => ("CenturyPosts", "traced", "I", false)
def tyX5 : Nat → FieldType := fun k => match k with
  | 0 => .object "CenturyPosts$Sheets"
  | 1 => .object "CenturyPosts$Land"
  | 2 => .object "CenturyPosts$Orders"
  | 3 => .object "CenturyPosts$Readings"
  | 4 => .object "CenturyPosts$Course"
  | 5 => .object "CenturyPosts$Orders"
  | 6 => .object "CenturyPosts$Course"
  | 7 => .array .int
  | 8 => .boolean
  | 9 => .boolean
  | 10 => .boolean
  | 11 => .int
  | 12 => .int
  | 13 => .int
  | _ => .int
abbrev wsX50 : List Cond := u_ws RX5 TX5 15
theorem nmX5 : ∀ a, a < 15 → ∀ b, b < 15 → a ≠ b → (TX5 a).2.1 ≠ (TX5 b).2.1 := by decide +kernel
theorem tyX5_ok : ∀ k, k < 15 → parseFieldDescriptor (TX5 k).2.2.1 = some (tyX5 k) := by decide +kernel
abbrev cX5_init : ByteArray := prog_1_method_1_code
def yX5_init : MethodName := ⟨RX5, "<init>", "()V"⟩
abbrev cX5_land : ByteArray := prog_1_method_2_code
def yX5_land : MethodName := ⟨RX5, "land", "(IIII)I"⟩
abbrev cX5_ofPerson : ByteArray := prog_1_method_3_code
def yX5_ofPerson : MethodName := ⟨RX5, "ofPerson", "(II)I"⟩
abbrev cX5_law : ByteArray := prog_1_method_4_code
def yX5_law : MethodName := ⟨RX5, "law", "(I)I"⟩
abbrev cX5_refuse : ByteArray := prog_1_method_5_code
def yX5_refuse : MethodName := ⟨RX5, "refuse", "(IZ)I"⟩
abbrev cX5_will : ByteArray := prog_1_method_6_code
def yX5_will : MethodName := ⟨RX5, "will", "(III)I"⟩
abbrev cX5_burn : ByteArray := prog_1_method_7_code
def yX5_burn : MethodName := ⟨RX5, "burn", "(I)I"⟩
abbrev cX5_giveUp : ByteArray := prog_1_method_8_code
def yX5_giveUp : MethodName := ⟨RX5, "giveUp", "(II)I"⟩
abbrev cX5_guard : ByteArray := prog_1_method_9_code
def yX5_guard : MethodName := ⟨RX5, "guard", "(II)I"⟩
abbrev cX5_how : ByteArray := prog_1_method_10_code
def yX5_how : MethodName := ⟨RX5, "how", "(II)I"⟩
abbrev cX5_age : ByteArray := prog_1_method_11_code
def yX5_age : MethodName := ⟨RX5, "age", "(II)I"⟩
abbrev cX5_empty : ByteArray := prog_1_method_12_code
def yX5_empty : MethodName := ⟨RX5, "empty", "(I)I"⟩
abbrev cX5_empties : ByteArray := prog_1_method_13_code
def yX5_empties : MethodName := ⟨RX5, "empties", "(I)I"⟩
abbrev cX5_awake : ByteArray := prog_1_method_14_code
def yX5_awake : MethodName := ⟨RX5, "awake", "(I)I"⟩
abbrev cX5_slept : ByteArray := prog_1_method_15_code
def yX5_slept : MethodName := ⟨RX5, "slept", "(II)I"⟩
abbrev cX5_fewest : ByteArray := prog_1_method_16_code
def yX5_fewest : MethodName := ⟨RX5, "fewest", "(I)I"⟩
abbrev cX5_help : ByteArray := prog_1_method_17_code
def yX5_help : MethodName := ⟨RX5, "help", "(I)I"⟩
abbrev cX5_wills : ByteArray := prog_1_method_18_code
def yX5_wills : MethodName := ⟨RX5, "wills", "(IIII)I"⟩
abbrev cX5_reading : ByteArray := prog_1_method_19_code
def yX5_reading : MethodName := ⟨RX5, "reading", "(III)I"⟩
abbrev cX5_back : ByteArray := prog_1_method_20_code
def yX5_back : MethodName := ⟨RX5, "back", "(I)I"⟩
abbrev cX5_laws : ByteArray := prog_1_method_21_code
def yX5_laws : MethodName := ⟨RX5, "laws", "()I"⟩
abbrev cX5_stubborn : ByteArray := prog_1_method_22_code
def yX5_stubborn : MethodName := ⟨RX5, "stubborn", "()I"⟩
abbrev cX5_named : ByteArray := prog_1_method_23_code
def yX5_named : MethodName := ⟨RX5, "named", "(II)I"⟩
abbrev cX5_opened : ByteArray := prog_1_method_24_code
def yX5_opened : MethodName := ⟨RX5, "opened", "()I"⟩
abbrev cX5_odds : ByteArray := prog_1_method_25_code
def yX5_odds : MethodName := ⟨RX5, "odds", "(II)J"⟩
abbrev cX5_sheet : ByteArray := prog_1_method_26_code
def yX5_sheet : MethodName := ⟨RX5, "sheet", "(III)I"⟩
abbrev cX5_lose : ByteArray := prog_1_method_27_code
def yX5_lose : MethodName := ⟨RX5, "lose", "(I)I"⟩
abbrev cX5_put : ByteArray := prog_1_method_28_code
def yX5_put : MethodName := ⟨RX5, "put", "(III)I"⟩
abbrev cX5_cell : ByteArray := prog_1_method_29_code
def yX5_cell : MethodName := ⟨RX5, "cell", "(III)J"⟩
abbrev cX5_copy : ByteArray := prog_1_method_30_code
def yX5_copy : MethodName := ⟨RX5, "copy", "(IIIII)I"⟩
abbrev cX5_tell : ByteArray := prog_1_method_31_code
def yX5_tell : MethodName := ⟨RX5, "tell", "(I)I"⟩
abbrev cX5_rouse : ByteArray := prog_1_method_32_code
def yX5_rouse : MethodName := ⟨RX5, "rouse", "(I)I"⟩
abbrev cX5_as : ByteArray := prog_1_method_33_code
def yX5_as : MethodName := ⟨RX5, "as", "(II)I"⟩
abbrev cX5_trace : ByteArray := prog_1_method_34_code
def yX5_trace : MethodName := ⟨RX5, "trace", "()I"⟩
abbrev cX5_fault : ByteArray := prog_1_method_35_code
def yX5_fault : MethodName := ⟨RX5, "fault", "()I"⟩
abbrev cX5_many : ByteArray := prog_1_method_36_code
def yX5_many : MethodName := ⟨RX5, "many", "(I)I"⟩
abbrev cX5_isLand : ByteArray := prog_1_method_37_code
def yX5_isLand : MethodName := ⟨RX5, "isLand", "()Z"⟩
abbrev cX5_isPost : ByteArray := prog_1_method_38_code
def yX5_isPost : MethodName := ⟨RX5, "isPost", "(I)Z"⟩
abbrev cX5_isPerson : ByteArray := prog_1_method_39_code
def yX5_isPerson : MethodName := ⟨RX5, "isPerson", "(I)Z"⟩
abbrev cX5_isDecade : ByteArray := prog_1_method_40_code
def yX5_isDecade : MethodName := ⟨RX5, "isDecade", "(I)Z"⟩
abbrev cX5_isSheet : ByteArray := prog_1_method_41_code
def yX5_isSheet : MethodName := ⟨RX5, "isSheet", "(I)Z"⟩
abbrev cX5_isLane : ByteArray := prog_1_method_42_code
def yX5_isLane : MethodName := ⟨RX5, "isLane", "(I)Z"⟩
abbrev cX5_faultOfRow : ByteArray := prog_1_method_43_code
def yX5_faultOfRow : MethodName := ⟨RX5, "faultOfRow", "(II)I"⟩
abbrev cX5_faulty : ByteArray := prog_1_method_44_code
def yX5_faulty : MethodName := ⟨RX5, "faulty", "(I)I"⟩
abbrev cX5_unsettle : ByteArray := prog_1_method_45_code
def yX5_unsettle : MethodName := ⟨RX5, "unsettle", "()V"⟩
abbrev cX5_asItGoes : ByteArray := prog_1_method_46_code
def yX5_asItGoes : MethodName := ⟨RX5, "asItGoes", "()LCenturyPosts$Course;"⟩
abbrev cX5_findFalls : ByteArray := prog_1_method_47_code
def yX5_findFalls : MethodName := ⟨RX5, "findFalls", "()V"⟩
abbrev cX5_findHelp : ByteArray := prog_1_method_48_code
def yX5_findHelp : MethodName := ⟨RX5, "findHelp", "()V"⟩
abbrev cX5_tryWill : ByteArray := prog_1_method_49_code
def yX5_tryWill : MethodName := ⟨RX5, "tryWill", "(III)V"⟩
abbrev cX5_takeToldWills : ByteArray := prog_1_method_50_code
def yX5_takeToldWills : MethodName := ⟨RX5, "takeToldWills", "(III)Z"⟩
abbrev cX5_allAreSo : ByteArray := prog_1_method_51_code
def yX5_allAreSo : MethodName := ⟨RX5, "allAreSo", "()Z"⟩
abbrev cX5_leave : ByteArray := prog_1_method_52_code
def yX5_leave : MethodName := ⟨RX5, "leave", "(I)V"⟩
abbrev cX5_tellDreamer : ByteArray := prog_1_method_53_code
def yX5_tellDreamer : MethodName := ⟨RX5, "tellDreamer", "(I)I"⟩
abbrev cX5_tellHeavy : ByteArray := prog_1_method_54_code
def yX5_tellHeavy : MethodName := ⟨RX5, "tellHeavy", "(I)I"⟩
abbrev cX5_tellEnchanted : ByteArray := prog_1_method_55_code
def yX5_tellEnchanted : MethodName := ⟨RX5, "tellEnchanted", "(I)I"⟩
def RX6 : String := "CenturyPostsModel"
def TX6 : u_T := fun k => match k with
  | 0 => ("CenturyPostsModel", "fault", "I", false)
  | 1 => ("CenturyPostsModel", "posts", "I", false)
  | 2 => ("CenturyPostsModel", "persons", "I", false)
  | 3 => ("CenturyPostsModel", "kindOf", "[I", true)
  | 4 => ("CenturyPostsModel", "homeOf", "[I", true)
  | 5 => ("CenturyPostsModel", "bornIn", "[I", true)
  | 6 => ("CenturyPostsModel", "livesFor", "[I", true)
  | 7 => ("CenturyPostsModel", "napOf", "[I", true)
  | 8 => ("CenturyPostsModel", "refusing", "I", false)
  | 9 => ("CenturyPostsModel", "lawNow", "I", false)
  | 10 => ("CenturyPostsModel", "givenFrom", "[I", true)
  | 11 => ("CenturyPostsModel", "readAt", "I", false)
  | 12 => ("CenturyPostsModel", "readPosts", "I", false)
  | 13 => ("CenturyPostsModel", "readPersons", "I", false)
  | 14 => ("CenturyPostsModel", "readKind", "[I", true)
  | 15 => ("CenturyPostsModel", "readHome", "[I", true)
  | 16 => ("CenturyPostsModel", "readBorn", "[I", true)
  | 17 => ("CenturyPostsModel", "readLives", "[I", true)
  | 18 => ("CenturyPostsModel", "readNap", "[I", true)
  | 19 => ("CenturyPostsModel", "willsNow", "I", false)
  | 20 => ("CenturyPostsModel", "willPost", "[I", true)
  | 21 => ("CenturyPostsModel", "willWho", "[I", true)
  | 22 => ("CenturyPostsModel", "willIn", "[I", true)
  | 23 => ("CenturyPostsModel", "isHow", "[I", true)
  | 24 => ("CenturyPostsModel", "ageOf", "[I", true)
  | 25 => ("CenturyPostsModel", "wakesIn", "[I", true)
  | 26 => ("CenturyPostsModel", "sleptFor", "[I", true)
  | 27 => ("CenturyPostsModel", "guardAt", "[I", true)
  | 28 => ("CenturyPostsModel", "emptyNow", "I", false)
  | 29 => ("CenturyPostsModel", "emptiesNow", "I", false)
  | 30 => ("CenturyPostsModel", "fresh", "I", false)
  | 31 => ("CenturyPostsModel", "keptPost", "[I", true)
  | 32 => ("CenturyPostsModel", "keptWho", "[I", true)
  | 33 => ("CenturyPostsModel", "keptIn", "[I", true)
  | 34 => ("CenturyPostsModel", "readings", "I", false)
  | 35 => ("CenturyPostsModel", "readingAt", "[I", true)
  | 36 => ("CenturyPostsModel", "readingIn", "[I", true)
  | 37 => ("CenturyPostsModel", "readingWho", "[I", true)
  | 38 => ("CenturyPostsModel", "sheetSize", "[I", true)
  | 39 => ("CenturyPostsModel", "sheetLane", "[I", true)
  | 40 => ("CenturyPostsModel", "sheet", "[I", true)
  | 41 => ("CenturyPostsModel", "hands", "[I", true)
  | _ => ("CenturyPostsModel", "traceNow", "I", false)
def tyX6 : Nat → FieldType := fun k => match k with
  | 0 => .int
  | 1 => .int
  | 2 => .int
  | 3 => .array .int
  | 4 => .array .int
  | 5 => .array .int
  | 6 => .array .int
  | 7 => .array .int
  | 8 => .int
  | 9 => .int
  | 10 => .array .int
  | 11 => .int
  | 12 => .int
  | 13 => .int
  | 14 => .array .int
  | 15 => .array .int
  | 16 => .array .int
  | 17 => .array .int
  | 18 => .array .int
  | 19 => .int
  | 20 => .array .int
  | 21 => .array .int
  | 22 => .array .int
  | 23 => .array .int
  | 24 => .array .int
  | 25 => .array .int
  | 26 => .array .int
  | 27 => .array .int
  | 28 => .int
  | 29 => .int
  | 30 => .int
  | 31 => .array .int
  | 32 => .array .int
  | 33 => .array .int
  | 34 => .int
  | 35 => .array .int
  | 36 => .array .int
  | 37 => .array .int
  | 38 => .array .int
  | 39 => .array .int
  | 40 => .array .int
  | 41 => .array .int
  | _ => .int
abbrev wsX60 : List Cond := u_ws RX6 TX6 43
theorem nmX6 : ∀ a, a < 43 → ∀ b, b < 43 → a ≠ b → (TX6 a).2.1 ≠ (TX6 b).2.1 := by decide +kernel
theorem tyX6_ok : ∀ k, k < 43 → parseFieldDescriptor (TX6 k).2.2.1 = some (tyX6 k) := by decide +kernel
abbrev cX6_init : ByteArray := prog_8_method_1_code
def yX6_init : MethodName := ⟨RX6, "<init>", "()V"⟩
abbrev cX6_in : ByteArray := prog_8_method_2_code
def yX6_in : MethodName := ⟨RX6, "in", "(JJJ)Z"⟩
abbrev cX6_lost : ByteArray := prog_8_method_3_code
def yX6_lost : MethodName := ⟨RX6, "lost", "()J"⟩
abbrev cX6_isIn : ByteArray := prog_8_method_4_code
def yX6_isIn : MethodName := ⟨RX6, "isIn", "(II)Z"⟩
abbrev cX6_bits : ByteArray := prog_8_method_5_code
def yX6_bits : MethodName := ⟨RX6, "bits", "(I)I"⟩
abbrev cX6_told : ByteArray := prog_8_method_6_code
def yX6_told : MethodName := ⟨RX6, "told", "(JJI)J"⟩
abbrev cX6_refused : ByteArray := prog_8_method_7_code
def yX6_refused : MethodName := ⟨RX6, "refused", "(I)I"⟩
abbrev cX6_failed : ByteArray := prog_8_method_8_code
def yX6_failed : MethodName := ⟨RX6, "failed", "(I)I"⟩
abbrev cX6_failedLong : ByteArray := prog_8_method_9_code
def yX6_failedLong : MethodName := ⟨RX6, "failedLong", "(I)J"⟩
abbrev cX6_noPerson : ByteArray := prog_8_method_10_code
def yX6_noPerson : MethodName := ⟨RX6, "noPerson", "(I)Z"⟩
abbrev cX6_noPost : ByteArray := prog_8_method_11_code
def yX6_noPost : MethodName := ⟨RX6, "noPost", "(I)Z"⟩
abbrev cX6_isDecade : ByteArray := prog_8_method_12_code
def yX6_isDecade : MethodName := ⟨RX6, "isDecade", "(I)Z"⟩
abbrev cX6_all : ByteArray := prog_8_method_13_code
def yX6_all : MethodName := ⟨RX6, "all", "()I"⟩
abbrev cX6_codeAt : ByteArray := prog_8_method_14_code
def yX6_codeAt : MethodName := ⟨RX6, "codeAt", "(II)I"⟩
abbrev cX6_figure : ByteArray := prog_8_method_15_code
def yX6_figure : MethodName := ⟨RX6, "figure", "(IIII)I"⟩
abbrev cX6_readsPerson : ByteArray := prog_8_method_16_code
def yX6_readsPerson : MethodName := ⟨RX6, "readsPerson", "(II)Z"⟩
abbrev cX6_readsLand : ByteArray := prog_8_method_17_code
def yX6_readsLand : MethodName := ⟨RX6, "readsLand", "(II)Z"⟩
abbrev cX6_cellsBarred : ByteArray := prog_8_method_18_code
def yX6_cellsBarred : MethodName := ⟨RX6, "cellsBarred", "(IIIJ)I"⟩
abbrev cX6_land : ByteArray := prog_8_method_19_code
def yX6_land : MethodName := ⟨RX6, "land", "(IIII)I"⟩
abbrev cX6_sleepOf : ByteArray := prog_8_method_20_code
def yX6_sleepOf : MethodName := ⟨RX6, "sleepOf", "(I)I"⟩
abbrev cX6_ofPerson : ByteArray := prog_8_method_21_code
def yX6_ofPerson : MethodName := ⟨RX6, "ofPerson", "(II)I"⟩
abbrev cX6_law : ByteArray := prog_8_method_22_code
def yX6_law : MethodName := ⟨RX6, "law", "(I)I"⟩
abbrev cX6_refuse : ByteArray := prog_8_method_23_code
def yX6_refuse : MethodName := ⟨RX6, "refuse", "(IZ)I"⟩
abbrev cX6_will : ByteArray := prog_8_method_24_code
def yX6_will : MethodName := ⟨RX6, "will", "(III)I"⟩
abbrev cX6_burn : ByteArray := prog_8_method_25_code
def yX6_burn : MethodName := ⟨RX6, "burn", "(I)I"⟩
abbrev cX6_giveUp : ByteArray := prog_8_method_26_code
def yX6_giveUp : MethodName := ⟨RX6, "giveUp", "(II)I"⟩
abbrev cX6_begin : ByteArray := prog_8_method_27_code
def yX6_begin : MethodName := ⟨RX6, "begin", "()V"⟩
abbrev cX6_mayLie : ByteArray := prog_8_method_28_code
def yX6_mayLie : MethodName := ⟨RX6, "mayLie", "(I)Z"⟩
abbrev cX6_isRather : ByteArray := prog_8_method_29_code
def yX6_isRather : MethodName := ⟨RX6, "isRather", "(III)Z"⟩
abbrev cX6_lierAt : ByteArray := prog_8_method_30_code
def yX6_lierAt : MethodName := ⟨RX6, "lierAt", "(II)I"⟩
abbrev cX6_wakeAll : ByteArray := prog_8_method_31_code
def yX6_wakeAll : MethodName := ⟨RX6, "wakeAll", "(I)V"⟩
abbrev cX6_goDecade : ByteArray := prog_8_method_32_code
def yX6_goDecade : MethodName := ⟨RX6, "goDecade", "(I)V"⟩
abbrev cX6_endDecade : ByteArray := prog_8_method_33_code
def yX6_endDecade : MethodName := ⟨RX6, "endDecade", "()V"⟩
abbrev cX6_goTo : ByteArray := prog_8_method_34_code
def yX6_goTo : MethodName := ⟨RX6, "goTo", "(I)V"⟩
abbrev cX6_refusedFor : ByteArray := prog_8_method_35_code
def yX6_refusedFor : MethodName := ⟨RX6, "refusedFor", "(I)I"⟩
abbrev cX6_guard : ByteArray := prog_8_method_36_code
def yX6_guard : MethodName := ⟨RX6, "guard", "(II)I"⟩
abbrev cX6_how : ByteArray := prog_8_method_37_code
def yX6_how : MethodName := ⟨RX6, "how", "(II)I"⟩
abbrev cX6_age : ByteArray := prog_8_method_38_code
def yX6_age : MethodName := ⟨RX6, "age", "(II)I"⟩
abbrev cX6_empty : ByteArray := prog_8_method_39_code
def yX6_empty : MethodName := ⟨RX6, "empty", "(I)I"⟩
abbrev cX6_empties : ByteArray := prog_8_method_40_code
def yX6_empties : MethodName := ⟨RX6, "empties", "(I)I"⟩
abbrev cX6_awake : ByteArray := prog_8_method_41_code
def yX6_awake : MethodName := ⟨RX6, "awake", "(I)I"⟩
abbrev cX6_slept : ByteArray := prog_8_method_42_code
def yX6_slept : MethodName := ⟨RX6, "slept", "(II)I"⟩
abbrev cX6_noneEmpty : ByteArray := prog_8_method_43_code
def yX6_noneEmpty : MethodName := ⟨RX6, "noneEmpty", "(I)Z"⟩
abbrev cX6_fewest : ByteArray := prog_8_method_44_code
def yX6_fewest : MethodName := ⟨RX6, "fewest", "(I)I"⟩
abbrev cX6_allEmpties : ByteArray := prog_8_method_45_code
def yX6_allEmpties : MethodName := ⟨RX6, "allEmpties", "()I"⟩
abbrev cX6_help : ByteArray := prog_8_method_46_code
def yX6_help : MethodName := ⟨RX6, "help", "(I)I"⟩
abbrev cX6_emptiesBy : ByteArray := prog_8_method_47_code
def yX6_emptiesBy : MethodName := ⟨RX6, "emptiesBy", "(II)I"⟩
abbrev cX6_wills : ByteArray := prog_8_method_48_code
def yX6_wills : MethodName := ⟨RX6, "wills", "(IIII)I"⟩
abbrev cX6_reading : ByteArray := prog_8_method_49_code
def yX6_reading : MethodName := ⟨RX6, "reading", "(III)I"⟩
abbrev cX6_back : ByteArray := prog_8_method_50_code
def yX6_back : MethodName := ⟨RX6, "back", "(I)I"⟩
abbrev cX6_areSo : ByteArray := prog_8_method_51_code
def yX6_areSo : MethodName := ⟨RX6, "areSo", "()Z"⟩
abbrev cX6_laws : ByteArray := prog_8_method_52_code
def yX6_laws : MethodName := ⟨RX6, "laws", "()I"⟩
abbrev cX6_stubborn : ByteArray := prog_8_method_53_code
def yX6_stubborn : MethodName := ⟨RX6, "stubborn", "()I"⟩
abbrev cX6_named : ByteArray := prog_8_method_54_code
def yX6_named : MethodName := ⟨RX6, "named", "(II)I"⟩
abbrev cX6_opened : ByteArray := prog_8_method_55_code
def yX6_opened : MethodName := ⟨RX6, "opened", "()I"⟩
abbrev cX6_odds : ByteArray := prog_8_method_56_code
def yX6_odds : MethodName := ⟨RX6, "odds", "(II)J"⟩
abbrev cX6_noSheet : ByteArray := prog_8_method_57_code
def yX6_noSheet : MethodName := ⟨RX6, "noSheet", "(I)Z"⟩
abbrev cX6_sheet : ByteArray := prog_8_method_58_code
def yX6_sheet : MethodName := ⟨RX6, "sheet", "(III)I"⟩
abbrev cX6_lose : ByteArray := prog_8_method_59_code
def yX6_lose : MethodName := ⟨RX6, "lose", "(I)I"⟩
abbrev cX6_noCell : ByteArray := prog_8_method_60_code
def yX6_noCell : MethodName := ⟨RX6, "noCell", "(II)I"⟩
abbrev cX6_put : ByteArray := prog_8_method_61_code
def yX6_put : MethodName := ⟨RX6, "put", "(III)I"⟩
abbrev cX6_cell : ByteArray := prog_8_method_62_code
def yX6_cell : MethodName := ⟨RX6, "cell", "(III)J"⟩
abbrev cX6_isBeyond : ByteArray := prog_8_method_63_code
def yX6_isBeyond : MethodName := ⟨RX6, "isBeyond", "(IJI)Z"⟩
abbrev cX6_copy : ByteArray := prog_8_method_64_code
def yX6_copy : MethodName := ⟨RX6, "copy", "(IIIII)I"⟩
abbrev cX6_traced : ByteArray := prog_8_method_65_code
def yX6_traced : MethodName := ⟨RX6, "traced", "(I)V"⟩
abbrev cX6_tell : ByteArray := prog_8_method_66_code
def yX6_tell : MethodName := ⟨RX6, "tell", "(I)I"⟩
abbrev cX6_rouse : ByteArray := prog_8_method_67_code
def yX6_rouse : MethodName := ⟨RX6, "rouse", "(I)I"⟩
abbrev cX6_as : ByteArray := prog_8_method_68_code
def yX6_as : MethodName := ⟨RX6, "as", "(II)I"⟩
abbrev cX6_trace : ByteArray := prog_8_method_69_code
def yX6_trace : MethodName := ⟨RX6, "trace", "()I"⟩
abbrev cX6_fault : ByteArray := prog_8_method_70_code
def yX6_fault : MethodName := ⟨RX6, "fault", "()I"⟩
abbrev cX6_many : ByteArray := prog_8_method_71_code
def yX6_many : MethodName := ⟨RX6, "many", "(I)I"⟩
def RJ6 : String := "java/lang/Integer"
def TJ6 : u_T := fun k => match k with
  | _ => ("", "", "", false)
def tyJ6 : Nat → FieldType := fun k => match k with
  | _ => .int
abbrev wsJ60 : List Cond := u_ws RJ6 TJ6 0
theorem nmJ6 : ∀ a, a < 0 → ∀ b, b < 0 → a ≠ b → (TJ6 a).2.1 ≠ (TJ6 b).2.1 := by decide +kernel
theorem tyJ6_ok : ∀ k, k < 0 → parseFieldDescriptor (TJ6 k).2.2.1 = some (tyJ6 k) := by decide +kernel
abbrev cJ6_bitCount_0f7a4 : ByteArray := prog_9_method_49_code
def yJ6_bitCount_0f7a4 : MethodName := ⟨RJ6, "bitCount", "(I)I"⟩
def RJ9 : String := "java/lang/Math"
def TJ9 : u_T := fun k => match k with
  | _ => ("", "", "", false)
def tyJ9 : Nat → FieldType := fun k => match k with
  | _ => .int
abbrev wsJ90 : List Cond := u_ws RJ9 TJ9 0
theorem nmJ9 : ∀ a, a < 0 → ∀ b, b < 0 → a ≠ b → (TJ9 a).2.1 ≠ (TJ9 b).2.1 := by decide +kernel
theorem tyJ9_ok : ∀ k, k < 0 → parseFieldDescriptor (TJ9 k).2.2.1 = some (tyJ9 k) := by decide +kernel
abbrev cJ9_abs_0f7a4 : ByteArray := prog_10_method_59_code
def yJ9_abs_0f7a4 : MethodName := ⟨RJ9, "abs", "(I)I"⟩
abbrev cJ9_max_7cf53 : ByteArray := prog_10_method_65_code
def yJ9_max_7cf53 : MethodName := ⟨RJ9, "max", "(II)I"⟩
def RJ10 : String := "java/lang/System"
def TJ10 : u_T := fun k => match k with
  | _ => ("", "", "", false)
def tyJ10 : Nat → FieldType := fun k => match k with
  | _ => .int
abbrev wsJ100 : List Cond := u_ws RJ10 TJ10 0
theorem nmJ10 : ∀ a, a < 0 → ∀ b, b < 0 → a ≠ b → (TJ10 a).2.1 ≠ (TJ10 b).2.1 := by decide +kernel
theorem tyJ10_ok : ∀ k, k < 0 → parseFieldDescriptor (TJ10 k).2.2.1 = some (tyJ10 k) := by decide +kernel
def RJ7 : String := "java/util/Arrays"
def TJ7 : u_T := fun k => match k with
  | _ => ("", "", "", false)
def tyJ7 : Nat → FieldType := fun k => match k with
  | _ => .int
abbrev wsJ70 : List Cond := u_ws RJ7 TJ7 0
theorem nmJ7 : ∀ a, a < 0 → ∀ b, b < 0 → a ≠ b → (TJ7 a).2.1 ≠ (TJ7 b).2.1 := by decide +kernel
theorem tyJ7_ok : ∀ k, k < 0 → parseFieldDescriptor (TJ7 k).2.2.1 = some (tyJ7 k) := by decide +kernel
abbrev cJ7_fill_53178 : ByteArray := prog_12_method_103_code
def yJ7_fill_53178 : MethodName := ⟨RJ7, "fill", "([II)V"⟩
def RL : String := "CenturyPostsLaw"
abbrev cL_law : ByteArray := code
def yL_law : MethodName := ⟨RL, "law", "([I)Z"⟩
abbrev vwCl : List vw_C := [(RX0, TX0, 14), (RX1, TX1, 7), (RX2, TX2, 7), (RX3, TX3, 4), (RX4, TX4, 3), (RX5, TX5, 15), (RX6, TX6, 43)]
end
section
theorem dX0_init_0 : decode cX0_init 0 = .ok (.aload_n 0, 1) := by decide +kernel
theorem dX0_init_1 : decode cX0_init 1 = .ok (.invokespecial 3, 3) := by decide +kernel
theorem dX0_init_4 : decode cX0_init 4 = .ok (.aload_n 0, 1) := by decide +kernel
theorem dX0_init_5 : decode cX0_init 5 = .ok (.bipush 40, 2) := by decide +kernel
theorem dX0_init_7 : decode cX0_init 7 = .ok (.newarray .int, 2) := by decide +kernel
theorem dX0_init_9 : decode cX0_init 9 = .ok (.putfield 9, 3) := by decide +kernel
theorem dX0_init_12 : decode cX0_init 12 = .ok (.aload_n 0, 1) := by decide +kernel
theorem dX0_init_13 : decode cX0_init 13 = .ok (.iconst 0, 1) := by decide +kernel
theorem dX0_init_14 : decode cX0_init 14 = .ok (.putfield 15, 3) := by decide +kernel
theorem dX0_init_17 : decode cX0_init 17 = .ok (.aload_n 0, 1) := by decide +kernel
theorem dX0_init_18 : decode cX0_init 18 = .ok (.iconst 0, 1) := by decide +kernel
theorem dX0_init_19 : decode cX0_init 19 = .ok (.putfield 19, 3) := by decide +kernel
theorem dX0_init_22 : decode cX0_init 22 = .ok (.aload_n 0, 1) := by decide +kernel
theorem dX0_init_23 : decode cX0_init 23 = .ok (.sipush 160, 3) := by decide +kernel
theorem dX0_init_26 : decode cX0_init 26 = .ok (.newarray .int, 2) := by decide +kernel
theorem dX0_init_28 : decode cX0_init 28 = .ok (.putfield 22, 3) := by decide +kernel
theorem dX0_init_31 : decode cX0_init 31 = .ok (.aload_n 0, 1) := by decide +kernel
theorem dX0_init_32 : decode cX0_init 32 = .ok (.sipush 160, 3) := by decide +kernel
theorem dX0_init_35 : decode cX0_init 35 = .ok (.newarray .int, 2) := by decide +kernel
theorem dX0_init_37 : decode cX0_init 37 = .ok (.putfield 25, 3) := by decide +kernel
theorem dX0_init_40 : decode cX0_init 40 = .ok (.aload_n 0, 1) := by decide +kernel
theorem dX0_init_41 : decode cX0_init 41 = .ok (.sipush 240, 3) := by decide +kernel
theorem dX0_init_44 : decode cX0_init 44 = .ok (.newarray .int, 2) := by decide +kernel
theorem dX0_init_46 : decode cX0_init 46 = .ok (.putfield 28, 3) := by decide +kernel
theorem dX0_init_49 : decode cX0_init 49 = .ok (.aload_n 0, 1) := by decide +kernel
theorem dX0_init_50 : decode cX0_init 50 = .ok (.sipush 240, 3) := by decide +kernel
theorem dX0_init_53 : decode cX0_init 53 = .ok (.newarray .int, 2) := by decide +kernel
theorem dX0_init_55 : decode cX0_init 55 = .ok (.putfield 31, 3) := by decide +kernel
theorem dX0_init_58 : decode cX0_init 58 = .ok (.aload_n 0, 1) := by decide +kernel
theorem dX0_init_59 : decode cX0_init 59 = .ok (.iconst 4, 1) := by decide +kernel
theorem dX0_init_60 : decode cX0_init 60 = .ok (.newarray .int, 2) := by decide +kernel
theorem dX0_init_62 : decode cX0_init 62 = .ok (.putfield 34, 3) := by decide +kernel
theorem dX0_init_65 : decode cX0_init 65 = .ok (.aload_n 0, 1) := by decide +kernel
theorem dX0_init_66 : decode cX0_init 66 = .ok (.iconst 4, 1) := by decide +kernel
theorem dX0_init_67 : decode cX0_init 67 = .ok (.newarray .int, 2) := by decide +kernel
theorem dX0_init_69 : decode cX0_init 69 = .ok (.putfield 37, 3) := by decide +kernel
theorem dX0_init_72 : decode cX0_init 72 = .ok (.aload_n 0, 1) := by decide +kernel
theorem dX0_init_73 : decode cX0_init 73 = .ok (.bipush 6, 2) := by decide +kernel
theorem dX0_init_75 : decode cX0_init 75 = .ok (.newarray .int, 2) := by decide +kernel
theorem dX0_init_77 : decode cX0_init 77 = .ok (.putfield 40, 3) := by decide +kernel
theorem dX0_init_80 : decode cX0_init 80 = .ok (.aload_n 0, 1) := by decide +kernel
theorem dX0_init_81 : decode cX0_init 81 = .ok (.aload_n 1, 1) := by decide +kernel
theorem dX0_init_82 : decode cX0_init 82 = .ok (.putfield 43, 3) := by decide +kernel
theorem dX0_init_85 : decode cX0_init 85 = .ok (.aload_n 0, 1) := by decide +kernel
theorem dX0_init_86 : decode cX0_init 86 = .ok (.iconst 0, 1) := by decide +kernel
theorem dX0_init_87 : decode cX0_init 87 = .ok (.putfield 47, 3) := by decide +kernel
theorem dX0_init_90 : decode cX0_init 90 = .ok (.aload_n 0, 1) := by decide +kernel
theorem dX0_init_91 : decode cX0_init 91 = .ok (.iconst 0, 1) := by decide +kernel
theorem dX0_init_92 : decode cX0_init 92 = .ok (.putfield 50, 3) := by decide +kernel
theorem dX0_init_95 : decode cX0_init 95 = .ok (.aload_n 0, 1) := by decide +kernel
theorem dX0_init_96 : decode cX0_init 96 = .ok (.iconst 0, 1) := by decide +kernel
theorem dX0_init_97 : decode cX0_init 97 = .ok (.putfield 53, 3) := by decide +kernel
theorem dX0_init_100 : decode cX0_init 100 = .ok (.return_, 1) := by decide +kernel
theorem dX0_guardAt_0 : decode cX0_guardAt 0 = .ok (.aload_n 0, 1) := by decide +kernel
theorem dX0_guardAt_1 : decode cX0_guardAt 1 = .ok (.getfield 22, 3) := by decide +kernel
theorem dX0_guardAt_4 : decode cX0_guardAt 4 = .ok (.iload_n 2, 1) := by decide +kernel
theorem dX0_guardAt_5 : decode cX0_guardAt 5 = .ok (.iconst 4, 1) := by decide +kernel
theorem dX0_guardAt_6 : decode cX0_guardAt 6 = .ok (.imul, 1) := by decide +kernel
theorem dX0_guardAt_7 : decode cX0_guardAt 7 = .ok (.iload_n 1, 1) := by decide +kernel
theorem dX0_guardAt_8 : decode cX0_guardAt 8 = .ok (.iadd, 1) := by decide +kernel
theorem dX0_guardAt_9 : decode cX0_guardAt 9 = .ok (.iaload, 1) := by decide +kernel
theorem dX0_guardAt_10 : decode cX0_guardAt 10 = .ok (.ireturn, 1) := by decide +kernel
theorem dX0_stateAt_0 : decode cX0_stateAt 0 = .ok (.aload_n 0, 1) := by decide +kernel
theorem dX0_stateAt_1 : decode cX0_stateAt 1 = .ok (.getfield 28, 3) := by decide +kernel
theorem dX0_stateAt_4 : decode cX0_stateAt 4 = .ok (.iload_n 2, 1) := by decide +kernel
theorem dX0_stateAt_5 : decode cX0_stateAt 5 = .ok (.bipush 6, 2) := by decide +kernel
theorem dX0_stateAt_7 : decode cX0_stateAt 7 = .ok (.imul, 1) := by decide +kernel
theorem dX0_stateAt_8 : decode cX0_stateAt 8 = .ok (.iload_n 1, 1) := by decide +kernel
theorem dX0_stateAt_9 : decode cX0_stateAt 9 = .ok (.iadd, 1) := by decide +kernel
theorem dX0_stateAt_10 : decode cX0_stateAt 10 = .ok (.iaload, 1) := by decide +kernel
theorem dX0_stateAt_11 : decode cX0_stateAt 11 = .ok (.ireturn, 1) := by decide +kernel
theorem dX0_agedAt_0 : decode cX0_agedAt 0 = .ok (.aload_n 0, 1) := by decide +kernel
theorem dX0_agedAt_1 : decode cX0_agedAt 1 = .ok (.getfield 31, 3) := by decide +kernel
theorem dX0_agedAt_4 : decode cX0_agedAt 4 = .ok (.iload_n 2, 1) := by decide +kernel
theorem dX0_agedAt_5 : decode cX0_agedAt 5 = .ok (.bipush 6, 2) := by decide +kernel
theorem dX0_agedAt_7 : decode cX0_agedAt 7 = .ok (.imul, 1) := by decide +kernel
theorem dX0_agedAt_8 : decode cX0_agedAt 8 = .ok (.iload_n 1, 1) := by decide +kernel
theorem dX0_agedAt_9 : decode cX0_agedAt 9 = .ok (.iadd, 1) := by decide +kernel
theorem dX0_agedAt_10 : decode cX0_agedAt 10 = .ok (.iaload, 1) := by decide +kernel
theorem dX0_agedAt_11 : decode cX0_agedAt 11 = .ok (.ireturn, 1) := by decide +kernel
theorem dX0_missedBy_0 : decode cX0_missedBy 0 = .ok (.iconst 0, 1) := by decide +kernel
theorem dX0_missedBy_1 : decode cX0_missedBy 1 = .ok (.istore_n 2, 1) := by decide +kernel
theorem dX0_missedBy_2 : decode cX0_missedBy 2 = .ok (.iconst 0, 1) := by decide +kernel
theorem dX0_missedBy_3 : decode cX0_missedBy 3 = .ok (.istore_n 3, 1) := by decide +kernel
theorem dX0_missedBy_4 : decode cX0_missedBy 4 = .ok (.iload_n 3, 1) := by decide +kernel
theorem dX0_missedBy_5 : decode cX0_missedBy 5 = .ok (.iload_n 1, 1) := by decide +kernel
theorem dX0_missedBy_6 : decode cX0_missedBy 6 = .ok (.if_icmp .gt 21, 3) := by decide +kernel
theorem dX0_missedBy_9 : decode cX0_missedBy 9 = .ok (.iload_n 2, 1) := by decide +kernel
theorem dX0_missedBy_10 : decode cX0_missedBy 10 = .ok (.aload_n 0, 1) := by decide +kernel
theorem dX0_missedBy_11 : decode cX0_missedBy 11 = .ok (.getfield 9, 3) := by decide +kernel
theorem dX0_missedBy_14 : decode cX0_missedBy 14 = .ok (.iload_n 3, 1) := by decide +kernel
theorem dX0_missedBy_15 : decode cX0_missedBy 15 = .ok (.iaload, 1) := by decide +kernel
theorem dX0_missedBy_16 : decode cX0_missedBy 16 = .ok (.invokestatic 56, 3) := by decide +kernel
theorem dX0_missedBy_19 : decode cX0_missedBy 19 = .ok (.iadd, 1) := by decide +kernel
theorem dX0_missedBy_20 : decode cX0_missedBy 20 = .ok (.istore_n 2, 1) := by decide +kernel
theorem dX0_missedBy_21 : decode cX0_missedBy 21 = .ok (.iinc 3 1, 3) := by decide +kernel
theorem dX0_missedBy_24 : decode cX0_missedBy 24 = .ok (.goto (-20), 3) := by decide +kernel
theorem dX0_missedBy_27 : decode cX0_missedBy 27 = .ok (.iload_n 2, 1) := by decide +kernel
theorem dX0_missedBy_28 : decode cX0_missedBy 28 = .ok (.ireturn, 1) := by decide +kernel
theorem dX0_wouldTurn_0 : decode cX0_wouldTurn 0 = .ok (.iload_n 3, 1) := by decide +kernel
theorem dX0_wouldTurn_1 : decode cX0_wouldTurn 1 = .ok (.iconst 4, 1) := by decide +kernel
theorem dX0_wouldTurn_2 : decode cX0_wouldTurn 2 = .ok (.imul, 1) := by decide +kernel
theorem dX0_wouldTurn_3 : decode cX0_wouldTurn 3 = .ok (.iload_n 1, 1) := by decide +kernel
theorem dX0_wouldTurn_4 : decode cX0_wouldTurn 4 = .ok (.iadd, 1) := by decide +kernel
theorem dX0_wouldTurn_5 : decode cX0_wouldTurn 5 = .ok (.istore 4, 2) := by decide +kernel
theorem dX0_wouldTurn_7 : decode cX0_wouldTurn 7 = .ok (.aload_n 0, 1) := by decide +kernel
theorem dX0_wouldTurn_8 : decode cX0_wouldTurn 8 = .ok (.getfield 25, 3) := by decide +kernel
theorem dX0_wouldTurn_11 : decode cX0_wouldTurn 11 = .ok (.iload 4, 2) := by decide +kernel
theorem dX0_wouldTurn_13 : decode cX0_wouldTurn 13 = .ok (.iaload, 1) := by decide +kernel
theorem dX0_wouldTurn_14 : decode cX0_wouldTurn 14 = .ok (.iload_n 2, 1) := by decide +kernel
theorem dX0_wouldTurn_15 : decode cX0_wouldTurn 15 = .ok (.ishr, 1) := by decide +kernel
theorem dX0_wouldTurn_16 : decode cX0_wouldTurn 16 = .ok (.iconst 1, 1) := by decide +kernel
theorem dX0_wouldTurn_17 : decode cX0_wouldTurn 17 = .ok (.iand, 1) := by decide +kernel
theorem dX0_wouldTurn_18 : decode cX0_wouldTurn 18 = .ok (.ifCond .eq 18, 3) := by decide +kernel
theorem dX0_wouldTurn_21 : decode cX0_wouldTurn 21 = .ok (.aload_n 0, 1) := by decide +kernel
theorem dX0_wouldTurn_22 : decode cX0_wouldTurn 22 = .ok (.getfield 22, 3) := by decide +kernel
theorem dX0_wouldTurn_25 : decode cX0_wouldTurn 25 = .ok (.iload 4, 2) := by decide +kernel
theorem dX0_wouldTurn_27 : decode cX0_wouldTurn 27 = .ok (.iaload, 1) := by decide +kernel
theorem dX0_wouldTurn_28 : decode cX0_wouldTurn 28 = .ok (.iload_n 2, 1) := by decide +kernel
theorem dX0_wouldTurn_29 : decode cX0_wouldTurn 29 = .ok (.if_icmp .eq 7, 3) := by decide +kernel
theorem dX0_wouldTurn_32 : decode cX0_wouldTurn 32 = .ok (.iconst 1, 1) := by decide +kernel
theorem dX0_wouldTurn_33 : decode cX0_wouldTurn 33 = .ok (.goto 4, 3) := by decide +kernel
theorem dX0_wouldTurn_36 : decode cX0_wouldTurn 36 = .ok (.iconst 0, 1) := by decide +kernel
theorem dX0_wouldTurn_37 : decode cX0_wouldTurn 37 = .ok (.ireturn, 1) := by decide +kernel
theorem dX0_run_0 : decode cX0_run 0 = .ok (.aload_n 0, 1) := by decide +kernel
theorem dX0_run_1 : decode cX0_run 1 = .ok (.iconst 0, 1) := by decide +kernel
theorem dX0_run_2 : decode cX0_run 2 = .ok (.putfield 47, 3) := by decide +kernel
theorem dX0_run_5 : decode cX0_run 5 = .ok (.aload_n 0, 1) := by decide +kernel
theorem dX0_run_6 : decode cX0_run 6 = .ok (.iconst 0, 1) := by decide +kernel
theorem dX0_run_7 : decode cX0_run 7 = .ok (.putfield 50, 3) := by decide +kernel
theorem dX0_run_10 : decode cX0_run 10 = .ok (.aload_n 0, 1) := by decide +kernel
theorem dX0_run_11 : decode cX0_run 11 = .ok (.iconst 0, 1) := by decide +kernel
theorem dX0_run_12 : decode cX0_run 12 = .ok (.putfield 15, 3) := by decide +kernel
theorem dX0_run_15 : decode cX0_run 15 = .ok (.aload_n 0, 1) := by decide +kernel
theorem dX0_run_16 : decode cX0_run 16 = .ok (.getfield 34, 3) := by decide +kernel
theorem dX0_run_19 : decode cX0_run 19 = .ok (.bipush (-9), 2) := by decide +kernel
theorem dX0_run_21 : decode cX0_run 21 = .ok (.invokestatic 62, 3) := by decide +kernel
theorem dX0_run_24 : decode cX0_run 24 = .ok (.aload_n 0, 1) := by decide +kernel
theorem dX0_run_25 : decode cX0_run 25 = .ok (.getfield 40, 3) := by decide +kernel
theorem dX0_run_28 : decode cX0_run 28 = .ok (.iconst 0, 1) := by decide +kernel
theorem dX0_run_29 : decode cX0_run 29 = .ok (.invokestatic 62, 3) := by decide +kernel
theorem dX0_run_32 : decode cX0_run 32 = .ok (.aload_n 0, 1) := by decide +kernel
theorem dX0_run_33 : decode cX0_run 33 = .ok (.iconst 0, 1) := by decide +kernel
theorem dX0_run_34 : decode cX0_run 34 = .ok (.putfield 19, 3) := by decide +kernel
theorem dX0_run_37 : decode cX0_run 37 = .ok (.aload_n 0, 1) := by decide +kernel
theorem dX0_run_38 : decode cX0_run 38 = .ok (.getfield 19, 3) := by decide +kernel
theorem dX0_run_41 : decode cX0_run 41 = .ok (.iload_n 2, 1) := by decide +kernel
theorem dX0_run_42 : decode cX0_run 42 = .ok (.if_icmp .gt 62, 3) := by decide +kernel
theorem dX0_run_45 : decode cX0_run 45 = .ok (.aload_n 0, 1) := by decide +kernel
theorem dX0_run_46 : decode cX0_run 46 = .ok (.getfield 19, 3) := by decide +kernel
theorem dX0_run_49 : decode cX0_run 49 = .ok (.bipush 40, 2) := by decide +kernel
theorem dX0_run_51 : decode cX0_run 51 = .ok (.if_icmp .ge 53, 3) := by decide +kernel
theorem dX0_run_54 : decode cX0_run 54 = .ok (.aload_n 0, 1) := by decide +kernel
theorem dX0_run_55 : decode cX0_run 55 = .ok (.getfield 15, 3) := by decide +kernel
theorem dX0_run_58 : decode cX0_run 58 = .ok (.iload_n 3, 1) := by decide +kernel
theorem dX0_run_59 : decode cX0_run 59 = .ok (.if_icmp .ge 45, 3) := by decide +kernel
theorem dX0_run_62 : decode cX0_run 62 = .ok (.aload_n 0, 1) := by decide +kernel
theorem dX0_run_63 : decode cX0_run 63 = .ok (.aload_n 0, 1) := by decide +kernel
theorem dX0_run_64 : decode cX0_run 64 = .ok (.getfield 19, 3) := by decide +kernel
theorem dX0_run_67 : decode cX0_run 67 = .ok (.aload_n 1, 1) := by decide +kernel
theorem dX0_run_68 : decode cX0_run 68 = .ok (.getfield 68, 3) := by decide +kernel
theorem dX0_run_71 : decode cX0_run 71 = .ok (.invokevirtual 73, 3) := by decide +kernel
theorem dX0_run_74 : decode cX0_run 74 = .ok (.aload_n 0, 1) := by decide +kernel
theorem dX0_run_75 : decode cX0_run 75 = .ok (.aload_n 0, 1) := by decide +kernel
theorem dX0_run_76 : decode cX0_run 76 = .ok (.getfield 19, 3) := by decide +kernel
theorem dX0_run_79 : decode cX0_run 79 = .ok (.aload_n 1, 1) := by decide +kernel
theorem dX0_run_80 : decode cX0_run 80 = .ok (.invokevirtual 77, 3) := by decide +kernel
theorem dX0_run_83 : decode cX0_run 83 = .ok (.aload_n 0, 1) := by decide +kernel
theorem dX0_run_84 : decode cX0_run 84 = .ok (.aload_n 0, 1) := by decide +kernel
theorem dX0_run_85 : decode cX0_run 85 = .ok (.getfield 19, 3) := by decide +kernel
theorem dX0_run_88 : decode cX0_run 88 = .ok (.invokevirtual 81, 3) := by decide +kernel
theorem dX0_run_91 : decode cX0_run 91 = .ok (.aload_n 0, 1) := by decide +kernel
theorem dX0_run_92 : decode cX0_run 92 = .ok (.dup, 1) := by decide +kernel
theorem dX0_run_93 : decode cX0_run 93 = .ok (.getfield 19, 3) := by decide +kernel
theorem dX0_run_96 : decode cX0_run 96 = .ok (.iconst 1, 1) := by decide +kernel
theorem dX0_run_97 : decode cX0_run 97 = .ok (.iadd, 1) := by decide +kernel
theorem dX0_run_98 : decode cX0_run 98 = .ok (.putfield 19, 3) := by decide +kernel
theorem dX0_run_101 : decode cX0_run 101 = .ok (.goto (-64), 3) := by decide +kernel
theorem dX0_run_104 : decode cX0_run 104 = .ok (.return_, 1) := by decide +kernel
theorem dX0_wakeAndBear_0 : decode cX0_wakeAndBear 0 = .ok (.iconst 0, 1) := by decide +kernel
theorem dX0_wakeAndBear_1 : decode cX0_wakeAndBear 1 = .ok (.istore_n 3, 1) := by decide +kernel
theorem dX0_wakeAndBear_2 : decode cX0_wakeAndBear 2 = .ok (.iconst 0, 1) := by decide +kernel
theorem dX0_wakeAndBear_3 : decode cX0_wakeAndBear 3 = .ok (.istore 4, 2) := by decide +kernel
theorem dX0_wakeAndBear_5 : decode cX0_wakeAndBear 5 = .ok (.iload 4, 2) := by decide +kernel
theorem dX0_wakeAndBear_7 : decode cX0_wakeAndBear 7 = .ok (.aload_n 0, 1) := by decide +kernel
theorem dX0_wakeAndBear_8 : decode cX0_wakeAndBear 8 = .ok (.getfield 43, 3) := by decide +kernel
theorem dX0_wakeAndBear_11 : decode cX0_wakeAndBear 11 = .ok (.getfield 85, 3) := by decide +kernel
theorem dX0_wakeAndBear_14 : decode cX0_wakeAndBear 14 = .ok (.if_icmp .ge 53, 3) := by decide +kernel
theorem dX0_wakeAndBear_17 : decode cX0_wakeAndBear 17 = .ok (.aload_n 0, 1) := by decide +kernel
theorem dX0_wakeAndBear_18 : decode cX0_wakeAndBear 18 = .ok (.getfield 34, 3) := by decide +kernel
theorem dX0_wakeAndBear_21 : decode cX0_wakeAndBear 21 = .ok (.iload 4, 2) := by decide +kernel
theorem dX0_wakeAndBear_23 : decode cX0_wakeAndBear 23 = .ok (.iaload, 1) := by decide +kernel
theorem dX0_wakeAndBear_24 : decode cX0_wakeAndBear 24 = .ok (.bipush (-9), 2) := by decide +kernel
theorem dX0_wakeAndBear_26 : decode cX0_wakeAndBear 26 = .ok (.if_icmp .eq 35, 3) := by decide +kernel
theorem dX0_wakeAndBear_29 : decode cX0_wakeAndBear 29 = .ok (.aload_n 0, 1) := by decide +kernel
theorem dX0_wakeAndBear_30 : decode cX0_wakeAndBear 30 = .ok (.getfield 37, 3) := by decide +kernel
theorem dX0_wakeAndBear_33 : decode cX0_wakeAndBear 33 = .ok (.iload 4, 2) := by decide +kernel
theorem dX0_wakeAndBear_35 : decode cX0_wakeAndBear 35 = .ok (.iaload, 1) := by decide +kernel
theorem dX0_wakeAndBear_36 : decode cX0_wakeAndBear 36 = .ok (.iload_n 1, 1) := by decide +kernel
theorem dX0_wakeAndBear_37 : decode cX0_wakeAndBear 37 = .ok (.if_icmp .gt 24, 3) := by decide +kernel
theorem dX0_wakeAndBear_40 : decode cX0_wakeAndBear 40 = .ok (.iload_n 3, 1) := by decide +kernel
theorem dX0_wakeAndBear_41 : decode cX0_wakeAndBear 41 = .ok (.iconst 1, 1) := by decide +kernel
theorem dX0_wakeAndBear_42 : decode cX0_wakeAndBear 42 = .ok (.aload_n 0, 1) := by decide +kernel
theorem dX0_wakeAndBear_43 : decode cX0_wakeAndBear 43 = .ok (.getfield 34, 3) := by decide +kernel
theorem dX0_wakeAndBear_46 : decode cX0_wakeAndBear 46 = .ok (.iload 4, 2) := by decide +kernel
theorem dX0_wakeAndBear_48 : decode cX0_wakeAndBear 48 = .ok (.iaload, 1) := by decide +kernel
theorem dX0_wakeAndBear_49 : decode cX0_wakeAndBear 49 = .ok (.ishl, 1) := by decide +kernel
theorem dX0_wakeAndBear_50 : decode cX0_wakeAndBear 50 = .ok (.ior, 1) := by decide +kernel
theorem dX0_wakeAndBear_51 : decode cX0_wakeAndBear 51 = .ok (.istore_n 3, 1) := by decide +kernel
theorem dX0_wakeAndBear_52 : decode cX0_wakeAndBear 52 = .ok (.aload_n 0, 1) := by decide +kernel
theorem dX0_wakeAndBear_53 : decode cX0_wakeAndBear 53 = .ok (.getfield 34, 3) := by decide +kernel
theorem dX0_wakeAndBear_56 : decode cX0_wakeAndBear 56 = .ok (.iload 4, 2) := by decide +kernel
theorem dX0_wakeAndBear_58 : decode cX0_wakeAndBear 58 = .ok (.bipush (-9), 2) := by decide +kernel
theorem dX0_wakeAndBear_60 : decode cX0_wakeAndBear 60 = .ok (.iastore, 1) := by decide +kernel
theorem dX0_wakeAndBear_61 : decode cX0_wakeAndBear 61 = .ok (.iinc 4 1, 3) := by decide +kernel
theorem dX0_wakeAndBear_64 : decode cX0_wakeAndBear 64 = .ok (.goto (-59), 3) := by decide +kernel
theorem dX0_wakeAndBear_67 : decode cX0_wakeAndBear 67 = .ok (.iconst 0, 1) := by decide +kernel
theorem dX0_wakeAndBear_68 : decode cX0_wakeAndBear 68 = .ok (.istore 4, 2) := by decide +kernel
theorem dX0_wakeAndBear_70 : decode cX0_wakeAndBear 70 = .ok (.iload 4, 2) := by decide +kernel
theorem dX0_wakeAndBear_72 : decode cX0_wakeAndBear 72 = .ok (.aload_n 0, 1) := by decide +kernel
theorem dX0_wakeAndBear_73 : decode cX0_wakeAndBear 73 = .ok (.getfield 43, 3) := by decide +kernel
theorem dX0_wakeAndBear_76 : decode cX0_wakeAndBear 76 = .ok (.getfield 90, 3) := by decide +kernel
theorem dX0_wakeAndBear_79 : decode cX0_wakeAndBear 79 = .ok (.if_icmp .ge 36, 3) := by decide +kernel
theorem dX0_wakeAndBear_82 : decode cX0_wakeAndBear 82 = .ok (.aload_n 0, 1) := by decide +kernel
theorem dX0_wakeAndBear_83 : decode cX0_wakeAndBear 83 = .ok (.getfield 43, 3) := by decide +kernel
theorem dX0_wakeAndBear_86 : decode cX0_wakeAndBear 86 = .ok (.getfield 93, 3) := by decide +kernel
theorem dX0_wakeAndBear_89 : decode cX0_wakeAndBear 89 = .ok (.iload 4, 2) := by decide +kernel
theorem dX0_wakeAndBear_91 : decode cX0_wakeAndBear 91 = .ok (.iaload, 1) := by decide +kernel
theorem dX0_wakeAndBear_92 : decode cX0_wakeAndBear 92 = .ok (.iload_n 1, 1) := by decide +kernel
theorem dX0_wakeAndBear_93 : decode cX0_wakeAndBear 93 = .ok (.if_icmp .ne 16, 3) := by decide +kernel
theorem dX0_wakeAndBear_96 : decode cX0_wakeAndBear 96 = .ok (.aload_n 0, 1) := by decide +kernel
theorem dX0_wakeAndBear_97 : decode cX0_wakeAndBear 97 = .ok (.dup, 1) := by decide +kernel
theorem dX0_wakeAndBear_98 : decode cX0_wakeAndBear 98 = .ok (.getfield 47, 3) := by decide +kernel
theorem dX0_wakeAndBear_101 : decode cX0_wakeAndBear 101 = .ok (.iconst 1, 1) := by decide +kernel
theorem dX0_wakeAndBear_102 : decode cX0_wakeAndBear 102 = .ok (.iload 4, 2) := by decide +kernel
theorem dX0_wakeAndBear_104 : decode cX0_wakeAndBear 104 = .ok (.ishl, 1) := by decide +kernel
theorem dX0_wakeAndBear_105 : decode cX0_wakeAndBear 105 = .ok (.ior, 1) := by decide +kernel
theorem dX0_wakeAndBear_106 : decode cX0_wakeAndBear 106 = .ok (.putfield 47, 3) := by decide +kernel
theorem dX0_wakeAndBear_109 : decode cX0_wakeAndBear 109 = .ok (.iinc 4 1, 3) := by decide +kernel
theorem dX0_wakeAndBear_112 : decode cX0_wakeAndBear 112 = .ok (.goto (-42), 3) := by decide +kernel
theorem dX0_wakeAndBear_115 : decode cX0_wakeAndBear 115 = .ok (.aload_n 0, 1) := by decide +kernel
theorem dX0_wakeAndBear_116 : decode cX0_wakeAndBear 116 = .ok (.aload_n 0, 1) := by decide +kernel
theorem dX0_wakeAndBear_117 : decode cX0_wakeAndBear 117 = .ok (.getfield 47, 3) := by decide +kernel
theorem dX0_wakeAndBear_120 : decode cX0_wakeAndBear 120 = .ok (.iload_n 2, 1) := by decide +kernel
theorem dX0_wakeAndBear_121 : decode cX0_wakeAndBear 121 = .ok (.iconst (-1), 1) := by decide +kernel
theorem dX0_wakeAndBear_122 : decode cX0_wakeAndBear 122 = .ok (.ixor, 1) := by decide +kernel
theorem dX0_wakeAndBear_123 : decode cX0_wakeAndBear 123 = .ok (.iand, 1) := by decide +kernel
theorem dX0_wakeAndBear_124 : decode cX0_wakeAndBear 124 = .ok (.putfield 53, 3) := by decide +kernel
theorem dX0_wakeAndBear_127 : decode cX0_wakeAndBear 127 = .ok (.aload_n 0, 1) := by decide +kernel
theorem dX0_wakeAndBear_128 : decode cX0_wakeAndBear 128 = .ok (.dup, 1) := by decide +kernel
theorem dX0_wakeAndBear_129 : decode cX0_wakeAndBear 129 = .ok (.getfield 47, 3) := by decide +kernel
theorem dX0_wakeAndBear_132 : decode cX0_wakeAndBear 132 = .ok (.iload_n 3, 1) := by decide +kernel
theorem dX0_wakeAndBear_133 : decode cX0_wakeAndBear 133 = .ok (.ior, 1) := by decide +kernel
theorem dX0_wakeAndBear_134 : decode cX0_wakeAndBear 134 = .ok (.putfield 47, 3) := by decide +kernel
theorem dX0_wakeAndBear_137 : decode cX0_wakeAndBear 137 = .ok (.aload_n 0, 1) := by decide +kernel
theorem dX0_wakeAndBear_138 : decode cX0_wakeAndBear 138 = .ok (.dup, 1) := by decide +kernel
theorem dX0_wakeAndBear_139 : decode cX0_wakeAndBear 139 = .ok (.getfield 50, 3) := by decide +kernel
theorem dX0_wakeAndBear_142 : decode cX0_wakeAndBear 142 = .ok (.iload_n 3, 1) := by decide +kernel
theorem dX0_wakeAndBear_143 : decode cX0_wakeAndBear 143 = .ok (.iconst (-1), 1) := by decide +kernel
theorem dX0_wakeAndBear_144 : decode cX0_wakeAndBear 144 = .ok (.ixor, 1) := by decide +kernel
theorem dX0_wakeAndBear_145 : decode cX0_wakeAndBear 145 = .ok (.iand, 1) := by decide +kernel
theorem dX0_wakeAndBear_146 : decode cX0_wakeAndBear 146 = .ok (.putfield 50, 3) := by decide +kernel
theorem dX0_wakeAndBear_149 : decode cX0_wakeAndBear 149 = .ok (.return_, 1) := by decide +kernel
theorem dX0_fillPosts_0 : decode cX0_fillPosts 0 = .ok (.aload_n 0, 1) := by decide +kernel
theorem dX0_fillPosts_1 : decode cX0_fillPosts 1 = .ok (.getfield 9, 3) := by decide +kernel
theorem dX0_fillPosts_4 : decode cX0_fillPosts 4 = .ok (.iload_n 1, 1) := by decide +kernel
theorem dX0_fillPosts_5 : decode cX0_fillPosts 5 = .ok (.iconst 0, 1) := by decide +kernel
theorem dX0_fillPosts_6 : decode cX0_fillPosts 6 = .ok (.iastore, 1) := by decide +kernel
theorem dX0_fillPosts_7 : decode cX0_fillPosts 7 = .ok (.iconst 0, 1) := by decide +kernel
theorem dX0_fillPosts_8 : decode cX0_fillPosts 8 = .ok (.istore_n 3, 1) := by decide +kernel
theorem dX0_fillPosts_9 : decode cX0_fillPosts 9 = .ok (.iload_n 3, 1) := by decide +kernel
theorem dX0_fillPosts_10 : decode cX0_fillPosts 10 = .ok (.aload_n 0, 1) := by decide +kernel
theorem dX0_fillPosts_11 : decode cX0_fillPosts 11 = .ok (.getfield 43, 3) := by decide +kernel
theorem dX0_fillPosts_14 : decode cX0_fillPosts 14 = .ok (.getfield 85, 3) := by decide +kernel
theorem dX0_fillPosts_17 : decode cX0_fillPosts 17 = .ok (.if_icmp .ge 96, 3) := by decide +kernel
theorem dX0_fillPosts_20 : decode cX0_fillPosts 20 = .ok (.aload_n 0, 1) := by decide +kernel
theorem dX0_fillPosts_21 : decode cX0_fillPosts 21 = .ok (.getfield 25, 3) := by decide +kernel
theorem dX0_fillPosts_24 : decode cX0_fillPosts 24 = .ok (.iload_n 1, 1) := by decide +kernel
theorem dX0_fillPosts_25 : decode cX0_fillPosts 25 = .ok (.iconst 4, 1) := by decide +kernel
theorem dX0_fillPosts_26 : decode cX0_fillPosts 26 = .ok (.imul, 1) := by decide +kernel
theorem dX0_fillPosts_27 : decode cX0_fillPosts 27 = .ok (.iload_n 3, 1) := by decide +kernel
theorem dX0_fillPosts_28 : decode cX0_fillPosts 28 = .ok (.iadd, 1) := by decide +kernel
theorem dX0_fillPosts_29 : decode cX0_fillPosts 29 = .ok (.iconst 0, 1) := by decide +kernel
theorem dX0_fillPosts_30 : decode cX0_fillPosts 30 = .ok (.iastore, 1) := by decide +kernel
theorem dX0_fillPosts_31 : decode cX0_fillPosts 31 = .ok (.aload_n 0, 1) := by decide +kernel
theorem dX0_fillPosts_32 : decode cX0_fillPosts 32 = .ok (.getfield 34, 3) := by decide +kernel
theorem dX0_fillPosts_35 : decode cX0_fillPosts 35 = .ok (.iload_n 3, 1) := by decide +kernel
theorem dX0_fillPosts_36 : decode cX0_fillPosts 36 = .ok (.iaload, 1) := by decide +kernel
theorem dX0_fillPosts_37 : decode cX0_fillPosts 37 = .ok (.bipush (-9), 2) := by decide +kernel
theorem dX0_fillPosts_39 : decode cX0_fillPosts 39 = .ok (.if_icmp .ne 52, 3) := by decide +kernel
theorem dX0_fillPosts_42 : decode cX0_fillPosts 42 = .ok (.iload_n 1, 1) := by decide +kernel
theorem dX0_fillPosts_43 : decode cX0_fillPosts 43 = .ok (.aload_n 2, 1) := by decide +kernel
theorem dX0_fillPosts_44 : decode cX0_fillPosts 44 = .ok (.getfield 96, 3) := by decide +kernel
theorem dX0_fillPosts_47 : decode cX0_fillPosts 47 = .ok (.iload_n 3, 1) := by decide +kernel
theorem dX0_fillPosts_48 : decode cX0_fillPosts 48 = .ok (.iaload, 1) := by decide +kernel
theorem dX0_fillPosts_49 : decode cX0_fillPosts 49 = .ok (.if_icmp .ge 42, 3) := by decide +kernel
theorem dX0_fillPosts_52 : decode cX0_fillPosts 52 = .ok (.aload_n 0, 1) := by decide +kernel
theorem dX0_fillPosts_53 : decode cX0_fillPosts 53 = .ok (.iload_n 1, 1) := by decide +kernel
theorem dX0_fillPosts_54 : decode cX0_fillPosts 54 = .ok (.iload_n 3, 1) := by decide +kernel
theorem dX0_fillPosts_55 : decode cX0_fillPosts 55 = .ok (.aload_n 2, 1) := by decide +kernel
theorem dX0_fillPosts_56 : decode cX0_fillPosts 56 = .ok (.invokevirtual 99, 3) := by decide +kernel
theorem dX0_fillPosts_59 : decode cX0_fillPosts 59 = .ok (.istore 4, 2) := by decide +kernel
theorem dX0_fillPosts_61 : decode cX0_fillPosts 61 = .ok (.iload 4, 2) := by decide +kernel
theorem dX0_fillPosts_63 : decode cX0_fillPosts 63 = .ok (.bipush (-9), 2) := by decide +kernel
theorem dX0_fillPosts_65 : decode cX0_fillPosts 65 = .ok (.if_icmp .ne 18, 3) := by decide +kernel
theorem dX0_fillPosts_68 : decode cX0_fillPosts 68 = .ok (.aload_n 0, 1) := by decide +kernel
theorem dX0_fillPosts_69 : decode cX0_fillPosts 69 = .ok (.getfield 9, 3) := by decide +kernel
theorem dX0_fillPosts_72 : decode cX0_fillPosts 72 = .ok (.iload_n 1, 1) := by decide +kernel
theorem dX0_fillPosts_73 : decode cX0_fillPosts 73 = .ok (.dup2, 1) := by decide +kernel
theorem dX0_fillPosts_74 : decode cX0_fillPosts 74 = .ok (.iaload, 1) := by decide +kernel
theorem dX0_fillPosts_75 : decode cX0_fillPosts 75 = .ok (.iconst 1, 1) := by decide +kernel
theorem dX0_fillPosts_76 : decode cX0_fillPosts 76 = .ok (.iload_n 3, 1) := by decide +kernel
theorem dX0_fillPosts_77 : decode cX0_fillPosts 77 = .ok (.ishl, 1) := by decide +kernel
theorem dX0_fillPosts_78 : decode cX0_fillPosts 78 = .ok (.ior, 1) := by decide +kernel
theorem dX0_fillPosts_79 : decode cX0_fillPosts 79 = .ok (.iastore, 1) := by decide +kernel
theorem dX0_fillPosts_80 : decode cX0_fillPosts 80 = .ok (.goto 11, 3) := by decide +kernel
theorem dX0_fillPosts_83 : decode cX0_fillPosts 83 = .ok (.aload_n 0, 1) := by decide +kernel
theorem dX0_fillPosts_84 : decode cX0_fillPosts 84 = .ok (.iload_n 1, 1) := by decide +kernel
theorem dX0_fillPosts_85 : decode cX0_fillPosts 85 = .ok (.iload_n 3, 1) := by decide +kernel
theorem dX0_fillPosts_86 : decode cX0_fillPosts 86 = .ok (.iload 4, 2) := by decide +kernel
theorem dX0_fillPosts_88 : decode cX0_fillPosts 88 = .ok (.invokevirtual 103, 3) := by decide +kernel
theorem dX0_fillPosts_91 : decode cX0_fillPosts 91 = .ok (.aload_n 0, 1) := by decide +kernel
theorem dX0_fillPosts_92 : decode cX0_fillPosts 92 = .ok (.getfield 22, 3) := by decide +kernel
theorem dX0_fillPosts_95 : decode cX0_fillPosts 95 = .ok (.iload_n 1, 1) := by decide +kernel
theorem dX0_fillPosts_96 : decode cX0_fillPosts 96 = .ok (.iconst 4, 1) := by decide +kernel
theorem dX0_fillPosts_97 : decode cX0_fillPosts 97 = .ok (.imul, 1) := by decide +kernel
theorem dX0_fillPosts_98 : decode cX0_fillPosts 98 = .ok (.iload_n 3, 1) := by decide +kernel
theorem dX0_fillPosts_99 : decode cX0_fillPosts 99 = .ok (.iadd, 1) := by decide +kernel
theorem dX0_fillPosts_100 : decode cX0_fillPosts 100 = .ok (.aload_n 0, 1) := by decide +kernel
theorem dX0_fillPosts_101 : decode cX0_fillPosts 101 = .ok (.getfield 34, 3) := by decide +kernel
theorem dX0_fillPosts_104 : decode cX0_fillPosts 104 = .ok (.iload_n 3, 1) := by decide +kernel
theorem dX0_fillPosts_105 : decode cX0_fillPosts 105 = .ok (.iaload, 1) := by decide +kernel
theorem dX0_fillPosts_106 : decode cX0_fillPosts 106 = .ok (.iastore, 1) := by decide +kernel
theorem dX0_fillPosts_107 : decode cX0_fillPosts 107 = .ok (.iinc 3 1, 3) := by decide +kernel
theorem dX0_fillPosts_110 : decode cX0_fillPosts 110 = .ok (.goto (-101), 3) := by decide +kernel
theorem dX0_fillPosts_113 : decode cX0_fillPosts 113 = .ok (.aload_n 0, 1) := by decide +kernel
theorem dX0_fillPosts_114 : decode cX0_fillPosts 114 = .ok (.dup, 1) := by decide +kernel
theorem dX0_fillPosts_115 : decode cX0_fillPosts 115 = .ok (.getfield 15, 3) := by decide +kernel
theorem dX0_fillPosts_118 : decode cX0_fillPosts 118 = .ok (.aload_n 0, 1) := by decide +kernel
theorem dX0_fillPosts_119 : decode cX0_fillPosts 119 = .ok (.getfield 9, 3) := by decide +kernel
theorem dX0_fillPosts_122 : decode cX0_fillPosts 122 = .ok (.iload_n 1, 1) := by decide +kernel
theorem dX0_fillPosts_123 : decode cX0_fillPosts 123 = .ok (.iaload, 1) := by decide +kernel
theorem dX0_fillPosts_124 : decode cX0_fillPosts 124 = .ok (.invokestatic 56, 3) := by decide +kernel
theorem dX0_fillPosts_127 : decode cX0_fillPosts 127 = .ok (.iadd, 1) := by decide +kernel
theorem dX0_fillPosts_128 : decode cX0_fillPosts 128 = .ok (.putfield 15, 3) := by decide +kernel
theorem dX0_fillPosts_131 : decode cX0_fillPosts 131 = .ok (.return_, 1) := by decide +kernel
theorem dX0_chosenOf_0 : decode cX0_chosenOf 0 = .ok (.aload_n 3, 1) := by decide +kernel
theorem dX0_chosenOf_1 : decode cX0_chosenOf 1 = .ok (.aload_n 0, 1) := by decide +kernel
theorem dX0_chosenOf_2 : decode cX0_chosenOf 2 = .ok (.getfield 53, 3) := by decide +kernel
theorem dX0_chosenOf_5 : decode cX0_chosenOf 5 = .ok (.iload_n 2, 1) := by decide +kernel
theorem dX0_chosenOf_6 : decode cX0_chosenOf 6 = .ok (.iload_n 1, 1) := by decide +kernel
theorem dX0_chosenOf_7 : decode cX0_chosenOf 7 = .ok (.invokevirtual 107, 3) := by decide +kernel
theorem dX0_chosenOf_10 : decode cX0_chosenOf 10 = .ok (.istore 4, 2) := by decide +kernel
theorem dX0_chosenOf_12 : decode cX0_chosenOf 12 = .ok (.iload 4, 2) := by decide +kernel
theorem dX0_chosenOf_14 : decode cX0_chosenOf 14 = .ok (.bipush (-9), 2) := by decide +kernel
theorem dX0_chosenOf_16 : decode cX0_chosenOf 16 = .ok (.if_icmp .eq 6, 3) := by decide +kernel
theorem dX0_chosenOf_19 : decode cX0_chosenOf 19 = .ok (.iload 4, 2) := by decide +kernel
theorem dX0_chosenOf_21 : decode cX0_chosenOf 21 = .ok (.ireturn, 1) := by decide +kernel
theorem dX0_chosenOf_22 : decode cX0_chosenOf 22 = .ok (.aload_n 0, 1) := by decide +kernel
theorem dX0_chosenOf_23 : decode cX0_chosenOf 23 = .ok (.getfield 25, 3) := by decide +kernel
theorem dX0_chosenOf_26 : decode cX0_chosenOf 26 = .ok (.iload_n 1, 1) := by decide +kernel
theorem dX0_chosenOf_27 : decode cX0_chosenOf 27 = .ok (.iconst 4, 1) := by decide +kernel
theorem dX0_chosenOf_28 : decode cX0_chosenOf 28 = .ok (.imul, 1) := by decide +kernel
theorem dX0_chosenOf_29 : decode cX0_chosenOf 29 = .ok (.iload_n 2, 1) := by decide +kernel
theorem dX0_chosenOf_30 : decode cX0_chosenOf 30 = .ok (.iadd, 1) := by decide +kernel
theorem dX0_chosenOf_31 : decode cX0_chosenOf 31 = .ok (.aload_n 0, 1) := by decide +kernel
theorem dX0_chosenOf_32 : decode cX0_chosenOf 32 = .ok (.getfield 53, 3) := by decide +kernel
theorem dX0_chosenOf_35 : decode cX0_chosenOf 35 = .ok (.iastore, 1) := by decide +kernel
theorem dX0_chosenOf_36 : decode cX0_chosenOf 36 = .ok (.aload_n 0, 1) := by decide +kernel
theorem dX0_chosenOf_37 : decode cX0_chosenOf 37 = .ok (.aload_n 3, 1) := by decide +kernel
theorem dX0_chosenOf_38 : decode cX0_chosenOf 38 = .ok (.getfield 111, 3) := by decide +kernel
theorem dX0_chosenOf_41 : decode cX0_chosenOf 41 = .ok (.iload_n 2, 1) := by decide +kernel
theorem dX0_chosenOf_42 : decode cX0_chosenOf 42 = .ok (.invokevirtual 114, 3) := by decide +kernel
theorem dX0_chosenOf_45 : decode cX0_chosenOf 45 = .ok (.ireturn, 1) := by decide +kernel
theorem dX0_layDown_0 : decode cX0_layDown 0 = .ok (.aload_n 0, 1) := by decide +kernel
theorem dX0_layDown_1 : decode cX0_layDown 1 = .ok (.getfield 34, 3) := by decide +kernel
theorem dX0_layDown_4 : decode cX0_layDown 4 = .ok (.iload_n 2, 1) := by decide +kernel
theorem dX0_layDown_5 : decode cX0_layDown 5 = .ok (.iload_n 3, 1) := by decide +kernel
theorem dX0_layDown_6 : decode cX0_layDown 6 = .ok (.iastore, 1) := by decide +kernel
theorem dX0_layDown_7 : decode cX0_layDown 7 = .ok (.aload_n 0, 1) := by decide +kernel
theorem dX0_layDown_8 : decode cX0_layDown 8 = .ok (.getfield 37, 3) := by decide +kernel
theorem dX0_layDown_11 : decode cX0_layDown 11 = .ok (.iload_n 2, 1) := by decide +kernel
theorem dX0_layDown_12 : decode cX0_layDown 12 = .ok (.iload_n 1, 1) := by decide +kernel
theorem dX0_layDown_13 : decode cX0_layDown 13 = .ok (.aload_n 0, 1) := by decide +kernel
theorem dX0_layDown_14 : decode cX0_layDown 14 = .ok (.getfield 43, 3) := by decide +kernel
theorem dX0_layDown_17 : decode cX0_layDown 17 = .ok (.iload_n 3, 1) := by decide +kernel
theorem dX0_layDown_18 : decode cX0_layDown 18 = .ok (.invokevirtual 118, 3) := by decide +kernel
theorem dX0_layDown_21 : decode cX0_layDown 21 = .ok (.iadd, 1) := by decide +kernel
theorem dX0_layDown_22 : decode cX0_layDown 22 = .ok (.iastore, 1) := by decide +kernel
theorem dX0_layDown_23 : decode cX0_layDown 23 = .ok (.iconst 1, 1) := by decide +kernel
theorem dX0_layDown_24 : decode cX0_layDown 24 = .ok (.iload_n 3, 1) := by decide +kernel
theorem dX0_layDown_25 : decode cX0_layDown 25 = .ok (.ishl, 1) := by decide +kernel
theorem dX0_layDown_26 : decode cX0_layDown 26 = .ok (.istore 4, 2) := by decide +kernel
theorem dX0_layDown_28 : decode cX0_layDown 28 = .ok (.aload_n 0, 1) := by decide +kernel
theorem dX0_layDown_29 : decode cX0_layDown 29 = .ok (.dup, 1) := by decide +kernel
theorem dX0_layDown_30 : decode cX0_layDown 30 = .ok (.getfield 53, 3) := by decide +kernel
theorem dX0_layDown_33 : decode cX0_layDown 33 = .ok (.iload 4, 2) := by decide +kernel
theorem dX0_layDown_35 : decode cX0_layDown 35 = .ok (.iconst (-1), 1) := by decide +kernel
theorem dX0_layDown_36 : decode cX0_layDown 36 = .ok (.ixor, 1) := by decide +kernel
theorem dX0_layDown_37 : decode cX0_layDown 37 = .ok (.iand, 1) := by decide +kernel
theorem dX0_layDown_38 : decode cX0_layDown 38 = .ok (.putfield 53, 3) := by decide +kernel
theorem dX0_layDown_41 : decode cX0_layDown 41 = .ok (.aload_n 0, 1) := by decide +kernel
theorem dX0_layDown_42 : decode cX0_layDown 42 = .ok (.dup, 1) := by decide +kernel
theorem dX0_layDown_43 : decode cX0_layDown 43 = .ok (.getfield 47, 3) := by decide +kernel
theorem dX0_layDown_46 : decode cX0_layDown 46 = .ok (.iload 4, 2) := by decide +kernel
theorem dX0_layDown_48 : decode cX0_layDown 48 = .ok (.iconst (-1), 1) := by decide +kernel
theorem dX0_layDown_49 : decode cX0_layDown 49 = .ok (.ixor, 1) := by decide +kernel
theorem dX0_layDown_50 : decode cX0_layDown 50 = .ok (.iand, 1) := by decide +kernel
theorem dX0_layDown_51 : decode cX0_layDown 51 = .ok (.putfield 47, 3) := by decide +kernel
theorem dX0_layDown_54 : decode cX0_layDown 54 = .ok (.aload_n 0, 1) := by decide +kernel
theorem dX0_layDown_55 : decode cX0_layDown 55 = .ok (.dup, 1) := by decide +kernel
theorem dX0_layDown_56 : decode cX0_layDown 56 = .ok (.getfield 50, 3) := by decide +kernel
theorem dX0_layDown_59 : decode cX0_layDown 59 = .ok (.iload 4, 2) := by decide +kernel
theorem dX0_layDown_61 : decode cX0_layDown 61 = .ok (.ior, 1) := by decide +kernel
theorem dX0_layDown_62 : decode cX0_layDown 62 = .ok (.putfield 50, 3) := by decide +kernel
theorem dX0_layDown_65 : decode cX0_layDown 65 = .ok (.return_, 1) := by decide +kernel
theorem dX0_lawfulOf_0 : decode cX0_lawfulOf 0 = .ok (.bipush (-9), 2) := by decide +kernel
theorem dX0_lawfulOf_2 : decode cX0_lawfulOf 2 = .ok (.istore_n 3, 1) := by decide +kernel
theorem dX0_lawfulOf_3 : decode cX0_lawfulOf 3 = .ok (.iconst 0, 1) := by decide +kernel
theorem dX0_lawfulOf_4 : decode cX0_lawfulOf 4 = .ok (.istore 4, 2) := by decide +kernel
theorem dX0_lawfulOf_6 : decode cX0_lawfulOf 6 = .ok (.iconst 0, 1) := by decide +kernel
theorem dX0_lawfulOf_7 : decode cX0_lawfulOf 7 = .ok (.istore 5, 2) := by decide +kernel
theorem dX0_lawfulOf_9 : decode cX0_lawfulOf 9 = .ok (.iload 5, 2) := by decide +kernel
theorem dX0_lawfulOf_11 : decode cX0_lawfulOf 11 = .ok (.aload_n 0, 1) := by decide +kernel
theorem dX0_lawfulOf_12 : decode cX0_lawfulOf 12 = .ok (.getfield 43, 3) := by decide +kernel
theorem dX0_lawfulOf_15 : decode cX0_lawfulOf 15 = .ok (.getfield 90, 3) := by decide +kernel
theorem dX0_lawfulOf_18 : decode cX0_lawfulOf 18 = .ok (.if_icmp .ge 84, 3) := by decide +kernel
theorem dX0_lawfulOf_21 : decode cX0_lawfulOf 21 = .ok (.aload_n 0, 1) := by decide +kernel
theorem dX0_lawfulOf_22 : decode cX0_lawfulOf 22 = .ok (.getfield 53, 3) := by decide +kernel
theorem dX0_lawfulOf_25 : decode cX0_lawfulOf 25 = .ok (.iload 5, 2) := by decide +kernel
theorem dX0_lawfulOf_27 : decode cX0_lawfulOf 27 = .ok (.ishr, 1) := by decide +kernel
theorem dX0_lawfulOf_28 : decode cX0_lawfulOf 28 = .ok (.iconst 1, 1) := by decide +kernel
theorem dX0_lawfulOf_29 : decode cX0_lawfulOf 29 = .ok (.iand, 1) := by decide +kernel
theorem dX0_lawfulOf_30 : decode cX0_lawfulOf 30 = .ok (.ifCond .ne 6, 3) := by decide +kernel
theorem dX0_lawfulOf_33 : decode cX0_lawfulOf 33 = .ok (.goto 63, 3) := by decide +kernel
theorem dX0_lawfulOf_36 : decode cX0_lawfulOf 36 = .ok (.iconst 0, 1) := by decide +kernel
theorem dX0_lawfulOf_37 : decode cX0_lawfulOf 37 = .ok (.istore 6, 2) := by decide +kernel
theorem dX0_lawfulOf_39 : decode cX0_lawfulOf 39 = .ok (.iload_n 1, 1) := by decide +kernel
theorem dX0_lawfulOf_40 : decode cX0_lawfulOf 40 = .ok (.iconst 1, 1) := by decide +kernel
theorem dX0_lawfulOf_41 : decode cX0_lawfulOf 41 = .ok (.if_icmp .ne 12, 3) := by decide +kernel
theorem dX0_lawfulOf_44 : decode cX0_lawfulOf 44 = .ok (.aload_n 0, 1) := by decide +kernel
theorem dX0_lawfulOf_45 : decode cX0_lawfulOf 45 = .ok (.getfield 40, 3) := by decide +kernel
theorem dX0_lawfulOf_48 : decode cX0_lawfulOf 48 = .ok (.iload 5, 2) := by decide +kernel
theorem dX0_lawfulOf_50 : decode cX0_lawfulOf 50 = .ok (.iaload, 1) := by decide +kernel
theorem dX0_lawfulOf_51 : decode cX0_lawfulOf 51 = .ok (.istore 6, 2) := by decide +kernel
theorem dX0_lawfulOf_53 : decode cX0_lawfulOf 53 = .ok (.iload_n 1, 1) := by decide +kernel
theorem dX0_lawfulOf_54 : decode cX0_lawfulOf 54 = .ok (.iconst 2, 1) := by decide +kernel
theorem dX0_lawfulOf_55 : decode cX0_lawfulOf 55 = .ok (.if_icmp .ne 21, 3) := by decide +kernel
theorem dX0_lawfulOf_58 : decode cX0_lawfulOf 58 = .ok (.aload_n 0, 1) := by decide +kernel
theorem dX0_lawfulOf_59 : decode cX0_lawfulOf 59 = .ok (.getfield 43, 3) := by decide +kernel
theorem dX0_lawfulOf_62 : decode cX0_lawfulOf 62 = .ok (.getfield 121, 3) := by decide +kernel
theorem dX0_lawfulOf_65 : decode cX0_lawfulOf 65 = .ok (.iload 5, 2) := by decide +kernel
theorem dX0_lawfulOf_67 : decode cX0_lawfulOf 67 = .ok (.iaload, 1) := by decide +kernel
theorem dX0_lawfulOf_68 : decode cX0_lawfulOf 68 = .ok (.iload_n 2, 1) := by decide +kernel
theorem dX0_lawfulOf_69 : decode cX0_lawfulOf 69 = .ok (.isub, 1) := by decide +kernel
theorem dX0_lawfulOf_70 : decode cX0_lawfulOf 70 = .ok (.invokestatic 124, 3) := by decide +kernel
theorem dX0_lawfulOf_73 : decode cX0_lawfulOf 73 = .ok (.ineg, 1) := by decide +kernel
theorem dX0_lawfulOf_74 : decode cX0_lawfulOf 74 = .ok (.istore 6, 2) := by decide +kernel
theorem dX0_lawfulOf_76 : decode cX0_lawfulOf 76 = .ok (.iload_n 3, 1) := by decide +kernel
theorem dX0_lawfulOf_77 : decode cX0_lawfulOf 77 = .ok (.bipush (-9), 2) := by decide +kernel
theorem dX0_lawfulOf_79 : decode cX0_lawfulOf 79 = .ok (.if_icmp .eq 10, 3) := by decide +kernel
theorem dX0_lawfulOf_82 : decode cX0_lawfulOf 82 = .ok (.iload 6, 2) := by decide +kernel
theorem dX0_lawfulOf_84 : decode cX0_lawfulOf 84 = .ok (.iload 4, 2) := by decide +kernel
theorem dX0_lawfulOf_86 : decode cX0_lawfulOf 86 = .ok (.if_icmp .le 10, 3) := by decide +kernel
theorem dX0_lawfulOf_89 : decode cX0_lawfulOf 89 = .ok (.iload 5, 2) := by decide +kernel
theorem dX0_lawfulOf_91 : decode cX0_lawfulOf 91 = .ok (.istore_n 3, 1) := by decide +kernel
theorem dX0_lawfulOf_92 : decode cX0_lawfulOf 92 = .ok (.iload 6, 2) := by decide +kernel
theorem dX0_lawfulOf_94 : decode cX0_lawfulOf 94 = .ok (.istore 4, 2) := by decide +kernel
theorem dX0_lawfulOf_96 : decode cX0_lawfulOf 96 = .ok (.iinc 5 1, 3) := by decide +kernel
theorem dX0_lawfulOf_99 : decode cX0_lawfulOf 99 = .ok (.goto (-90), 3) := by decide +kernel
theorem dX0_lawfulOf_102 : decode cX0_lawfulOf 102 = .ok (.iload_n 3, 1) := by decide +kernel
theorem dX0_lawfulOf_103 : decode cX0_lawfulOf 103 = .ok (.ireturn, 1) := by decide +kernel
theorem dX0_noteAndGrowOld_0 : decode cX0_noteAndGrowOld 0 = .ok (.iconst 0, 1) := by decide +kernel
theorem dX0_noteAndGrowOld_1 : decode cX0_noteAndGrowOld 1 = .ok (.istore_n 2, 1) := by decide +kernel
theorem dX0_noteAndGrowOld_2 : decode cX0_noteAndGrowOld 2 = .ok (.iload_n 2, 1) := by decide +kernel
theorem dX0_noteAndGrowOld_3 : decode cX0_noteAndGrowOld 3 = .ok (.aload_n 0, 1) := by decide +kernel
theorem dX0_noteAndGrowOld_4 : decode cX0_noteAndGrowOld 4 = .ok (.getfield 43, 3) := by decide +kernel
theorem dX0_noteAndGrowOld_7 : decode cX0_noteAndGrowOld 7 = .ok (.getfield 90, 3) := by decide +kernel
theorem dX0_noteAndGrowOld_10 : decode cX0_noteAndGrowOld 10 = .ok (.if_icmp .ge 92, 3) := by decide +kernel
theorem dX0_noteAndGrowOld_13 : decode cX0_noteAndGrowOld 13 = .ok (.iload_n 1, 1) := by decide +kernel
theorem dX0_noteAndGrowOld_14 : decode cX0_noteAndGrowOld 14 = .ok (.bipush 6, 2) := by decide +kernel
theorem dX0_noteAndGrowOld_16 : decode cX0_noteAndGrowOld 16 = .ok (.imul, 1) := by decide +kernel
theorem dX0_noteAndGrowOld_17 : decode cX0_noteAndGrowOld 17 = .ok (.iload_n 2, 1) := by decide +kernel
theorem dX0_noteAndGrowOld_18 : decode cX0_noteAndGrowOld 18 = .ok (.iadd, 1) := by decide +kernel
theorem dX0_noteAndGrowOld_19 : decode cX0_noteAndGrowOld 19 = .ok (.istore_n 3, 1) := by decide +kernel
theorem dX0_noteAndGrowOld_20 : decode cX0_noteAndGrowOld 20 = .ok (.aload_n 0, 1) := by decide +kernel
theorem dX0_noteAndGrowOld_21 : decode cX0_noteAndGrowOld 21 = .ok (.getfield 28, 3) := by decide +kernel
theorem dX0_noteAndGrowOld_24 : decode cX0_noteAndGrowOld 24 = .ok (.iload_n 3, 1) := by decide +kernel
theorem dX0_noteAndGrowOld_25 : decode cX0_noteAndGrowOld 25 = .ok (.aload_n 0, 1) := by decide +kernel
theorem dX0_noteAndGrowOld_26 : decode cX0_noteAndGrowOld 26 = .ok (.iload_n 2, 1) := by decide +kernel
theorem dX0_noteAndGrowOld_27 : decode cX0_noteAndGrowOld 27 = .ok (.iload_n 1, 1) := by decide +kernel
theorem dX0_noteAndGrowOld_28 : decode cX0_noteAndGrowOld 28 = .ok (.invokevirtual 129, 3) := by decide +kernel
theorem dX0_noteAndGrowOld_31 : decode cX0_noteAndGrowOld 31 = .ok (.iastore, 1) := by decide +kernel
theorem dX0_noteAndGrowOld_32 : decode cX0_noteAndGrowOld 32 = .ok (.aload_n 0, 1) := by decide +kernel
theorem dX0_noteAndGrowOld_33 : decode cX0_noteAndGrowOld 33 = .ok (.getfield 28, 3) := by decide +kernel
theorem dX0_noteAndGrowOld_36 : decode cX0_noteAndGrowOld 36 = .ok (.iload_n 3, 1) := by decide +kernel
theorem dX0_noteAndGrowOld_37 : decode cX0_noteAndGrowOld 37 = .ok (.iaload, 1) := by decide +kernel
theorem dX0_noteAndGrowOld_38 : decode cX0_noteAndGrowOld 38 = .ok (.iconst 1, 1) := by decide +kernel
theorem dX0_noteAndGrowOld_39 : decode cX0_noteAndGrowOld 39 = .ok (.if_icmp .ne 45, 3) := by decide +kernel
theorem dX0_noteAndGrowOld_42 : decode cX0_noteAndGrowOld 42 = .ok (.aload_n 0, 1) := by decide +kernel
theorem dX0_noteAndGrowOld_43 : decode cX0_noteAndGrowOld 43 = .ok (.getfield 40, 3) := by decide +kernel
theorem dX0_noteAndGrowOld_46 : decode cX0_noteAndGrowOld 46 = .ok (.iload_n 2, 1) := by decide +kernel
theorem dX0_noteAndGrowOld_47 : decode cX0_noteAndGrowOld 47 = .ok (.dup2, 1) := by decide +kernel
theorem dX0_noteAndGrowOld_48 : decode cX0_noteAndGrowOld 48 = .ok (.iaload, 1) := by decide +kernel
theorem dX0_noteAndGrowOld_49 : decode cX0_noteAndGrowOld 49 = .ok (.iconst 1, 1) := by decide +kernel
theorem dX0_noteAndGrowOld_50 : decode cX0_noteAndGrowOld 50 = .ok (.iadd, 1) := by decide +kernel
theorem dX0_noteAndGrowOld_51 : decode cX0_noteAndGrowOld 51 = .ok (.iastore, 1) := by decide +kernel
theorem dX0_noteAndGrowOld_52 : decode cX0_noteAndGrowOld 52 = .ok (.aload_n 0, 1) := by decide +kernel
theorem dX0_noteAndGrowOld_53 : decode cX0_noteAndGrowOld 53 = .ok (.getfield 40, 3) := by decide +kernel
theorem dX0_noteAndGrowOld_56 : decode cX0_noteAndGrowOld 56 = .ok (.iload_n 2, 1) := by decide +kernel
theorem dX0_noteAndGrowOld_57 : decode cX0_noteAndGrowOld 57 = .ok (.iaload, 1) := by decide +kernel
theorem dX0_noteAndGrowOld_58 : decode cX0_noteAndGrowOld 58 = .ok (.aload_n 0, 1) := by decide +kernel
theorem dX0_noteAndGrowOld_59 : decode cX0_noteAndGrowOld 59 = .ok (.getfield 43, 3) := by decide +kernel
theorem dX0_noteAndGrowOld_62 : decode cX0_noteAndGrowOld 62 = .ok (.getfield 132, 3) := by decide +kernel
theorem dX0_noteAndGrowOld_65 : decode cX0_noteAndGrowOld 65 = .ok (.iload_n 2, 1) := by decide +kernel
theorem dX0_noteAndGrowOld_66 : decode cX0_noteAndGrowOld 66 = .ok (.iaload, 1) := by decide +kernel
theorem dX0_noteAndGrowOld_67 : decode cX0_noteAndGrowOld 67 = .ok (.if_icmp .lt 17, 3) := by decide +kernel
theorem dX0_noteAndGrowOld_70 : decode cX0_noteAndGrowOld 70 = .ok (.aload_n 0, 1) := by decide +kernel
theorem dX0_noteAndGrowOld_71 : decode cX0_noteAndGrowOld 71 = .ok (.dup, 1) := by decide +kernel
theorem dX0_noteAndGrowOld_72 : decode cX0_noteAndGrowOld 72 = .ok (.getfield 47, 3) := by decide +kernel
theorem dX0_noteAndGrowOld_75 : decode cX0_noteAndGrowOld 75 = .ok (.iconst 1, 1) := by decide +kernel
theorem dX0_noteAndGrowOld_76 : decode cX0_noteAndGrowOld 76 = .ok (.iload_n 2, 1) := by decide +kernel
theorem dX0_noteAndGrowOld_77 : decode cX0_noteAndGrowOld 77 = .ok (.ishl, 1) := by decide +kernel
theorem dX0_noteAndGrowOld_78 : decode cX0_noteAndGrowOld 78 = .ok (.iconst (-1), 1) := by decide +kernel
theorem dX0_noteAndGrowOld_79 : decode cX0_noteAndGrowOld 79 = .ok (.ixor, 1) := by decide +kernel
theorem dX0_noteAndGrowOld_80 : decode cX0_noteAndGrowOld 80 = .ok (.iand, 1) := by decide +kernel
theorem dX0_noteAndGrowOld_81 : decode cX0_noteAndGrowOld 81 = .ok (.putfield 47, 3) := by decide +kernel
theorem dX0_noteAndGrowOld_84 : decode cX0_noteAndGrowOld 84 = .ok (.aload_n 0, 1) := by decide +kernel
theorem dX0_noteAndGrowOld_85 : decode cX0_noteAndGrowOld 85 = .ok (.getfield 31, 3) := by decide +kernel
theorem dX0_noteAndGrowOld_88 : decode cX0_noteAndGrowOld 88 = .ok (.iload_n 3, 1) := by decide +kernel
theorem dX0_noteAndGrowOld_89 : decode cX0_noteAndGrowOld 89 = .ok (.aload_n 0, 1) := by decide +kernel
theorem dX0_noteAndGrowOld_90 : decode cX0_noteAndGrowOld 90 = .ok (.getfield 40, 3) := by decide +kernel
theorem dX0_noteAndGrowOld_93 : decode cX0_noteAndGrowOld 93 = .ok (.iload_n 2, 1) := by decide +kernel
theorem dX0_noteAndGrowOld_94 : decode cX0_noteAndGrowOld 94 = .ok (.iaload, 1) := by decide +kernel
theorem dX0_noteAndGrowOld_95 : decode cX0_noteAndGrowOld 95 = .ok (.iastore, 1) := by decide +kernel
theorem dX0_noteAndGrowOld_96 : decode cX0_noteAndGrowOld 96 = .ok (.iinc 2 1, 3) := by decide +kernel
theorem dX0_noteAndGrowOld_99 : decode cX0_noteAndGrowOld 99 = .ok (.goto (-97), 3) := by decide +kernel
theorem dX0_noteAndGrowOld_102 : decode cX0_noteAndGrowOld 102 = .ok (.return_, 1) := by decide +kernel
theorem dX0_stateNow_0 : decode cX0_stateNow 0 = .ok (.aload_n 0, 1) := by decide +kernel
theorem dX0_stateNow_1 : decode cX0_stateNow 1 = .ok (.getfield 47, 3) := by decide +kernel
theorem dX0_stateNow_4 : decode cX0_stateNow 4 = .ok (.iload_n 1, 1) := by decide +kernel
theorem dX0_stateNow_5 : decode cX0_stateNow 5 = .ok (.ishr, 1) := by decide +kernel
theorem dX0_stateNow_6 : decode cX0_stateNow 6 = .ok (.iconst 1, 1) := by decide +kernel
theorem dX0_stateNow_7 : decode cX0_stateNow 7 = .ok (.iand, 1) := by decide +kernel
theorem dX0_stateNow_8 : decode cX0_stateNow 8 = .ok (.ifCond .eq 5, 3) := by decide +kernel
theorem dX0_stateNow_11 : decode cX0_stateNow 11 = .ok (.iconst 1, 1) := by decide +kernel
theorem dX0_stateNow_12 : decode cX0_stateNow 12 = .ok (.ireturn, 1) := by decide +kernel
theorem dX0_stateNow_13 : decode cX0_stateNow 13 = .ok (.aload_n 0, 1) := by decide +kernel
theorem dX0_stateNow_14 : decode cX0_stateNow 14 = .ok (.getfield 50, 3) := by decide +kernel
theorem dX0_stateNow_17 : decode cX0_stateNow 17 = .ok (.iload_n 1, 1) := by decide +kernel
theorem dX0_stateNow_18 : decode cX0_stateNow 18 = .ok (.ishr, 1) := by decide +kernel
theorem dX0_stateNow_19 : decode cX0_stateNow 19 = .ok (.iconst 1, 1) := by decide +kernel
theorem dX0_stateNow_20 : decode cX0_stateNow 20 = .ok (.iand, 1) := by decide +kernel
theorem dX0_stateNow_21 : decode cX0_stateNow 21 = .ok (.ifCond .eq 5, 3) := by decide +kernel
theorem dX0_stateNow_24 : decode cX0_stateNow 24 = .ok (.iconst 2, 1) := by decide +kernel
theorem dX0_stateNow_25 : decode cX0_stateNow 25 = .ok (.ireturn, 1) := by decide +kernel
theorem dX0_stateNow_26 : decode cX0_stateNow 26 = .ok (.iload_n 2, 1) := by decide +kernel
theorem dX0_stateNow_27 : decode cX0_stateNow 27 = .ok (.aload_n 0, 1) := by decide +kernel
theorem dX0_stateNow_28 : decode cX0_stateNow 28 = .ok (.getfield 43, 3) := by decide +kernel
theorem dX0_stateNow_31 : decode cX0_stateNow 31 = .ok (.getfield 93, 3) := by decide +kernel
theorem dX0_stateNow_34 : decode cX0_stateNow 34 = .ok (.iload_n 1, 1) := by decide +kernel
theorem dX0_stateNow_35 : decode cX0_stateNow 35 = .ok (.iaload, 1) := by decide +kernel
theorem dX0_stateNow_36 : decode cX0_stateNow 36 = .ok (.if_icmp .ge 7, 3) := by decide +kernel
theorem dX0_stateNow_39 : decode cX0_stateNow 39 = .ok (.iconst 0, 1) := by decide +kernel
theorem dX0_stateNow_40 : decode cX0_stateNow 40 = .ok (.goto 4, 3) := by decide +kernel
theorem dX0_stateNow_43 : decode cX0_stateNow 43 = .ok (.iconst 3, 1) := by decide +kernel
theorem dX0_stateNow_44 : decode cX0_stateNow 44 = .ok (.ireturn, 1) := by decide +kernel
theorem dX1_init_0 : decode cX1_init 0 = .ok (.aload_n 0, 1) := by decide +kernel
theorem dX1_init_1 : decode cX1_init 1 = .ok (.invokespecial 5, 3) := by decide +kernel
theorem dX1_init_4 : decode cX1_init 4 = .ok (.aload_n 0, 1) := by decide +kernel
theorem dX1_init_5 : decode cX1_init 5 = .ok (.iconst 0, 1) := by decide +kernel
theorem dX1_init_6 : decode cX1_init 6 = .ok (.putfield 11, 3) := by decide +kernel
theorem dX1_init_9 : decode cX1_init 9 = .ok (.aload_n 0, 1) := by decide +kernel
theorem dX1_init_10 : decode cX1_init 10 = .ok (.iconst 0, 1) := by decide +kernel
theorem dX1_init_11 : decode cX1_init 11 = .ok (.putfield 15, 3) := by decide +kernel
theorem dX1_init_14 : decode cX1_init 14 = .ok (.aload_n 0, 1) := by decide +kernel
theorem dX1_init_15 : decode cX1_init 15 = .ok (.bipush 6, 2) := by decide +kernel
theorem dX1_init_17 : decode cX1_init 17 = .ok (.newarray .int, 2) := by decide +kernel
theorem dX1_init_19 : decode cX1_init 19 = .ok (.putfield 18, 3) := by decide +kernel
theorem dX1_init_22 : decode cX1_init 22 = .ok (.aload_n 0, 1) := by decide +kernel
theorem dX1_init_23 : decode cX1_init 23 = .ok (.bipush 6, 2) := by decide +kernel
theorem dX1_init_25 : decode cX1_init 25 = .ok (.newarray .int, 2) := by decide +kernel
theorem dX1_init_27 : decode cX1_init 27 = .ok (.putfield 22, 3) := by decide +kernel
theorem dX1_init_30 : decode cX1_init 30 = .ok (.aload_n 0, 1) := by decide +kernel
theorem dX1_init_31 : decode cX1_init 31 = .ok (.bipush 6, 2) := by decide +kernel
theorem dX1_init_33 : decode cX1_init 33 = .ok (.newarray .int, 2) := by decide +kernel
theorem dX1_init_35 : decode cX1_init 35 = .ok (.putfield 25, 3) := by decide +kernel
theorem dX1_init_38 : decode cX1_init 38 = .ok (.aload_n 0, 1) := by decide +kernel
theorem dX1_init_39 : decode cX1_init 39 = .ok (.bipush 6, 2) := by decide +kernel
theorem dX1_init_41 : decode cX1_init 41 = .ok (.newarray .int, 2) := by decide +kernel
theorem dX1_init_43 : decode cX1_init 43 = .ok (.putfield 28, 3) := by decide +kernel
theorem dX1_init_46 : decode cX1_init 46 = .ok (.aload_n 0, 1) := by decide +kernel
theorem dX1_init_47 : decode cX1_init 47 = .ok (.bipush 6, 2) := by decide +kernel
theorem dX1_init_49 : decode cX1_init 49 = .ok (.newarray .int, 2) := by decide +kernel
theorem dX1_init_51 : decode cX1_init 51 = .ok (.putfield 31, 3) := by decide +kernel
theorem dX1_init_54 : decode cX1_init 54 = .ok (.return_, 1) := by decide +kernel
theorem dX1_firstFault_0 : decode cX1_firstFault 0 = .ok (.iconst 0, 1) := by decide +kernel
theorem dX1_firstFault_1 : decode cX1_firstFault 1 = .ok (.istore 4, 2) := by decide +kernel
theorem dX1_firstFault_3 : decode cX1_firstFault 3 = .ok (.iconst 0, 1) := by decide +kernel
theorem dX1_firstFault_4 : decode cX1_firstFault 4 = .ok (.istore 5, 2) := by decide +kernel
theorem dX1_firstFault_6 : decode cX1_firstFault 6 = .ok (.iload 5, 2) := by decide +kernel
theorem dX1_firstFault_8 : decode cX1_firstFault 8 = .ok (.iload_n 3, 1) := by decide +kernel
theorem dX1_firstFault_9 : decode cX1_firstFault 9 = .ok (.if_icmp .ge 48, 3) := by decide +kernel
theorem dX1_firstFault_12 : decode cX1_firstFault 12 = .ok (.aload_n 0, 1) := by decide +kernel
theorem dX1_firstFault_13 : decode cX1_firstFault 13 = .ok (.iload_n 1, 1) := by decide +kernel
theorem dX1_firstFault_14 : decode cX1_firstFault 14 = .ok (.iload_n 2, 1) := by decide +kernel
theorem dX1_firstFault_15 : decode cX1_firstFault 15 = .ok (.iload 5, 2) := by decide +kernel
theorem dX1_firstFault_17 : decode cX1_firstFault 17 = .ok (.iadd, 1) := by decide +kernel
theorem dX1_firstFault_18 : decode cX1_firstFault 18 = .ok (.invokevirtual 34, 3) := by decide +kernel
theorem dX1_firstFault_21 : decode cX1_firstFault 21 = .ok (.istore 6, 2) := by decide +kernel
theorem dX1_firstFault_23 : decode cX1_firstFault 23 = .ok (.iload 5, 2) := by decide +kernel
theorem dX1_firstFault_25 : decode cX1_firstFault 25 = .ok (.iload 6, 2) := by decide +kernel
theorem dX1_firstFault_27 : decode cX1_firstFault 27 = .ok (.iload 4, 2) := by decide +kernel
theorem dX1_firstFault_29 : decode cX1_firstFault 29 = .ok (.invokestatic 40, 3) := by decide +kernel
theorem dX1_firstFault_32 : decode cX1_firstFault 32 = .ok (.ifCond .ne 6, 3) := by decide +kernel
theorem dX1_firstFault_35 : decode cX1_firstFault 35 = .ok (.iload 5, 2) := by decide +kernel
theorem dX1_firstFault_37 : decode cX1_firstFault 37 = .ok (.ireturn, 1) := by decide +kernel
theorem dX1_firstFault_38 : decode cX1_firstFault 38 = .ok (.iload 5, 2) := by decide +kernel
theorem dX1_firstFault_40 : decode cX1_firstFault 40 = .ok (.iconst 1, 1) := by decide +kernel
theorem dX1_firstFault_41 : decode cX1_firstFault 41 = .ok (.if_icmp .ne 10, 3) := by decide +kernel
theorem dX1_firstFault_44 : decode cX1_firstFault 44 = .ok (.iload 6, 2) := by decide +kernel
theorem dX1_firstFault_46 : decode cX1_firstFault 46 = .ok (.bipush 48, 2) := by decide +kernel
theorem dX1_firstFault_48 : decode cX1_firstFault 48 = .ok (.isub, 1) := by decide +kernel
theorem dX1_firstFault_49 : decode cX1_firstFault 49 = .ok (.istore 4, 2) := by decide +kernel
theorem dX1_firstFault_51 : decode cX1_firstFault 51 = .ok (.iinc 5 1, 3) := by decide +kernel
theorem dX1_firstFault_54 : decode cX1_firstFault 54 = .ok (.goto (-48), 3) := by decide +kernel
theorem dX1_firstFault_57 : decode cX1_firstFault 57 = .ok (.iload_n 3, 1) := by decide +kernel
theorem dX1_firstFault_58 : decode cX1_firstFault 58 = .ok (.bipush 14, 2) := by decide +kernel
theorem dX1_firstFault_60 : decode cX1_firstFault 60 = .ok (.if_icmp .lt 16, 3) := by decide +kernel
theorem dX1_firstFault_63 : decode cX1_firstFault 63 = .ok (.iload_n 3, 1) := by decide +kernel
theorem dX1_firstFault_64 : decode cX1_firstFault 64 = .ok (.iconst 2, 1) := by decide +kernel
theorem dX1_firstFault_65 : decode cX1_firstFault 65 = .ok (.isub, 1) := by decide +kernel
theorem dX1_firstFault_66 : decode cX1_firstFault 66 = .ok (.bipush 6, 2) := by decide +kernel
theorem dX1_firstFault_68 : decode cX1_firstFault 68 = .ok (.irem, 1) := by decide +kernel
theorem dX1_firstFault_69 : decode cX1_firstFault 69 = .ok (.ifCond .ne 7, 3) := by decide +kernel
theorem dX1_firstFault_72 : decode cX1_firstFault 72 = .ok (.iconst 1, 1) := by decide +kernel
theorem dX1_firstFault_73 : decode cX1_firstFault 73 = .ok (.goto 4, 3) := by decide +kernel
theorem dX1_firstFault_76 : decode cX1_firstFault 76 = .ok (.iconst 0, 1) := by decide +kernel
theorem dX1_firstFault_77 : decode cX1_firstFault 77 = .ok (.istore 5, 2) := by decide +kernel
theorem dX1_firstFault_79 : decode cX1_firstFault 79 = .ok (.iload 5, 2) := by decide +kernel
theorem dX1_firstFault_81 : decode cX1_firstFault 81 = .ok (.ifCond .eq 8, 3) := by decide +kernel
theorem dX1_firstFault_84 : decode cX1_firstFault 84 = .ok (.bipush (-9), 2) := by decide +kernel
theorem dX1_firstFault_86 : decode cX1_firstFault 86 = .ok (.goto 4, 3) := by decide +kernel
theorem dX1_firstFault_89 : decode cX1_firstFault 89 = .ok (.iload_n 3, 1) := by decide +kernel
theorem dX1_firstFault_90 : decode cX1_firstFault 90 = .ok (.ireturn, 1) := by decide +kernel
theorem dX1_goesOn_0 : decode cX1_goesOn 0 = .ok (.iload_n 0, 1) := by decide +kernel
theorem dX1_goesOn_1 : decode cX1_goesOn 1 = .ok (.ifCond .ne 15, 3) := by decide +kernel
theorem dX1_goesOn_4 : decode cX1_goesOn 4 = .ok (.iload_n 1, 1) := by decide +kernel
theorem dX1_goesOn_5 : decode cX1_goesOn 5 = .ok (.bipush 99, 2) := by decide +kernel
theorem dX1_goesOn_7 : decode cX1_goesOn 7 = .ok (.if_icmp .ne 7, 3) := by decide +kernel
theorem dX1_goesOn_10 : decode cX1_goesOn 10 = .ok (.iconst 1, 1) := by decide +kernel
theorem dX1_goesOn_11 : decode cX1_goesOn 11 = .ok (.goto 4, 3) := by decide +kernel
theorem dX1_goesOn_14 : decode cX1_goesOn 14 = .ok (.iconst 0, 1) := by decide +kernel
theorem dX1_goesOn_15 : decode cX1_goesOn 15 = .ok (.ireturn, 1) := by decide +kernel
theorem dX1_goesOn_16 : decode cX1_goesOn 16 = .ok (.iload_n 0, 1) := by decide +kernel
theorem dX1_goesOn_17 : decode cX1_goesOn 17 = .ok (.iconst 1, 1) := by decide +kernel
theorem dX1_goesOn_18 : decode cX1_goesOn 18 = .ok (.if_icmp .ne 21, 3) := by decide +kernel
theorem dX1_goesOn_21 : decode cX1_goesOn 21 = .ok (.iload_n 1, 1) := by decide +kernel
theorem dX1_goesOn_22 : decode cX1_goesOn 22 = .ok (.bipush 49, 2) := by decide +kernel
theorem dX1_goesOn_24 : decode cX1_goesOn 24 = .ok (.if_icmp .lt 13, 3) := by decide +kernel
theorem dX1_goesOn_27 : decode cX1_goesOn 27 = .ok (.iload_n 1, 1) := by decide +kernel
theorem dX1_goesOn_28 : decode cX1_goesOn 28 = .ok (.bipush 52, 2) := by decide +kernel
theorem dX1_goesOn_30 : decode cX1_goesOn 30 = .ok (.if_icmp .gt 7, 3) := by decide +kernel
theorem dX1_goesOn_33 : decode cX1_goesOn 33 = .ok (.iconst 1, 1) := by decide +kernel
theorem dX1_goesOn_34 : decode cX1_goesOn 34 = .ok (.goto 4, 3) := by decide +kernel
theorem dX1_goesOn_37 : decode cX1_goesOn 37 = .ok (.iconst 0, 1) := by decide +kernel
theorem dX1_goesOn_38 : decode cX1_goesOn 38 = .ok (.ireturn, 1) := by decide +kernel
theorem dX1_goesOn_39 : decode cX1_goesOn 39 = .ok (.iload_n 0, 1) := by decide +kernel
theorem dX1_goesOn_40 : decode cX1_goesOn 40 = .ok (.bipush 38, 2) := by decide +kernel
theorem dX1_goesOn_42 : decode cX1_goesOn 42 = .ok (.if_icmp .lt 5, 3) := by decide +kernel
theorem dX1_goesOn_45 : decode cX1_goesOn 45 = .ok (.iconst 0, 1) := by decide +kernel
theorem dX1_goesOn_46 : decode cX1_goesOn 46 = .ok (.ireturn, 1) := by decide +kernel
theorem dX1_goesOn_47 : decode cX1_goesOn 47 = .ok (.iload_n 0, 1) := by decide +kernel
theorem dX1_goesOn_48 : decode cX1_goesOn 48 = .ok (.iconst 2, 1) := by decide +kernel
theorem dX1_goesOn_49 : decode cX1_goesOn 49 = .ok (.isub, 1) := by decide +kernel
theorem dX1_goesOn_50 : decode cX1_goesOn 50 = .ok (.bipush 6, 2) := by decide +kernel
theorem dX1_goesOn_52 : decode cX1_goesOn 52 = .ok (.irem, 1) := by decide +kernel
theorem dX1_goesOn_53 : decode cX1_goesOn 53 = .ok (.tableswitch 96 0 3 #[31, 43, 58, 78], 31) := by decide +kernel
theorem dX1_goesOn_84 : decode cX1_goesOn 84 = .ok (.iload_n 1, 1) := by decide +kernel
theorem dX1_goesOn_85 : decode cX1_goesOn 85 = .ok (.bipush 59, 2) := by decide +kernel
theorem dX1_goesOn_87 : decode cX1_goesOn 87 = .ok (.if_icmp .ne 7, 3) := by decide +kernel
theorem dX1_goesOn_90 : decode cX1_goesOn 90 = .ok (.iconst 1, 1) := by decide +kernel
theorem dX1_goesOn_91 : decode cX1_goesOn 91 = .ok (.goto 4, 3) := by decide +kernel
theorem dX1_goesOn_94 : decode cX1_goesOn 94 = .ok (.iconst 0, 1) := by decide +kernel
theorem dX1_goesOn_95 : decode cX1_goesOn 95 = .ok (.ireturn, 1) := by decide +kernel
theorem dX1_goesOn_96 : decode cX1_goesOn 96 = .ok (.iload_n 1, 1) := by decide +kernel
theorem dX1_goesOn_97 : decode cX1_goesOn 97 = .ok (.invokestatic 44, 3) := by decide +kernel
theorem dX1_goesOn_100 : decode cX1_goesOn 100 = .ok (.bipush (-9), 2) := by decide +kernel
theorem dX1_goesOn_102 : decode cX1_goesOn 102 = .ok (.if_icmp .eq 7, 3) := by decide +kernel
theorem dX1_goesOn_105 : decode cX1_goesOn 105 = .ok (.iconst 1, 1) := by decide +kernel
theorem dX1_goesOn_106 : decode cX1_goesOn 106 = .ok (.goto 4, 3) := by decide +kernel
theorem dX1_goesOn_109 : decode cX1_goesOn 109 = .ok (.iconst 0, 1) := by decide +kernel
theorem dX1_goesOn_110 : decode cX1_goesOn 110 = .ok (.ireturn, 1) := by decide +kernel
theorem dX1_goesOn_111 : decode cX1_goesOn 111 = .ok (.iload_n 1, 1) := by decide +kernel
theorem dX1_goesOn_112 : decode cX1_goesOn 112 = .ok (.bipush 48, 2) := by decide +kernel
theorem dX1_goesOn_114 : decode cX1_goesOn 114 = .ok (.if_icmp .lt 15, 3) := by decide +kernel
theorem dX1_goesOn_117 : decode cX1_goesOn 117 = .ok (.iload_n 1, 1) := by decide +kernel
theorem dX1_goesOn_118 : decode cX1_goesOn 118 = .ok (.bipush 48, 2) := by decide +kernel
theorem dX1_goesOn_120 : decode cX1_goesOn 120 = .ok (.iload_n 2, 1) := by decide +kernel
theorem dX1_goesOn_121 : decode cX1_goesOn 121 = .ok (.iadd, 1) := by decide +kernel
theorem dX1_goesOn_122 : decode cX1_goesOn 122 = .ok (.if_icmp .ge 7, 3) := by decide +kernel
theorem dX1_goesOn_125 : decode cX1_goesOn 125 = .ok (.iconst 1, 1) := by decide +kernel
theorem dX1_goesOn_126 : decode cX1_goesOn 126 = .ok (.goto 4, 3) := by decide +kernel
theorem dX1_goesOn_129 : decode cX1_goesOn 129 = .ok (.iconst 0, 1) := by decide +kernel
theorem dX1_goesOn_130 : decode cX1_goesOn 130 = .ok (.ireturn, 1) := by decide +kernel
theorem dX1_goesOn_131 : decode cX1_goesOn 131 = .ok (.iload_n 1, 1) := by decide +kernel
theorem dX1_goesOn_132 : decode cX1_goesOn 132 = .ok (.bipush 48, 2) := by decide +kernel
theorem dX1_goesOn_134 : decode cX1_goesOn 134 = .ok (.if_icmp .lt 13, 3) := by decide +kernel
theorem dX1_goesOn_137 : decode cX1_goesOn 137 = .ok (.iload_n 1, 1) := by decide +kernel
theorem dX1_goesOn_138 : decode cX1_goesOn 138 = .ok (.bipush 57, 2) := by decide +kernel
theorem dX1_goesOn_140 : decode cX1_goesOn 140 = .ok (.if_icmp .gt 7, 3) := by decide +kernel
theorem dX1_goesOn_143 : decode cX1_goesOn 143 = .ok (.iconst 1, 1) := by decide +kernel
theorem dX1_goesOn_144 : decode cX1_goesOn 144 = .ok (.goto 4, 3) := by decide +kernel
theorem dX1_goesOn_147 : decode cX1_goesOn 147 = .ok (.iconst 0, 1) := by decide +kernel
theorem dX1_goesOn_148 : decode cX1_goesOn 148 = .ok (.ireturn, 1) := by decide +kernel
theorem dX1_goesOn_149 : decode cX1_goesOn 149 = .ok (.iload_n 1, 1) := by decide +kernel
theorem dX1_goesOn_150 : decode cX1_goesOn 150 = .ok (.bipush 49, 2) := by decide +kernel
theorem dX1_goesOn_152 : decode cX1_goesOn 152 = .ok (.if_icmp .lt 13, 3) := by decide +kernel
theorem dX1_goesOn_155 : decode cX1_goesOn 155 = .ok (.iload_n 1, 1) := by decide +kernel
theorem dX1_goesOn_156 : decode cX1_goesOn 156 = .ok (.bipush 57, 2) := by decide +kernel
theorem dX1_goesOn_158 : decode cX1_goesOn 158 = .ok (.if_icmp .gt 7, 3) := by decide +kernel
theorem dX1_goesOn_161 : decode cX1_goesOn 161 = .ok (.iconst 1, 1) := by decide +kernel
theorem dX1_goesOn_162 : decode cX1_goesOn 162 = .ok (.goto 4, 3) := by decide +kernel
theorem dX1_goesOn_165 : decode cX1_goesOn 165 = .ok (.iconst 0, 1) := by decide +kernel
theorem dX1_goesOn_166 : decode cX1_goesOn 166 = .ok (.ireturn, 1) := by decide +kernel
theorem dX1_kindOf_0 : decode cX1_kindOf 0 = .ok (.iconst 0, 1) := by decide +kernel
theorem dX1_kindOf_1 : decode cX1_kindOf 1 = .ok (.istore_n 1, 1) := by decide +kernel
theorem dX1_kindOf_2 : decode cX1_kindOf 2 = .ok (.iload_n 1, 1) := by decide +kernel
theorem dX1_kindOf_3 : decode cX1_kindOf 3 = .ok (.iconst 3, 1) := by decide +kernel
theorem dX1_kindOf_4 : decode cX1_kindOf 4 = .ok (.if_icmp .ge 20, 3) := by decide +kernel
theorem dX1_kindOf_7 : decode cX1_kindOf 7 = .ok (.getstatic 48, 3) := by decide +kernel
theorem dX1_kindOf_10 : decode cX1_kindOf 10 = .ok (.iload_n 1, 1) := by decide +kernel
theorem dX1_kindOf_11 : decode cX1_kindOf 11 = .ok (.iaload, 1) := by decide +kernel
theorem dX1_kindOf_12 : decode cX1_kindOf 12 = .ok (.iload_n 0, 1) := by decide +kernel
theorem dX1_kindOf_13 : decode cX1_kindOf 13 = .ok (.if_icmp .ne 5, 3) := by decide +kernel
theorem dX1_kindOf_16 : decode cX1_kindOf 16 = .ok (.iload_n 1, 1) := by decide +kernel
theorem dX1_kindOf_17 : decode cX1_kindOf 17 = .ok (.ireturn, 1) := by decide +kernel
theorem dX1_kindOf_18 : decode cX1_kindOf 18 = .ok (.iinc 1 1, 3) := by decide +kernel
theorem dX1_kindOf_21 : decode cX1_kindOf 21 = .ok (.goto (-19), 3) := by decide +kernel
theorem dX1_kindOf_24 : decode cX1_kindOf 24 = .ok (.bipush (-9), 2) := by decide +kernel
theorem dX1_kindOf_26 : decode cX1_kindOf 26 = .ok (.ireturn, 1) := by decide +kernel
theorem dX1_settle_0 : decode cX1_settle 0 = .ok (.aload_n 0, 1) := by decide +kernel
theorem dX1_settle_1 : decode cX1_settle 1 = .ok (.aload_n 1, 1) := by decide +kernel
theorem dX1_settle_2 : decode cX1_settle 2 = .ok (.iload_n 2, 1) := by decide +kernel
theorem dX1_settle_3 : decode cX1_settle 3 = .ok (.iload_n 3, 1) := by decide +kernel
theorem dX1_settle_4 : decode cX1_settle 4 = .ok (.iconst 1, 1) := by decide +kernel
theorem dX1_settle_5 : decode cX1_settle 5 = .ok (.iadd, 1) := by decide +kernel
theorem dX1_settle_6 : decode cX1_settle 6 = .ok (.invokevirtual 34, 3) := by decide +kernel
theorem dX1_settle_9 : decode cX1_settle 9 = .ok (.bipush 48, 2) := by decide +kernel
theorem dX1_settle_11 : decode cX1_settle 11 = .ok (.isub, 1) := by decide +kernel
theorem dX1_settle_12 : decode cX1_settle 12 = .ok (.putfield 11, 3) := by decide +kernel
theorem dX1_settle_15 : decode cX1_settle 15 = .ok (.aload_n 0, 1) := by decide +kernel
theorem dX1_settle_16 : decode cX1_settle 16 = .ok (.iload 4, 2) := by decide +kernel
theorem dX1_settle_18 : decode cX1_settle 18 = .ok (.iconst 2, 1) := by decide +kernel
theorem dX1_settle_19 : decode cX1_settle 19 = .ok (.isub, 1) := by decide +kernel
theorem dX1_settle_20 : decode cX1_settle 20 = .ok (.bipush 6, 2) := by decide +kernel
theorem dX1_settle_22 : decode cX1_settle 22 = .ok (.idiv, 1) := by decide +kernel
theorem dX1_settle_23 : decode cX1_settle 23 = .ok (.putfield 15, 3) := by decide +kernel
theorem dX1_settle_26 : decode cX1_settle 26 = .ok (.iconst 0, 1) := by decide +kernel
theorem dX1_settle_27 : decode cX1_settle 27 = .ok (.istore 5, 2) := by decide +kernel
theorem dX1_settle_29 : decode cX1_settle 29 = .ok (.iload 5, 2) := by decide +kernel
theorem dX1_settle_31 : decode cX1_settle 31 = .ok (.aload_n 0, 1) := by decide +kernel
theorem dX1_settle_32 : decode cX1_settle 32 = .ok (.getfield 15, 3) := by decide +kernel
theorem dX1_settle_35 : decode cX1_settle 35 = .ok (.if_icmp .ge 115, 3) := by decide +kernel
theorem dX1_settle_38 : decode cX1_settle 38 = .ok (.iload_n 3, 1) := by decide +kernel
theorem dX1_settle_39 : decode cX1_settle 39 = .ok (.iconst 2, 1) := by decide +kernel
theorem dX1_settle_40 : decode cX1_settle 40 = .ok (.iadd, 1) := by decide +kernel
theorem dX1_settle_41 : decode cX1_settle 41 = .ok (.iload 5, 2) := by decide +kernel
theorem dX1_settle_43 : decode cX1_settle 43 = .ok (.bipush 6, 2) := by decide +kernel
theorem dX1_settle_45 : decode cX1_settle 45 = .ok (.imul, 1) := by decide +kernel
theorem dX1_settle_46 : decode cX1_settle 46 = .ok (.iadd, 1) := by decide +kernel
theorem dX1_settle_47 : decode cX1_settle 47 = .ok (.istore 6, 2) := by decide +kernel
theorem dX1_settle_49 : decode cX1_settle 49 = .ok (.aload_n 0, 1) := by decide +kernel
theorem dX1_settle_50 : decode cX1_settle 50 = .ok (.getfield 18, 3) := by decide +kernel
theorem dX1_settle_53 : decode cX1_settle 53 = .ok (.iload 5, 2) := by decide +kernel
theorem dX1_settle_55 : decode cX1_settle 55 = .ok (.aload_n 1, 1) := by decide +kernel
theorem dX1_settle_56 : decode cX1_settle 56 = .ok (.iload_n 2, 1) := by decide +kernel
theorem dX1_settle_57 : decode cX1_settle 57 = .ok (.iload 6, 2) := by decide +kernel
theorem dX1_settle_59 : decode cX1_settle 59 = .ok (.iconst 1, 1) := by decide +kernel
theorem dX1_settle_60 : decode cX1_settle 60 = .ok (.iadd, 1) := by decide +kernel
theorem dX1_settle_61 : decode cX1_settle 61 = .ok (.invokevirtual 34, 3) := by decide +kernel
theorem dX1_settle_64 : decode cX1_settle 64 = .ok (.invokestatic 44, 3) := by decide +kernel
theorem dX1_settle_67 : decode cX1_settle 67 = .ok (.iastore, 1) := by decide +kernel
theorem dX1_settle_68 : decode cX1_settle 68 = .ok (.aload_n 0, 1) := by decide +kernel
theorem dX1_settle_69 : decode cX1_settle 69 = .ok (.getfield 22, 3) := by decide +kernel
theorem dX1_settle_72 : decode cX1_settle 72 = .ok (.iload 5, 2) := by decide +kernel
theorem dX1_settle_74 : decode cX1_settle 74 = .ok (.aload_n 1, 1) := by decide +kernel
theorem dX1_settle_75 : decode cX1_settle 75 = .ok (.iload_n 2, 1) := by decide +kernel
theorem dX1_settle_76 : decode cX1_settle 76 = .ok (.iload 6, 2) := by decide +kernel
theorem dX1_settle_78 : decode cX1_settle 78 = .ok (.iconst 2, 1) := by decide +kernel
theorem dX1_settle_79 : decode cX1_settle 79 = .ok (.iadd, 1) := by decide +kernel
theorem dX1_settle_80 : decode cX1_settle 80 = .ok (.invokevirtual 34, 3) := by decide +kernel
theorem dX1_settle_83 : decode cX1_settle 83 = .ok (.bipush 48, 2) := by decide +kernel
theorem dX1_settle_85 : decode cX1_settle 85 = .ok (.isub, 1) := by decide +kernel
theorem dX1_settle_86 : decode cX1_settle 86 = .ok (.iastore, 1) := by decide +kernel
theorem dX1_settle_87 : decode cX1_settle 87 = .ok (.aload_n 0, 1) := by decide +kernel
theorem dX1_settle_88 : decode cX1_settle 88 = .ok (.getfield 25, 3) := by decide +kernel
theorem dX1_settle_91 : decode cX1_settle 91 = .ok (.iload 5, 2) := by decide +kernel
theorem dX1_settle_93 : decode cX1_settle 93 = .ok (.aload_n 1, 1) := by decide +kernel
theorem dX1_settle_94 : decode cX1_settle 94 = .ok (.iload_n 2, 1) := by decide +kernel
theorem dX1_settle_95 : decode cX1_settle 95 = .ok (.iload 6, 2) := by decide +kernel
theorem dX1_settle_97 : decode cX1_settle 97 = .ok (.iconst 3, 1) := by decide +kernel
theorem dX1_settle_98 : decode cX1_settle 98 = .ok (.iadd, 1) := by decide +kernel
theorem dX1_settle_99 : decode cX1_settle 99 = .ok (.invokevirtual 34, 3) := by decide +kernel
theorem dX1_settle_102 : decode cX1_settle 102 = .ok (.bipush 48, 2) := by decide +kernel
theorem dX1_settle_104 : decode cX1_settle 104 = .ok (.isub, 1) := by decide +kernel
theorem dX1_settle_105 : decode cX1_settle 105 = .ok (.iastore, 1) := by decide +kernel
theorem dX1_settle_106 : decode cX1_settle 106 = .ok (.aload_n 0, 1) := by decide +kernel
theorem dX1_settle_107 : decode cX1_settle 107 = .ok (.getfield 28, 3) := by decide +kernel
theorem dX1_settle_110 : decode cX1_settle 110 = .ok (.iload 5, 2) := by decide +kernel
theorem dX1_settle_112 : decode cX1_settle 112 = .ok (.aload_n 1, 1) := by decide +kernel
theorem dX1_settle_113 : decode cX1_settle 113 = .ok (.iload_n 2, 1) := by decide +kernel
theorem dX1_settle_114 : decode cX1_settle 114 = .ok (.iload 6, 2) := by decide +kernel
theorem dX1_settle_116 : decode cX1_settle 116 = .ok (.iconst 4, 1) := by decide +kernel
theorem dX1_settle_117 : decode cX1_settle 117 = .ok (.iadd, 1) := by decide +kernel
theorem dX1_settle_118 : decode cX1_settle 118 = .ok (.invokevirtual 34, 3) := by decide +kernel
theorem dX1_settle_121 : decode cX1_settle 121 = .ok (.bipush 48, 2) := by decide +kernel
theorem dX1_settle_123 : decode cX1_settle 123 = .ok (.isub, 1) := by decide +kernel
theorem dX1_settle_124 : decode cX1_settle 124 = .ok (.iastore, 1) := by decide +kernel
theorem dX1_settle_125 : decode cX1_settle 125 = .ok (.aload_n 0, 1) := by decide +kernel
theorem dX1_settle_126 : decode cX1_settle 126 = .ok (.getfield 31, 3) := by decide +kernel
theorem dX1_settle_129 : decode cX1_settle 129 = .ok (.iload 5, 2) := by decide +kernel
theorem dX1_settle_131 : decode cX1_settle 131 = .ok (.aload_n 1, 1) := by decide +kernel
theorem dX1_settle_132 : decode cX1_settle 132 = .ok (.iload_n 2, 1) := by decide +kernel
theorem dX1_settle_133 : decode cX1_settle 133 = .ok (.iload 6, 2) := by decide +kernel
theorem dX1_settle_135 : decode cX1_settle 135 = .ok (.iconst 5, 1) := by decide +kernel
theorem dX1_settle_136 : decode cX1_settle 136 = .ok (.iadd, 1) := by decide +kernel
theorem dX1_settle_137 : decode cX1_settle 137 = .ok (.invokevirtual 34, 3) := by decide +kernel
theorem dX1_settle_140 : decode cX1_settle 140 = .ok (.bipush 48, 2) := by decide +kernel
theorem dX1_settle_142 : decode cX1_settle 142 = .ok (.isub, 1) := by decide +kernel
theorem dX1_settle_143 : decode cX1_settle 143 = .ok (.iastore, 1) := by decide +kernel
theorem dX1_settle_144 : decode cX1_settle 144 = .ok (.iinc 5 1, 3) := by decide +kernel
theorem dX1_settle_147 : decode cX1_settle 147 = .ok (.goto (-118), 3) := by decide +kernel
theorem dX1_settle_150 : decode cX1_settle 150 = .ok (.return_, 1) := by decide +kernel
theorem dX1_sleepOf_0 : decode cX1_sleepOf 0 = .ok (.aload_n 0, 1) := by decide +kernel
theorem dX1_sleepOf_1 : decode cX1_sleepOf 1 = .ok (.getfield 18, 3) := by decide +kernel
theorem dX1_sleepOf_4 : decode cX1_sleepOf 4 = .ok (.iload_n 1, 1) := by decide +kernel
theorem dX1_sleepOf_5 : decode cX1_sleepOf 5 = .ok (.iaload, 1) := by decide +kernel
theorem dX1_sleepOf_6 : decode cX1_sleepOf 6 = .ok (.lookupswitch 46 #[(1, 37), (2, 26)], 26) := by decide +kernel
theorem dX1_sleepOf_32 : decode cX1_sleepOf 32 = .ok (.iconst 2, 1) := by decide +kernel
theorem dX1_sleepOf_33 : decode cX1_sleepOf 33 = .ok (.aload_n 0, 1) := by decide +kernel
theorem dX1_sleepOf_34 : decode cX1_sleepOf 34 = .ok (.getfield 31, 3) := by decide +kernel
theorem dX1_sleepOf_37 : decode cX1_sleepOf 37 = .ok (.iload_n 1, 1) := by decide +kernel
theorem dX1_sleepOf_38 : decode cX1_sleepOf 38 = .ok (.iaload, 1) := by decide +kernel
theorem dX1_sleepOf_39 : decode cX1_sleepOf 39 = .ok (.iconst 2, 1) := by decide +kernel
theorem dX1_sleepOf_40 : decode cX1_sleepOf 40 = .ok (.iadd, 1) := by decide +kernel
theorem dX1_sleepOf_41 : decode cX1_sleepOf 41 = .ok (.imul, 1) := by decide +kernel
theorem dX1_sleepOf_42 : decode cX1_sleepOf 42 = .ok (.ireturn, 1) := by decide +kernel
theorem dX1_sleepOf_43 : decode cX1_sleepOf 43 = .ok (.aload_n 0, 1) := by decide +kernel
theorem dX1_sleepOf_44 : decode cX1_sleepOf 44 = .ok (.getfield 31, 3) := by decide +kernel
theorem dX1_sleepOf_47 : decode cX1_sleepOf 47 = .ok (.iload_n 1, 1) := by decide +kernel
theorem dX1_sleepOf_48 : decode cX1_sleepOf 48 = .ok (.iaload, 1) := by decide +kernel
theorem dX1_sleepOf_49 : decode cX1_sleepOf 49 = .ok (.iconst 2, 1) := by decide +kernel
theorem dX1_sleepOf_50 : decode cX1_sleepOf 50 = .ok (.iadd, 1) := by decide +kernel
theorem dX1_sleepOf_51 : decode cX1_sleepOf 51 = .ok (.ireturn, 1) := by decide +kernel
theorem dX1_sleepOf_52 : decode cX1_sleepOf 52 = .ok (.aload_n 0, 1) := by decide +kernel
theorem dX1_sleepOf_53 : decode cX1_sleepOf 53 = .ok (.getfield 31, 3) := by decide +kernel
theorem dX1_sleepOf_56 : decode cX1_sleepOf 56 = .ok (.iload_n 1, 1) := by decide +kernel
theorem dX1_sleepOf_57 : decode cX1_sleepOf 57 = .ok (.iaload, 1) := by decide +kernel
theorem dX1_sleepOf_58 : decode cX1_sleepOf 58 = .ok (.ireturn, 1) := by decide +kernel
theorem dX1_setCount_0 : decode cX1_setCount 0 = .ok (.iconst 1, 1) := by decide +kernel
theorem dX1_setCount_1 : decode cX1_setCount 1 = .ok (.aload_n 0, 1) := by decide +kernel
theorem dX1_setCount_2 : decode cX1_setCount 2 = .ok (.getfield 15, 3) := by decide +kernel
theorem dX1_setCount_5 : decode cX1_setCount 5 = .ok (.ishl, 1) := by decide +kernel
theorem dX1_setCount_6 : decode cX1_setCount 6 = .ok (.ireturn, 1) := by decide +kernel
theorem dX2_init_0 : decode cX2_init 0 = .ok (.aload_n 0, 1) := by decide +kernel
theorem dX2_init_1 : decode cX2_init 1 = .ok (.invokespecial 3, 3) := by decide +kernel
theorem dX2_init_4 : decode cX2_init 4 = .ok (.aload_n 0, 1) := by decide +kernel
theorem dX2_init_5 : decode cX2_init 5 = .ok (.iconst 0, 1) := by decide +kernel
theorem dX2_init_6 : decode cX2_init 6 = .ok (.putfield 9, 3) := by decide +kernel
theorem dX2_init_9 : decode cX2_init 9 = .ok (.aload_n 0, 1) := by decide +kernel
theorem dX2_init_10 : decode cX2_init 10 = .ok (.iconst 0, 1) := by decide +kernel
theorem dX2_init_11 : decode cX2_init 11 = .ok (.putfield 15, 3) := by decide +kernel
theorem dX2_init_14 : decode cX2_init 14 = .ok (.aload_n 0, 1) := by decide +kernel
theorem dX2_init_15 : decode cX2_init 15 = .ok (.iconst 0, 1) := by decide +kernel
theorem dX2_init_16 : decode cX2_init 16 = .ok (.putfield 18, 3) := by decide +kernel
theorem dX2_init_19 : decode cX2_init 19 = .ok (.aload_n 0, 1) := by decide +kernel
theorem dX2_init_20 : decode cX2_init 20 = .ok (.iconst 4, 1) := by decide +kernel
theorem dX2_init_21 : decode cX2_init 21 = .ok (.newarray .int, 2) := by decide +kernel
theorem dX2_init_23 : decode cX2_init 23 = .ok (.putfield 21, 3) := by decide +kernel
theorem dX2_init_26 : decode cX2_init 26 = .ok (.aload_n 0, 1) := by decide +kernel
theorem dX2_init_27 : decode cX2_init 27 = .ok (.bipush 7, 2) := by decide +kernel
theorem dX2_init_29 : decode cX2_init 29 = .ok (.newarray .int, 2) := by decide +kernel
theorem dX2_init_31 : decode cX2_init 31 = .ok (.putfield 25, 3) := by decide +kernel
theorem dX2_init_34 : decode cX2_init 34 = .ok (.aload_n 0, 1) := by decide +kernel
theorem dX2_init_35 : decode cX2_init 35 = .ok (.bipush 7, 2) := by decide +kernel
theorem dX2_init_37 : decode cX2_init 37 = .ok (.newarray .int, 2) := by decide +kernel
theorem dX2_init_39 : decode cX2_init 39 = .ok (.putfield 28, 3) := by decide +kernel
theorem dX2_init_42 : decode cX2_init 42 = .ok (.aload_n 0, 1) := by decide +kernel
theorem dX2_init_43 : decode cX2_init 43 = .ok (.bipush 7, 2) := by decide +kernel
theorem dX2_init_45 : decode cX2_init 45 = .ok (.newarray .int, 2) := by decide +kernel
theorem dX2_init_47 : decode cX2_init 47 = .ok (.putfield 31, 3) := by decide +kernel
theorem dX2_init_50 : decode cX2_init 50 = .ok (.aload_n 0, 1) := by decide +kernel
theorem dX2_init_51 : decode cX2_init 51 = .ok (.getfield 21, 3) := by decide +kernel
theorem dX2_init_54 : decode cX2_init 54 = .ok (.bipush 40, 2) := by decide +kernel
theorem dX2_init_56 : decode cX2_init 56 = .ok (.invokestatic 34, 3) := by decide +kernel
theorem dX2_init_59 : decode cX2_init 59 = .ok (.return_, 1) := by decide +kernel
theorem dX2_clear_0 : decode cX2_clear 0 = .ok (.aload_n 0, 1) := by decide +kernel
theorem dX2_clear_1 : decode cX2_clear 1 = .ok (.iconst 0, 1) := by decide +kernel
theorem dX2_clear_2 : decode cX2_clear 2 = .ok (.putfield 9, 3) := by decide +kernel
theorem dX2_clear_5 : decode cX2_clear 5 = .ok (.aload_n 0, 1) := by decide +kernel
theorem dX2_clear_6 : decode cX2_clear 6 = .ok (.iconst 0, 1) := by decide +kernel
theorem dX2_clear_7 : decode cX2_clear 7 = .ok (.putfield 15, 3) := by decide +kernel
theorem dX2_clear_10 : decode cX2_clear 10 = .ok (.aload_n 0, 1) := by decide +kernel
theorem dX2_clear_11 : decode cX2_clear 11 = .ok (.iconst 0, 1) := by decide +kernel
theorem dX2_clear_12 : decode cX2_clear 12 = .ok (.putfield 18, 3) := by decide +kernel
theorem dX2_clear_15 : decode cX2_clear 15 = .ok (.aload_n 0, 1) := by decide +kernel
theorem dX2_clear_16 : decode cX2_clear 16 = .ok (.getfield 21, 3) := by decide +kernel
theorem dX2_clear_19 : decode cX2_clear 19 = .ok (.bipush 40, 2) := by decide +kernel
theorem dX2_clear_21 : decode cX2_clear 21 = .ok (.invokestatic 34, 3) := by decide +kernel
theorem dX2_clear_24 : decode cX2_clear 24 = .ok (.return_, 1) := by decide +kernel
theorem dX2_takeOver_0 : decode cX2_takeOver 0 = .ok (.aload_n 0, 1) := by decide +kernel
theorem dX2_takeOver_1 : decode cX2_takeOver 1 = .ok (.aload_n 1, 1) := by decide +kernel
theorem dX2_takeOver_2 : decode cX2_takeOver 2 = .ok (.getfield 9, 3) := by decide +kernel
theorem dX2_takeOver_5 : decode cX2_takeOver 5 = .ok (.putfield 9, 3) := by decide +kernel
theorem dX2_takeOver_8 : decode cX2_takeOver 8 = .ok (.aload_n 0, 1) := by decide +kernel
theorem dX2_takeOver_9 : decode cX2_takeOver 9 = .ok (.aload_n 1, 1) := by decide +kernel
theorem dX2_takeOver_10 : decode cX2_takeOver 10 = .ok (.getfield 15, 3) := by decide +kernel
theorem dX2_takeOver_13 : decode cX2_takeOver 13 = .ok (.putfield 15, 3) := by decide +kernel
theorem dX2_takeOver_16 : decode cX2_takeOver 16 = .ok (.aload_n 0, 1) := by decide +kernel
theorem dX2_takeOver_17 : decode cX2_takeOver 17 = .ok (.aload_n 1, 1) := by decide +kernel
theorem dX2_takeOver_18 : decode cX2_takeOver 18 = .ok (.getfield 18, 3) := by decide +kernel
theorem dX2_takeOver_21 : decode cX2_takeOver 21 = .ok (.putfield 18, 3) := by decide +kernel
theorem dX2_takeOver_24 : decode cX2_takeOver 24 = .ok (.aload_n 1, 1) := by decide +kernel
theorem dX2_takeOver_25 : decode cX2_takeOver 25 = .ok (.getfield 21, 3) := by decide +kernel
theorem dX2_takeOver_28 : decode cX2_takeOver 28 = .ok (.iconst 0, 1) := by decide +kernel
theorem dX2_takeOver_29 : decode cX2_takeOver 29 = .ok (.aload_n 0, 1) := by decide +kernel
theorem dX2_takeOver_30 : decode cX2_takeOver 30 = .ok (.getfield 21, 3) := by decide +kernel
theorem dX2_takeOver_33 : decode cX2_takeOver 33 = .ok (.iconst 0, 1) := by decide +kernel
theorem dX2_takeOver_34 : decode cX2_takeOver 34 = .ok (.iconst 4, 1) := by decide +kernel
theorem dX2_takeOver_35 : decode cX2_takeOver 35 = .ok (.invokestatic 40, 3) := by decide +kernel
theorem dX2_takeOver_38 : decode cX2_takeOver 38 = .ok (.aload_n 1, 1) := by decide +kernel
theorem dX2_takeOver_39 : decode cX2_takeOver 39 = .ok (.getfield 25, 3) := by decide +kernel
theorem dX2_takeOver_42 : decode cX2_takeOver 42 = .ok (.iconst 0, 1) := by decide +kernel
theorem dX2_takeOver_43 : decode cX2_takeOver 43 = .ok (.aload_n 0, 1) := by decide +kernel
theorem dX2_takeOver_44 : decode cX2_takeOver 44 = .ok (.getfield 25, 3) := by decide +kernel
theorem dX2_takeOver_47 : decode cX2_takeOver 47 = .ok (.iconst 0, 1) := by decide +kernel
theorem dX2_takeOver_48 : decode cX2_takeOver 48 = .ok (.bipush 6, 2) := by decide +kernel
theorem dX2_takeOver_50 : decode cX2_takeOver 50 = .ok (.invokestatic 40, 3) := by decide +kernel
theorem dX2_takeOver_53 : decode cX2_takeOver 53 = .ok (.aload_n 1, 1) := by decide +kernel
theorem dX2_takeOver_54 : decode cX2_takeOver 54 = .ok (.getfield 28, 3) := by decide +kernel
theorem dX2_takeOver_57 : decode cX2_takeOver 57 = .ok (.iconst 0, 1) := by decide +kernel
theorem dX2_takeOver_58 : decode cX2_takeOver 58 = .ok (.aload_n 0, 1) := by decide +kernel
theorem dX2_takeOver_59 : decode cX2_takeOver 59 = .ok (.getfield 28, 3) := by decide +kernel
theorem dX2_takeOver_62 : decode cX2_takeOver 62 = .ok (.iconst 0, 1) := by decide +kernel
theorem dX2_takeOver_63 : decode cX2_takeOver 63 = .ok (.bipush 6, 2) := by decide +kernel
theorem dX2_takeOver_65 : decode cX2_takeOver 65 = .ok (.invokestatic 40, 3) := by decide +kernel
theorem dX2_takeOver_68 : decode cX2_takeOver 68 = .ok (.aload_n 1, 1) := by decide +kernel
theorem dX2_takeOver_69 : decode cX2_takeOver 69 = .ok (.getfield 31, 3) := by decide +kernel
theorem dX2_takeOver_72 : decode cX2_takeOver 72 = .ok (.iconst 0, 1) := by decide +kernel
theorem dX2_takeOver_73 : decode cX2_takeOver 73 = .ok (.aload_n 0, 1) := by decide +kernel
theorem dX2_takeOver_74 : decode cX2_takeOver 74 = .ok (.getfield 31, 3) := by decide +kernel
theorem dX2_takeOver_77 : decode cX2_takeOver 77 = .ok (.iconst 0, 1) := by decide +kernel
theorem dX2_takeOver_78 : decode cX2_takeOver 78 = .ok (.bipush 6, 2) := by decide +kernel
theorem dX2_takeOver_80 : decode cX2_takeOver 80 = .ok (.invokestatic 40, 3) := by decide +kernel
theorem dX2_takeOver_83 : decode cX2_takeOver 83 = .ok (.return_, 1) := by decide +kernel
theorem dX2_addWill_0 : decode cX2_addWill 0 = .ok (.aload_n 0, 1) := by decide +kernel
theorem dX2_addWill_1 : decode cX2_addWill 1 = .ok (.getfield 18, 3) := by decide +kernel
theorem dX2_addWill_4 : decode cX2_addWill 4 = .ok (.bipush 6, 2) := by decide +kernel
theorem dX2_addWill_6 : decode cX2_addWill 6 = .ok (.if_icmp .le 4, 3) := by decide +kernel
theorem dX2_addWill_9 : decode cX2_addWill 9 = .ok (.return_, 1) := by decide +kernel
theorem dX2_addWill_10 : decode cX2_addWill 10 = .ok (.aload_n 0, 1) := by decide +kernel
theorem dX2_addWill_11 : decode cX2_addWill 11 = .ok (.getfield 25, 3) := by decide +kernel
theorem dX2_addWill_14 : decode cX2_addWill 14 = .ok (.aload_n 0, 1) := by decide +kernel
theorem dX2_addWill_15 : decode cX2_addWill 15 = .ok (.getfield 18, 3) := by decide +kernel
theorem dX2_addWill_18 : decode cX2_addWill 18 = .ok (.iload_n 1, 1) := by decide +kernel
theorem dX2_addWill_19 : decode cX2_addWill 19 = .ok (.iastore, 1) := by decide +kernel
theorem dX2_addWill_20 : decode cX2_addWill 20 = .ok (.aload_n 0, 1) := by decide +kernel
theorem dX2_addWill_21 : decode cX2_addWill 21 = .ok (.getfield 28, 3) := by decide +kernel
theorem dX2_addWill_24 : decode cX2_addWill 24 = .ok (.aload_n 0, 1) := by decide +kernel
theorem dX2_addWill_25 : decode cX2_addWill 25 = .ok (.getfield 18, 3) := by decide +kernel
theorem dX2_addWill_28 : decode cX2_addWill 28 = .ok (.iload_n 2, 1) := by decide +kernel
theorem dX2_addWill_29 : decode cX2_addWill 29 = .ok (.iastore, 1) := by decide +kernel
theorem dX2_addWill_30 : decode cX2_addWill 30 = .ok (.aload_n 0, 1) := by decide +kernel
theorem dX2_addWill_31 : decode cX2_addWill 31 = .ok (.getfield 31, 3) := by decide +kernel
theorem dX2_addWill_34 : decode cX2_addWill 34 = .ok (.aload_n 0, 1) := by decide +kernel
theorem dX2_addWill_35 : decode cX2_addWill 35 = .ok (.getfield 18, 3) := by decide +kernel
theorem dX2_addWill_38 : decode cX2_addWill 38 = .ok (.iload_n 3, 1) := by decide +kernel
theorem dX2_addWill_39 : decode cX2_addWill 39 = .ok (.iastore, 1) := by decide +kernel
theorem dX2_addWill_40 : decode cX2_addWill 40 = .ok (.aload_n 0, 1) := by decide +kernel
theorem dX2_addWill_41 : decode cX2_addWill 41 = .ok (.dup, 1) := by decide +kernel
theorem dX2_addWill_42 : decode cX2_addWill 42 = .ok (.getfield 18, 3) := by decide +kernel
theorem dX2_addWill_45 : decode cX2_addWill 45 = .ok (.iconst 1, 1) := by decide +kernel
theorem dX2_addWill_46 : decode cX2_addWill 46 = .ok (.iadd, 1) := by decide +kernel
theorem dX2_addWill_47 : decode cX2_addWill 47 = .ok (.putfield 18, 3) := by decide +kernel
theorem dX2_addWill_50 : decode cX2_addWill 50 = .ok (.return_, 1) := by decide +kernel
theorem dX2_willedOf_0 : decode cX2_willedOf 0 = .ok (.iconst 0, 1) := by decide +kernel
theorem dX2_willedOf_1 : decode cX2_willedOf 1 = .ok (.istore 4, 2) := by decide +kernel
theorem dX2_willedOf_3 : decode cX2_willedOf 3 = .ok (.iload 4, 2) := by decide +kernel
theorem dX2_willedOf_5 : decode cX2_willedOf 5 = .ok (.aload_n 0, 1) := by decide +kernel
theorem dX2_willedOf_6 : decode cX2_willedOf 6 = .ok (.getfield 18, 3) := by decide +kernel
theorem dX2_willedOf_9 : decode cX2_willedOf 9 = .ok (.if_icmp .ge 65, 3) := by decide +kernel
theorem dX2_willedOf_12 : decode cX2_willedOf 12 = .ok (.aload_n 0, 1) := by decide +kernel
theorem dX2_willedOf_13 : decode cX2_willedOf 13 = .ok (.getfield 25, 3) := by decide +kernel
theorem dX2_willedOf_16 : decode cX2_willedOf 16 = .ok (.iload 4, 2) := by decide +kernel
theorem dX2_willedOf_18 : decode cX2_willedOf 18 = .ok (.iaload, 1) := by decide +kernel
theorem dX2_willedOf_19 : decode cX2_willedOf 19 = .ok (.iload_n 2, 1) := by decide +kernel
theorem dX2_willedOf_20 : decode cX2_willedOf 20 = .ok (.if_icmp .ne 18, 3) := by decide +kernel
theorem dX2_willedOf_23 : decode cX2_willedOf 23 = .ok (.aload_n 0, 1) := by decide +kernel
theorem dX2_willedOf_24 : decode cX2_willedOf 24 = .ok (.getfield 31, 3) := by decide +kernel
theorem dX2_willedOf_27 : decode cX2_willedOf 27 = .ok (.iload 4, 2) := by decide +kernel
theorem dX2_willedOf_29 : decode cX2_willedOf 29 = .ok (.iaload, 1) := by decide +kernel
theorem dX2_willedOf_30 : decode cX2_willedOf 30 = .ok (.iload_n 3, 1) := by decide +kernel
theorem dX2_willedOf_31 : decode cX2_willedOf 31 = .ok (.if_icmp .ne 7, 3) := by decide +kernel
theorem dX2_willedOf_34 : decode cX2_willedOf 34 = .ok (.iconst 1, 1) := by decide +kernel
theorem dX2_willedOf_35 : decode cX2_willedOf 35 = .ok (.goto 4, 3) := by decide +kernel
theorem dX2_willedOf_38 : decode cX2_willedOf 38 = .ok (.iconst 0, 1) := by decide +kernel
theorem dX2_willedOf_39 : decode cX2_willedOf 39 = .ok (.istore 5, 2) := by decide +kernel
theorem dX2_willedOf_41 : decode cX2_willedOf 41 = .ok (.iload 5, 2) := by decide +kernel
theorem dX2_willedOf_43 : decode cX2_willedOf 43 = .ok (.ifCond .eq 25, 3) := by decide +kernel
theorem dX2_willedOf_46 : decode cX2_willedOf 46 = .ok (.iload_n 1, 1) := by decide +kernel
theorem dX2_willedOf_47 : decode cX2_willedOf 47 = .ok (.aload_n 0, 1) := by decide +kernel
theorem dX2_willedOf_48 : decode cX2_willedOf 48 = .ok (.getfield 28, 3) := by decide +kernel
theorem dX2_willedOf_51 : decode cX2_willedOf 51 = .ok (.iload 4, 2) := by decide +kernel
theorem dX2_willedOf_53 : decode cX2_willedOf 53 = .ok (.iaload, 1) := by decide +kernel
theorem dX2_willedOf_54 : decode cX2_willedOf 54 = .ok (.ishr, 1) := by decide +kernel
theorem dX2_willedOf_55 : decode cX2_willedOf 55 = .ok (.iconst 1, 1) := by decide +kernel
theorem dX2_willedOf_56 : decode cX2_willedOf 56 = .ok (.iand, 1) := by decide +kernel
theorem dX2_willedOf_57 : decode cX2_willedOf 57 = .ok (.ifCond .eq 11, 3) := by decide +kernel
theorem dX2_willedOf_60 : decode cX2_willedOf 60 = .ok (.aload_n 0, 1) := by decide +kernel
theorem dX2_willedOf_61 : decode cX2_willedOf 61 = .ok (.getfield 28, 3) := by decide +kernel
theorem dX2_willedOf_64 : decode cX2_willedOf 64 = .ok (.iload 4, 2) := by decide +kernel
theorem dX2_willedOf_66 : decode cX2_willedOf 66 = .ok (.iaload, 1) := by decide +kernel
theorem dX2_willedOf_67 : decode cX2_willedOf 67 = .ok (.ireturn, 1) := by decide +kernel
theorem dX2_willedOf_68 : decode cX2_willedOf 68 = .ok (.iinc 4 1, 3) := by decide +kernel
theorem dX2_willedOf_71 : decode cX2_willedOf 71 = .ok (.goto (-68), 3) := by decide +kernel
theorem dX2_willedOf_74 : decode cX2_willedOf 74 = .ok (.bipush (-9), 2) := by decide +kernel
theorem dX2_willedOf_76 : decode cX2_willedOf 76 = .ok (.ireturn, 1) := by decide +kernel
theorem dX3_init_0 : decode cX3_init 0 = .ok (.aload_n 0, 1) := by decide +kernel
theorem dX3_init_1 : decode cX3_init 1 = .ok (.invokespecial 3, 3) := by decide +kernel
theorem dX3_init_4 : decode cX3_init 4 = .ok (.aload_n 0, 1) := by decide +kernel
theorem dX3_init_5 : decode cX3_init 5 = .ok (.iconst 0, 1) := by decide +kernel
theorem dX3_init_6 : decode cX3_init 6 = .ok (.putfield 9, 3) := by decide +kernel
theorem dX3_init_9 : decode cX3_init 9 = .ok (.aload_n 0, 1) := by decide +kernel
theorem dX3_init_10 : decode cX3_init 10 = .ok (.bipush 8, 2) := by decide +kernel
theorem dX3_init_12 : decode cX3_init 12 = .ok (.newarray .int, 2) := by decide +kernel
theorem dX3_init_14 : decode cX3_init 14 = .ok (.putfield 15, 3) := by decide +kernel
theorem dX3_init_17 : decode cX3_init 17 = .ok (.aload_n 0, 1) := by decide +kernel
theorem dX3_init_18 : decode cX3_init 18 = .ok (.bipush 8, 2) := by decide +kernel
theorem dX3_init_20 : decode cX3_init 20 = .ok (.newarray .int, 2) := by decide +kernel
theorem dX3_init_22 : decode cX3_init 22 = .ok (.putfield 19, 3) := by decide +kernel
theorem dX3_init_25 : decode cX3_init 25 = .ok (.aload_n 0, 1) := by decide +kernel
theorem dX3_init_26 : decode cX3_init 26 = .ok (.bipush 8, 2) := by decide +kernel
theorem dX3_init_28 : decode cX3_init 28 = .ok (.newarray .int, 2) := by decide +kernel
theorem dX3_init_30 : decode cX3_init 30 = .ok (.putfield 22, 3) := by decide +kernel
theorem dX3_init_33 : decode cX3_init 33 = .ok (.return_, 1) := by decide +kernel
theorem dX3_addReading_0 : decode cX3_addReading 0 = .ok (.aload_n 0, 1) := by decide +kernel
theorem dX3_addReading_1 : decode cX3_addReading 1 = .ok (.getfield 15, 3) := by decide +kernel
theorem dX3_addReading_4 : decode cX3_addReading 4 = .ok (.aload_n 0, 1) := by decide +kernel
theorem dX3_addReading_5 : decode cX3_addReading 5 = .ok (.getfield 9, 3) := by decide +kernel
theorem dX3_addReading_8 : decode cX3_addReading 8 = .ok (.iload_n 1, 1) := by decide +kernel
theorem dX3_addReading_9 : decode cX3_addReading 9 = .ok (.iastore, 1) := by decide +kernel
theorem dX3_addReading_10 : decode cX3_addReading 10 = .ok (.aload_n 0, 1) := by decide +kernel
theorem dX3_addReading_11 : decode cX3_addReading 11 = .ok (.getfield 19, 3) := by decide +kernel
theorem dX3_addReading_14 : decode cX3_addReading 14 = .ok (.aload_n 0, 1) := by decide +kernel
theorem dX3_addReading_15 : decode cX3_addReading 15 = .ok (.getfield 9, 3) := by decide +kernel
theorem dX3_addReading_18 : decode cX3_addReading 18 = .ok (.iload_n 2, 1) := by decide +kernel
theorem dX3_addReading_19 : decode cX3_addReading 19 = .ok (.iastore, 1) := by decide +kernel
theorem dX3_addReading_20 : decode cX3_addReading 20 = .ok (.aload_n 0, 1) := by decide +kernel
theorem dX3_addReading_21 : decode cX3_addReading 21 = .ok (.getfield 22, 3) := by decide +kernel
theorem dX3_addReading_24 : decode cX3_addReading 24 = .ok (.aload_n 0, 1) := by decide +kernel
theorem dX3_addReading_25 : decode cX3_addReading 25 = .ok (.getfield 9, 3) := by decide +kernel
theorem dX3_addReading_28 : decode cX3_addReading 28 = .ok (.iload_n 3, 1) := by decide +kernel
theorem dX3_addReading_29 : decode cX3_addReading 29 = .ok (.iastore, 1) := by decide +kernel
theorem dX3_addReading_30 : decode cX3_addReading 30 = .ok (.aload_n 0, 1) := by decide +kernel
theorem dX3_addReading_31 : decode cX3_addReading 31 = .ok (.dup, 1) := by decide +kernel
theorem dX3_addReading_32 : decode cX3_addReading 32 = .ok (.getfield 9, 3) := by decide +kernel
theorem dX3_addReading_35 : decode cX3_addReading 35 = .ok (.iconst 1, 1) := by decide +kernel
theorem dX3_addReading_36 : decode cX3_addReading 36 = .ok (.iadd, 1) := by decide +kernel
theorem dX3_addReading_37 : decode cX3_addReading 37 = .ok (.putfield 9, 3) := by decide +kernel
theorem dX3_addReading_40 : decode cX3_addReading 40 = .ok (.return_, 1) := by decide +kernel
theorem dX3_lastDecade_0 : decode cX3_lastDecade 0 = .ok (.iconst (-1), 1) := by decide +kernel
theorem dX3_lastDecade_1 : decode cX3_lastDecade 1 = .ok (.istore_n 1, 1) := by decide +kernel
theorem dX3_lastDecade_2 : decode cX3_lastDecade 2 = .ok (.iconst 0, 1) := by decide +kernel
theorem dX3_lastDecade_3 : decode cX3_lastDecade 3 = .ok (.istore_n 2, 1) := by decide +kernel
theorem dX3_lastDecade_4 : decode cX3_lastDecade 4 = .ok (.iload_n 2, 1) := by decide +kernel
theorem dX3_lastDecade_5 : decode cX3_lastDecade 5 = .ok (.aload_n 0, 1) := by decide +kernel
theorem dX3_lastDecade_6 : decode cX3_lastDecade 6 = .ok (.getfield 9, 3) := by decide +kernel
theorem dX3_lastDecade_9 : decode cX3_lastDecade 9 = .ok (.if_icmp .ge 20, 3) := by decide +kernel
theorem dX3_lastDecade_12 : decode cX3_lastDecade 12 = .ok (.iload_n 1, 1) := by decide +kernel
theorem dX3_lastDecade_13 : decode cX3_lastDecade 13 = .ok (.aload_n 0, 1) := by decide +kernel
theorem dX3_lastDecade_14 : decode cX3_lastDecade 14 = .ok (.getfield 19, 3) := by decide +kernel
theorem dX3_lastDecade_17 : decode cX3_lastDecade 17 = .ok (.iload_n 2, 1) := by decide +kernel
theorem dX3_lastDecade_18 : decode cX3_lastDecade 18 = .ok (.iaload, 1) := by decide +kernel
theorem dX3_lastDecade_19 : decode cX3_lastDecade 19 = .ok (.invokestatic 25, 3) := by decide +kernel
theorem dX3_lastDecade_22 : decode cX3_lastDecade 22 = .ok (.istore_n 1, 1) := by decide +kernel
theorem dX3_lastDecade_23 : decode cX3_lastDecade 23 = .ok (.iinc 2 1, 3) := by decide +kernel
theorem dX3_lastDecade_26 : decode cX3_lastDecade 26 = .ok (.goto (-22), 3) := by decide +kernel
theorem dX3_lastDecade_29 : decode cX3_lastDecade 29 = .ok (.iload_n 1, 1) := by decide +kernel
theorem dX3_lastDecade_30 : decode cX3_lastDecade 30 = .ok (.ireturn, 1) := by decide +kernel
theorem dX3_areSo_0 : decode cX3_areSo 0 = .ok (.iconst 0, 1) := by decide +kernel
theorem dX3_areSo_1 : decode cX3_areSo 1 = .ok (.istore_n 2, 1) := by decide +kernel
theorem dX3_areSo_2 : decode cX3_areSo 2 = .ok (.iload_n 2, 1) := by decide +kernel
theorem dX3_areSo_3 : decode cX3_areSo 3 = .ok (.aload_n 0, 1) := by decide +kernel
theorem dX3_areSo_4 : decode cX3_areSo 4 = .ok (.getfield 9, 3) := by decide +kernel
theorem dX3_areSo_7 : decode cX3_areSo 7 = .ok (.if_icmp .ge 36, 3) := by decide +kernel
theorem dX3_areSo_10 : decode cX3_areSo 10 = .ok (.aload_n 1, 1) := by decide +kernel
theorem dX3_areSo_11 : decode cX3_areSo 11 = .ok (.aload_n 0, 1) := by decide +kernel
theorem dX3_areSo_12 : decode cX3_areSo 12 = .ok (.getfield 15, 3) := by decide +kernel
theorem dX3_areSo_15 : decode cX3_areSo 15 = .ok (.iload_n 2, 1) := by decide +kernel
theorem dX3_areSo_16 : decode cX3_areSo 16 = .ok (.iaload, 1) := by decide +kernel
theorem dX3_areSo_17 : decode cX3_areSo 17 = .ok (.aload_n 0, 1) := by decide +kernel
theorem dX3_areSo_18 : decode cX3_areSo 18 = .ok (.getfield 19, 3) := by decide +kernel
theorem dX3_areSo_21 : decode cX3_areSo 21 = .ok (.iload_n 2, 1) := by decide +kernel
theorem dX3_areSo_22 : decode cX3_areSo 22 = .ok (.iaload, 1) := by decide +kernel
theorem dX3_areSo_23 : decode cX3_areSo 23 = .ok (.invokevirtual 31, 3) := by decide +kernel
theorem dX3_areSo_26 : decode cX3_areSo 26 = .ok (.aload_n 0, 1) := by decide +kernel
theorem dX3_areSo_27 : decode cX3_areSo 27 = .ok (.getfield 22, 3) := by decide +kernel
theorem dX3_areSo_30 : decode cX3_areSo 30 = .ok (.iload_n 2, 1) := by decide +kernel
theorem dX3_areSo_31 : decode cX3_areSo 31 = .ok (.iaload, 1) := by decide +kernel
theorem dX3_areSo_32 : decode cX3_areSo 32 = .ok (.if_icmp .eq 5, 3) := by decide +kernel
theorem dX3_areSo_35 : decode cX3_areSo 35 = .ok (.iconst 0, 1) := by decide +kernel
theorem dX3_areSo_36 : decode cX3_areSo 36 = .ok (.ireturn, 1) := by decide +kernel
theorem dX3_areSo_37 : decode cX3_areSo 37 = .ok (.iinc 2 1, 3) := by decide +kernel
theorem dX3_areSo_40 : decode cX3_areSo 40 = .ok (.goto (-38), 3) := by decide +kernel
theorem dX3_areSo_43 : decode cX3_areSo 43 = .ok (.iconst 1, 1) := by decide +kernel
theorem dX3_areSo_44 : decode cX3_areSo 44 = .ok (.ireturn, 1) := by decide +kernel
theorem dX4_init_0 : decode cX4_init 0 = .ok (.aload_n 0, 1) := by decide +kernel
theorem dX4_init_1 : decode cX4_init 1 = .ok (.invokespecial 3, 3) := by decide +kernel
theorem dX4_init_4 : decode cX4_init 4 = .ok (.aload_n 0, 1) := by decide +kernel
theorem dX4_init_5 : decode cX4_init 5 = .ok (.iconst 4, 1) := by decide +kernel
theorem dX4_init_6 : decode cX4_init 6 = .ok (.newarray .int, 2) := by decide +kernel
theorem dX4_init_8 : decode cX4_init 8 = .ok (.putfield 9, 3) := by decide +kernel
theorem dX4_init_11 : decode cX4_init 11 = .ok (.aload_n 0, 1) := by decide +kernel
theorem dX4_init_12 : decode cX4_init 12 = .ok (.iconst 4, 1) := by decide +kernel
theorem dX4_init_13 : decode cX4_init 13 = .ok (.newarray .int, 2) := by decide +kernel
theorem dX4_init_15 : decode cX4_init 15 = .ok (.putfield 15, 3) := by decide +kernel
theorem dX4_init_18 : decode cX4_init 18 = .ok (.aload_n 0, 1) := by decide +kernel
theorem dX4_init_19 : decode cX4_init 19 = .ok (.sipush 240, 3) := by decide +kernel
theorem dX4_init_22 : decode cX4_init 22 = .ok (.newarray .int, 2) := by decide +kernel
theorem dX4_init_24 : decode cX4_init 24 = .ok (.putfield 18, 3) := by decide +kernel
theorem dX4_init_27 : decode cX4_init 27 = .ok (.aload_n 0, 1) := by decide +kernel
theorem dX4_init_28 : decode cX4_init 28 = .ok (.getfield 9, 3) := by decide +kernel
theorem dX4_init_31 : decode cX4_init 31 = .ok (.bipush (-9), 2) := by decide +kernel
theorem dX4_init_33 : decode cX4_init 33 = .ok (.invokestatic 21, 3) := by decide +kernel
theorem dX4_init_36 : decode cX4_init 36 = .ok (.return_, 1) := by decide +kernel
theorem dX4_has_0 : decode cX4_has 0 = .ok (.aload_n 0, 1) := by decide +kernel
theorem dX4_has_1 : decode cX4_has 1 = .ok (.getfield 9, 3) := by decide +kernel
theorem dX4_has_4 : decode cX4_has 4 = .ok (.iload_n 1, 1) := by decide +kernel
theorem dX4_has_5 : decode cX4_has 5 = .ok (.iaload, 1) := by decide +kernel
theorem dX4_has_6 : decode cX4_has 6 = .ok (.bipush (-9), 2) := by decide +kernel
theorem dX4_has_8 : decode cX4_has 8 = .ok (.if_icmp .eq 7, 3) := by decide +kernel
theorem dX4_has_11 : decode cX4_has 11 = .ok (.iconst 1, 1) := by decide +kernel
theorem dX4_has_12 : decode cX4_has 12 = .ok (.goto 4, 3) := by decide +kernel
theorem dX4_has_15 : decode cX4_has 15 = .ok (.iconst 0, 1) := by decide +kernel
theorem dX4_has_16 : decode cX4_has 16 = .ok (.ireturn, 1) := by decide +kernel
theorem dX4_lay_0 : decode cX4_lay 0 = .ok (.aload_n 0, 1) := by decide +kernel
theorem dX4_lay_1 : decode cX4_lay 1 = .ok (.getfield 9, 3) := by decide +kernel
theorem dX4_lay_4 : decode cX4_lay 4 = .ok (.iload_n 1, 1) := by decide +kernel
theorem dX4_lay_5 : decode cX4_lay 5 = .ok (.iload_n 2, 1) := by decide +kernel
theorem dX4_lay_6 : decode cX4_lay 6 = .ok (.iastore, 1) := by decide +kernel
theorem dX4_lay_7 : decode cX4_lay 7 = .ok (.aload_n 0, 1) := by decide +kernel
theorem dX4_lay_8 : decode cX4_lay 8 = .ok (.getfield 15, 3) := by decide +kernel
theorem dX4_lay_11 : decode cX4_lay 11 = .ok (.iload_n 1, 1) := by decide +kernel
theorem dX4_lay_12 : decode cX4_lay 12 = .ok (.iload_n 3, 1) := by decide +kernel
theorem dX4_lay_13 : decode cX4_lay 13 = .ok (.iastore, 1) := by decide +kernel
theorem dX4_lay_14 : decode cX4_lay 14 = .ok (.iconst 0, 1) := by decide +kernel
theorem dX4_lay_15 : decode cX4_lay 15 = .ok (.istore 4, 2) := by decide +kernel
theorem dX4_lay_17 : decode cX4_lay 17 = .ok (.iload 4, 2) := by decide +kernel
theorem dX4_lay_19 : decode cX4_lay 19 = .ok (.iload_n 3, 1) := by decide +kernel
theorem dX4_lay_20 : decode cX4_lay 20 = .ok (.if_icmp .ge 22, 3) := by decide +kernel
theorem dX4_lay_23 : decode cX4_lay 23 = .ok (.aload_n 0, 1) := by decide +kernel
theorem dX4_lay_24 : decode cX4_lay 24 = .ok (.getfield 18, 3) := by decide +kernel
theorem dX4_lay_27 : decode cX4_lay 27 = .ok (.iload_n 1, 1) := by decide +kernel
theorem dX4_lay_28 : decode cX4_lay 28 = .ok (.bipush 60, 2) := by decide +kernel
theorem dX4_lay_30 : decode cX4_lay 30 = .ok (.imul, 1) := by decide +kernel
theorem dX4_lay_31 : decode cX4_lay 31 = .ok (.iload 4, 2) := by decide +kernel
theorem dX4_lay_33 : decode cX4_lay 33 = .ok (.iadd, 1) := by decide +kernel
theorem dX4_lay_34 : decode cX4_lay 34 = .ok (.iconst 0, 1) := by decide +kernel
theorem dX4_lay_35 : decode cX4_lay 35 = .ok (.iastore, 1) := by decide +kernel
theorem dX4_lay_36 : decode cX4_lay 36 = .ok (.iinc 4 1, 3) := by decide +kernel
theorem dX4_lay_39 : decode cX4_lay 39 = .ok (.goto (-22), 3) := by decide +kernel
theorem dX4_lay_42 : decode cX4_lay 42 = .ok (.return_, 1) := by decide +kernel
theorem dX4_drop_0 : decode cX4_drop 0 = .ok (.aload_n 0, 1) := by decide +kernel
theorem dX4_drop_1 : decode cX4_drop 1 = .ok (.getfield 9, 3) := by decide +kernel
theorem dX4_drop_4 : decode cX4_drop 4 = .ok (.iload_n 1, 1) := by decide +kernel
theorem dX4_drop_5 : decode cX4_drop 5 = .ok (.bipush (-9), 2) := by decide +kernel
theorem dX4_drop_7 : decode cX4_drop 7 = .ok (.iastore, 1) := by decide +kernel
theorem dX4_drop_8 : decode cX4_drop 8 = .ok (.aload_n 0, 1) := by decide +kernel
theorem dX4_drop_9 : decode cX4_drop 9 = .ok (.getfield 15, 3) := by decide +kernel
theorem dX4_drop_12 : decode cX4_drop 12 = .ok (.iload_n 1, 1) := by decide +kernel
theorem dX4_drop_13 : decode cX4_drop 13 = .ok (.iconst 0, 1) := by decide +kernel
theorem dX4_drop_14 : decode cX4_drop 14 = .ok (.iastore, 1) := by decide +kernel
theorem dX4_drop_15 : decode cX4_drop 15 = .ok (.return_, 1) := by decide +kernel
theorem dX4_spans_0 : decode cX4_spans 0 = .ok (.iload_n 2, 1) := by decide +kernel
theorem dX4_spans_1 : decode cX4_spans 1 = .ok (.ifCond .lt 33, 3) := by decide +kernel
theorem dX4_spans_4 : decode cX4_spans 4 = .ok (.iload_n 2, 1) := by decide +kernel
theorem dX4_spans_5 : decode cX4_spans 5 = .ok (.aload_n 0, 1) := by decide +kernel
theorem dX4_spans_6 : decode cX4_spans 6 = .ok (.getfield 15, 3) := by decide +kernel
theorem dX4_spans_9 : decode cX4_spans 9 = .ok (.iload_n 1, 1) := by decide +kernel
theorem dX4_spans_10 : decode cX4_spans 10 = .ok (.iaload, 1) := by decide +kernel
theorem dX4_spans_11 : decode cX4_spans 11 = .ok (.if_icmp .gt 23, 3) := by decide +kernel
theorem dX4_spans_14 : decode cX4_spans 14 = .ok (.iload_n 3, 1) := by decide +kernel
theorem dX4_spans_15 : decode cX4_spans 15 = .ok (.ifCond .lt 19, 3) := by decide +kernel
theorem dX4_spans_18 : decode cX4_spans 18 = .ok (.iload_n 3, 1) := by decide +kernel
theorem dX4_spans_19 : decode cX4_spans 19 = .ok (.aload_n 0, 1) := by decide +kernel
theorem dX4_spans_20 : decode cX4_spans 20 = .ok (.getfield 15, 3) := by decide +kernel
theorem dX4_spans_23 : decode cX4_spans 23 = .ok (.iload_n 1, 1) := by decide +kernel
theorem dX4_spans_24 : decode cX4_spans 24 = .ok (.iaload, 1) := by decide +kernel
theorem dX4_spans_25 : decode cX4_spans 25 = .ok (.iload_n 2, 1) := by decide +kernel
theorem dX4_spans_26 : decode cX4_spans 26 = .ok (.isub, 1) := by decide +kernel
theorem dX4_spans_27 : decode cX4_spans 27 = .ok (.if_icmp .gt 7, 3) := by decide +kernel
theorem dX4_spans_30 : decode cX4_spans 30 = .ok (.iconst 1, 1) := by decide +kernel
theorem dX4_spans_31 : decode cX4_spans 31 = .ok (.goto 4, 3) := by decide +kernel
theorem dX4_spans_34 : decode cX4_spans 34 = .ok (.iconst 0, 1) := by decide +kernel
theorem dX4_spans_35 : decode cX4_spans 35 = .ok (.ireturn, 1) := by decide +kernel
theorem dX4_read_0 : decode cX4_read 0 = .ok (.aload_n 0, 1) := by decide +kernel
theorem dX4_read_1 : decode cX4_read 1 = .ok (.getfield 18, 3) := by decide +kernel
theorem dX4_read_4 : decode cX4_read 4 = .ok (.iload_n 1, 1) := by decide +kernel
theorem dX4_read_5 : decode cX4_read 5 = .ok (.bipush 60, 2) := by decide +kernel
theorem dX4_read_7 : decode cX4_read 7 = .ok (.imul, 1) := by decide +kernel
theorem dX4_read_8 : decode cX4_read 8 = .ok (.iload_n 2, 1) := by decide +kernel
theorem dX4_read_9 : decode cX4_read 9 = .ok (.iadd, 1) := by decide +kernel
theorem dX4_read_10 : decode cX4_read 10 = .ok (.iaload, 1) := by decide +kernel
theorem dX4_read_11 : decode cX4_read 11 = .ok (.ireturn, 1) := by decide +kernel
theorem dX4_write_0 : decode cX4_write 0 = .ok (.iload_n 3, 1) := by decide +kernel
theorem dX4_write_1 : decode cX4_write 1 = .ok (.istore 4, 2) := by decide +kernel
theorem dX4_write_3 : decode cX4_write 3 = .ok (.aload_n 0, 1) := by decide +kernel
theorem dX4_write_4 : decode cX4_write 4 = .ok (.getfield 9, 3) := by decide +kernel
theorem dX4_write_7 : decode cX4_write 7 = .ok (.iload_n 1, 1) := by decide +kernel
theorem dX4_write_8 : decode cX4_write 8 = .ok (.iaload, 1) := by decide +kernel
theorem dX4_write_9 : decode cX4_write 9 = .ok (.ifCond .ne 7, 3) := by decide +kernel
theorem dX4_write_12 : decode cX4_write 12 = .ok (.iload_n 3, 1) := by decide +kernel
theorem dX4_write_13 : decode cX4_write 13 = .ok (.i2b, 1) := by decide +kernel
theorem dX4_write_14 : decode cX4_write 14 = .ok (.istore 4, 2) := by decide +kernel
theorem dX4_write_16 : decode cX4_write 16 = .ok (.aload_n 0, 1) := by decide +kernel
theorem dX4_write_17 : decode cX4_write 17 = .ok (.getfield 9, 3) := by decide +kernel
theorem dX4_write_20 : decode cX4_write 20 = .ok (.iload_n 1, 1) := by decide +kernel
theorem dX4_write_21 : decode cX4_write 21 = .ok (.iaload, 1) := by decide +kernel
theorem dX4_write_22 : decode cX4_write 22 = .ok (.iconst 1, 1) := by decide +kernel
theorem dX4_write_23 : decode cX4_write 23 = .ok (.if_icmp .ne 7, 3) := by decide +kernel
theorem dX4_write_26 : decode cX4_write 26 = .ok (.iload_n 3, 1) := by decide +kernel
theorem dX4_write_27 : decode cX4_write 27 = .ok (.i2s, 1) := by decide +kernel
theorem dX4_write_28 : decode cX4_write 28 = .ok (.istore 4, 2) := by decide +kernel
theorem dX4_write_30 : decode cX4_write 30 = .ok (.aload_n 0, 1) := by decide +kernel
theorem dX4_write_31 : decode cX4_write 31 = .ok (.getfield 18, 3) := by decide +kernel
theorem dX4_write_34 : decode cX4_write 34 = .ok (.iload_n 1, 1) := by decide +kernel
theorem dX4_write_35 : decode cX4_write 35 = .ok (.bipush 60, 2) := by decide +kernel
theorem dX4_write_37 : decode cX4_write 37 = .ok (.imul, 1) := by decide +kernel
theorem dX4_write_38 : decode cX4_write 38 = .ok (.iload_n 2, 1) := by decide +kernel
theorem dX4_write_39 : decode cX4_write 39 = .ok (.iadd, 1) := by decide +kernel
theorem dX4_write_40 : decode cX4_write 40 = .ok (.iload 4, 2) := by decide +kernel
theorem dX4_write_42 : decode cX4_write 42 = .ok (.iastore, 1) := by decide +kernel
theorem dX4_write_43 : decode cX4_write 43 = .ok (.return_, 1) := by decide +kernel
theorem dX4_move_0 : decode cX4_move 0 = .ok (.aload_n 0, 1) := by decide +kernel
theorem dX4_move_1 : decode cX4_move 1 = .ok (.getfield 18, 3) := by decide +kernel
theorem dX4_move_4 : decode cX4_move 4 = .ok (.iload_n 1, 1) := by decide +kernel
theorem dX4_move_5 : decode cX4_move 5 = .ok (.bipush 60, 2) := by decide +kernel
theorem dX4_move_7 : decode cX4_move 7 = .ok (.imul, 1) := by decide +kernel
theorem dX4_move_8 : decode cX4_move 8 = .ok (.iload_n 2, 1) := by decide +kernel
theorem dX4_move_9 : decode cX4_move 9 = .ok (.iadd, 1) := by decide +kernel
theorem dX4_move_10 : decode cX4_move 10 = .ok (.aload_n 0, 1) := by decide +kernel
theorem dX4_move_11 : decode cX4_move 11 = .ok (.getfield 18, 3) := by decide +kernel
theorem dX4_move_14 : decode cX4_move 14 = .ok (.iload_n 3, 1) := by decide +kernel
theorem dX4_move_15 : decode cX4_move 15 = .ok (.bipush 60, 2) := by decide +kernel
theorem dX4_move_17 : decode cX4_move 17 = .ok (.imul, 1) := by decide +kernel
theorem dX4_move_18 : decode cX4_move 18 = .ok (.iload 4, 2) := by decide +kernel
theorem dX4_move_20 : decode cX4_move 20 = .ok (.iadd, 1) := by decide +kernel
theorem dX4_move_21 : decode cX4_move 21 = .ok (.iload 5, 2) := by decide +kernel
theorem dX4_move_23 : decode cX4_move 23 = .ok (.invokestatic 27, 3) := by decide +kernel
theorem dX4_move_26 : decode cX4_move 26 = .ok (.return_, 1) := by decide +kernel
theorem dX5_init_0 : decode cX5_init 0 = .ok (.aload_n 0, 1) := by decide +kernel
theorem dX5_init_1 : decode cX5_init 1 = .ok (.invokespecial 3, 3) := by decide +kernel
theorem dX5_init_4 : decode cX5_init 4 = .ok (.new 9, 3) := by decide +kernel
theorem dX5_init_7 : decode cX5_init 7 = .ok (.dup, 1) := by decide +kernel
theorem dX5_init_8 : decode cX5_init 8 = .ok (.invokespecial 11, 3) := by decide +kernel
theorem dX5_init_11 : decode cX5_init 11 = .ok (.astore_n 1, 1) := by decide +kernel
theorem dX5_init_12 : decode cX5_init 12 = .ok (.aload_n 0, 1) := by decide +kernel
theorem dX5_init_13 : decode cX5_init 13 = .ok (.new 12, 3) := by decide +kernel
theorem dX5_init_16 : decode cX5_init 16 = .ok (.dup, 1) := by decide +kernel
theorem dX5_init_17 : decode cX5_init 17 = .ok (.invokespecial 14, 3) := by decide +kernel
theorem dX5_init_20 : decode cX5_init 20 = .ok (.putfield 15, 3) := by decide +kernel
theorem dX5_init_23 : decode cX5_init 23 = .ok (.aload_n 0, 1) := by decide +kernel
theorem dX5_init_24 : decode cX5_init 24 = .ok (.aload_n 1, 1) := by decide +kernel
theorem dX5_init_25 : decode cX5_init 25 = .ok (.putfield 21, 3) := by decide +kernel
theorem dX5_init_28 : decode cX5_init 28 = .ok (.aload_n 0, 1) := by decide +kernel
theorem dX5_init_29 : decode cX5_init 29 = .ok (.new 25, 3) := by decide +kernel
theorem dX5_init_32 : decode cX5_init 32 = .ok (.dup, 1) := by decide +kernel
theorem dX5_init_33 : decode cX5_init 33 = .ok (.invokespecial 27, 3) := by decide +kernel
theorem dX5_init_36 : decode cX5_init 36 = .ok (.putfield 28, 3) := by decide +kernel
theorem dX5_init_39 : decode cX5_init 39 = .ok (.aload_n 0, 1) := by decide +kernel
theorem dX5_init_40 : decode cX5_init 40 = .ok (.new 32, 3) := by decide +kernel
theorem dX5_init_43 : decode cX5_init 43 = .ok (.dup, 1) := by decide +kernel
theorem dX5_init_44 : decode cX5_init 44 = .ok (.invokespecial 34, 3) := by decide +kernel
theorem dX5_init_47 : decode cX5_init 47 = .ok (.putfield 35, 3) := by decide +kernel
theorem dX5_init_50 : decode cX5_init 50 = .ok (.aload_n 0, 1) := by decide +kernel
theorem dX5_init_51 : decode cX5_init 51 = .ok (.new 39, 3) := by decide +kernel
theorem dX5_init_54 : decode cX5_init 54 = .ok (.dup, 1) := by decide +kernel
theorem dX5_init_55 : decode cX5_init 55 = .ok (.aload_n 1, 1) := by decide +kernel
theorem dX5_init_56 : decode cX5_init 56 = .ok (.invokespecial 41, 3) := by decide +kernel
theorem dX5_init_59 : decode cX5_init 59 = .ok (.putfield 44, 3) := by decide +kernel
theorem dX5_init_62 : decode cX5_init 62 = .ok (.aload_n 0, 1) := by decide +kernel
theorem dX5_init_63 : decode cX5_init 63 = .ok (.new 25, 3) := by decide +kernel
theorem dX5_init_66 : decode cX5_init 66 = .ok (.dup, 1) := by decide +kernel
theorem dX5_init_67 : decode cX5_init 67 = .ok (.invokespecial 27, 3) := by decide +kernel
theorem dX5_init_70 : decode cX5_init 70 = .ok (.putfield 48, 3) := by decide +kernel
theorem dX5_init_73 : decode cX5_init 73 = .ok (.aload_n 0, 1) := by decide +kernel
theorem dX5_init_74 : decode cX5_init 74 = .ok (.new 39, 3) := by decide +kernel
theorem dX5_init_77 : decode cX5_init 77 = .ok (.dup, 1) := by decide +kernel
theorem dX5_init_78 : decode cX5_init 78 = .ok (.aload_n 1, 1) := by decide +kernel
theorem dX5_init_79 : decode cX5_init 79 = .ok (.invokespecial 41, 3) := by decide +kernel
theorem dX5_init_82 : decode cX5_init 82 = .ok (.putfield 51, 3) := by decide +kernel
theorem dX5_init_85 : decode cX5_init 85 = .ok (.aload_n 0, 1) := by decide +kernel
theorem dX5_init_86 : decode cX5_init 86 = .ok (.bipush 64, 2) := by decide +kernel
theorem dX5_init_88 : decode cX5_init 88 = .ok (.newarray .int, 2) := by decide +kernel
theorem dX5_init_90 : decode cX5_init 90 = .ok (.putfield 54, 3) := by decide +kernel
theorem dX5_init_93 : decode cX5_init 93 = .ok (.aload_n 0, 1) := by decide +kernel
theorem dX5_init_94 : decode cX5_init 94 = .ok (.iconst 0, 1) := by decide +kernel
theorem dX5_init_95 : decode cX5_init 95 = .ok (.putfield 58, 3) := by decide +kernel
theorem dX5_init_98 : decode cX5_init 98 = .ok (.aload_n 0, 1) := by decide +kernel
theorem dX5_init_99 : decode cX5_init 99 = .ok (.iconst 0, 1) := by decide +kernel
theorem dX5_init_100 : decode cX5_init 100 = .ok (.putfield 62, 3) := by decide +kernel
theorem dX5_init_103 : decode cX5_init 103 = .ok (.aload_n 0, 1) := by decide +kernel
theorem dX5_init_104 : decode cX5_init 104 = .ok (.iconst 0, 1) := by decide +kernel
theorem dX5_init_105 : decode cX5_init 105 = .ok (.putfield 65, 3) := by decide +kernel
theorem dX5_init_108 : decode cX5_init 108 = .ok (.aload_n 0, 1) := by decide +kernel
theorem dX5_init_109 : decode cX5_init 109 = .ok (.bipush (-9), 2) := by decide +kernel
theorem dX5_init_111 : decode cX5_init 111 = .ok (.putfield 68, 3) := by decide +kernel
theorem dX5_init_114 : decode cX5_init 114 = .ok (.aload_n 0, 1) := by decide +kernel
theorem dX5_init_115 : decode cX5_init 115 = .ok (.iconst 0, 1) := by decide +kernel
theorem dX5_init_116 : decode cX5_init 116 = .ok (.putfield 72, 3) := by decide +kernel
theorem dX5_init_119 : decode cX5_init 119 = .ok (.aload_n 0, 1) := by decide +kernel
theorem dX5_init_120 : decode cX5_init 120 = .ok (.iconst 0, 1) := by decide +kernel
theorem dX5_init_121 : decode cX5_init 121 = .ok (.putfield 75, 3) := by decide +kernel
theorem dX5_init_124 : decode cX5_init 124 = .ok (.aload_n 0, 1) := by decide +kernel
theorem dX5_init_125 : decode cX5_init 125 = .ok (.iconst 0, 1) := by decide +kernel
theorem dX5_init_126 : decode cX5_init 126 = .ok (.putfield 78, 3) := by decide +kernel
theorem dX5_init_129 : decode cX5_init 129 = .ok (.return_, 1) := by decide +kernel
theorem dX5_land_0 : decode cX5_land 0 = .ok (.aload_n 0, 1) := by decide +kernel
theorem dX5_land_1 : decode cX5_land 1 = .ok (.iconst 0, 1) := by decide +kernel
theorem dX5_land_2 : decode cX5_land 2 = .ok (.putfield 75, 3) := by decide +kernel
theorem dX5_land_5 : decode cX5_land 5 = .ok (.iload_n 1, 1) := by decide +kernel
theorem dX5_land_6 : decode cX5_land 6 = .ok (.invokestatic 81, 3) := by decide +kernel
theorem dX5_land_9 : decode cX5_land 9 = .ok (.ifCond .ne 5, 3) := by decide +kernel
theorem dX5_land_12 : decode cX5_land 12 = .ok (.iconst (-1), 1) := by decide +kernel
theorem dX5_land_13 : decode cX5_land 13 = .ok (.ireturn, 1) := by decide +kernel
theorem dX5_land_14 : decode cX5_land 14 = .ok (.iload_n 2, 1) := by decide +kernel
theorem dX5_land_15 : decode cX5_land 15 = .ok (.invokestatic 85, 3) := by decide +kernel
theorem dX5_land_18 : decode cX5_land 18 = .ok (.ifCond .ne 6, 3) := by decide +kernel
theorem dX5_land_21 : decode cX5_land 21 = .ok (.bipush (-2), 2) := by decide +kernel
theorem dX5_land_23 : decode cX5_land 23 = .ok (.ireturn, 1) := by decide +kernel
theorem dX5_land_24 : decode cX5_land 24 = .ok (.aload_n 0, 1) := by decide +kernel
theorem dX5_land_25 : decode cX5_land 25 = .ok (.iload_n 1, 1) := by decide +kernel
theorem dX5_land_26 : decode cX5_land 26 = .ok (.iload_n 2, 1) := by decide +kernel
theorem dX5_land_27 : decode cX5_land 27 = .ok (.invokevirtual 88, 3) := by decide +kernel
theorem dX5_land_30 : decode cX5_land 30 = .ok (.istore 5, 2) := by decide +kernel
theorem dX5_land_32 : decode cX5_land 32 = .ok (.iload 5, 2) := by decide +kernel
theorem dX5_land_34 : decode cX5_land 34 = .ok (.ifCond .ne 11, 3) := by decide +kernel
theorem dX5_land_37 : decode cX5_land 37 = .ok (.iload 4, 2) := by decide +kernel
theorem dX5_land_39 : decode cX5_land 39 = .ok (.ifCond .ge 6, 3) := by decide +kernel
theorem dX5_land_42 : decode cX5_land 42 = .ok (.iconst 4, 1) := by decide +kernel
theorem dX5_land_43 : decode cX5_land 43 = .ok (.istore 5, 2) := by decide +kernel
theorem dX5_land_45 : decode cX5_land 45 = .ok (.iload 5, 2) := by decide +kernel
theorem dX5_land_47 : decode cX5_land 47 = .ok (.ifCond .ne 20, 3) := by decide +kernel
theorem dX5_land_50 : decode cX5_land 50 = .ok (.aload_n 0, 1) := by decide +kernel
theorem dX5_land_51 : decode cX5_land 51 = .ok (.getfield 15, 3) := by decide +kernel
theorem dX5_land_54 : decode cX5_land 54 = .ok (.iload_n 1, 1) := by decide +kernel
theorem dX5_land_55 : decode cX5_land 55 = .ok (.iload_n 3, 1) := by decide +kernel
theorem dX5_land_56 : decode cX5_land 56 = .ok (.iload 4, 2) := by decide +kernel
theorem dX5_land_58 : decode cX5_land 58 = .ok (.invokevirtual 92, 3) := by decide +kernel
theorem dX5_land_61 : decode cX5_land 61 = .ok (.ifCond .ne 6, 3) := by decide +kernel
theorem dX5_land_64 : decode cX5_land 64 = .ok (.iconst 3, 1) := by decide +kernel
theorem dX5_land_65 : decode cX5_land 65 = .ok (.istore 5, 2) := by decide +kernel
theorem dX5_land_67 : decode cX5_land 67 = .ok (.iload 5, 2) := by decide +kernel
theorem dX5_land_69 : decode cX5_land 69 = .ok (.ifCond .eq 10, 3) := by decide +kernel
theorem dX5_land_72 : decode cX5_land 72 = .ok (.aload_n 0, 1) := by decide +kernel
theorem dX5_land_73 : decode cX5_land 73 = .ok (.iload 5, 2) := by decide +kernel
theorem dX5_land_75 : decode cX5_land 75 = .ok (.invokevirtual 96, 3) := by decide +kernel
theorem dX5_land_78 : decode cX5_land 78 = .ok (.ireturn, 1) := by decide +kernel
theorem dX5_land_79 : decode cX5_land 79 = .ok (.aload_n 0, 1) := by decide +kernel
theorem dX5_land_80 : decode cX5_land 80 = .ok (.getfield 15, 3) := by decide +kernel
theorem dX5_land_83 : decode cX5_land 83 = .ok (.iload_n 1, 1) := by decide +kernel
theorem dX5_land_84 : decode cX5_land 84 = .ok (.iload_n 3, 1) := by decide +kernel
theorem dX5_land_85 : decode cX5_land 85 = .ok (.iload 4, 2) := by decide +kernel
theorem dX5_land_87 : decode cX5_land 87 = .ok (.invokestatic 100, 3) := by decide +kernel
theorem dX5_land_90 : decode cX5_land 90 = .ok (.istore 6, 2) := by decide +kernel
theorem dX5_land_92 : decode cX5_land 92 = .ok (.iload 6, 2) := by decide +kernel
theorem dX5_land_94 : decode cX5_land 94 = .ok (.bipush (-9), 2) := by decide +kernel
theorem dX5_land_96 : decode cX5_land 96 = .ok (.if_icmp .eq 9, 3) := by decide +kernel
theorem dX5_land_99 : decode cX5_land 99 = .ok (.bipush (-100), 2) := by decide +kernel
theorem dX5_land_101 : decode cX5_land 101 = .ok (.iload 6, 2) := by decide +kernel
theorem dX5_land_103 : decode cX5_land 103 = .ok (.isub, 1) := by decide +kernel
theorem dX5_land_104 : decode cX5_land 104 = .ok (.ireturn, 1) := by decide +kernel
theorem dX5_land_105 : decode cX5_land 105 = .ok (.aload_n 0, 1) := by decide +kernel
theorem dX5_land_106 : decode cX5_land 106 = .ok (.getfield 21, 3) := by decide +kernel
theorem dX5_land_109 : decode cX5_land 109 = .ok (.aload_n 0, 1) := by decide +kernel
theorem dX5_land_110 : decode cX5_land 110 = .ok (.getfield 15, 3) := by decide +kernel
theorem dX5_land_113 : decode cX5_land 113 = .ok (.iload_n 1, 1) := by decide +kernel
theorem dX5_land_114 : decode cX5_land 114 = .ok (.iload_n 3, 1) := by decide +kernel
theorem dX5_land_115 : decode cX5_land 115 = .ok (.iload 4, 2) := by decide +kernel
theorem dX5_land_117 : decode cX5_land 117 = .ok (.invokevirtual 104, 3) := by decide +kernel
theorem dX5_land_120 : decode cX5_land 120 = .ok (.aload_n 0, 1) := by decide +kernel
theorem dX5_land_121 : decode cX5_land 121 = .ok (.getfield 28, 3) := by decide +kernel
theorem dX5_land_124 : decode cX5_land 124 = .ok (.invokevirtual 108, 3) := by decide +kernel
theorem dX5_land_127 : decode cX5_land 127 = .ok (.aload_n 0, 1) := by decide +kernel
theorem dX5_land_128 : decode cX5_land 128 = .ok (.getfield 35, 3) := by decide +kernel
theorem dX5_land_131 : decode cX5_land 131 = .ok (.iconst 0, 1) := by decide +kernel
theorem dX5_land_132 : decode cX5_land 132 = .ok (.putfield 111, 3) := by decide +kernel
theorem dX5_land_135 : decode cX5_land 135 = .ok (.aload_n 0, 1) := by decide +kernel
theorem dX5_land_136 : decode cX5_land 136 = .ok (.invokevirtual 114, 3) := by decide +kernel
theorem dX5_land_139 : decode cX5_land 139 = .ok (.aload_n 0, 1) := by decide +kernel
theorem dX5_land_140 : decode cX5_land 140 = .ok (.getfield 21, 3) := by decide +kernel
theorem dX5_land_143 : decode cX5_land 143 = .ok (.getfield 117, 3) := by decide +kernel
theorem dX5_land_146 : decode cX5_land 146 = .ok (.ireturn, 1) := by decide +kernel
theorem dX5_ofPerson_0 : decode cX5_ofPerson 0 = .ok (.aload_n 0, 1) := by decide +kernel
theorem dX5_ofPerson_1 : decode cX5_ofPerson 1 = .ok (.iload_n 1, 1) := by decide +kernel
theorem dX5_ofPerson_2 : decode cX5_ofPerson 2 = .ok (.invokevirtual 120, 3) := by decide +kernel
theorem dX5_ofPerson_5 : decode cX5_ofPerson 5 = .ok (.ifCond .ne 5, 3) := by decide +kernel
theorem dX5_ofPerson_8 : decode cX5_ofPerson 8 = .ok (.iconst (-1), 1) := by decide +kernel
theorem dX5_ofPerson_9 : decode cX5_ofPerson 9 = .ok (.ireturn, 1) := by decide +kernel
theorem dX5_ofPerson_10 : decode cX5_ofPerson 10 = .ok (.iload_n 2, 1) := by decide +kernel
theorem dX5_ofPerson_11 : decode cX5_ofPerson 11 = .ok (.ifCond .lt 9, 3) := by decide +kernel
theorem dX5_ofPerson_14 : decode cX5_ofPerson 14 = .ok (.iload_n 2, 1) := by decide +kernel
theorem dX5_ofPerson_15 : decode cX5_ofPerson 15 = .ok (.bipush 7, 2) := by decide +kernel
theorem dX5_ofPerson_17 : decode cX5_ofPerson 17 = .ok (.if_icmp .lt 6, 3) := by decide +kernel
theorem dX5_ofPerson_20 : decode cX5_ofPerson 20 = .ok (.bipush (-2), 2) := by decide +kernel
theorem dX5_ofPerson_22 : decode cX5_ofPerson 22 = .ok (.ireturn, 1) := by decide +kernel
theorem dX5_ofPerson_23 : decode cX5_ofPerson 23 = .ok (.iload_n 2, 1) := by decide +kernel
theorem dX5_ofPerson_24 : decode cX5_ofPerson 24 = .ok (.tableswitch 99 0 5 #[40, 50, 60, 70, 80, 90], 40) := by decide +kernel
theorem dX5_ofPerson_64 : decode cX5_ofPerson 64 = .ok (.aload_n 0, 1) := by decide +kernel
theorem dX5_ofPerson_65 : decode cX5_ofPerson 65 = .ok (.getfield 21, 3) := by decide +kernel
theorem dX5_ofPerson_68 : decode cX5_ofPerson 68 = .ok (.getfield 123, 3) := by decide +kernel
theorem dX5_ofPerson_71 : decode cX5_ofPerson 71 = .ok (.iload_n 1, 1) := by decide +kernel
theorem dX5_ofPerson_72 : decode cX5_ofPerson 72 = .ok (.iaload, 1) := by decide +kernel
theorem dX5_ofPerson_73 : decode cX5_ofPerson 73 = .ok (.ireturn, 1) := by decide +kernel
theorem dX5_ofPerson_74 : decode cX5_ofPerson 74 = .ok (.aload_n 0, 1) := by decide +kernel
theorem dX5_ofPerson_75 : decode cX5_ofPerson 75 = .ok (.getfield 21, 3) := by decide +kernel
theorem dX5_ofPerson_78 : decode cX5_ofPerson 78 = .ok (.getfield 126, 3) := by decide +kernel
theorem dX5_ofPerson_81 : decode cX5_ofPerson 81 = .ok (.iload_n 1, 1) := by decide +kernel
theorem dX5_ofPerson_82 : decode cX5_ofPerson 82 = .ok (.iaload, 1) := by decide +kernel
theorem dX5_ofPerson_83 : decode cX5_ofPerson 83 = .ok (.ireturn, 1) := by decide +kernel
theorem dX5_ofPerson_84 : decode cX5_ofPerson 84 = .ok (.aload_n 0, 1) := by decide +kernel
theorem dX5_ofPerson_85 : decode cX5_ofPerson 85 = .ok (.getfield 21, 3) := by decide +kernel
theorem dX5_ofPerson_88 : decode cX5_ofPerson 88 = .ok (.getfield 129, 3) := by decide +kernel
theorem dX5_ofPerson_91 : decode cX5_ofPerson 91 = .ok (.iload_n 1, 1) := by decide +kernel
theorem dX5_ofPerson_92 : decode cX5_ofPerson 92 = .ok (.iaload, 1) := by decide +kernel
theorem dX5_ofPerson_93 : decode cX5_ofPerson 93 = .ok (.ireturn, 1) := by decide +kernel
theorem dX5_ofPerson_94 : decode cX5_ofPerson 94 = .ok (.aload_n 0, 1) := by decide +kernel
theorem dX5_ofPerson_95 : decode cX5_ofPerson 95 = .ok (.getfield 21, 3) := by decide +kernel
theorem dX5_ofPerson_98 : decode cX5_ofPerson 98 = .ok (.getfield 132, 3) := by decide +kernel
theorem dX5_ofPerson_101 : decode cX5_ofPerson 101 = .ok (.iload_n 1, 1) := by decide +kernel
theorem dX5_ofPerson_102 : decode cX5_ofPerson 102 = .ok (.iaload, 1) := by decide +kernel
theorem dX5_ofPerson_103 : decode cX5_ofPerson 103 = .ok (.ireturn, 1) := by decide +kernel
theorem dX5_ofPerson_104 : decode cX5_ofPerson 104 = .ok (.aload_n 0, 1) := by decide +kernel
theorem dX5_ofPerson_105 : decode cX5_ofPerson 105 = .ok (.getfield 21, 3) := by decide +kernel
theorem dX5_ofPerson_108 : decode cX5_ofPerson 108 = .ok (.getfield 135, 3) := by decide +kernel
theorem dX5_ofPerson_111 : decode cX5_ofPerson 111 = .ok (.iload_n 1, 1) := by decide +kernel
theorem dX5_ofPerson_112 : decode cX5_ofPerson 112 = .ok (.iaload, 1) := by decide +kernel
theorem dX5_ofPerson_113 : decode cX5_ofPerson 113 = .ok (.ireturn, 1) := by decide +kernel
theorem dX5_ofPerson_114 : decode cX5_ofPerson 114 = .ok (.aload_n 0, 1) := by decide +kernel
theorem dX5_ofPerson_115 : decode cX5_ofPerson 115 = .ok (.getfield 21, 3) := by decide +kernel
theorem dX5_ofPerson_118 : decode cX5_ofPerson 118 = .ok (.iload_n 1, 1) := by decide +kernel
theorem dX5_ofPerson_119 : decode cX5_ofPerson 119 = .ok (.invokevirtual 138, 3) := by decide +kernel
theorem dX5_ofPerson_122 : decode cX5_ofPerson 122 = .ok (.ireturn, 1) := by decide +kernel
theorem dX5_ofPerson_123 : decode cX5_ofPerson 123 = .ok (.aload_n 0, 1) := by decide +kernel
theorem dX5_ofPerson_124 : decode cX5_ofPerson 124 = .ok (.getfield 28, 3) := by decide +kernel
theorem dX5_ofPerson_127 : decode cX5_ofPerson 127 = .ok (.getfield 141, 3) := by decide +kernel
theorem dX5_ofPerson_130 : decode cX5_ofPerson 130 = .ok (.iload_n 1, 1) := by decide +kernel
theorem dX5_ofPerson_131 : decode cX5_ofPerson 131 = .ok (.ishr, 1) := by decide +kernel
theorem dX5_ofPerson_132 : decode cX5_ofPerson 132 = .ok (.iconst 1, 1) := by decide +kernel
theorem dX5_ofPerson_133 : decode cX5_ofPerson 133 = .ok (.iand, 1) := by decide +kernel
theorem dX5_ofPerson_134 : decode cX5_ofPerson 134 = .ok (.ireturn, 1) := by decide +kernel
theorem dX5_law_0 : decode cX5_law 0 = .ok (.iload_n 1, 1) := by decide +kernel
theorem dX5_law_1 : decode cX5_law 1 = .ok (.ifCond .lt 8, 3) := by decide +kernel
theorem dX5_law_4 : decode cX5_law 4 = .ok (.iload_n 1, 1) := by decide +kernel
theorem dX5_law_5 : decode cX5_law 5 = .ok (.iconst 3, 1) := by decide +kernel
theorem dX5_law_6 : decode cX5_law 6 = .ok (.if_icmp .lt 6, 3) := by decide +kernel
theorem dX5_law_9 : decode cX5_law 9 = .ok (.bipush (-2), 2) := by decide +kernel
theorem dX5_law_11 : decode cX5_law 11 = .ok (.ireturn, 1) := by decide +kernel
theorem dX5_law_12 : decode cX5_law 12 = .ok (.aload_n 0, 1) := by decide +kernel
theorem dX5_law_13 : decode cX5_law 13 = .ok (.invokevirtual 144, 3) := by decide +kernel
theorem dX5_law_16 : decode cX5_law 16 = .ok (.ifCond .ne 6, 3) := by decide +kernel
theorem dX5_law_19 : decode cX5_law 19 = .ok (.bipush (-3), 2) := by decide +kernel
theorem dX5_law_21 : decode cX5_law 21 = .ok (.ireturn, 1) := by decide +kernel
theorem dX5_law_22 : decode cX5_law 22 = .ok (.aload_n 0, 1) := by decide +kernel
theorem dX5_law_23 : decode cX5_law 23 = .ok (.getfield 28, 3) := by decide +kernel
theorem dX5_law_26 : decode cX5_law 26 = .ok (.getfield 148, 3) := by decide +kernel
theorem dX5_law_29 : decode cX5_law 29 = .ok (.istore_n 2, 1) := by decide +kernel
theorem dX5_law_30 : decode cX5_law 30 = .ok (.aload_n 0, 1) := by decide +kernel
theorem dX5_law_31 : decode cX5_law 31 = .ok (.getfield 28, 3) := by decide +kernel
theorem dX5_law_34 : decode cX5_law 34 = .ok (.iload_n 1, 1) := by decide +kernel
theorem dX5_law_35 : decode cX5_law 35 = .ok (.putfield 148, 3) := by decide +kernel
theorem dX5_law_38 : decode cX5_law 38 = .ok (.aload_n 0, 1) := by decide +kernel
theorem dX5_law_39 : decode cX5_law 39 = .ok (.invokevirtual 114, 3) := by decide +kernel
theorem dX5_law_42 : decode cX5_law 42 = .ok (.iload_n 2, 1) := by decide +kernel
theorem dX5_law_43 : decode cX5_law 43 = .ok (.ireturn, 1) := by decide +kernel
theorem dX5_refuse_0 : decode cX5_refuse 0 = .ok (.aload_n 0, 1) := by decide +kernel
theorem dX5_refuse_1 : decode cX5_refuse 1 = .ok (.iload_n 1, 1) := by decide +kernel
theorem dX5_refuse_2 : decode cX5_refuse 2 = .ok (.invokevirtual 120, 3) := by decide +kernel
theorem dX5_refuse_5 : decode cX5_refuse 5 = .ok (.ifCond .ne 5, 3) := by decide +kernel
theorem dX5_refuse_8 : decode cX5_refuse 8 = .ok (.iconst (-1), 1) := by decide +kernel
theorem dX5_refuse_9 : decode cX5_refuse 9 = .ok (.ireturn, 1) := by decide +kernel
theorem dX5_refuse_10 : decode cX5_refuse 10 = .ok (.iconst 1, 1) := by decide +kernel
theorem dX5_refuse_11 : decode cX5_refuse 11 = .ok (.iload_n 1, 1) := by decide +kernel
theorem dX5_refuse_12 : decode cX5_refuse 12 = .ok (.ishl, 1) := by decide +kernel
theorem dX5_refuse_13 : decode cX5_refuse 13 = .ok (.istore_n 3, 1) := by decide +kernel
theorem dX5_refuse_14 : decode cX5_refuse 14 = .ok (.aload_n 0, 1) := by decide +kernel
theorem dX5_refuse_15 : decode cX5_refuse 15 = .ok (.getfield 28, 3) := by decide +kernel
theorem dX5_refuse_18 : decode cX5_refuse 18 = .ok (.getfield 141, 3) := by decide +kernel
theorem dX5_refuse_21 : decode cX5_refuse 21 = .ok (.iload_n 3, 1) := by decide +kernel
theorem dX5_refuse_22 : decode cX5_refuse 22 = .ok (.iand, 1) := by decide +kernel
theorem dX5_refuse_23 : decode cX5_refuse 23 = .ok (.ifCond .eq 7, 3) := by decide +kernel
theorem dX5_refuse_26 : decode cX5_refuse 26 = .ok (.iconst 1, 1) := by decide +kernel
theorem dX5_refuse_27 : decode cX5_refuse 27 = .ok (.goto 4, 3) := by decide +kernel
theorem dX5_refuse_30 : decode cX5_refuse 30 = .ok (.iconst 0, 1) := by decide +kernel
theorem dX5_refuse_31 : decode cX5_refuse 31 = .ok (.istore 4, 2) := by decide +kernel
theorem dX5_refuse_33 : decode cX5_refuse 33 = .ok (.iload 4, 2) := by decide +kernel
theorem dX5_refuse_35 : decode cX5_refuse 35 = .ok (.iload_n 2, 1) := by decide +kernel
theorem dX5_refuse_36 : decode cX5_refuse 36 = .ok (.if_icmp .ne 5, 3) := by decide +kernel
theorem dX5_refuse_39 : decode cX5_refuse 39 = .ok (.iconst 0, 1) := by decide +kernel
theorem dX5_refuse_40 : decode cX5_refuse 40 = .ok (.ireturn, 1) := by decide +kernel
theorem dX5_refuse_41 : decode cX5_refuse 41 = .ok (.aload_n 0, 1) := by decide +kernel
theorem dX5_refuse_42 : decode cX5_refuse 42 = .ok (.getfield 28, 3) := by decide +kernel
theorem dX5_refuse_45 : decode cX5_refuse 45 = .ok (.dup, 1) := by decide +kernel
theorem dX5_refuse_46 : decode cX5_refuse 46 = .ok (.getfield 141, 3) := by decide +kernel
theorem dX5_refuse_49 : decode cX5_refuse 49 = .ok (.iload_n 3, 1) := by decide +kernel
theorem dX5_refuse_50 : decode cX5_refuse 50 = .ok (.ixor, 1) := by decide +kernel
theorem dX5_refuse_51 : decode cX5_refuse 51 = .ok (.putfield 141, 3) := by decide +kernel
theorem dX5_refuse_54 : decode cX5_refuse 54 = .ok (.aload_n 0, 1) := by decide +kernel
theorem dX5_refuse_55 : decode cX5_refuse 55 = .ok (.invokevirtual 114, 3) := by decide +kernel
theorem dX5_refuse_58 : decode cX5_refuse 58 = .ok (.iconst 1, 1) := by decide +kernel
theorem dX5_refuse_59 : decode cX5_refuse 59 = .ok (.ireturn, 1) := by decide +kernel
theorem dX5_will_0 : decode cX5_will 0 = .ok (.aload_n 0, 1) := by decide +kernel
theorem dX5_will_1 : decode cX5_will 1 = .ok (.iload_n 1, 1) := by decide +kernel
theorem dX5_will_2 : decode cX5_will 2 = .ok (.invokevirtual 151, 3) := by decide +kernel
theorem dX5_will_5 : decode cX5_will 5 = .ok (.ifCond .eq 11, 3) := by decide +kernel
theorem dX5_will_8 : decode cX5_will 8 = .ok (.aload_n 0, 1) := by decide +kernel
theorem dX5_will_9 : decode cX5_will 9 = .ok (.iload_n 2, 1) := by decide +kernel
theorem dX5_will_10 : decode cX5_will 10 = .ok (.invokevirtual 120, 3) := by decide +kernel
theorem dX5_will_13 : decode cX5_will 13 = .ok (.ifCond .ne 5, 3) := by decide +kernel
theorem dX5_will_16 : decode cX5_will 16 = .ok (.iconst (-1), 1) := by decide +kernel
theorem dX5_will_17 : decode cX5_will 17 = .ok (.ireturn, 1) := by decide +kernel
theorem dX5_will_18 : decode cX5_will 18 = .ok (.iload_n 3, 1) := by decide +kernel
theorem dX5_will_19 : decode cX5_will 19 = .ok (.invokestatic 154, 3) := by decide +kernel
theorem dX5_will_22 : decode cX5_will 22 = .ok (.ifCond .ne 6, 3) := by decide +kernel
theorem dX5_will_25 : decode cX5_will 25 = .ok (.bipush (-2), 2) := by decide +kernel
theorem dX5_will_27 : decode cX5_will 27 = .ok (.ireturn, 1) := by decide +kernel
theorem dX5_will_28 : decode cX5_will 28 = .ok (.aload_n 0, 1) := by decide +kernel
theorem dX5_will_29 : decode cX5_will 29 = .ok (.getfield 28, 3) := by decide +kernel
theorem dX5_will_32 : decode cX5_will 32 = .ok (.getfield 157, 3) := by decide +kernel
theorem dX5_will_35 : decode cX5_will 35 = .ok (.bipush 6, 2) := by decide +kernel
theorem dX5_will_37 : decode cX5_will 37 = .ok (.if_icmp .lt 6, 3) := by decide +kernel
theorem dX5_will_40 : decode cX5_will 40 = .ok (.bipush (-4), 2) := by decide +kernel
theorem dX5_will_42 : decode cX5_will 42 = .ok (.ireturn, 1) := by decide +kernel
theorem dX5_will_43 : decode cX5_will 43 = .ok (.aload_n 0, 1) := by decide +kernel
theorem dX5_will_44 : decode cX5_will 44 = .ok (.getfield 28, 3) := by decide +kernel
theorem dX5_will_47 : decode cX5_will 47 = .ok (.iload_n 1, 1) := by decide +kernel
theorem dX5_will_48 : decode cX5_will 48 = .ok (.iload_n 2, 1) := by decide +kernel
theorem dX5_will_49 : decode cX5_will 49 = .ok (.iload_n 3, 1) := by decide +kernel
theorem dX5_will_50 : decode cX5_will 50 = .ok (.invokevirtual 160, 3) := by decide +kernel
theorem dX5_will_53 : decode cX5_will 53 = .ok (.aload_n 0, 1) := by decide +kernel
theorem dX5_will_54 : decode cX5_will 54 = .ok (.invokevirtual 114, 3) := by decide +kernel
theorem dX5_will_57 : decode cX5_will 57 = .ok (.aload_n 0, 1) := by decide +kernel
theorem dX5_will_58 : decode cX5_will 58 = .ok (.getfield 28, 3) := by decide +kernel
theorem dX5_will_61 : decode cX5_will 61 = .ok (.getfield 157, 3) := by decide +kernel
theorem dX5_will_64 : decode cX5_will 64 = .ok (.iconst 1, 1) := by decide +kernel
theorem dX5_will_65 : decode cX5_will 65 = .ok (.isub, 1) := by decide +kernel
theorem dX5_will_66 : decode cX5_will 66 = .ok (.ireturn, 1) := by decide +kernel
theorem dX5_burn_0 : decode cX5_burn 0 = .ok (.iload_n 1, 1) := by decide +kernel
theorem dX5_burn_1 : decode cX5_burn 1 = .ok (.ifCond .lt 14, 3) := by decide +kernel
theorem dX5_burn_4 : decode cX5_burn 4 = .ok (.iload_n 1, 1) := by decide +kernel
theorem dX5_burn_5 : decode cX5_burn 5 = .ok (.aload_n 0, 1) := by decide +kernel
theorem dX5_burn_6 : decode cX5_burn 6 = .ok (.getfield 28, 3) := by decide +kernel
theorem dX5_burn_9 : decode cX5_burn 9 = .ok (.getfield 157, 3) := by decide +kernel
theorem dX5_burn_12 : decode cX5_burn 12 = .ok (.if_icmp .le 6, 3) := by decide +kernel
theorem dX5_burn_15 : decode cX5_burn 15 = .ok (.bipush (-2), 2) := by decide +kernel
theorem dX5_burn_17 : decode cX5_burn 17 = .ok (.ireturn, 1) := by decide +kernel
theorem dX5_burn_18 : decode cX5_burn 18 = .ok (.aload_n 0, 1) := by decide +kernel
theorem dX5_burn_19 : decode cX5_burn 19 = .ok (.getfield 28, 3) := by decide +kernel
theorem dX5_burn_22 : decode cX5_burn 22 = .ok (.dup, 1) := by decide +kernel
theorem dX5_burn_23 : decode cX5_burn 23 = .ok (.getfield 157, 3) := by decide +kernel
theorem dX5_burn_26 : decode cX5_burn 26 = .ok (.iload_n 1, 1) := by decide +kernel
theorem dX5_burn_27 : decode cX5_burn 27 = .ok (.isub, 1) := by decide +kernel
theorem dX5_burn_28 : decode cX5_burn 28 = .ok (.putfield 157, 3) := by decide +kernel
theorem dX5_burn_31 : decode cX5_burn 31 = .ok (.aload_n 0, 1) := by decide +kernel
theorem dX5_burn_32 : decode cX5_burn 32 = .ok (.invokevirtual 114, 3) := by decide +kernel
theorem dX5_burn_35 : decode cX5_burn 35 = .ok (.aload_n 0, 1) := by decide +kernel
theorem dX5_burn_36 : decode cX5_burn 36 = .ok (.getfield 28, 3) := by decide +kernel
theorem dX5_burn_39 : decode cX5_burn 39 = .ok (.getfield 157, 3) := by decide +kernel
theorem dX5_burn_42 : decode cX5_burn 42 = .ok (.ireturn, 1) := by decide +kernel
theorem dX5_giveUp_0 : decode cX5_giveUp 0 = .ok (.aload_n 0, 1) := by decide +kernel
theorem dX5_giveUp_1 : decode cX5_giveUp 1 = .ok (.iload_n 1, 1) := by decide +kernel
theorem dX5_giveUp_2 : decode cX5_giveUp 2 = .ok (.invokevirtual 151, 3) := by decide +kernel
theorem dX5_giveUp_5 : decode cX5_giveUp 5 = .ok (.ifCond .ne 5, 3) := by decide +kernel
theorem dX5_giveUp_8 : decode cX5_giveUp 8 = .ok (.iconst (-1), 1) := by decide +kernel
theorem dX5_giveUp_9 : decode cX5_giveUp 9 = .ok (.ireturn, 1) := by decide +kernel
theorem dX5_giveUp_10 : decode cX5_giveUp 10 = .ok (.iload_n 2, 1) := by decide +kernel
theorem dX5_giveUp_11 : decode cX5_giveUp 11 = .ok (.ifCond .lt 9, 3) := by decide +kernel
theorem dX5_giveUp_14 : decode cX5_giveUp 14 = .ok (.iload_n 2, 1) := by decide +kernel
theorem dX5_giveUp_15 : decode cX5_giveUp 15 = .ok (.bipush 40, 2) := by decide +kernel
theorem dX5_giveUp_17 : decode cX5_giveUp 17 = .ok (.if_icmp .le 6, 3) := by decide +kernel
theorem dX5_giveUp_20 : decode cX5_giveUp 20 = .ok (.bipush (-2), 2) := by decide +kernel
theorem dX5_giveUp_22 : decode cX5_giveUp 22 = .ok (.ireturn, 1) := by decide +kernel
theorem dX5_giveUp_23 : decode cX5_giveUp 23 = .ok (.aload_n 0, 1) := by decide +kernel
theorem dX5_giveUp_24 : decode cX5_giveUp 24 = .ok (.getfield 28, 3) := by decide +kernel
theorem dX5_giveUp_27 : decode cX5_giveUp 27 = .ok (.getfield 164, 3) := by decide +kernel
theorem dX5_giveUp_30 : decode cX5_giveUp 30 = .ok (.iload_n 1, 1) := by decide +kernel
theorem dX5_giveUp_31 : decode cX5_giveUp 31 = .ok (.iaload, 1) := by decide +kernel
theorem dX5_giveUp_32 : decode cX5_giveUp 32 = .ok (.istore_n 3, 1) := by decide +kernel
theorem dX5_giveUp_33 : decode cX5_giveUp 33 = .ok (.aload_n 0, 1) := by decide +kernel
theorem dX5_giveUp_34 : decode cX5_giveUp 34 = .ok (.getfield 28, 3) := by decide +kernel
theorem dX5_giveUp_37 : decode cX5_giveUp 37 = .ok (.getfield 164, 3) := by decide +kernel
theorem dX5_giveUp_40 : decode cX5_giveUp 40 = .ok (.iload_n 1, 1) := by decide +kernel
theorem dX5_giveUp_41 : decode cX5_giveUp 41 = .ok (.iload_n 2, 1) := by decide +kernel
theorem dX5_giveUp_42 : decode cX5_giveUp 42 = .ok (.iastore, 1) := by decide +kernel
theorem dX5_giveUp_43 : decode cX5_giveUp 43 = .ok (.aload_n 0, 1) := by decide +kernel
theorem dX5_giveUp_44 : decode cX5_giveUp 44 = .ok (.invokevirtual 114, 3) := by decide +kernel
theorem dX5_giveUp_47 : decode cX5_giveUp 47 = .ok (.iload_n 3, 1) := by decide +kernel
theorem dX5_giveUp_48 : decode cX5_giveUp 48 = .ok (.ireturn, 1) := by decide +kernel
theorem dX5_guard_0 : decode cX5_guard 0 = .ok (.aload_n 0, 1) := by decide +kernel
theorem dX5_guard_1 : decode cX5_guard 1 = .ok (.iload_n 1, 1) := by decide +kernel
theorem dX5_guard_2 : decode cX5_guard 2 = .ok (.invokevirtual 151, 3) := by decide +kernel
theorem dX5_guard_5 : decode cX5_guard 5 = .ok (.ifCond .ne 5, 3) := by decide +kernel
theorem dX5_guard_8 : decode cX5_guard 8 = .ok (.iconst (-1), 1) := by decide +kernel
theorem dX5_guard_9 : decode cX5_guard 9 = .ok (.ireturn, 1) := by decide +kernel
theorem dX5_guard_10 : decode cX5_guard 10 = .ok (.iload_n 2, 1) := by decide +kernel
theorem dX5_guard_11 : decode cX5_guard 11 = .ok (.invokestatic 154, 3) := by decide +kernel
theorem dX5_guard_14 : decode cX5_guard 14 = .ok (.ifCond .ne 6, 3) := by decide +kernel
theorem dX5_guard_17 : decode cX5_guard 17 = .ok (.bipush (-2), 2) := by decide +kernel
theorem dX5_guard_19 : decode cX5_guard 19 = .ok (.ireturn, 1) := by decide +kernel
theorem dX5_guard_20 : decode cX5_guard 20 = .ok (.aload_n 0, 1) := by decide +kernel
theorem dX5_guard_21 : decode cX5_guard 21 = .ok (.invokevirtual 167, 3) := by decide +kernel
theorem dX5_guard_24 : decode cX5_guard 24 = .ok (.iload_n 1, 1) := by decide +kernel
theorem dX5_guard_25 : decode cX5_guard 25 = .ok (.iload_n 2, 1) := by decide +kernel
theorem dX5_guard_26 : decode cX5_guard 26 = .ok (.invokevirtual 171, 3) := by decide +kernel
theorem dX5_guard_29 : decode cX5_guard 29 = .ok (.ireturn, 1) := by decide +kernel
theorem dX5_how_0 : decode cX5_how 0 = .ok (.aload_n 0, 1) := by decide +kernel
theorem dX5_how_1 : decode cX5_how 1 = .ok (.iload_n 1, 1) := by decide +kernel
theorem dX5_how_2 : decode cX5_how 2 = .ok (.invokevirtual 120, 3) := by decide +kernel
theorem dX5_how_5 : decode cX5_how 5 = .ok (.ifCond .ne 5, 3) := by decide +kernel
theorem dX5_how_8 : decode cX5_how 8 = .ok (.iconst (-1), 1) := by decide +kernel
theorem dX5_how_9 : decode cX5_how 9 = .ok (.ireturn, 1) := by decide +kernel
theorem dX5_how_10 : decode cX5_how 10 = .ok (.iload_n 2, 1) := by decide +kernel
theorem dX5_how_11 : decode cX5_how 11 = .ok (.invokestatic 154, 3) := by decide +kernel
theorem dX5_how_14 : decode cX5_how 14 = .ok (.ifCond .ne 6, 3) := by decide +kernel
theorem dX5_how_17 : decode cX5_how 17 = .ok (.bipush (-2), 2) := by decide +kernel
theorem dX5_how_19 : decode cX5_how 19 = .ok (.ireturn, 1) := by decide +kernel
theorem dX5_how_20 : decode cX5_how 20 = .ok (.aload_n 0, 1) := by decide +kernel
theorem dX5_how_21 : decode cX5_how 21 = .ok (.invokevirtual 167, 3) := by decide +kernel
theorem dX5_how_24 : decode cX5_how 24 = .ok (.iload_n 1, 1) := by decide +kernel
theorem dX5_how_25 : decode cX5_how 25 = .ok (.iload_n 2, 1) := by decide +kernel
theorem dX5_how_26 : decode cX5_how 26 = .ok (.invokevirtual 174, 3) := by decide +kernel
theorem dX5_how_29 : decode cX5_how 29 = .ok (.ireturn, 1) := by decide +kernel
theorem dX5_age_0 : decode cX5_age 0 = .ok (.aload_n 0, 1) := by decide +kernel
theorem dX5_age_1 : decode cX5_age 1 = .ok (.iload_n 1, 1) := by decide +kernel
theorem dX5_age_2 : decode cX5_age 2 = .ok (.invokevirtual 120, 3) := by decide +kernel
theorem dX5_age_5 : decode cX5_age 5 = .ok (.ifCond .ne 5, 3) := by decide +kernel
theorem dX5_age_8 : decode cX5_age 8 = .ok (.iconst (-1), 1) := by decide +kernel
theorem dX5_age_9 : decode cX5_age 9 = .ok (.ireturn, 1) := by decide +kernel
theorem dX5_age_10 : decode cX5_age 10 = .ok (.iload_n 2, 1) := by decide +kernel
theorem dX5_age_11 : decode cX5_age 11 = .ok (.invokestatic 154, 3) := by decide +kernel
theorem dX5_age_14 : decode cX5_age 14 = .ok (.ifCond .ne 6, 3) := by decide +kernel
theorem dX5_age_17 : decode cX5_age 17 = .ok (.bipush (-2), 2) := by decide +kernel
theorem dX5_age_19 : decode cX5_age 19 = .ok (.ireturn, 1) := by decide +kernel
theorem dX5_age_20 : decode cX5_age 20 = .ok (.aload_n 0, 1) := by decide +kernel
theorem dX5_age_21 : decode cX5_age 21 = .ok (.invokevirtual 167, 3) := by decide +kernel
theorem dX5_age_24 : decode cX5_age 24 = .ok (.iload_n 1, 1) := by decide +kernel
theorem dX5_age_25 : decode cX5_age 25 = .ok (.iload_n 2, 1) := by decide +kernel
theorem dX5_age_26 : decode cX5_age 26 = .ok (.invokevirtual 177, 3) := by decide +kernel
theorem dX5_age_29 : decode cX5_age 29 = .ok (.ireturn, 1) := by decide +kernel
theorem dX5_empty_0 : decode cX5_empty 0 = .ok (.iload_n 1, 1) := by decide +kernel
theorem dX5_empty_1 : decode cX5_empty 1 = .ok (.invokestatic 154, 3) := by decide +kernel
theorem dX5_empty_4 : decode cX5_empty 4 = .ok (.ifCond .ne 6, 3) := by decide +kernel
theorem dX5_empty_7 : decode cX5_empty 7 = .ok (.bipush (-2), 2) := by decide +kernel
theorem dX5_empty_9 : decode cX5_empty 9 = .ok (.ireturn, 1) := by decide +kernel
theorem dX5_empty_10 : decode cX5_empty 10 = .ok (.aload_n 0, 1) := by decide +kernel
theorem dX5_empty_11 : decode cX5_empty 11 = .ok (.invokevirtual 144, 3) := by decide +kernel
theorem dX5_empty_14 : decode cX5_empty 14 = .ok (.ifCond .ne 6, 3) := by decide +kernel
theorem dX5_empty_17 : decode cX5_empty 17 = .ok (.bipush (-3), 2) := by decide +kernel
theorem dX5_empty_19 : decode cX5_empty 19 = .ok (.ireturn, 1) := by decide +kernel
theorem dX5_empty_20 : decode cX5_empty 20 = .ok (.aload_n 0, 1) := by decide +kernel
theorem dX5_empty_21 : decode cX5_empty 21 = .ok (.invokevirtual 167, 3) := by decide +kernel
theorem dX5_empty_24 : decode cX5_empty 24 = .ok (.getfield 180, 3) := by decide +kernel
theorem dX5_empty_27 : decode cX5_empty 27 = .ok (.iload_n 1, 1) := by decide +kernel
theorem dX5_empty_28 : decode cX5_empty 28 = .ok (.iaload, 1) := by decide +kernel
theorem dX5_empty_29 : decode cX5_empty 29 = .ok (.ireturn, 1) := by decide +kernel
theorem dX5_empties_0 : decode cX5_empties 0 = .ok (.iload_n 1, 1) := by decide +kernel
theorem dX5_empties_1 : decode cX5_empties 1 = .ok (.invokestatic 154, 3) := by decide +kernel
theorem dX5_empties_4 : decode cX5_empties 4 = .ok (.ifCond .ne 6, 3) := by decide +kernel
theorem dX5_empties_7 : decode cX5_empties 7 = .ok (.bipush (-2), 2) := by decide +kernel
theorem dX5_empties_9 : decode cX5_empties 9 = .ok (.ireturn, 1) := by decide +kernel
theorem dX5_empties_10 : decode cX5_empties 10 = .ok (.aload_n 0, 1) := by decide +kernel
theorem dX5_empties_11 : decode cX5_empties 11 = .ok (.invokevirtual 144, 3) := by decide +kernel
theorem dX5_empties_14 : decode cX5_empties 14 = .ok (.ifCond .ne 6, 3) := by decide +kernel
theorem dX5_empties_17 : decode cX5_empties 17 = .ok (.bipush (-3), 2) := by decide +kernel
theorem dX5_empties_19 : decode cX5_empties 19 = .ok (.ireturn, 1) := by decide +kernel
theorem dX5_empties_20 : decode cX5_empties 20 = .ok (.aload_n 0, 1) := by decide +kernel
theorem dX5_empties_21 : decode cX5_empties 21 = .ok (.invokevirtual 167, 3) := by decide +kernel
theorem dX5_empties_24 : decode cX5_empties 24 = .ok (.iload_n 1, 1) := by decide +kernel
theorem dX5_empties_25 : decode cX5_empties 25 = .ok (.invokevirtual 183, 3) := by decide +kernel
theorem dX5_empties_28 : decode cX5_empties 28 = .ok (.ireturn, 1) := by decide +kernel
theorem dX5_awake_0 : decode cX5_awake 0 = .ok (.iload_n 1, 1) := by decide +kernel
theorem dX5_awake_1 : decode cX5_awake 1 = .ok (.invokestatic 154, 3) := by decide +kernel
theorem dX5_awake_4 : decode cX5_awake 4 = .ok (.ifCond .ne 6, 3) := by decide +kernel
theorem dX5_awake_7 : decode cX5_awake 7 = .ok (.bipush (-2), 2) := by decide +kernel
theorem dX5_awake_9 : decode cX5_awake 9 = .ok (.ireturn, 1) := by decide +kernel
theorem dX5_awake_10 : decode cX5_awake 10 = .ok (.aload_n 0, 1) := by decide +kernel
theorem dX5_awake_11 : decode cX5_awake 11 = .ok (.invokevirtual 144, 3) := by decide +kernel
theorem dX5_awake_14 : decode cX5_awake 14 = .ok (.ifCond .ne 6, 3) := by decide +kernel
theorem dX5_awake_17 : decode cX5_awake 17 = .ok (.bipush (-3), 2) := by decide +kernel
theorem dX5_awake_19 : decode cX5_awake 19 = .ok (.ireturn, 1) := by decide +kernel
theorem dX5_awake_20 : decode cX5_awake 20 = .ok (.aload_n 0, 1) := by decide +kernel
theorem dX5_awake_21 : decode cX5_awake 21 = .ok (.invokevirtual 167, 3) := by decide +kernel
theorem dX5_awake_24 : decode cX5_awake 24 = .ok (.astore_n 2, 1) := by decide +kernel
theorem dX5_awake_25 : decode cX5_awake 25 = .ok (.iconst 0, 1) := by decide +kernel
theorem dX5_awake_26 : decode cX5_awake 26 = .ok (.istore_n 3, 1) := by decide +kernel
theorem dX5_awake_27 : decode cX5_awake 27 = .ok (.iconst 0, 1) := by decide +kernel
theorem dX5_awake_28 : decode cX5_awake 28 = .ok (.istore 4, 2) := by decide +kernel
theorem dX5_awake_30 : decode cX5_awake 30 = .ok (.iload 4, 2) := by decide +kernel
theorem dX5_awake_32 : decode cX5_awake 32 = .ok (.aload_n 0, 1) := by decide +kernel
theorem dX5_awake_33 : decode cX5_awake 33 = .ok (.getfield 21, 3) := by decide +kernel
theorem dX5_awake_36 : decode cX5_awake 36 = .ok (.getfield 117, 3) := by decide +kernel
theorem dX5_awake_39 : decode cX5_awake 39 = .ok (.if_icmp .ge 27, 3) := by decide +kernel
theorem dX5_awake_42 : decode cX5_awake 42 = .ok (.aload_n 2, 1) := by decide +kernel
theorem dX5_awake_43 : decode cX5_awake 43 = .ok (.iload 4, 2) := by decide +kernel
theorem dX5_awake_45 : decode cX5_awake 45 = .ok (.iload_n 1, 1) := by decide +kernel
theorem dX5_awake_46 : decode cX5_awake 46 = .ok (.invokevirtual 174, 3) := by decide +kernel
theorem dX5_awake_49 : decode cX5_awake 49 = .ok (.iconst 1, 1) := by decide +kernel
theorem dX5_awake_50 : decode cX5_awake 50 = .ok (.if_icmp .ne 10, 3) := by decide +kernel
theorem dX5_awake_53 : decode cX5_awake 53 = .ok (.iload_n 3, 1) := by decide +kernel
theorem dX5_awake_54 : decode cX5_awake 54 = .ok (.iconst 1, 1) := by decide +kernel
theorem dX5_awake_55 : decode cX5_awake 55 = .ok (.iload 4, 2) := by decide +kernel
theorem dX5_awake_57 : decode cX5_awake 57 = .ok (.ishl, 1) := by decide +kernel
theorem dX5_awake_58 : decode cX5_awake 58 = .ok (.ior, 1) := by decide +kernel
theorem dX5_awake_59 : decode cX5_awake 59 = .ok (.istore_n 3, 1) := by decide +kernel
theorem dX5_awake_60 : decode cX5_awake 60 = .ok (.iinc 4 1, 3) := by decide +kernel
theorem dX5_awake_63 : decode cX5_awake 63 = .ok (.goto (-33), 3) := by decide +kernel
theorem dX5_awake_66 : decode cX5_awake 66 = .ok (.iload_n 3, 1) := by decide +kernel
theorem dX5_awake_67 : decode cX5_awake 67 = .ok (.ireturn, 1) := by decide +kernel
theorem dX5_slept_0 : decode cX5_slept 0 = .ok (.aload_n 0, 1) := by decide +kernel
theorem dX5_slept_1 : decode cX5_slept 1 = .ok (.iload_n 1, 1) := by decide +kernel
theorem dX5_slept_2 : decode cX5_slept 2 = .ok (.invokevirtual 120, 3) := by decide +kernel
theorem dX5_slept_5 : decode cX5_slept 5 = .ok (.ifCond .ne 5, 3) := by decide +kernel
theorem dX5_slept_8 : decode cX5_slept 8 = .ok (.iconst (-1), 1) := by decide +kernel
theorem dX5_slept_9 : decode cX5_slept 9 = .ok (.ireturn, 1) := by decide +kernel
theorem dX5_slept_10 : decode cX5_slept 10 = .ok (.iload_n 2, 1) := by decide +kernel
theorem dX5_slept_11 : decode cX5_slept 11 = .ok (.invokestatic 154, 3) := by decide +kernel
theorem dX5_slept_14 : decode cX5_slept 14 = .ok (.ifCond .ne 6, 3) := by decide +kernel
theorem dX5_slept_17 : decode cX5_slept 17 = .ok (.bipush (-2), 2) := by decide +kernel
theorem dX5_slept_19 : decode cX5_slept 19 = .ok (.ireturn, 1) := by decide +kernel
theorem dX5_slept_20 : decode cX5_slept 20 = .ok (.aload_n 0, 1) := by decide +kernel
theorem dX5_slept_21 : decode cX5_slept 21 = .ok (.invokevirtual 167, 3) := by decide +kernel
theorem dX5_slept_24 : decode cX5_slept 24 = .ok (.astore_n 3, 1) := by decide +kernel
theorem dX5_slept_25 : decode cX5_slept 25 = .ok (.iconst 0, 1) := by decide +kernel
theorem dX5_slept_26 : decode cX5_slept 26 = .ok (.istore 4, 2) := by decide +kernel
theorem dX5_slept_28 : decode cX5_slept 28 = .ok (.iconst 0, 1) := by decide +kernel
theorem dX5_slept_29 : decode cX5_slept 29 = .ok (.istore 5, 2) := by decide +kernel
theorem dX5_slept_31 : decode cX5_slept 31 = .ok (.iload 5, 2) := by decide +kernel
theorem dX5_slept_33 : decode cX5_slept 33 = .ok (.iload_n 2, 1) := by decide +kernel
theorem dX5_slept_34 : decode cX5_slept 34 = .ok (.if_icmp .gt 23, 3) := by decide +kernel
theorem dX5_slept_37 : decode cX5_slept 37 = .ok (.aload_n 3, 1) := by decide +kernel
theorem dX5_slept_38 : decode cX5_slept 38 = .ok (.iload_n 1, 1) := by decide +kernel
theorem dX5_slept_39 : decode cX5_slept 39 = .ok (.iload 5, 2) := by decide +kernel
theorem dX5_slept_41 : decode cX5_slept 41 = .ok (.invokevirtual 174, 3) := by decide +kernel
theorem dX5_slept_44 : decode cX5_slept 44 = .ok (.iconst 2, 1) := by decide +kernel
theorem dX5_slept_45 : decode cX5_slept 45 = .ok (.if_icmp .ne 6, 3) := by decide +kernel
theorem dX5_slept_48 : decode cX5_slept 48 = .ok (.iinc 4 1, 3) := by decide +kernel
theorem dX5_slept_51 : decode cX5_slept 51 = .ok (.iinc 5 1, 3) := by decide +kernel
theorem dX5_slept_54 : decode cX5_slept 54 = .ok (.goto (-23), 3) := by decide +kernel
theorem dX5_slept_57 : decode cX5_slept 57 = .ok (.iload 4, 2) := by decide +kernel
theorem dX5_slept_59 : decode cX5_slept 59 = .ok (.ireturn, 1) := by decide +kernel
theorem dX5_fewest_0 : decode cX5_fewest 0 = .ok (.iload_n 1, 1) := by decide +kernel
theorem dX5_fewest_1 : decode cX5_fewest 1 = .ok (.invokestatic 154, 3) := by decide +kernel
theorem dX5_fewest_4 : decode cX5_fewest 4 = .ok (.ifCond .ne 6, 3) := by decide +kernel
theorem dX5_fewest_7 : decode cX5_fewest 7 = .ok (.bipush (-2), 2) := by decide +kernel
theorem dX5_fewest_9 : decode cX5_fewest 9 = .ok (.ireturn, 1) := by decide +kernel
theorem dX5_fewest_10 : decode cX5_fewest 10 = .ok (.aload_n 0, 1) := by decide +kernel
theorem dX5_fewest_11 : decode cX5_fewest 11 = .ok (.invokevirtual 144, 3) := by decide +kernel
theorem dX5_fewest_14 : decode cX5_fewest 14 = .ok (.ifCond .ne 6, 3) := by decide +kernel
theorem dX5_fewest_17 : decode cX5_fewest 17 = .ok (.bipush (-3), 2) := by decide +kernel
theorem dX5_fewest_19 : decode cX5_fewest 19 = .ok (.ireturn, 1) := by decide +kernel
theorem dX5_fewest_20 : decode cX5_fewest 20 = .ok (.aload_n 0, 1) := by decide +kernel
theorem dX5_fewest_21 : decode cX5_fewest 21 = .ok (.invokevirtual 186, 3) := by decide +kernel
theorem dX5_fewest_24 : decode cX5_fewest 24 = .ok (.bipush (-9), 2) := by decide +kernel
theorem dX5_fewest_26 : decode cX5_fewest 26 = .ok (.istore_n 2, 1) := by decide +kernel
theorem dX5_fewest_27 : decode cX5_fewest 27 = .ok (.bipush 7, 2) := by decide +kernel
theorem dX5_fewest_29 : decode cX5_fewest 29 = .ok (.istore_n 3, 1) := by decide +kernel
theorem dX5_fewest_30 : decode cX5_fewest 30 = .ok (.iconst 0, 1) := by decide +kernel
theorem dX5_fewest_31 : decode cX5_fewest 31 = .ok (.istore 4, 2) := by decide +kernel
theorem dX5_fewest_33 : decode cX5_fewest 33 = .ok (.iload 4, 2) := by decide +kernel
theorem dX5_fewest_35 : decode cX5_fewest 35 = .ok (.aload_n 0, 1) := by decide +kernel
theorem dX5_fewest_36 : decode cX5_fewest 36 = .ok (.getfield 21, 3) := by decide +kernel
theorem dX5_fewest_39 : decode cX5_fewest 39 = .ok (.invokevirtual 189, 3) := by decide +kernel
theorem dX5_fewest_42 : decode cX5_fewest 42 = .ok (.if_icmp .ge 38, 3) := by decide +kernel
theorem dX5_fewest_45 : decode cX5_fewest 45 = .ok (.aload_n 0, 1) := by decide +kernel
theorem dX5_fewest_46 : decode cX5_fewest 46 = .ok (.getfield 54, 3) := by decide +kernel
theorem dX5_fewest_49 : decode cX5_fewest 49 = .ok (.iload 4, 2) := by decide +kernel
theorem dX5_fewest_51 : decode cX5_fewest 51 = .ok (.iaload, 1) := by decide +kernel
theorem dX5_fewest_52 : decode cX5_fewest 52 = .ok (.iload_n 1, 1) := by decide +kernel
theorem dX5_fewest_53 : decode cX5_fewest 53 = .ok (.if_icmp .le 21, 3) := by decide +kernel
theorem dX5_fewest_56 : decode cX5_fewest 56 = .ok (.iload 4, 2) := by decide +kernel
theorem dX5_fewest_58 : decode cX5_fewest 58 = .ok (.invokestatic 193, 3) := by decide +kernel
theorem dX5_fewest_61 : decode cX5_fewest 61 = .ok (.iload_n 3, 1) := by decide +kernel
theorem dX5_fewest_62 : decode cX5_fewest 62 = .ok (.if_icmp .ge 12, 3) := by decide +kernel
theorem dX5_fewest_65 : decode cX5_fewest 65 = .ok (.iload 4, 2) := by decide +kernel
theorem dX5_fewest_67 : decode cX5_fewest 67 = .ok (.istore_n 2, 1) := by decide +kernel
theorem dX5_fewest_68 : decode cX5_fewest 68 = .ok (.iload 4, 2) := by decide +kernel
theorem dX5_fewest_70 : decode cX5_fewest 70 = .ok (.invokestatic 193, 3) := by decide +kernel
theorem dX5_fewest_73 : decode cX5_fewest 73 = .ok (.istore_n 3, 1) := by decide +kernel
theorem dX5_fewest_74 : decode cX5_fewest 74 = .ok (.iinc 4 1, 3) := by decide +kernel
theorem dX5_fewest_77 : decode cX5_fewest 77 = .ok (.goto (-44), 3) := by decide +kernel
theorem dX5_fewest_80 : decode cX5_fewest 80 = .ok (.iload_n 2, 1) := by decide +kernel
theorem dX5_fewest_81 : decode cX5_fewest 81 = .ok (.ireturn, 1) := by decide +kernel
theorem dX5_help_0 : decode cX5_help 0 = .ok (.iload_n 1, 1) := by decide +kernel
theorem dX5_help_1 : decode cX5_help 1 = .ok (.ifCond .lt 8, 3) := by decide +kernel
theorem dX5_help_4 : decode cX5_help 4 = .ok (.iload_n 1, 1) := by decide +kernel
theorem dX5_help_5 : decode cX5_help 5 = .ok (.iconst 1, 1) := by decide +kernel
theorem dX5_help_6 : decode cX5_help 6 = .ok (.if_icmp .le 6, 3) := by decide +kernel
theorem dX5_help_9 : decode cX5_help 9 = .ok (.bipush (-2), 2) := by decide +kernel
theorem dX5_help_11 : decode cX5_help 11 = .ok (.ireturn, 1) := by decide +kernel
theorem dX5_help_12 : decode cX5_help 12 = .ok (.aload_n 0, 1) := by decide +kernel
theorem dX5_help_13 : decode cX5_help 13 = .ok (.invokevirtual 144, 3) := by decide +kernel
theorem dX5_help_16 : decode cX5_help 16 = .ok (.ifCond .ne 6, 3) := by decide +kernel
theorem dX5_help_19 : decode cX5_help 19 = .ok (.bipush (-3), 2) := by decide +kernel
theorem dX5_help_21 : decode cX5_help 21 = .ok (.ireturn, 1) := by decide +kernel
theorem dX5_help_22 : decode cX5_help 22 = .ok (.aload_n 0, 1) := by decide +kernel
theorem dX5_help_23 : decode cX5_help 23 = .ok (.invokevirtual 198, 3) := by decide +kernel
theorem dX5_help_26 : decode cX5_help 26 = .ok (.iload_n 1, 1) := by decide +kernel
theorem dX5_help_27 : decode cX5_help 27 = .ok (.ifCond .ne 10, 3) := by decide +kernel
theorem dX5_help_30 : decode cX5_help 30 = .ok (.aload_n 0, 1) := by decide +kernel
theorem dX5_help_31 : decode cX5_help 31 = .ok (.getfield 68, 3) := by decide +kernel
theorem dX5_help_34 : decode cX5_help 34 = .ok (.goto 7, 3) := by decide +kernel
theorem dX5_help_37 : decode cX5_help 37 = .ok (.aload_n 0, 1) := by decide +kernel
theorem dX5_help_38 : decode cX5_help 38 = .ok (.getfield 72, 3) := by decide +kernel
theorem dX5_help_41 : decode cX5_help 41 = .ok (.ireturn, 1) := by decide +kernel
theorem dX5_wills_0 : decode cX5_wills 0 = .ok (.aload_n 0, 1) := by decide +kernel
theorem dX5_wills_1 : decode cX5_wills 1 = .ok (.iconst 0, 1) := by decide +kernel
theorem dX5_wills_2 : decode cX5_wills 2 = .ok (.putfield 75, 3) := by decide +kernel
theorem dX5_wills_5 : decode cX5_wills 5 = .ok (.iload_n 1, 1) := by decide +kernel
theorem dX5_wills_6 : decode cX5_wills 6 = .ok (.invokestatic 81, 3) := by decide +kernel
theorem dX5_wills_9 : decode cX5_wills 9 = .ok (.ifCond .ne 5, 3) := by decide +kernel
theorem dX5_wills_12 : decode cX5_wills 12 = .ok (.iconst (-1), 1) := by decide +kernel
theorem dX5_wills_13 : decode cX5_wills 13 = .ok (.ireturn, 1) := by decide +kernel
theorem dX5_wills_14 : decode cX5_wills 14 = .ok (.iload_n 2, 1) := by decide +kernel
theorem dX5_wills_15 : decode cX5_wills 15 = .ok (.invokestatic 85, 3) := by decide +kernel
theorem dX5_wills_18 : decode cX5_wills 18 = .ok (.ifCond .eq 15, 3) := by decide +kernel
theorem dX5_wills_21 : decode cX5_wills 21 = .ok (.iload 4, 2) := by decide +kernel
theorem dX5_wills_23 : decode cX5_wills 23 = .ok (.ifCond .lt 10, 3) := by decide +kernel
theorem dX5_wills_26 : decode cX5_wills 26 = .ok (.iload 4, 2) := by decide +kernel
theorem dX5_wills_28 : decode cX5_wills 28 = .ok (.bipush 6, 2) := by decide +kernel
theorem dX5_wills_30 : decode cX5_wills 30 = .ok (.if_icmp .le 6, 3) := by decide +kernel
theorem dX5_wills_33 : decode cX5_wills 33 = .ok (.bipush (-2), 2) := by decide +kernel
theorem dX5_wills_35 : decode cX5_wills 35 = .ok (.ireturn, 1) := by decide +kernel
theorem dX5_wills_36 : decode cX5_wills 36 = .ok (.aload_n 0, 1) := by decide +kernel
theorem dX5_wills_37 : decode cX5_wills 37 = .ok (.invokevirtual 144, 3) := by decide +kernel
theorem dX5_wills_40 : decode cX5_wills 40 = .ok (.ifCond .ne 6, 3) := by decide +kernel
theorem dX5_wills_43 : decode cX5_wills 43 = .ok (.bipush (-3), 2) := by decide +kernel
theorem dX5_wills_45 : decode cX5_wills 45 = .ok (.ireturn, 1) := by decide +kernel
theorem dX5_wills_46 : decode cX5_wills 46 = .ok (.aload_n 0, 1) := by decide +kernel
theorem dX5_wills_47 : decode cX5_wills 47 = .ok (.iload_n 1, 1) := by decide +kernel
theorem dX5_wills_48 : decode cX5_wills 48 = .ok (.iload_n 2, 1) := by decide +kernel
theorem dX5_wills_49 : decode cX5_wills 49 = .ok (.invokevirtual 88, 3) := by decide +kernel
theorem dX5_wills_52 : decode cX5_wills 52 = .ok (.istore 5, 2) := by decide +kernel
theorem dX5_wills_54 : decode cX5_wills 54 = .ok (.iload 5, 2) := by decide +kernel
theorem dX5_wills_56 : decode cX5_wills 56 = .ok (.ifCond .ne 22, 3) := by decide +kernel
theorem dX5_wills_59 : decode cX5_wills 59 = .ok (.aload_n 0, 1) := by decide +kernel
theorem dX5_wills_60 : decode cX5_wills 60 = .ok (.getfield 15, 3) := by decide +kernel
theorem dX5_wills_63 : decode cX5_wills 63 = .ok (.iload_n 1, 1) := by decide +kernel
theorem dX5_wills_64 : decode cX5_wills 64 = .ok (.iload_n 3, 1) := by decide +kernel
theorem dX5_wills_65 : decode cX5_wills 65 = .ok (.iconst 3, 1) := by decide +kernel
theorem dX5_wills_66 : decode cX5_wills 66 = .ok (.iload 4, 2) := by decide +kernel
theorem dX5_wills_68 : decode cX5_wills 68 = .ok (.imul, 1) := by decide +kernel
theorem dX5_wills_69 : decode cX5_wills 69 = .ok (.invokevirtual 92, 3) := by decide +kernel
theorem dX5_wills_72 : decode cX5_wills 72 = .ok (.ifCond .ne 6, 3) := by decide +kernel
theorem dX5_wills_75 : decode cX5_wills 75 = .ok (.iconst 3, 1) := by decide +kernel
theorem dX5_wills_76 : decode cX5_wills 76 = .ok (.istore 5, 2) := by decide +kernel
theorem dX5_wills_78 : decode cX5_wills 78 = .ok (.iload 5, 2) := by decide +kernel
theorem dX5_wills_80 : decode cX5_wills 80 = .ok (.ifCond .eq 10, 3) := by decide +kernel
theorem dX5_wills_83 : decode cX5_wills 83 = .ok (.aload_n 0, 1) := by decide +kernel
theorem dX5_wills_84 : decode cX5_wills 84 = .ok (.iload 5, 2) := by decide +kernel
theorem dX5_wills_86 : decode cX5_wills 86 = .ok (.invokevirtual 96, 3) := by decide +kernel
theorem dX5_wills_89 : decode cX5_wills 89 = .ok (.ireturn, 1) := by decide +kernel
theorem dX5_wills_90 : decode cX5_wills 90 = .ok (.aload_n 0, 1) := by decide +kernel
theorem dX5_wills_91 : decode cX5_wills 91 = .ok (.iload_n 1, 1) := by decide +kernel
theorem dX5_wills_92 : decode cX5_wills 92 = .ok (.iload_n 3, 1) := by decide +kernel
theorem dX5_wills_93 : decode cX5_wills 93 = .ok (.iload 4, 2) := by decide +kernel
theorem dX5_wills_95 : decode cX5_wills 95 = .ok (.invokevirtual 201, 3) := by decide +kernel
theorem dX5_wills_98 : decode cX5_wills 98 = .ok (.ifCond .ne 6, 3) := by decide +kernel
theorem dX5_wills_101 : decode cX5_wills 101 = .ok (.bipush (-2), 2) := by decide +kernel
theorem dX5_wills_103 : decode cX5_wills 103 = .ok (.ireturn, 1) := by decide +kernel
theorem dX5_wills_104 : decode cX5_wills 104 = .ok (.aload_n 0, 1) := by decide +kernel
theorem dX5_wills_105 : decode cX5_wills 105 = .ok (.getfield 51, 3) := by decide +kernel
theorem dX5_wills_108 : decode cX5_wills 108 = .ok (.aload_n 0, 1) := by decide +kernel
theorem dX5_wills_109 : decode cX5_wills 109 = .ok (.getfield 48, 3) := by decide +kernel
theorem dX5_wills_112 : decode cX5_wills 112 = .ok (.bipush 39, 2) := by decide +kernel
theorem dX5_wills_114 : decode cX5_wills 114 = .ok (.sipush 1000, 3) := by decide +kernel
theorem dX5_wills_117 : decode cX5_wills 117 = .ok (.invokevirtual 204, 3) := by decide +kernel
theorem dX5_wills_120 : decode cX5_wills 120 = .ok (.aload_n 0, 1) := by decide +kernel
theorem dX5_wills_121 : decode cX5_wills 121 = .ok (.getfield 51, 3) := by decide +kernel
theorem dX5_wills_124 : decode cX5_wills 124 = .ok (.getfield 208, 3) := by decide +kernel
theorem dX5_wills_127 : decode cX5_wills 127 = .ok (.ireturn, 1) := by decide +kernel
theorem dX5_reading_0 : decode cX5_reading 0 = .ok (.aload_n 0, 1) := by decide +kernel
theorem dX5_reading_1 : decode cX5_reading 1 = .ok (.iload_n 1, 1) := by decide +kernel
theorem dX5_reading_2 : decode cX5_reading 2 = .ok (.invokevirtual 151, 3) := by decide +kernel
theorem dX5_reading_5 : decode cX5_reading 5 = .ok (.ifCond .eq 17, 3) := by decide +kernel
theorem dX5_reading_8 : decode cX5_reading 8 = .ok (.aload_n 0, 1) := by decide +kernel
theorem dX5_reading_9 : decode cX5_reading 9 = .ok (.iload_n 3, 1) := by decide +kernel
theorem dX5_reading_10 : decode cX5_reading 10 = .ok (.invokevirtual 120, 3) := by decide +kernel
theorem dX5_reading_13 : decode cX5_reading 13 = .ok (.ifCond .ne 11, 3) := by decide +kernel
theorem dX5_reading_16 : decode cX5_reading 16 = .ok (.iload_n 3, 1) := by decide +kernel
theorem dX5_reading_17 : decode cX5_reading 17 = .ok (.bipush (-9), 2) := by decide +kernel
theorem dX5_reading_19 : decode cX5_reading 19 = .ok (.if_icmp .eq 5, 3) := by decide +kernel
theorem dX5_reading_22 : decode cX5_reading 22 = .ok (.iconst (-1), 1) := by decide +kernel
theorem dX5_reading_23 : decode cX5_reading 23 = .ok (.ireturn, 1) := by decide +kernel
theorem dX5_reading_24 : decode cX5_reading 24 = .ok (.iload_n 2, 1) := by decide +kernel
theorem dX5_reading_25 : decode cX5_reading 25 = .ok (.invokestatic 154, 3) := by decide +kernel
theorem dX5_reading_28 : decode cX5_reading 28 = .ok (.ifCond .ne 6, 3) := by decide +kernel
theorem dX5_reading_31 : decode cX5_reading 31 = .ok (.bipush (-2), 2) := by decide +kernel
theorem dX5_reading_33 : decode cX5_reading 33 = .ok (.ireturn, 1) := by decide +kernel
theorem dX5_reading_34 : decode cX5_reading 34 = .ok (.aload_n 0, 1) := by decide +kernel
theorem dX5_reading_35 : decode cX5_reading 35 = .ok (.getfield 35, 3) := by decide +kernel
theorem dX5_reading_38 : decode cX5_reading 38 = .ok (.getfield 111, 3) := by decide +kernel
theorem dX5_reading_41 : decode cX5_reading 41 = .ok (.bipush 8, 2) := by decide +kernel
theorem dX5_reading_43 : decode cX5_reading 43 = .ok (.if_icmp .lt 6, 3) := by decide +kernel
theorem dX5_reading_46 : decode cX5_reading 46 = .ok (.bipush (-4), 2) := by decide +kernel
theorem dX5_reading_48 : decode cX5_reading 48 = .ok (.ireturn, 1) := by decide +kernel
theorem dX5_reading_49 : decode cX5_reading 49 = .ok (.aload_n 0, 1) := by decide +kernel
theorem dX5_reading_50 : decode cX5_reading 50 = .ok (.getfield 35, 3) := by decide +kernel
theorem dX5_reading_53 : decode cX5_reading 53 = .ok (.iload_n 1, 1) := by decide +kernel
theorem dX5_reading_54 : decode cX5_reading 54 = .ok (.iload_n 2, 1) := by decide +kernel
theorem dX5_reading_55 : decode cX5_reading 55 = .ok (.iload_n 3, 1) := by decide +kernel
theorem dX5_reading_56 : decode cX5_reading 56 = .ok (.invokevirtual 211, 3) := by decide +kernel
theorem dX5_reading_59 : decode cX5_reading 59 = .ok (.aload_n 0, 1) := by decide +kernel
theorem dX5_reading_60 : decode cX5_reading 60 = .ok (.getfield 35, 3) := by decide +kernel
theorem dX5_reading_63 : decode cX5_reading 63 = .ok (.getfield 111, 3) := by decide +kernel
theorem dX5_reading_66 : decode cX5_reading 66 = .ok (.iconst 1, 1) := by decide +kernel
theorem dX5_reading_67 : decode cX5_reading 67 = .ok (.isub, 1) := by decide +kernel
theorem dX5_reading_68 : decode cX5_reading 68 = .ok (.ireturn, 1) := by decide +kernel
theorem dX5_back_0 : decode cX5_back 0 = .ok (.iload_n 1, 1) := by decide +kernel
theorem dX5_back_1 : decode cX5_back 1 = .ok (.ifCond .lt 14, 3) := by decide +kernel
theorem dX5_back_4 : decode cX5_back 4 = .ok (.iload_n 1, 1) := by decide +kernel
theorem dX5_back_5 : decode cX5_back 5 = .ok (.aload_n 0, 1) := by decide +kernel
theorem dX5_back_6 : decode cX5_back 6 = .ok (.getfield 35, 3) := by decide +kernel
theorem dX5_back_9 : decode cX5_back 9 = .ok (.getfield 111, 3) := by decide +kernel
theorem dX5_back_12 : decode cX5_back 12 = .ok (.if_icmp .le 6, 3) := by decide +kernel
theorem dX5_back_15 : decode cX5_back 15 = .ok (.bipush (-2), 2) := by decide +kernel
theorem dX5_back_17 : decode cX5_back 17 = .ok (.ireturn, 1) := by decide +kernel
theorem dX5_back_18 : decode cX5_back 18 = .ok (.aload_n 0, 1) := by decide +kernel
theorem dX5_back_19 : decode cX5_back 19 = .ok (.getfield 35, 3) := by decide +kernel
theorem dX5_back_22 : decode cX5_back 22 = .ok (.dup, 1) := by decide +kernel
theorem dX5_back_23 : decode cX5_back 23 = .ok (.getfield 111, 3) := by decide +kernel
theorem dX5_back_26 : decode cX5_back 26 = .ok (.iload_n 1, 1) := by decide +kernel
theorem dX5_back_27 : decode cX5_back 27 = .ok (.isub, 1) := by decide +kernel
theorem dX5_back_28 : decode cX5_back 28 = .ok (.putfield 111, 3) := by decide +kernel
theorem dX5_back_31 : decode cX5_back 31 = .ok (.aload_n 0, 1) := by decide +kernel
theorem dX5_back_32 : decode cX5_back 32 = .ok (.getfield 35, 3) := by decide +kernel
theorem dX5_back_35 : decode cX5_back 35 = .ok (.getfield 111, 3) := by decide +kernel
theorem dX5_back_38 : decode cX5_back 38 = .ok (.ireturn, 1) := by decide +kernel
theorem dX5_laws_0 : decode cX5_laws 0 = .ok (.aload_n 0, 1) := by decide +kernel
theorem dX5_laws_1 : decode cX5_laws 1 = .ok (.invokevirtual 144, 3) := by decide +kernel
theorem dX5_laws_4 : decode cX5_laws 4 = .ok (.ifCond .ne 6, 3) := by decide +kernel
theorem dX5_laws_7 : decode cX5_laws 7 = .ok (.bipush (-3), 2) := by decide +kernel
theorem dX5_laws_9 : decode cX5_laws 9 = .ok (.ireturn, 1) := by decide +kernel
theorem dX5_laws_10 : decode cX5_laws 10 = .ok (.iconst 0, 1) := by decide +kernel
theorem dX5_laws_11 : decode cX5_laws 11 = .ok (.istore_n 1, 1) := by decide +kernel
theorem dX5_laws_12 : decode cX5_laws 12 = .ok (.iconst 0, 1) := by decide +kernel
theorem dX5_laws_13 : decode cX5_laws 13 = .ok (.istore_n 2, 1) := by decide +kernel
theorem dX5_laws_14 : decode cX5_laws 14 = .ok (.iload_n 2, 1) := by decide +kernel
theorem dX5_laws_15 : decode cX5_laws 15 = .ok (.iconst 3, 1) := by decide +kernel
theorem dX5_laws_16 : decode cX5_laws 16 = .ok (.if_icmp .ge 41, 3) := by decide +kernel
theorem dX5_laws_19 : decode cX5_laws 19 = .ok (.aload_n 0, 1) := by decide +kernel
theorem dX5_laws_20 : decode cX5_laws 20 = .ok (.getfield 48, 3) := by decide +kernel
theorem dX5_laws_23 : decode cX5_laws 23 = .ok (.aload_n 0, 1) := by decide +kernel
theorem dX5_laws_24 : decode cX5_laws 24 = .ok (.getfield 28, 3) := by decide +kernel
theorem dX5_laws_27 : decode cX5_laws 27 = .ok (.invokevirtual 214, 3) := by decide +kernel
theorem dX5_laws_30 : decode cX5_laws 30 = .ok (.aload_n 0, 1) := by decide +kernel
theorem dX5_laws_31 : decode cX5_laws 31 = .ok (.getfield 48, 3) := by decide +kernel
theorem dX5_laws_34 : decode cX5_laws 34 = .ok (.iload_n 2, 1) := by decide +kernel
theorem dX5_laws_35 : decode cX5_laws 35 = .ok (.putfield 148, 3) := by decide +kernel
theorem dX5_laws_38 : decode cX5_laws 38 = .ok (.aload_n 0, 1) := by decide +kernel
theorem dX5_laws_39 : decode cX5_laws 39 = .ok (.invokevirtual 218, 3) := by decide +kernel
theorem dX5_laws_42 : decode cX5_laws 42 = .ok (.ifCond .eq 9, 3) := by decide +kernel
theorem dX5_laws_45 : decode cX5_laws 45 = .ok (.iload_n 1, 1) := by decide +kernel
theorem dX5_laws_46 : decode cX5_laws 46 = .ok (.iconst 1, 1) := by decide +kernel
theorem dX5_laws_47 : decode cX5_laws 47 = .ok (.iload_n 2, 1) := by decide +kernel
theorem dX5_laws_48 : decode cX5_laws 48 = .ok (.ishl, 1) := by decide +kernel
theorem dX5_laws_49 : decode cX5_laws 49 = .ok (.ior, 1) := by decide +kernel
theorem dX5_laws_50 : decode cX5_laws 50 = .ok (.istore_n 1, 1) := by decide +kernel
theorem dX5_laws_51 : decode cX5_laws 51 = .ok (.iinc 2 1, 3) := by decide +kernel
theorem dX5_laws_54 : decode cX5_laws 54 = .ok (.goto (-40), 3) := by decide +kernel
theorem dX5_laws_57 : decode cX5_laws 57 = .ok (.iload_n 1, 1) := by decide +kernel
theorem dX5_laws_58 : decode cX5_laws 58 = .ok (.ireturn, 1) := by decide +kernel
theorem dX5_stubborn_0 : decode cX5_stubborn 0 = .ok (.aload_n 0, 1) := by decide +kernel
theorem dX5_stubborn_1 : decode cX5_stubborn 1 = .ok (.invokevirtual 144, 3) := by decide +kernel
theorem dX5_stubborn_4 : decode cX5_stubborn 4 = .ok (.ifCond .ne 6, 3) := by decide +kernel
theorem dX5_stubborn_7 : decode cX5_stubborn 7 = .ok (.bipush (-3), 2) := by decide +kernel
theorem dX5_stubborn_9 : decode cX5_stubborn 9 = .ok (.ireturn, 1) := by decide +kernel
theorem dX5_stubborn_10 : decode cX5_stubborn 10 = .ok (.iconst 0, 1) := by decide +kernel
theorem dX5_stubborn_11 : decode cX5_stubborn 11 = .ok (.istore_n 1, 1) := by decide +kernel
theorem dX5_stubborn_12 : decode cX5_stubborn 12 = .ok (.iconst 0, 1) := by decide +kernel
theorem dX5_stubborn_13 : decode cX5_stubborn 13 = .ok (.istore_n 2, 1) := by decide +kernel
theorem dX5_stubborn_14 : decode cX5_stubborn 14 = .ok (.iload_n 2, 1) := by decide +kernel
theorem dX5_stubborn_15 : decode cX5_stubborn 15 = .ok (.aload_n 0, 1) := by decide +kernel
theorem dX5_stubborn_16 : decode cX5_stubborn 16 = .ok (.getfield 21, 3) := by decide +kernel
theorem dX5_stubborn_19 : decode cX5_stubborn 19 = .ok (.getfield 117, 3) := by decide +kernel
theorem dX5_stubborn_22 : decode cX5_stubborn 22 = .ok (.if_icmp .ge 48, 3) := by decide +kernel
theorem dX5_stubborn_25 : decode cX5_stubborn 25 = .ok (.aload_n 0, 1) := by decide +kernel
theorem dX5_stubborn_26 : decode cX5_stubborn 26 = .ok (.getfield 48, 3) := by decide +kernel
theorem dX5_stubborn_29 : decode cX5_stubborn 29 = .ok (.aload_n 0, 1) := by decide +kernel
theorem dX5_stubborn_30 : decode cX5_stubborn 30 = .ok (.getfield 28, 3) := by decide +kernel
theorem dX5_stubborn_33 : decode cX5_stubborn 33 = .ok (.invokevirtual 214, 3) := by decide +kernel
theorem dX5_stubborn_36 : decode cX5_stubborn 36 = .ok (.aload_n 0, 1) := by decide +kernel
theorem dX5_stubborn_37 : decode cX5_stubborn 37 = .ok (.getfield 48, 3) := by decide +kernel
theorem dX5_stubborn_40 : decode cX5_stubborn 40 = .ok (.dup, 1) := by decide +kernel
theorem dX5_stubborn_41 : decode cX5_stubborn 41 = .ok (.getfield 141, 3) := by decide +kernel
theorem dX5_stubborn_44 : decode cX5_stubborn 44 = .ok (.iconst 1, 1) := by decide +kernel
theorem dX5_stubborn_45 : decode cX5_stubborn 45 = .ok (.iload_n 2, 1) := by decide +kernel
theorem dX5_stubborn_46 : decode cX5_stubborn 46 = .ok (.ishl, 1) := by decide +kernel
theorem dX5_stubborn_47 : decode cX5_stubborn 47 = .ok (.ior, 1) := by decide +kernel
theorem dX5_stubborn_48 : decode cX5_stubborn 48 = .ok (.putfield 141, 3) := by decide +kernel
theorem dX5_stubborn_51 : decode cX5_stubborn 51 = .ok (.aload_n 0, 1) := by decide +kernel
theorem dX5_stubborn_52 : decode cX5_stubborn 52 = .ok (.invokevirtual 218, 3) := by decide +kernel
theorem dX5_stubborn_55 : decode cX5_stubborn 55 = .ok (.ifCond .eq 9, 3) := by decide +kernel
theorem dX5_stubborn_58 : decode cX5_stubborn 58 = .ok (.iload_n 1, 1) := by decide +kernel
theorem dX5_stubborn_59 : decode cX5_stubborn 59 = .ok (.iconst 1, 1) := by decide +kernel
theorem dX5_stubborn_60 : decode cX5_stubborn 60 = .ok (.iload_n 2, 1) := by decide +kernel
theorem dX5_stubborn_61 : decode cX5_stubborn 61 = .ok (.ishl, 1) := by decide +kernel
theorem dX5_stubborn_62 : decode cX5_stubborn 62 = .ok (.ior, 1) := by decide +kernel
theorem dX5_stubborn_63 : decode cX5_stubborn 63 = .ok (.istore_n 1, 1) := by decide +kernel
theorem dX5_stubborn_64 : decode cX5_stubborn 64 = .ok (.iinc 2 1, 3) := by decide +kernel
theorem dX5_stubborn_67 : decode cX5_stubborn 67 = .ok (.goto (-53), 3) := by decide +kernel
theorem dX5_stubborn_70 : decode cX5_stubborn 70 = .ok (.iload_n 1, 1) := by decide +kernel
theorem dX5_stubborn_71 : decode cX5_stubborn 71 = .ok (.ireturn, 1) := by decide +kernel
theorem dX5_named_0 : decode cX5_named 0 = .ok (.aload_n 0, 1) := by decide +kernel
theorem dX5_named_1 : decode cX5_named 1 = .ok (.iload_n 1, 1) := by decide +kernel
theorem dX5_named_2 : decode cX5_named 2 = .ok (.invokevirtual 151, 3) := by decide +kernel
theorem dX5_named_5 : decode cX5_named 5 = .ok (.ifCond .ne 5, 3) := by decide +kernel
theorem dX5_named_8 : decode cX5_named 8 = .ok (.iconst (-1), 1) := by decide +kernel
theorem dX5_named_9 : decode cX5_named 9 = .ok (.ireturn, 1) := by decide +kernel
theorem dX5_named_10 : decode cX5_named 10 = .ok (.iload_n 2, 1) := by decide +kernel
theorem dX5_named_11 : decode cX5_named 11 = .ok (.invokestatic 154, 3) := by decide +kernel
theorem dX5_named_14 : decode cX5_named 14 = .ok (.ifCond .ne 6, 3) := by decide +kernel
theorem dX5_named_17 : decode cX5_named 17 = .ok (.bipush (-2), 2) := by decide +kernel
theorem dX5_named_19 : decode cX5_named 19 = .ok (.ireturn, 1) := by decide +kernel
theorem dX5_named_20 : decode cX5_named 20 = .ok (.iconst 0, 1) := by decide +kernel
theorem dX5_named_21 : decode cX5_named 21 = .ok (.istore_n 3, 1) := by decide +kernel
theorem dX5_named_22 : decode cX5_named 22 = .ok (.iconst 0, 1) := by decide +kernel
theorem dX5_named_23 : decode cX5_named 23 = .ok (.istore 4, 2) := by decide +kernel
theorem dX5_named_25 : decode cX5_named 25 = .ok (.iload 4, 2) := by decide +kernel
theorem dX5_named_27 : decode cX5_named 27 = .ok (.aload_n 0, 1) := by decide +kernel
theorem dX5_named_28 : decode cX5_named 28 = .ok (.getfield 21, 3) := by decide +kernel
theorem dX5_named_31 : decode cX5_named 31 = .ok (.getfield 117, 3) := by decide +kernel
theorem dX5_named_34 : decode cX5_named 34 = .ok (.if_icmp .ge 45, 3) := by decide +kernel
theorem dX5_named_37 : decode cX5_named 37 = .ok (.aload_n 0, 1) := by decide +kernel
theorem dX5_named_38 : decode cX5_named 38 = .ok (.getfield 48, 3) := by decide +kernel
theorem dX5_named_41 : decode cX5_named 41 = .ok (.aload_n 0, 1) := by decide +kernel
theorem dX5_named_42 : decode cX5_named 42 = .ok (.getfield 28, 3) := by decide +kernel
theorem dX5_named_45 : decode cX5_named 45 = .ok (.invokevirtual 214, 3) := by decide +kernel
theorem dX5_named_48 : decode cX5_named 48 = .ok (.aload_n 0, 1) := by decide +kernel
theorem dX5_named_49 : decode cX5_named 49 = .ok (.getfield 48, 3) := by decide +kernel
theorem dX5_named_52 : decode cX5_named 52 = .ok (.iload_n 1, 1) := by decide +kernel
theorem dX5_named_53 : decode cX5_named 53 = .ok (.iload 4, 2) := by decide +kernel
theorem dX5_named_55 : decode cX5_named 55 = .ok (.iload_n 2, 1) := by decide +kernel
theorem dX5_named_56 : decode cX5_named 56 = .ok (.invokevirtual 160, 3) := by decide +kernel
theorem dX5_named_59 : decode cX5_named 59 = .ok (.aload_n 0, 1) := by decide +kernel
theorem dX5_named_60 : decode cX5_named 60 = .ok (.invokevirtual 218, 3) := by decide +kernel
theorem dX5_named_63 : decode cX5_named 63 = .ok (.ifCond .eq 10, 3) := by decide +kernel
theorem dX5_named_66 : decode cX5_named 66 = .ok (.iload_n 3, 1) := by decide +kernel
theorem dX5_named_67 : decode cX5_named 67 = .ok (.iconst 1, 1) := by decide +kernel
theorem dX5_named_68 : decode cX5_named 68 = .ok (.iload 4, 2) := by decide +kernel
theorem dX5_named_70 : decode cX5_named 70 = .ok (.ishl, 1) := by decide +kernel
theorem dX5_named_71 : decode cX5_named 71 = .ok (.ior, 1) := by decide +kernel
theorem dX5_named_72 : decode cX5_named 72 = .ok (.istore_n 3, 1) := by decide +kernel
theorem dX5_named_73 : decode cX5_named 73 = .ok (.iinc 4 1, 3) := by decide +kernel
theorem dX5_named_76 : decode cX5_named 76 = .ok (.goto (-51), 3) := by decide +kernel
theorem dX5_named_79 : decode cX5_named 79 = .ok (.iload_n 3, 1) := by decide +kernel
theorem dX5_named_80 : decode cX5_named 80 = .ok (.ireturn, 1) := by decide +kernel
theorem dX5_opened_0 : decode cX5_opened 0 = .ok (.aload_n 0, 1) := by decide +kernel
theorem dX5_opened_1 : decode cX5_opened 1 = .ok (.invokevirtual 144, 3) := by decide +kernel
theorem dX5_opened_4 : decode cX5_opened 4 = .ok (.ifCond .ne 6, 3) := by decide +kernel
theorem dX5_opened_7 : decode cX5_opened 7 = .ok (.bipush (-3), 2) := by decide +kernel
theorem dX5_opened_9 : decode cX5_opened 9 = .ok (.ireturn, 1) := by decide +kernel
theorem dX5_opened_10 : decode cX5_opened 10 = .ok (.iconst 0, 1) := by decide +kernel
theorem dX5_opened_11 : decode cX5_opened 11 = .ok (.istore_n 1, 1) := by decide +kernel
theorem dX5_opened_12 : decode cX5_opened 12 = .ok (.iconst 0, 1) := by decide +kernel
theorem dX5_opened_13 : decode cX5_opened 13 = .ok (.istore_n 2, 1) := by decide +kernel
theorem dX5_opened_14 : decode cX5_opened 14 = .ok (.iload_n 2, 1) := by decide +kernel
theorem dX5_opened_15 : decode cX5_opened 15 = .ok (.aload_n 0, 1) := by decide +kernel
theorem dX5_opened_16 : decode cX5_opened 16 = .ok (.getfield 21, 3) := by decide +kernel
theorem dX5_opened_19 : decode cX5_opened 19 = .ok (.getfield 221, 3) := by decide +kernel
theorem dX5_opened_22 : decode cX5_opened 22 = .ok (.if_icmp .ge 44, 3) := by decide +kernel
theorem dX5_opened_25 : decode cX5_opened 25 = .ok (.aload_n 0, 1) := by decide +kernel
theorem dX5_opened_26 : decode cX5_opened 26 = .ok (.getfield 48, 3) := by decide +kernel
theorem dX5_opened_29 : decode cX5_opened 29 = .ok (.aload_n 0, 1) := by decide +kernel
theorem dX5_opened_30 : decode cX5_opened 30 = .ok (.getfield 28, 3) := by decide +kernel
theorem dX5_opened_33 : decode cX5_opened 33 = .ok (.invokevirtual 214, 3) := by decide +kernel
theorem dX5_opened_36 : decode cX5_opened 36 = .ok (.aload_n 0, 1) := by decide +kernel
theorem dX5_opened_37 : decode cX5_opened 37 = .ok (.getfield 48, 3) := by decide +kernel
theorem dX5_opened_40 : decode cX5_opened 40 = .ok (.getfield 164, 3) := by decide +kernel
theorem dX5_opened_43 : decode cX5_opened 43 = .ok (.iload_n 2, 1) := by decide +kernel
theorem dX5_opened_44 : decode cX5_opened 44 = .ok (.bipush 40, 2) := by decide +kernel
theorem dX5_opened_46 : decode cX5_opened 46 = .ok (.iastore, 1) := by decide +kernel
theorem dX5_opened_47 : decode cX5_opened 47 = .ok (.aload_n 0, 1) := by decide +kernel
theorem dX5_opened_48 : decode cX5_opened 48 = .ok (.invokevirtual 218, 3) := by decide +kernel
theorem dX5_opened_51 : decode cX5_opened 51 = .ok (.ifCond .eq 9, 3) := by decide +kernel
theorem dX5_opened_54 : decode cX5_opened 54 = .ok (.iload_n 1, 1) := by decide +kernel
theorem dX5_opened_55 : decode cX5_opened 55 = .ok (.iconst 1, 1) := by decide +kernel
theorem dX5_opened_56 : decode cX5_opened 56 = .ok (.iload_n 2, 1) := by decide +kernel
theorem dX5_opened_57 : decode cX5_opened 57 = .ok (.ishl, 1) := by decide +kernel
theorem dX5_opened_58 : decode cX5_opened 58 = .ok (.ior, 1) := by decide +kernel
theorem dX5_opened_59 : decode cX5_opened 59 = .ok (.istore_n 1, 1) := by decide +kernel
theorem dX5_opened_60 : decode cX5_opened 60 = .ok (.iinc 2 1, 3) := by decide +kernel
theorem dX5_opened_63 : decode cX5_opened 63 = .ok (.goto (-49), 3) := by decide +kernel
theorem dX5_opened_66 : decode cX5_opened 66 = .ok (.iload_n 1, 1) := by decide +kernel
theorem dX5_opened_67 : decode cX5_opened 67 = .ok (.ireturn, 1) := by decide +kernel
theorem dX5_odds_0 : decode cX5_odds 0 = .ok (.iload_n 1, 1) := by decide +kernel
theorem dX5_odds_1 : decode cX5_odds 1 = .ok (.invokestatic 154, 3) := by decide +kernel
theorem dX5_odds_4 : decode cX5_odds 4 = .ok (.ifCond .eq 12, 3) := by decide +kernel
theorem dX5_odds_7 : decode cX5_odds 7 = .ok (.iload_n 2, 1) := by decide +kernel
theorem dX5_odds_8 : decode cX5_odds 8 = .ok (.ifCond .lt 8, 3) := by decide +kernel
theorem dX5_odds_11 : decode cX5_odds 11 = .ok (.iload_n 2, 1) := by decide +kernel
theorem dX5_odds_12 : decode cX5_odds 12 = .ok (.iconst 1, 1) := by decide +kernel
theorem dX5_odds_13 : decode cX5_odds 13 = .ok (.if_icmp .le 7, 3) := by decide +kernel
theorem dX5_odds_16 : decode cX5_odds 16 = .ok (.ldc2_w 224, 3) := by decide +kernel
theorem dX5_odds_19 : decode cX5_odds 19 = .ok (.lreturn, 1) := by decide +kernel
theorem dX5_odds_20 : decode cX5_odds 20 = .ok (.aload_n 0, 1) := by decide +kernel
theorem dX5_odds_21 : decode cX5_odds 21 = .ok (.invokevirtual 144, 3) := by decide +kernel
theorem dX5_odds_24 : decode cX5_odds 24 = .ok (.ifCond .ne 7, 3) := by decide +kernel
theorem dX5_odds_27 : decode cX5_odds 27 = .ok (.ldc2_w 224, 3) := by decide +kernel
theorem dX5_odds_30 : decode cX5_odds 30 = .ok (.lreturn, 1) := by decide +kernel
theorem dX5_odds_31 : decode cX5_odds 31 = .ok (.aload_n 0, 1) := by decide +kernel
theorem dX5_odds_32 : decode cX5_odds 32 = .ok (.invokevirtual 186, 3) := by decide +kernel
theorem dX5_odds_35 : decode cX5_odds 35 = .ok (.aload_n 0, 1) := by decide +kernel
theorem dX5_odds_36 : decode cX5_odds 36 = .ok (.getfield 21, 3) := by decide +kernel
theorem dX5_odds_39 : decode cX5_odds 39 = .ok (.invokevirtual 189, 3) := by decide +kernel
theorem dX5_odds_42 : decode cX5_odds 42 = .ok (.istore_n 3, 1) := by decide +kernel
theorem dX5_odds_43 : decode cX5_odds 43 = .ok (.iconst 0, 1) := by decide +kernel
theorem dX5_odds_44 : decode cX5_odds 44 = .ok (.istore 4, 2) := by decide +kernel
theorem dX5_odds_46 : decode cX5_odds 46 = .ok (.iconst 0, 1) := by decide +kernel
theorem dX5_odds_47 : decode cX5_odds 47 = .ok (.istore 5, 2) := by decide +kernel
theorem dX5_odds_49 : decode cX5_odds 49 = .ok (.iload 5, 2) := by decide +kernel
theorem dX5_odds_51 : decode cX5_odds 51 = .ok (.aload_n 0, 1) := by decide +kernel
theorem dX5_odds_52 : decode cX5_odds 52 = .ok (.getfield 21, 3) := by decide +kernel
theorem dX5_odds_55 : decode cX5_odds 55 = .ok (.invokevirtual 189, 3) := by decide +kernel
theorem dX5_odds_58 : decode cX5_odds 58 = .ok (.if_icmp .ge 23, 3) := by decide +kernel
theorem dX5_odds_61 : decode cX5_odds 61 = .ok (.aload_n 0, 1) := by decide +kernel
theorem dX5_odds_62 : decode cX5_odds 62 = .ok (.getfield 54, 3) := by decide +kernel
theorem dX5_odds_65 : decode cX5_odds 65 = .ok (.iload 5, 2) := by decide +kernel
theorem dX5_odds_67 : decode cX5_odds 67 = .ok (.iaload, 1) := by decide +kernel
theorem dX5_odds_68 : decode cX5_odds 68 = .ok (.iload_n 1, 1) := by decide +kernel
theorem dX5_odds_69 : decode cX5_odds 69 = .ok (.if_icmp .le 6, 3) := by decide +kernel
theorem dX5_odds_72 : decode cX5_odds 72 = .ok (.iinc 4 1, 3) := by decide +kernel
theorem dX5_odds_75 : decode cX5_odds 75 = .ok (.iinc 5 1, 3) := by decide +kernel
theorem dX5_odds_78 : decode cX5_odds 78 = .ok (.goto (-29), 3) := by decide +kernel
theorem dX5_odds_81 : decode cX5_odds 81 = .ok (.iload_n 3, 1) := by decide +kernel
theorem dX5_odds_82 : decode cX5_odds 82 = .ok (.iconst 1, 1) := by decide +kernel
theorem dX5_odds_83 : decode cX5_odds 83 = .ok (.if_icmp .le 23, 3) := by decide +kernel
theorem dX5_odds_86 : decode cX5_odds 86 = .ok (.iload 4, 2) := by decide +kernel
theorem dX5_odds_88 : decode cX5_odds 88 = .ok (.iconst 2, 1) := by decide +kernel
theorem dX5_odds_89 : decode cX5_odds 89 = .ok (.irem, 1) := by decide +kernel
theorem dX5_odds_90 : decode cX5_odds 90 = .ok (.ifCond .ne 16, 3) := by decide +kernel
theorem dX5_odds_93 : decode cX5_odds 93 = .ok (.iload 4, 2) := by decide +kernel
theorem dX5_odds_95 : decode cX5_odds 95 = .ok (.iconst 2, 1) := by decide +kernel
theorem dX5_odds_96 : decode cX5_odds 96 = .ok (.idiv, 1) := by decide +kernel
theorem dX5_odds_97 : decode cX5_odds 97 = .ok (.istore 4, 2) := by decide +kernel
theorem dX5_odds_99 : decode cX5_odds 99 = .ok (.iload_n 3, 1) := by decide +kernel
theorem dX5_odds_100 : decode cX5_odds 100 = .ok (.iconst 2, 1) := by decide +kernel
theorem dX5_odds_101 : decode cX5_odds 101 = .ok (.idiv, 1) := by decide +kernel
theorem dX5_odds_102 : decode cX5_odds 102 = .ok (.istore_n 3, 1) := by decide +kernel
theorem dX5_odds_103 : decode cX5_odds 103 = .ok (.goto (-22), 3) := by decide +kernel
theorem dX5_odds_106 : decode cX5_odds 106 = .ok (.iload_n 2, 1) := by decide +kernel
theorem dX5_odds_107 : decode cX5_odds 107 = .ok (.ifCond .ne 9, 3) := by decide +kernel
theorem dX5_odds_110 : decode cX5_odds 110 = .ok (.iload 4, 2) := by decide +kernel
theorem dX5_odds_112 : decode cX5_odds 112 = .ok (.i2l, 1) := by decide +kernel
theorem dX5_odds_113 : decode cX5_odds 113 = .ok (.goto 5, 3) := by decide +kernel
theorem dX5_odds_116 : decode cX5_odds 116 = .ok (.iload_n 3, 1) := by decide +kernel
theorem dX5_odds_117 : decode cX5_odds 117 = .ok (.i2l, 1) := by decide +kernel
theorem dX5_odds_118 : decode cX5_odds 118 = .ok (.lreturn, 1) := by decide +kernel
theorem dX5_sheet_0 : decode cX5_sheet 0 = .ok (.aload_n 0, 1) := by decide +kernel
theorem dX5_sheet_1 : decode cX5_sheet 1 = .ok (.iconst 0, 1) := by decide +kernel
theorem dX5_sheet_2 : decode cX5_sheet 2 = .ok (.putfield 75, 3) := by decide +kernel
theorem dX5_sheet_5 : decode cX5_sheet 5 = .ok (.iload_n 1, 1) := by decide +kernel
theorem dX5_sheet_6 : decode cX5_sheet 6 = .ok (.invokestatic 81, 3) := by decide +kernel
theorem dX5_sheet_9 : decode cX5_sheet 9 = .ok (.ifCond .ne 5, 3) := by decide +kernel
theorem dX5_sheet_12 : decode cX5_sheet 12 = .ok (.iconst (-1), 1) := by decide +kernel
theorem dX5_sheet_13 : decode cX5_sheet 13 = .ok (.ireturn, 1) := by decide +kernel
theorem dX5_sheet_14 : decode cX5_sheet 14 = .ok (.iload_n 2, 1) := by decide +kernel
theorem dX5_sheet_15 : decode cX5_sheet 15 = .ok (.invokestatic 85, 3) := by decide +kernel
theorem dX5_sheet_18 : decode cX5_sheet 18 = .ok (.ifCond .eq 9, 3) := by decide +kernel
theorem dX5_sheet_21 : decode cX5_sheet 21 = .ok (.iload_n 3, 1) := by decide +kernel
theorem dX5_sheet_22 : decode cX5_sheet 22 = .ok (.bipush 60, 2) := by decide +kernel
theorem dX5_sheet_24 : decode cX5_sheet 24 = .ok (.if_icmp .le 6, 3) := by decide +kernel
theorem dX5_sheet_27 : decode cX5_sheet 27 = .ok (.bipush (-2), 2) := by decide +kernel
theorem dX5_sheet_29 : decode cX5_sheet 29 = .ok (.ireturn, 1) := by decide +kernel
theorem dX5_sheet_30 : decode cX5_sheet 30 = .ok (.iload_n 3, 1) := by decide +kernel
theorem dX5_sheet_31 : decode cX5_sheet 31 = .ok (.ifCond .ge 9, 3) := by decide +kernel
theorem dX5_sheet_34 : decode cX5_sheet 34 = .ok (.aload_n 0, 1) := by decide +kernel
theorem dX5_sheet_35 : decode cX5_sheet 35 = .ok (.iconst 4, 1) := by decide +kernel
theorem dX5_sheet_36 : decode cX5_sheet 36 = .ok (.invokevirtual 96, 3) := by decide +kernel
theorem dX5_sheet_39 : decode cX5_sheet 39 = .ok (.ireturn, 1) := by decide +kernel
theorem dX5_sheet_40 : decode cX5_sheet 40 = .ok (.aload_n 0, 1) := by decide +kernel
theorem dX5_sheet_41 : decode cX5_sheet 41 = .ok (.getfield 15, 3) := by decide +kernel
theorem dX5_sheet_44 : decode cX5_sheet 44 = .ok (.iload_n 1, 1) := by decide +kernel
theorem dX5_sheet_45 : decode cX5_sheet 45 = .ok (.iload_n 2, 1) := by decide +kernel
theorem dX5_sheet_46 : decode cX5_sheet 46 = .ok (.iload_n 3, 1) := by decide +kernel
theorem dX5_sheet_47 : decode cX5_sheet 47 = .ok (.invokevirtual 226, 3) := by decide +kernel
theorem dX5_sheet_50 : decode cX5_sheet 50 = .ok (.iconst 1, 1) := by decide +kernel
theorem dX5_sheet_51 : decode cX5_sheet 51 = .ok (.ireturn, 1) := by decide +kernel
theorem dX5_lose_0 : decode cX5_lose 0 = .ok (.iload_n 1, 1) := by decide +kernel
theorem dX5_lose_1 : decode cX5_lose 1 = .ok (.invokestatic 81, 3) := by decide +kernel
theorem dX5_lose_4 : decode cX5_lose 4 = .ok (.ifCond .ne 5, 3) := by decide +kernel
theorem dX5_lose_7 : decode cX5_lose 7 = .ok (.iconst (-1), 1) := by decide +kernel
theorem dX5_lose_8 : decode cX5_lose 8 = .ok (.ireturn, 1) := by decide +kernel
theorem dX5_lose_9 : decode cX5_lose 9 = .ok (.aload_n 0, 1) := by decide +kernel
theorem dX5_lose_10 : decode cX5_lose 10 = .ok (.getfield 15, 3) := by decide +kernel
theorem dX5_lose_13 : decode cX5_lose 13 = .ok (.iload_n 1, 1) := by decide +kernel
theorem dX5_lose_14 : decode cX5_lose 14 = .ok (.invokevirtual 229, 3) := by decide +kernel
theorem dX5_lose_17 : decode cX5_lose 17 = .ok (.ifCond .ne 5, 3) := by decide +kernel
theorem dX5_lose_20 : decode cX5_lose 20 = .ok (.iconst 0, 1) := by decide +kernel
theorem dX5_lose_21 : decode cX5_lose 21 = .ok (.ireturn, 1) := by decide +kernel
theorem dX5_lose_22 : decode cX5_lose 22 = .ok (.aload_n 0, 1) := by decide +kernel
theorem dX5_lose_23 : decode cX5_lose 23 = .ok (.getfield 15, 3) := by decide +kernel
theorem dX5_lose_26 : decode cX5_lose 26 = .ok (.iload_n 1, 1) := by decide +kernel
theorem dX5_lose_27 : decode cX5_lose 27 = .ok (.invokevirtual 232, 3) := by decide +kernel
theorem dX5_lose_30 : decode cX5_lose 30 = .ok (.iconst 1, 1) := by decide +kernel
theorem dX5_lose_31 : decode cX5_lose 31 = .ok (.ireturn, 1) := by decide +kernel
theorem dX5_put_0 : decode cX5_put 0 = .ok (.aload_n 0, 1) := by decide +kernel
theorem dX5_put_1 : decode cX5_put 1 = .ok (.iconst 0, 1) := by decide +kernel
theorem dX5_put_2 : decode cX5_put 2 = .ok (.putfield 75, 3) := by decide +kernel
theorem dX5_put_5 : decode cX5_put 5 = .ok (.iload_n 1, 1) := by decide +kernel
theorem dX5_put_6 : decode cX5_put 6 = .ok (.invokestatic 81, 3) := by decide +kernel
theorem dX5_put_9 : decode cX5_put 9 = .ok (.ifCond .ne 5, 3) := by decide +kernel
theorem dX5_put_12 : decode cX5_put 12 = .ok (.iconst (-1), 1) := by decide +kernel
theorem dX5_put_13 : decode cX5_put 13 = .ok (.ireturn, 1) := by decide +kernel
theorem dX5_put_14 : decode cX5_put 14 = .ok (.aload_n 0, 1) := by decide +kernel
theorem dX5_put_15 : decode cX5_put 15 = .ok (.getfield 15, 3) := by decide +kernel
theorem dX5_put_18 : decode cX5_put 18 = .ok (.iload_n 1, 1) := by decide +kernel
theorem dX5_put_19 : decode cX5_put 19 = .ok (.invokevirtual 229, 3) := by decide +kernel
theorem dX5_put_22 : decode cX5_put 22 = .ok (.ifCond .ne 9, 3) := by decide +kernel
theorem dX5_put_25 : decode cX5_put 25 = .ok (.aload_n 0, 1) := by decide +kernel
theorem dX5_put_26 : decode cX5_put 26 = .ok (.iconst 1, 1) := by decide +kernel
theorem dX5_put_27 : decode cX5_put 27 = .ok (.invokevirtual 96, 3) := by decide +kernel
theorem dX5_put_30 : decode cX5_put 30 = .ok (.ireturn, 1) := by decide +kernel
theorem dX5_put_31 : decode cX5_put 31 = .ok (.aload_n 0, 1) := by decide +kernel
theorem dX5_put_32 : decode cX5_put 32 = .ok (.getfield 15, 3) := by decide +kernel
theorem dX5_put_35 : decode cX5_put 35 = .ok (.iload_n 1, 1) := by decide +kernel
theorem dX5_put_36 : decode cX5_put 36 = .ok (.iload_n 2, 1) := by decide +kernel
theorem dX5_put_37 : decode cX5_put 37 = .ok (.iconst 1, 1) := by decide +kernel
theorem dX5_put_38 : decode cX5_put 38 = .ok (.invokevirtual 92, 3) := by decide +kernel
theorem dX5_put_41 : decode cX5_put 41 = .ok (.ifCond .ne 9, 3) := by decide +kernel
theorem dX5_put_44 : decode cX5_put 44 = .ok (.aload_n 0, 1) := by decide +kernel
theorem dX5_put_45 : decode cX5_put 45 = .ok (.iconst 3, 1) := by decide +kernel
theorem dX5_put_46 : decode cX5_put 46 = .ok (.invokevirtual 96, 3) := by decide +kernel
theorem dX5_put_49 : decode cX5_put 49 = .ok (.ireturn, 1) := by decide +kernel
theorem dX5_put_50 : decode cX5_put 50 = .ok (.aload_n 0, 1) := by decide +kernel
theorem dX5_put_51 : decode cX5_put 51 = .ok (.getfield 15, 3) := by decide +kernel
theorem dX5_put_54 : decode cX5_put 54 = .ok (.iload_n 1, 1) := by decide +kernel
theorem dX5_put_55 : decode cX5_put 55 = .ok (.iload_n 2, 1) := by decide +kernel
theorem dX5_put_56 : decode cX5_put 56 = .ok (.iload_n 3, 1) := by decide +kernel
theorem dX5_put_57 : decode cX5_put 57 = .ok (.invokevirtual 236, 3) := by decide +kernel
theorem dX5_put_60 : decode cX5_put 60 = .ok (.iconst 1, 1) := by decide +kernel
theorem dX5_put_61 : decode cX5_put 61 = .ok (.ireturn, 1) := by decide +kernel
theorem dX5_cell_0 : decode cX5_cell 0 = .ok (.aload_n 0, 1) := by decide +kernel
theorem dX5_cell_1 : decode cX5_cell 1 = .ok (.iconst 0, 1) := by decide +kernel
theorem dX5_cell_2 : decode cX5_cell 2 = .ok (.putfield 75, 3) := by decide +kernel
theorem dX5_cell_5 : decode cX5_cell 5 = .ok (.iload_n 1, 1) := by decide +kernel
theorem dX5_cell_6 : decode cX5_cell 6 = .ok (.invokestatic 81, 3) := by decide +kernel
theorem dX5_cell_9 : decode cX5_cell 9 = .ok (.ifCond .eq 10, 3) := by decide +kernel
theorem dX5_cell_12 : decode cX5_cell 12 = .ok (.iload_n 3, 1) := by decide +kernel
theorem dX5_cell_13 : decode cX5_cell 13 = .ok (.invokestatic 85, 3) := by decide +kernel
theorem dX5_cell_16 : decode cX5_cell 16 = .ok (.ifCond .ne 7, 3) := by decide +kernel
theorem dX5_cell_19 : decode cX5_cell 19 = .ok (.ldc2_w 224, 3) := by decide +kernel
theorem dX5_cell_22 : decode cX5_cell 22 = .ok (.lreturn, 1) := by decide +kernel
theorem dX5_cell_23 : decode cX5_cell 23 = .ok (.aload_n 0, 1) := by decide +kernel
theorem dX5_cell_24 : decode cX5_cell 24 = .ok (.iload_n 1, 1) := by decide +kernel
theorem dX5_cell_25 : decode cX5_cell 25 = .ok (.iload_n 3, 1) := by decide +kernel
theorem dX5_cell_26 : decode cX5_cell 26 = .ok (.invokevirtual 88, 3) := by decide +kernel
theorem dX5_cell_29 : decode cX5_cell 29 = .ok (.istore 4, 2) := by decide +kernel
theorem dX5_cell_31 : decode cX5_cell 31 = .ok (.iload 4, 2) := by decide +kernel
theorem dX5_cell_33 : decode cX5_cell 33 = .ok (.ifCond .ne 19, 3) := by decide +kernel
theorem dX5_cell_36 : decode cX5_cell 36 = .ok (.aload_n 0, 1) := by decide +kernel
theorem dX5_cell_37 : decode cX5_cell 37 = .ok (.getfield 15, 3) := by decide +kernel
theorem dX5_cell_40 : decode cX5_cell 40 = .ok (.iload_n 1, 1) := by decide +kernel
theorem dX5_cell_41 : decode cX5_cell 41 = .ok (.iload_n 2, 1) := by decide +kernel
theorem dX5_cell_42 : decode cX5_cell 42 = .ok (.iconst 1, 1) := by decide +kernel
theorem dX5_cell_43 : decode cX5_cell 43 = .ok (.invokevirtual 92, 3) := by decide +kernel
theorem dX5_cell_46 : decode cX5_cell 46 = .ok (.ifCond .ne 6, 3) := by decide +kernel
theorem dX5_cell_49 : decode cX5_cell 49 = .ok (.iconst 3, 1) := by decide +kernel
theorem dX5_cell_50 : decode cX5_cell 50 = .ok (.istore 4, 2) := by decide +kernel
theorem dX5_cell_52 : decode cX5_cell 52 = .ok (.iload 4, 2) := by decide +kernel
theorem dX5_cell_54 : decode cX5_cell 54 = .ok (.ifCond .ne 14, 3) := by decide +kernel
theorem dX5_cell_57 : decode cX5_cell 57 = .ok (.aload_n 0, 1) := by decide +kernel
theorem dX5_cell_58 : decode cX5_cell 58 = .ok (.getfield 15, 3) := by decide +kernel
theorem dX5_cell_61 : decode cX5_cell 61 = .ok (.iload_n 1, 1) := by decide +kernel
theorem dX5_cell_62 : decode cX5_cell 62 = .ok (.iload_n 2, 1) := by decide +kernel
theorem dX5_cell_63 : decode cX5_cell 63 = .ok (.invokevirtual 239, 3) := by decide +kernel
theorem dX5_cell_66 : decode cX5_cell 66 = .ok (.i2l, 1) := by decide +kernel
theorem dX5_cell_67 : decode cX5_cell 67 = .ok (.lreturn, 1) := by decide +kernel
theorem dX5_cell_68 : decode cX5_cell 68 = .ok (.aload_n 0, 1) := by decide +kernel
theorem dX5_cell_69 : decode cX5_cell 69 = .ok (.iload 4, 2) := by decide +kernel
theorem dX5_cell_71 : decode cX5_cell 71 = .ok (.putfield 75, 3) := by decide +kernel
theorem dX5_cell_74 : decode cX5_cell 74 = .ok (.ldc2_w 224, 3) := by decide +kernel
theorem dX5_cell_77 : decode cX5_cell 77 = .ok (.lreturn, 1) := by decide +kernel
theorem dX5_copy_0 : decode cX5_copy 0 = .ok (.aload_n 0, 1) := by decide +kernel
theorem dX5_copy_1 : decode cX5_copy 1 = .ok (.iconst 0, 1) := by decide +kernel
theorem dX5_copy_2 : decode cX5_copy 2 = .ok (.putfield 75, 3) := by decide +kernel
theorem dX5_copy_5 : decode cX5_copy 5 = .ok (.iload_n 1, 1) := by decide +kernel
theorem dX5_copy_6 : decode cX5_copy 6 = .ok (.invokestatic 81, 3) := by decide +kernel
theorem dX5_copy_9 : decode cX5_copy 9 = .ok (.ifCond .eq 10, 3) := by decide +kernel
theorem dX5_copy_12 : decode cX5_copy 12 = .ok (.iload_n 3, 1) := by decide +kernel
theorem dX5_copy_13 : decode cX5_copy 13 = .ok (.invokestatic 81, 3) := by decide +kernel
theorem dX5_copy_16 : decode cX5_copy 16 = .ok (.ifCond .ne 5, 3) := by decide +kernel
theorem dX5_copy_19 : decode cX5_copy 19 = .ok (.iconst (-1), 1) := by decide +kernel
theorem dX5_copy_20 : decode cX5_copy 20 = .ok (.ireturn, 1) := by decide +kernel
theorem dX5_copy_21 : decode cX5_copy 21 = .ok (.aload_n 0, 1) := by decide +kernel
theorem dX5_copy_22 : decode cX5_copy 22 = .ok (.getfield 15, 3) := by decide +kernel
theorem dX5_copy_25 : decode cX5_copy 25 = .ok (.iload_n 1, 1) := by decide +kernel
theorem dX5_copy_26 : decode cX5_copy 26 = .ok (.invokevirtual 229, 3) := by decide +kernel
theorem dX5_copy_29 : decode cX5_copy 29 = .ok (.ifCond .eq 14, 3) := by decide +kernel
theorem dX5_copy_32 : decode cX5_copy 32 = .ok (.aload_n 0, 1) := by decide +kernel
theorem dX5_copy_33 : decode cX5_copy 33 = .ok (.getfield 15, 3) := by decide +kernel
theorem dX5_copy_36 : decode cX5_copy 36 = .ok (.iload_n 3, 1) := by decide +kernel
theorem dX5_copy_37 : decode cX5_copy 37 = .ok (.invokevirtual 229, 3) := by decide +kernel
theorem dX5_copy_40 : decode cX5_copy 40 = .ok (.ifCond .ne 9, 3) := by decide +kernel
theorem dX5_copy_43 : decode cX5_copy 43 = .ok (.aload_n 0, 1) := by decide +kernel
theorem dX5_copy_44 : decode cX5_copy 44 = .ok (.iconst 1, 1) := by decide +kernel
theorem dX5_copy_45 : decode cX5_copy 45 = .ok (.invokevirtual 96, 3) := by decide +kernel
theorem dX5_copy_48 : decode cX5_copy 48 = .ok (.ireturn, 1) := by decide +kernel
theorem dX5_copy_49 : decode cX5_copy 49 = .ok (.aload_n 0, 1) := by decide +kernel
theorem dX5_copy_50 : decode cX5_copy 50 = .ok (.getfield 15, 3) := by decide +kernel
theorem dX5_copy_53 : decode cX5_copy 53 = .ok (.getfield 242, 3) := by decide +kernel
theorem dX5_copy_56 : decode cX5_copy 56 = .ok (.iload_n 1, 1) := by decide +kernel
theorem dX5_copy_57 : decode cX5_copy 57 = .ok (.iaload, 1) := by decide +kernel
theorem dX5_copy_58 : decode cX5_copy 58 = .ok (.aload_n 0, 1) := by decide +kernel
theorem dX5_copy_59 : decode cX5_copy 59 = .ok (.getfield 15, 3) := by decide +kernel
theorem dX5_copy_62 : decode cX5_copy 62 = .ok (.getfield 242, 3) := by decide +kernel
theorem dX5_copy_65 : decode cX5_copy 65 = .ok (.iload_n 3, 1) := by decide +kernel
theorem dX5_copy_66 : decode cX5_copy 66 = .ok (.iaload, 1) := by decide +kernel
theorem dX5_copy_67 : decode cX5_copy 67 = .ok (.if_icmp .eq 9, 3) := by decide +kernel
theorem dX5_copy_70 : decode cX5_copy 70 = .ok (.aload_n 0, 1) := by decide +kernel
theorem dX5_copy_71 : decode cX5_copy 71 = .ok (.iconst 2, 1) := by decide +kernel
theorem dX5_copy_72 : decode cX5_copy 72 = .ok (.invokevirtual 96, 3) := by decide +kernel
theorem dX5_copy_75 : decode cX5_copy 75 = .ok (.ireturn, 1) := by decide +kernel
theorem dX5_copy_76 : decode cX5_copy 76 = .ok (.aload_n 0, 1) := by decide +kernel
theorem dX5_copy_77 : decode cX5_copy 77 = .ok (.getfield 15, 3) := by decide +kernel
theorem dX5_copy_80 : decode cX5_copy 80 = .ok (.iload_n 1, 1) := by decide +kernel
theorem dX5_copy_81 : decode cX5_copy 81 = .ok (.iload_n 2, 1) := by decide +kernel
theorem dX5_copy_82 : decode cX5_copy 82 = .ok (.iload 5, 2) := by decide +kernel
theorem dX5_copy_84 : decode cX5_copy 84 = .ok (.invokevirtual 92, 3) := by decide +kernel
theorem dX5_copy_87 : decode cX5_copy 87 = .ok (.ifCond .eq 18, 3) := by decide +kernel
theorem dX5_copy_90 : decode cX5_copy 90 = .ok (.aload_n 0, 1) := by decide +kernel
theorem dX5_copy_91 : decode cX5_copy 91 = .ok (.getfield 15, 3) := by decide +kernel
theorem dX5_copy_94 : decode cX5_copy 94 = .ok (.iload_n 3, 1) := by decide +kernel
theorem dX5_copy_95 : decode cX5_copy 95 = .ok (.iload 4, 2) := by decide +kernel
theorem dX5_copy_97 : decode cX5_copy 97 = .ok (.iload 5, 2) := by decide +kernel
theorem dX5_copy_99 : decode cX5_copy 99 = .ok (.invokevirtual 92, 3) := by decide +kernel
theorem dX5_copy_102 : decode cX5_copy 102 = .ok (.ifCond .ne 9, 3) := by decide +kernel
theorem dX5_copy_105 : decode cX5_copy 105 = .ok (.aload_n 0, 1) := by decide +kernel
theorem dX5_copy_106 : decode cX5_copy 106 = .ok (.iconst 3, 1) := by decide +kernel
theorem dX5_copy_107 : decode cX5_copy 107 = .ok (.invokevirtual 96, 3) := by decide +kernel
theorem dX5_copy_110 : decode cX5_copy 110 = .ok (.ireturn, 1) := by decide +kernel
theorem dX5_copy_111 : decode cX5_copy 111 = .ok (.aload_n 0, 1) := by decide +kernel
theorem dX5_copy_112 : decode cX5_copy 112 = .ok (.getfield 15, 3) := by decide +kernel
theorem dX5_copy_115 : decode cX5_copy 115 = .ok (.iload_n 1, 1) := by decide +kernel
theorem dX5_copy_116 : decode cX5_copy 116 = .ok (.iload_n 2, 1) := by decide +kernel
theorem dX5_copy_117 : decode cX5_copy 117 = .ok (.iload_n 3, 1) := by decide +kernel
theorem dX5_copy_118 : decode cX5_copy 118 = .ok (.iload 4, 2) := by decide +kernel
theorem dX5_copy_120 : decode cX5_copy 120 = .ok (.iload 5, 2) := by decide +kernel
theorem dX5_copy_122 : decode cX5_copy 122 = .ok (.invokevirtual 245, 3) := by decide +kernel
theorem dX5_copy_125 : decode cX5_copy 125 = .ok (.iload 5, 2) := by decide +kernel
theorem dX5_copy_127 : decode cX5_copy 127 = .ok (.ireturn, 1) := by decide +kernel
theorem dX5_tell_0 : decode cX5_tell 0 = .ok (.aload_n 0, 1) := by decide +kernel
theorem dX5_tell_1 : decode cX5_tell 1 = .ok (.iload_n 1, 1) := by decide +kernel
theorem dX5_tell_2 : decode cX5_tell 2 = .ok (.invokevirtual 120, 3) := by decide +kernel
theorem dX5_tell_5 : decode cX5_tell 5 = .ok (.ifCond .ne 5, 3) := by decide +kernel
theorem dX5_tell_8 : decode cX5_tell 8 = .ok (.iconst (-1), 1) := by decide +kernel
theorem dX5_tell_9 : decode cX5_tell 9 = .ok (.ireturn, 1) := by decide +kernel
theorem dX5_tell_10 : decode cX5_tell 10 = .ok (.aload_n 0, 1) := by decide +kernel
theorem dX5_tell_11 : decode cX5_tell 11 = .ok (.getfield 21, 3) := by decide +kernel
theorem dX5_tell_14 : decode cX5_tell 14 = .ok (.getfield 135, 3) := by decide +kernel
theorem dX5_tell_17 : decode cX5_tell 17 = .ok (.iload_n 1, 1) := by decide +kernel
theorem dX5_tell_18 : decode cX5_tell 18 = .ok (.iaload, 1) := by decide +kernel
theorem dX5_tell_19 : decode cX5_tell 19 = .ok (.istore_n 2, 1) := by decide +kernel
theorem dX5_tell_20 : decode cX5_tell 20 = .ok (.aload_n 0, 1) := by decide +kernel
theorem dX5_tell_21 : decode cX5_tell 21 = .ok (.getfield 21, 3) := by decide +kernel
theorem dX5_tell_24 : decode cX5_tell 24 = .ok (.getfield 123, 3) := by decide +kernel
theorem dX5_tell_27 : decode cX5_tell 27 = .ok (.iload_n 1, 1) := by decide +kernel
theorem dX5_tell_28 : decode cX5_tell 28 = .ok (.iaload, 1) := by decide +kernel
theorem dX5_tell_29 : decode cX5_tell 29 = .ok (.lookupswitch 39 #[(1, 33), (2, 27)], 27) := by decide +kernel
theorem dX5_tell_56 : decode cX5_tell 56 = .ok (.aload_n 0, 1) := by decide +kernel
theorem dX5_tell_57 : decode cX5_tell 57 = .ok (.iload_n 2, 1) := by decide +kernel
theorem dX5_tell_58 : decode cX5_tell 58 = .ok (.invokevirtual 249, 3) := by decide +kernel
theorem dX5_tell_61 : decode cX5_tell 61 = .ok (.ireturn, 1) := by decide +kernel
theorem dX5_tell_62 : decode cX5_tell 62 = .ok (.aload_n 0, 1) := by decide +kernel
theorem dX5_tell_63 : decode cX5_tell 63 = .ok (.iload_n 2, 1) := by decide +kernel
theorem dX5_tell_64 : decode cX5_tell 64 = .ok (.invokevirtual 252, 3) := by decide +kernel
theorem dX5_tell_67 : decode cX5_tell 67 = .ok (.ireturn, 1) := by decide +kernel
theorem dX5_tell_68 : decode cX5_tell 68 = .ok (.aload_n 0, 1) := by decide +kernel
theorem dX5_tell_69 : decode cX5_tell 69 = .ok (.iload_n 2, 1) := by decide +kernel
theorem dX5_tell_70 : decode cX5_tell 70 = .ok (.invokevirtual 255, 3) := by decide +kernel
theorem dX5_tell_73 : decode cX5_tell 73 = .ok (.ireturn, 1) := by decide +kernel
theorem dX5_rouse_0 : decode cX5_rouse 0 = .ok (.aload_n 0, 1) := by decide +kernel
theorem dX5_rouse_1 : decode cX5_rouse 1 = .ok (.iload_n 1, 1) := by decide +kernel
theorem dX5_rouse_2 : decode cX5_rouse 2 = .ok (.invokevirtual 120, 3) := by decide +kernel
theorem dX5_rouse_5 : decode cX5_rouse 5 = .ok (.ifCond .ne 5, 3) := by decide +kernel
theorem dX5_rouse_8 : decode cX5_rouse 8 = .ok (.iconst (-1), 1) := by decide +kernel
theorem dX5_rouse_9 : decode cX5_rouse 9 = .ok (.ireturn, 1) := by decide +kernel
theorem dX5_rouse_10 : decode cX5_rouse 10 = .ok (.aload_n 0, 1) := by decide +kernel
theorem dX5_rouse_11 : decode cX5_rouse 11 = .ok (.getfield 21, 3) := by decide +kernel
theorem dX5_rouse_14 : decode cX5_rouse 14 = .ok (.getfield 123, 3) := by decide +kernel
theorem dX5_rouse_17 : decode cX5_rouse 17 = .ok (.iload_n 1, 1) := by decide +kernel
theorem dX5_rouse_18 : decode cX5_rouse 18 = .ok (.iaload, 1) := by decide +kernel
theorem dX5_rouse_19 : decode cX5_rouse 19 = .ok (.iconst 2, 1) := by decide +kernel
theorem dX5_rouse_20 : decode cX5_rouse 20 = .ok (.if_icmp .ne 7, 3) := by decide +kernel
theorem dX5_rouse_23 : decode cX5_rouse 23 = .ok (.iconst 1, 1) := by decide +kernel
theorem dX5_rouse_24 : decode cX5_rouse 24 = .ok (.goto 4, 3) := by decide +kernel
theorem dX5_rouse_27 : decode cX5_rouse 27 = .ok (.iconst 0, 1) := by decide +kernel
theorem dX5_rouse_28 : decode cX5_rouse 28 = .ok (.istore_n 2, 1) := by decide +kernel
theorem dX5_rouse_29 : decode cX5_rouse 29 = .ok (.aload_n 0, 1) := by decide +kernel
theorem dX5_rouse_30 : decode cX5_rouse 30 = .ok (.iload_n 2, 1) := by decide +kernel
theorem dX5_rouse_31 : decode cX5_rouse 31 = .ok (.ifCond .eq 7, 3) := by decide +kernel
theorem dX5_rouse_34 : decode cX5_rouse 34 = .ok (.iconst 5, 1) := by decide +kernel
theorem dX5_rouse_35 : decode cX5_rouse 35 = .ok (.goto 4, 3) := by decide +kernel
theorem dX5_rouse_38 : decode cX5_rouse 38 = .ok (.iconst 4, 1) := by decide +kernel
theorem dX5_rouse_39 : decode cX5_rouse 39 = .ok (.invokevirtual 258, 3) := by decide +kernel
theorem dX5_rouse_42 : decode cX5_rouse 42 = .ok (.iload_n 2, 1) := by decide +kernel
theorem dX5_rouse_43 : decode cX5_rouse 43 = .ok (.ifCond .eq 8, 3) := by decide +kernel
theorem dX5_rouse_46 : decode cX5_rouse 46 = .ok (.bipush 70, 2) := by decide +kernel
theorem dX5_rouse_48 : decode cX5_rouse 48 = .ok (.goto 4, 3) := by decide +kernel
theorem dX5_rouse_51 : decode cX5_rouse 51 = .ok (.iload_n 1, 1) := by decide +kernel
theorem dX5_rouse_52 : decode cX5_rouse 52 = .ok (.ireturn, 1) := by decide +kernel
theorem dX5_as_0 : decode cX5_as 0 = .ok (.aload_n 0, 1) := by decide +kernel
theorem dX5_as_1 : decode cX5_as 1 = .ok (.iconst 0, 1) := by decide +kernel
theorem dX5_as_2 : decode cX5_as 2 = .ok (.putfield 75, 3) := by decide +kernel
theorem dX5_as_5 : decode cX5_as 5 = .ok (.aload_n 0, 1) := by decide +kernel
theorem dX5_as_6 : decode cX5_as 6 = .ok (.iload_n 1, 1) := by decide +kernel
theorem dX5_as_7 : decode cX5_as 7 = .ok (.invokevirtual 120, 3) := by decide +kernel
theorem dX5_as_10 : decode cX5_as 10 = .ok (.ifCond .ne 5, 3) := by decide +kernel
theorem dX5_as_13 : decode cX5_as 13 = .ok (.iconst (-1), 1) := by decide +kernel
theorem dX5_as_14 : decode cX5_as 14 = .ok (.ireturn, 1) := by decide +kernel
theorem dX5_as_15 : decode cX5_as 15 = .ok (.iload_n 2, 1) := by decide +kernel
theorem dX5_as_16 : decode cX5_as 16 = .ok (.ifCond .lt 8, 3) := by decide +kernel
theorem dX5_as_19 : decode cX5_as 19 = .ok (.iload_n 2, 1) := by decide +kernel
theorem dX5_as_20 : decode cX5_as 20 = .ok (.iconst 3, 1) := by decide +kernel
theorem dX5_as_21 : decode cX5_as 21 = .ok (.if_icmp .lt 6, 3) := by decide +kernel
theorem dX5_as_24 : decode cX5_as 24 = .ok (.bipush (-2), 2) := by decide +kernel
theorem dX5_as_26 : decode cX5_as 26 = .ok (.ireturn, 1) := by decide +kernel
theorem dX5_as_27 : decode cX5_as 27 = .ok (.aload_n 0, 1) := by decide +kernel
theorem dX5_as_28 : decode cX5_as 28 = .ok (.getfield 21, 3) := by decide +kernel
theorem dX5_as_31 : decode cX5_as 31 = .ok (.getfield 123, 3) := by decide +kernel
theorem dX5_as_34 : decode cX5_as 34 = .ok (.iload_n 1, 1) := by decide +kernel
theorem dX5_as_35 : decode cX5_as 35 = .ok (.iaload, 1) := by decide +kernel
theorem dX5_as_36 : decode cX5_as 36 = .ok (.iload_n 2, 1) := by decide +kernel
theorem dX5_as_37 : decode cX5_as 37 = .ok (.if_icmp .lt 7, 3) := by decide +kernel
theorem dX5_as_40 : decode cX5_as 40 = .ok (.iconst 1, 1) := by decide +kernel
theorem dX5_as_41 : decode cX5_as 41 = .ok (.goto 8, 3) := by decide +kernel
theorem dX5_as_44 : decode cX5_as 44 = .ok (.aload_n 0, 1) := by decide +kernel
theorem dX5_as_45 : decode cX5_as 45 = .ok (.iconst 2, 1) := by decide +kernel
theorem dX5_as_46 : decode cX5_as 46 = .ok (.invokevirtual 96, 3) := by decide +kernel
theorem dX5_as_49 : decode cX5_as 49 = .ok (.ireturn, 1) := by decide +kernel
theorem dX5_trace_0 : decode cX5_trace 0 = .ok (.aload_n 0, 1) := by decide +kernel
theorem dX5_trace_1 : decode cX5_trace 1 = .ok (.getfield 78, 3) := by decide +kernel
theorem dX5_trace_4 : decode cX5_trace 4 = .ok (.ireturn, 1) := by decide +kernel
theorem dX5_fault_0 : decode cX5_fault 0 = .ok (.aload_n 0, 1) := by decide +kernel
theorem dX5_fault_1 : decode cX5_fault 1 = .ok (.getfield 75, 3) := by decide +kernel
theorem dX5_fault_4 : decode cX5_fault 4 = .ok (.ireturn, 1) := by decide +kernel
theorem dX5_many_0 : decode cX5_many 0 = .ok (.iload_n 1, 1) := by decide +kernel
theorem dX5_many_1 : decode cX5_many 1 = .ok (.ifCond .lt 8, 3) := by decide +kernel
theorem dX5_many_4 : decode cX5_many 4 = .ok (.iload_n 1, 1) := by decide +kernel
theorem dX5_many_5 : decode cX5_many 5 = .ok (.iconst 5, 1) := by decide +kernel
theorem dX5_many_6 : decode cX5_many 6 = .ok (.if_icmp .lt 6, 3) := by decide +kernel
theorem dX5_many_9 : decode cX5_many 9 = .ok (.bipush (-2), 2) := by decide +kernel
theorem dX5_many_11 : decode cX5_many 11 = .ok (.ireturn, 1) := by decide +kernel
theorem dX5_many_12 : decode cX5_many 12 = .ok (.iload_n 1, 1) := by decide +kernel
theorem dX5_many_13 : decode cX5_many 13 = .ok (.tableswitch 63 0 3 #[31, 39, 47, 55], 31) := by decide +kernel
theorem dX5_many_44 : decode cX5_many 44 = .ok (.aload_n 0, 1) := by decide +kernel
theorem dX5_many_45 : decode cX5_many 45 = .ok (.getfield 21, 3) := by decide +kernel
theorem dX5_many_48 : decode cX5_many 48 = .ok (.getfield 117, 3) := by decide +kernel
theorem dX5_many_51 : decode cX5_many 51 = .ok (.ireturn, 1) := by decide +kernel
theorem dX5_many_52 : decode cX5_many 52 = .ok (.aload_n 0, 1) := by decide +kernel
theorem dX5_many_53 : decode cX5_many 53 = .ok (.getfield 21, 3) := by decide +kernel
theorem dX5_many_56 : decode cX5_many 56 = .ok (.getfield 221, 3) := by decide +kernel
theorem dX5_many_59 : decode cX5_many 59 = .ok (.ireturn, 1) := by decide +kernel
theorem dX5_many_60 : decode cX5_many 60 = .ok (.aload_n 0, 1) := by decide +kernel
theorem dX5_many_61 : decode cX5_many 61 = .ok (.getfield 28, 3) := by decide +kernel
theorem dX5_many_64 : decode cX5_many 64 = .ok (.getfield 157, 3) := by decide +kernel
theorem dX5_many_67 : decode cX5_many 67 = .ok (.ireturn, 1) := by decide +kernel
theorem dX5_many_68 : decode cX5_many 68 = .ok (.aload_n 0, 1) := by decide +kernel
theorem dX5_many_69 : decode cX5_many 69 = .ok (.getfield 35, 3) := by decide +kernel
theorem dX5_many_72 : decode cX5_many 72 = .ok (.getfield 111, 3) := by decide +kernel
theorem dX5_many_75 : decode cX5_many 75 = .ok (.ireturn, 1) := by decide +kernel
theorem dX5_many_76 : decode cX5_many 76 = .ok (.aload_n 0, 1) := by decide +kernel
theorem dX5_many_77 : decode cX5_many 77 = .ok (.getfield 28, 3) := by decide +kernel
theorem dX5_many_80 : decode cX5_many 80 = .ok (.getfield 148, 3) := by decide +kernel
theorem dX5_many_83 : decode cX5_many 83 = .ok (.ireturn, 1) := by decide +kernel
theorem dX5_isLand_0 : decode cX5_isLand 0 = .ok (.aload_n 0, 1) := by decide +kernel
theorem dX5_isLand_1 : decode cX5_isLand 1 = .ok (.getfield 21, 3) := by decide +kernel
theorem dX5_isLand_4 : decode cX5_isLand 4 = .ok (.getfield 221, 3) := by decide +kernel
theorem dX5_isLand_7 : decode cX5_isLand 7 = .ok (.ifCond .le 7, 3) := by decide +kernel
theorem dX5_isLand_10 : decode cX5_isLand 10 = .ok (.iconst 1, 1) := by decide +kernel
theorem dX5_isLand_11 : decode cX5_isLand 11 = .ok (.goto 4, 3) := by decide +kernel
theorem dX5_isLand_14 : decode cX5_isLand 14 = .ok (.iconst 0, 1) := by decide +kernel
theorem dX5_isLand_15 : decode cX5_isLand 15 = .ok (.ireturn, 1) := by decide +kernel
theorem dX5_isPost_0 : decode cX5_isPost 0 = .ok (.iload_n 1, 1) := by decide +kernel
theorem dX5_isPost_1 : decode cX5_isPost 1 = .ok (.ifCond .lt 18, 3) := by decide +kernel
theorem dX5_isPost_4 : decode cX5_isPost 4 = .ok (.iload_n 1, 1) := by decide +kernel
theorem dX5_isPost_5 : decode cX5_isPost 5 = .ok (.aload_n 0, 1) := by decide +kernel
theorem dX5_isPost_6 : decode cX5_isPost 6 = .ok (.getfield 21, 3) := by decide +kernel
theorem dX5_isPost_9 : decode cX5_isPost 9 = .ok (.getfield 221, 3) := by decide +kernel
theorem dX5_isPost_12 : decode cX5_isPost 12 = .ok (.if_icmp .ge 7, 3) := by decide +kernel
theorem dX5_isPost_15 : decode cX5_isPost 15 = .ok (.iconst 1, 1) := by decide +kernel
theorem dX5_isPost_16 : decode cX5_isPost 16 = .ok (.goto 4, 3) := by decide +kernel
theorem dX5_isPost_19 : decode cX5_isPost 19 = .ok (.iconst 0, 1) := by decide +kernel
theorem dX5_isPost_20 : decode cX5_isPost 20 = .ok (.ireturn, 1) := by decide +kernel
theorem dX5_isPerson_0 : decode cX5_isPerson 0 = .ok (.iload_n 1, 1) := by decide +kernel
theorem dX5_isPerson_1 : decode cX5_isPerson 1 = .ok (.ifCond .lt 18, 3) := by decide +kernel
theorem dX5_isPerson_4 : decode cX5_isPerson 4 = .ok (.iload_n 1, 1) := by decide +kernel
theorem dX5_isPerson_5 : decode cX5_isPerson 5 = .ok (.aload_n 0, 1) := by decide +kernel
theorem dX5_isPerson_6 : decode cX5_isPerson 6 = .ok (.getfield 21, 3) := by decide +kernel
theorem dX5_isPerson_9 : decode cX5_isPerson 9 = .ok (.getfield 117, 3) := by decide +kernel
theorem dX5_isPerson_12 : decode cX5_isPerson 12 = .ok (.if_icmp .ge 7, 3) := by decide +kernel
theorem dX5_isPerson_15 : decode cX5_isPerson 15 = .ok (.iconst 1, 1) := by decide +kernel
theorem dX5_isPerson_16 : decode cX5_isPerson 16 = .ok (.goto 4, 3) := by decide +kernel
theorem dX5_isPerson_19 : decode cX5_isPerson 19 = .ok (.iconst 0, 1) := by decide +kernel
theorem dX5_isPerson_20 : decode cX5_isPerson 20 = .ok (.ireturn, 1) := by decide +kernel
theorem dX5_isDecade_0 : decode cX5_isDecade 0 = .ok (.iload_n 0, 1) := by decide +kernel
theorem dX5_isDecade_1 : decode cX5_isDecade 1 = .ok (.ifCond .lt 13, 3) := by decide +kernel
theorem dX5_isDecade_4 : decode cX5_isDecade 4 = .ok (.iload_n 0, 1) := by decide +kernel
theorem dX5_isDecade_5 : decode cX5_isDecade 5 = .ok (.bipush 40, 2) := by decide +kernel
theorem dX5_isDecade_7 : decode cX5_isDecade 7 = .ok (.if_icmp .ge 7, 3) := by decide +kernel
theorem dX5_isDecade_10 : decode cX5_isDecade 10 = .ok (.iconst 1, 1) := by decide +kernel
theorem dX5_isDecade_11 : decode cX5_isDecade 11 = .ok (.goto 4, 3) := by decide +kernel
theorem dX5_isDecade_14 : decode cX5_isDecade 14 = .ok (.iconst 0, 1) := by decide +kernel
theorem dX5_isDecade_15 : decode cX5_isDecade 15 = .ok (.ireturn, 1) := by decide +kernel
theorem dX5_isSheet_0 : decode cX5_isSheet 0 = .ok (.iload_n 0, 1) := by decide +kernel
theorem dX5_isSheet_1 : decode cX5_isSheet 1 = .ok (.ifCond .lt 12, 3) := by decide +kernel
theorem dX5_isSheet_4 : decode cX5_isSheet 4 = .ok (.iload_n 0, 1) := by decide +kernel
theorem dX5_isSheet_5 : decode cX5_isSheet 5 = .ok (.iconst 4, 1) := by decide +kernel
theorem dX5_isSheet_6 : decode cX5_isSheet 6 = .ok (.if_icmp .ge 7, 3) := by decide +kernel
theorem dX5_isSheet_9 : decode cX5_isSheet 9 = .ok (.iconst 1, 1) := by decide +kernel
theorem dX5_isSheet_10 : decode cX5_isSheet 10 = .ok (.goto 4, 3) := by decide +kernel
theorem dX5_isSheet_13 : decode cX5_isSheet 13 = .ok (.iconst 0, 1) := by decide +kernel
theorem dX5_isSheet_14 : decode cX5_isSheet 14 = .ok (.ireturn, 1) := by decide +kernel
theorem dX5_isLane_0 : decode cX5_isLane 0 = .ok (.iload_n 0, 1) := by decide +kernel
theorem dX5_isLane_1 : decode cX5_isLane 1 = .ok (.ifCond .lt 12, 3) := by decide +kernel
theorem dX5_isLane_4 : decode cX5_isLane 4 = .ok (.iload_n 0, 1) := by decide +kernel
theorem dX5_isLane_5 : decode cX5_isLane 5 = .ok (.iconst 3, 1) := by decide +kernel
theorem dX5_isLane_6 : decode cX5_isLane 6 = .ok (.if_icmp .ge 7, 3) := by decide +kernel
theorem dX5_isLane_9 : decode cX5_isLane 9 = .ok (.iconst 1, 1) := by decide +kernel
theorem dX5_isLane_10 : decode cX5_isLane 10 = .ok (.goto 4, 3) := by decide +kernel
theorem dX5_isLane_13 : decode cX5_isLane 13 = .ok (.iconst 0, 1) := by decide +kernel
theorem dX5_isLane_14 : decode cX5_isLane 14 = .ok (.ireturn, 1) := by decide +kernel
theorem dX5_faultOfRow_0 : decode cX5_faultOfRow 0 = .ok (.aload_n 0, 1) := by decide +kernel
theorem dX5_faultOfRow_1 : decode cX5_faultOfRow 1 = .ok (.getfield 15, 3) := by decide +kernel
theorem dX5_faultOfRow_4 : decode cX5_faultOfRow 4 = .ok (.iload_n 1, 1) := by decide +kernel
theorem dX5_faultOfRow_5 : decode cX5_faultOfRow 5 = .ok (.invokevirtual 229, 3) := by decide +kernel
theorem dX5_faultOfRow_8 : decode cX5_faultOfRow 8 = .ok (.ifCond .ne 5, 3) := by decide +kernel
theorem dX5_faultOfRow_11 : decode cX5_faultOfRow 11 = .ok (.iconst 1, 1) := by decide +kernel
theorem dX5_faultOfRow_12 : decode cX5_faultOfRow 12 = .ok (.ireturn, 1) := by decide +kernel
theorem dX5_faultOfRow_13 : decode cX5_faultOfRow 13 = .ok (.aload_n 0, 1) := by decide +kernel
theorem dX5_faultOfRow_14 : decode cX5_faultOfRow 14 = .ok (.getfield 15, 3) := by decide +kernel
theorem dX5_faultOfRow_17 : decode cX5_faultOfRow 17 = .ok (.getfield 242, 3) := by decide +kernel
theorem dX5_faultOfRow_20 : decode cX5_faultOfRow 20 = .ok (.iload_n 1, 1) := by decide +kernel
theorem dX5_faultOfRow_21 : decode cX5_faultOfRow 21 = .ok (.iaload, 1) := by decide +kernel
theorem dX5_faultOfRow_22 : decode cX5_faultOfRow 22 = .ok (.iload_n 2, 1) := by decide +kernel
theorem dX5_faultOfRow_23 : decode cX5_faultOfRow 23 = .ok (.if_icmp .ne 7, 3) := by decide +kernel
theorem dX5_faultOfRow_26 : decode cX5_faultOfRow 26 = .ok (.iconst 0, 1) := by decide +kernel
theorem dX5_faultOfRow_27 : decode cX5_faultOfRow 27 = .ok (.goto 4, 3) := by decide +kernel
theorem dX5_faultOfRow_30 : decode cX5_faultOfRow 30 = .ok (.iconst 2, 1) := by decide +kernel
theorem dX5_faultOfRow_31 : decode cX5_faultOfRow 31 = .ok (.ireturn, 1) := by decide +kernel
theorem dX5_faulty_0 : decode cX5_faulty 0 = .ok (.aload_n 0, 1) := by decide +kernel
theorem dX5_faulty_1 : decode cX5_faulty 1 = .ok (.iload_n 1, 1) := by decide +kernel
theorem dX5_faulty_2 : decode cX5_faulty 2 = .ok (.putfield 75, 3) := by decide +kernel
theorem dX5_faulty_5 : decode cX5_faulty 5 = .ok (.bipush (-10), 2) := by decide +kernel
theorem dX5_faulty_7 : decode cX5_faulty 7 = .ok (.iload_n 1, 1) := by decide +kernel
theorem dX5_faulty_8 : decode cX5_faulty 8 = .ok (.isub, 1) := by decide +kernel
theorem dX5_faulty_9 : decode cX5_faulty 9 = .ok (.ireturn, 1) := by decide +kernel
theorem dX5_unsettle_0 : decode cX5_unsettle 0 = .ok (.aload_n 0, 1) := by decide +kernel
theorem dX5_unsettle_1 : decode cX5_unsettle 1 = .ok (.iconst 0, 1) := by decide +kernel
theorem dX5_unsettle_2 : decode cX5_unsettle 2 = .ok (.putfield 58, 3) := by decide +kernel
theorem dX5_unsettle_5 : decode cX5_unsettle 5 = .ok (.aload_n 0, 1) := by decide +kernel
theorem dX5_unsettle_6 : decode cX5_unsettle 6 = .ok (.iconst 0, 1) := by decide +kernel
theorem dX5_unsettle_7 : decode cX5_unsettle 7 = .ok (.putfield 62, 3) := by decide +kernel
theorem dX5_unsettle_10 : decode cX5_unsettle 10 = .ok (.aload_n 0, 1) := by decide +kernel
theorem dX5_unsettle_11 : decode cX5_unsettle 11 = .ok (.iconst 0, 1) := by decide +kernel
theorem dX5_unsettle_12 : decode cX5_unsettle 12 = .ok (.putfield 65, 3) := by decide +kernel
theorem dX5_unsettle_15 : decode cX5_unsettle 15 = .ok (.return_, 1) := by decide +kernel
theorem dX5_asItGoes_0 : decode cX5_asItGoes 0 = .ok (.aload_n 0, 1) := by decide +kernel
theorem dX5_asItGoes_1 : decode cX5_asItGoes 1 = .ok (.getfield 58, 3) := by decide +kernel
theorem dX5_asItGoes_4 : decode cX5_asItGoes 4 = .ok (.ifCond .ne 24, 3) := by decide +kernel
theorem dX5_asItGoes_7 : decode cX5_asItGoes 7 = .ok (.aload_n 0, 1) := by decide +kernel
theorem dX5_asItGoes_8 : decode cX5_asItGoes 8 = .ok (.getfield 44, 3) := by decide +kernel
theorem dX5_asItGoes_11 : decode cX5_asItGoes 11 = .ok (.aload_n 0, 1) := by decide +kernel
theorem dX5_asItGoes_12 : decode cX5_asItGoes 12 = .ok (.getfield 28, 3) := by decide +kernel
theorem dX5_asItGoes_15 : decode cX5_asItGoes 15 = .ok (.bipush 39, 2) := by decide +kernel
theorem dX5_asItGoes_17 : decode cX5_asItGoes 17 = .ok (.sipush 1000, 3) := by decide +kernel
theorem dX5_asItGoes_20 : decode cX5_asItGoes 20 = .ok (.invokevirtual 204, 3) := by decide +kernel
theorem dX5_asItGoes_23 : decode cX5_asItGoes 23 = .ok (.aload_n 0, 1) := by decide +kernel
theorem dX5_asItGoes_24 : decode cX5_asItGoes 24 = .ok (.iconst 1, 1) := by decide +kernel
theorem dX5_asItGoes_25 : decode cX5_asItGoes 25 = .ok (.putfield 58, 3) := by decide +kernel
theorem dX5_asItGoes_28 : decode cX5_asItGoes 28 = .ok (.aload_n 0, 1) := by decide +kernel
theorem dX5_asItGoes_29 : decode cX5_asItGoes 29 = .ok (.getfield 44, 3) := by decide +kernel
theorem dX5_asItGoes_32 : decode cX5_asItGoes 32 = .ok (.areturn, 1) := by decide +kernel
theorem dX5_findFalls_0 : decode cX5_findFalls 0 = .ok (.aload_n 0, 1) := by decide +kernel
theorem dX5_findFalls_1 : decode cX5_findFalls 1 = .ok (.getfield 62, 3) := by decide +kernel
theorem dX5_findFalls_4 : decode cX5_findFalls 4 = .ok (.ifCond .eq 4, 3) := by decide +kernel
theorem dX5_findFalls_7 : decode cX5_findFalls 7 = .ok (.return_, 1) := by decide +kernel
theorem dX5_findFalls_8 : decode cX5_findFalls 8 = .ok (.aload_n 0, 1) := by decide +kernel
theorem dX5_findFalls_9 : decode cX5_findFalls 9 = .ok (.getfield 48, 3) := by decide +kernel
theorem dX5_findFalls_12 : decode cX5_findFalls 12 = .ok (.aload_n 0, 1) := by decide +kernel
theorem dX5_findFalls_13 : decode cX5_findFalls 13 = .ok (.getfield 28, 3) := by decide +kernel
theorem dX5_findFalls_16 : decode cX5_findFalls 16 = .ok (.invokevirtual 214, 3) := by decide +kernel
theorem dX5_findFalls_19 : decode cX5_findFalls 19 = .ok (.aload_n 0, 1) := by decide +kernel
theorem dX5_findFalls_20 : decode cX5_findFalls 20 = .ok (.getfield 21, 3) := by decide +kernel
theorem dX5_findFalls_23 : decode cX5_findFalls 23 = .ok (.invokevirtual 189, 3) := by decide +kernel
theorem dX5_findFalls_26 : decode cX5_findFalls 26 = .ok (.istore_n 1, 1) := by decide +kernel
theorem dX5_findFalls_27 : decode cX5_findFalls 27 = .ok (.iconst 0, 1) := by decide +kernel
theorem dX5_findFalls_28 : decode cX5_findFalls 28 = .ok (.istore_n 2, 1) := by decide +kernel
theorem dX5_findFalls_29 : decode cX5_findFalls 29 = .ok (.iload_n 2, 1) := by decide +kernel
theorem dX5_findFalls_30 : decode cX5_findFalls 30 = .ok (.iload_n 1, 1) := by decide +kernel
theorem dX5_findFalls_31 : decode cX5_findFalls 31 = .ok (.if_icmp .ge 65, 3) := by decide +kernel
theorem dX5_findFalls_34 : decode cX5_findFalls 34 = .ok (.aload_n 0, 1) := by decide +kernel
theorem dX5_findFalls_35 : decode cX5_findFalls 35 = .ok (.getfield 48, 3) := by decide +kernel
theorem dX5_findFalls_38 : decode cX5_findFalls 38 = .ok (.iload_n 1, 1) := by decide +kernel
theorem dX5_findFalls_39 : decode cX5_findFalls 39 = .ok (.iconst 1, 1) := by decide +kernel
theorem dX5_findFalls_40 : decode cX5_findFalls 40 = .ok (.isub, 1) := by decide +kernel
theorem dX5_findFalls_41 : decode cX5_findFalls 41 = .ok (.iload_n 2, 1) := by decide +kernel
theorem dX5_findFalls_42 : decode cX5_findFalls 42 = .ok (.isub, 1) := by decide +kernel
theorem dX5_findFalls_43 : decode cX5_findFalls 43 = .ok (.putfield 141, 3) := by decide +kernel
theorem dX5_findFalls_46 : decode cX5_findFalls 46 = .ok (.aload_n 0, 1) := by decide +kernel
theorem dX5_findFalls_47 : decode cX5_findFalls 47 = .ok (.getfield 51, 3) := by decide +kernel
theorem dX5_findFalls_50 : decode cX5_findFalls 50 = .ok (.aload_n 0, 1) := by decide +kernel
theorem dX5_findFalls_51 : decode cX5_findFalls 51 = .ok (.getfield 48, 3) := by decide +kernel
theorem dX5_findFalls_54 : decode cX5_findFalls 54 = .ok (.bipush 39, 2) := by decide +kernel
theorem dX5_findFalls_56 : decode cX5_findFalls 56 = .ok (.iconst 1, 1) := by decide +kernel
theorem dX5_findFalls_57 : decode cX5_findFalls 57 = .ok (.invokevirtual 204, 3) := by decide +kernel
theorem dX5_findFalls_60 : decode cX5_findFalls 60 = .ok (.aload_n 0, 1) := by decide +kernel
theorem dX5_findFalls_61 : decode cX5_findFalls 61 = .ok (.getfield 54, 3) := by decide +kernel
theorem dX5_findFalls_64 : decode cX5_findFalls 64 = .ok (.iload_n 2, 1) := by decide +kernel
theorem dX5_findFalls_65 : decode cX5_findFalls 65 = .ok (.aload_n 0, 1) := by decide +kernel
theorem dX5_findFalls_66 : decode cX5_findFalls 66 = .ok (.getfield 51, 3) := by decide +kernel
theorem dX5_findFalls_69 : decode cX5_findFalls 69 = .ok (.getfield 208, 3) := by decide +kernel
theorem dX5_findFalls_72 : decode cX5_findFalls 72 = .ok (.ifCond .le 15, 3) := by decide +kernel
theorem dX5_findFalls_75 : decode cX5_findFalls 75 = .ok (.aload_n 0, 1) := by decide +kernel
theorem dX5_findFalls_76 : decode cX5_findFalls 76 = .ok (.getfield 51, 3) := by decide +kernel
theorem dX5_findFalls_79 : decode cX5_findFalls 79 = .ok (.getfield 261, 3) := by decide +kernel
theorem dX5_findFalls_82 : decode cX5_findFalls 82 = .ok (.iconst 1, 1) := by decide +kernel
theorem dX5_findFalls_83 : decode cX5_findFalls 83 = .ok (.isub, 1) := by decide +kernel
theorem dX5_findFalls_84 : decode cX5_findFalls 84 = .ok (.goto 5, 3) := by decide +kernel
theorem dX5_findFalls_87 : decode cX5_findFalls 87 = .ok (.bipush 40, 2) := by decide +kernel
theorem dX5_findFalls_89 : decode cX5_findFalls 89 = .ok (.iastore, 1) := by decide +kernel
theorem dX5_findFalls_90 : decode cX5_findFalls 90 = .ok (.iinc 2 1, 3) := by decide +kernel
theorem dX5_findFalls_93 : decode cX5_findFalls 93 = .ok (.goto (-64), 3) := by decide +kernel
theorem dX5_findFalls_96 : decode cX5_findFalls 96 = .ok (.aload_n 0, 1) := by decide +kernel
theorem dX5_findFalls_97 : decode cX5_findFalls 97 = .ok (.iconst 1, 1) := by decide +kernel
theorem dX5_findFalls_98 : decode cX5_findFalls 98 = .ok (.putfield 62, 3) := by decide +kernel
theorem dX5_findFalls_101 : decode cX5_findFalls 101 = .ok (.return_, 1) := by decide +kernel
theorem dX5_findHelp_0 : decode cX5_findHelp 0 = .ok (.aload_n 0, 1) := by decide +kernel
theorem dX5_findHelp_1 : decode cX5_findHelp 1 = .ok (.getfield 65, 3) := by decide +kernel
theorem dX5_findHelp_4 : decode cX5_findHelp 4 = .ok (.ifCond .eq 4, 3) := by decide +kernel
theorem dX5_findHelp_7 : decode cX5_findHelp 7 = .ok (.return_, 1) := by decide +kernel
theorem dX5_findHelp_8 : decode cX5_findHelp 8 = .ok (.aload_n 0, 1) := by decide +kernel
theorem dX5_findHelp_9 : decode cX5_findHelp 9 = .ok (.invokevirtual 167, 3) := by decide +kernel
theorem dX5_findHelp_12 : decode cX5_findHelp 12 = .ok (.astore_n 1, 1) := by decide +kernel
theorem dX5_findHelp_13 : decode cX5_findHelp 13 = .ok (.aload_n 0, 1) := by decide +kernel
theorem dX5_findHelp_14 : decode cX5_findHelp 14 = .ok (.bipush (-9), 2) := by decide +kernel
theorem dX5_findHelp_16 : decode cX5_findHelp 16 = .ok (.putfield 68, 3) := by decide +kernel
theorem dX5_findHelp_19 : decode cX5_findHelp 19 = .ok (.aload_n 0, 1) := by decide +kernel
theorem dX5_findHelp_20 : decode cX5_findHelp 20 = .ok (.aload_n 1, 1) := by decide +kernel
theorem dX5_findHelp_21 : decode cX5_findHelp 21 = .ok (.getfield 208, 3) := by decide +kernel
theorem dX5_findHelp_24 : decode cX5_findHelp 24 = .ok (.putfield 72, 3) := by decide +kernel
theorem dX5_findHelp_27 : decode cX5_findHelp 27 = .ok (.iconst 0, 1) := by decide +kernel
theorem dX5_findHelp_28 : decode cX5_findHelp 28 = .ok (.istore_n 2, 1) := by decide +kernel
theorem dX5_findHelp_29 : decode cX5_findHelp 29 = .ok (.iload_n 2, 1) := by decide +kernel
theorem dX5_findHelp_30 : decode cX5_findHelp 30 = .ok (.aload_n 0, 1) := by decide +kernel
theorem dX5_findHelp_31 : decode cX5_findHelp 31 = .ok (.getfield 21, 3) := by decide +kernel
theorem dX5_findHelp_34 : decode cX5_findHelp 34 = .ok (.getfield 221, 3) := by decide +kernel
theorem dX5_findHelp_37 : decode cX5_findHelp 37 = .ok (.if_icmp .ge 63, 3) := by decide +kernel
theorem dX5_findHelp_40 : decode cX5_findHelp 40 = .ok (.iconst 0, 1) := by decide +kernel
theorem dX5_findHelp_41 : decode cX5_findHelp 41 = .ok (.istore_n 3, 1) := by decide +kernel
theorem dX5_findHelp_42 : decode cX5_findHelp 42 = .ok (.iload_n 3, 1) := by decide +kernel
theorem dX5_findHelp_43 : decode cX5_findHelp 43 = .ok (.aload_n 0, 1) := by decide +kernel
theorem dX5_findHelp_44 : decode cX5_findHelp 44 = .ok (.getfield 21, 3) := by decide +kernel
theorem dX5_findHelp_47 : decode cX5_findHelp 47 = .ok (.getfield 117, 3) := by decide +kernel
theorem dX5_findHelp_50 : decode cX5_findHelp 50 = .ok (.if_icmp .ge 44, 3) := by decide +kernel
theorem dX5_findHelp_53 : decode cX5_findHelp 53 = .ok (.iconst 0, 1) := by decide +kernel
theorem dX5_findHelp_54 : decode cX5_findHelp 54 = .ok (.istore 4, 2) := by decide +kernel
theorem dX5_findHelp_56 : decode cX5_findHelp 56 = .ok (.iload 4, 2) := by decide +kernel
theorem dX5_findHelp_58 : decode cX5_findHelp 58 = .ok (.bipush 40, 2) := by decide +kernel
theorem dX5_findHelp_60 : decode cX5_findHelp 60 = .ok (.if_icmp .ge 28, 3) := by decide +kernel
theorem dX5_findHelp_63 : decode cX5_findHelp 63 = .ok (.aload_n 1, 1) := by decide +kernel
theorem dX5_findHelp_64 : decode cX5_findHelp 64 = .ok (.iload_n 2, 1) := by decide +kernel
theorem dX5_findHelp_65 : decode cX5_findHelp 65 = .ok (.iload_n 3, 1) := by decide +kernel
theorem dX5_findHelp_66 : decode cX5_findHelp 66 = .ok (.iload 4, 2) := by decide +kernel
theorem dX5_findHelp_68 : decode cX5_findHelp 68 = .ok (.invokevirtual 264, 3) := by decide +kernel
theorem dX5_findHelp_71 : decode cX5_findHelp 71 = .ok (.ifCond .eq 11, 3) := by decide +kernel
theorem dX5_findHelp_74 : decode cX5_findHelp 74 = .ok (.aload_n 0, 1) := by decide +kernel
theorem dX5_findHelp_75 : decode cX5_findHelp 75 = .ok (.iload_n 2, 1) := by decide +kernel
theorem dX5_findHelp_76 : decode cX5_findHelp 76 = .ok (.iload_n 3, 1) := by decide +kernel
theorem dX5_findHelp_77 : decode cX5_findHelp 77 = .ok (.iload 4, 2) := by decide +kernel
theorem dX5_findHelp_79 : decode cX5_findHelp 79 = .ok (.invokevirtual 267, 3) := by decide +kernel
theorem dX5_findHelp_82 : decode cX5_findHelp 82 = .ok (.iinc 4 1, 3) := by decide +kernel
theorem dX5_findHelp_85 : decode cX5_findHelp 85 = .ok (.goto (-29), 3) := by decide +kernel
theorem dX5_findHelp_88 : decode cX5_findHelp 88 = .ok (.iinc 3 1, 3) := by decide +kernel
theorem dX5_findHelp_91 : decode cX5_findHelp 91 = .ok (.goto (-49), 3) := by decide +kernel
theorem dX5_findHelp_94 : decode cX5_findHelp 94 = .ok (.iinc 2 1, 3) := by decide +kernel
theorem dX5_findHelp_97 : decode cX5_findHelp 97 = .ok (.goto (-68), 3) := by decide +kernel
theorem dX5_findHelp_100 : decode cX5_findHelp 100 = .ok (.aload_n 0, 1) := by decide +kernel
theorem dX5_findHelp_101 : decode cX5_findHelp 101 = .ok (.iconst 1, 1) := by decide +kernel
theorem dX5_findHelp_102 : decode cX5_findHelp 102 = .ok (.putfield 65, 3) := by decide +kernel
theorem dX5_findHelp_105 : decode cX5_findHelp 105 = .ok (.return_, 1) := by decide +kernel
theorem dX5_tryWill_0 : decode cX5_tryWill 0 = .ok (.aload_n 0, 1) := by decide +kernel
theorem dX5_tryWill_1 : decode cX5_tryWill 1 = .ok (.getfield 48, 3) := by decide +kernel
theorem dX5_tryWill_4 : decode cX5_tryWill 4 = .ok (.aload_n 0, 1) := by decide +kernel
theorem dX5_tryWill_5 : decode cX5_tryWill 5 = .ok (.getfield 28, 3) := by decide +kernel
theorem dX5_tryWill_8 : decode cX5_tryWill 8 = .ok (.invokevirtual 214, 3) := by decide +kernel
theorem dX5_tryWill_11 : decode cX5_tryWill 11 = .ok (.aload_n 0, 1) := by decide +kernel
theorem dX5_tryWill_12 : decode cX5_tryWill 12 = .ok (.getfield 48, 3) := by decide +kernel
theorem dX5_tryWill_15 : decode cX5_tryWill 15 = .ok (.iload_n 1, 1) := by decide +kernel
theorem dX5_tryWill_16 : decode cX5_tryWill 16 = .ok (.iload_n 2, 1) := by decide +kernel
theorem dX5_tryWill_17 : decode cX5_tryWill 17 = .ok (.iload_n 3, 1) := by decide +kernel
theorem dX5_tryWill_18 : decode cX5_tryWill 18 = .ok (.invokevirtual 160, 3) := by decide +kernel
theorem dX5_tryWill_21 : decode cX5_tryWill 21 = .ok (.aload_n 0, 1) := by decide +kernel
theorem dX5_tryWill_22 : decode cX5_tryWill 22 = .ok (.getfield 51, 3) := by decide +kernel
theorem dX5_tryWill_25 : decode cX5_tryWill 25 = .ok (.aload_n 0, 1) := by decide +kernel
theorem dX5_tryWill_26 : decode cX5_tryWill 26 = .ok (.getfield 48, 3) := by decide +kernel
theorem dX5_tryWill_29 : decode cX5_tryWill 29 = .ok (.bipush 39, 2) := by decide +kernel
theorem dX5_tryWill_31 : decode cX5_tryWill 31 = .ok (.aload_n 0, 1) := by decide +kernel
theorem dX5_tryWill_32 : decode cX5_tryWill 32 = .ok (.getfield 72, 3) := by decide +kernel
theorem dX5_tryWill_35 : decode cX5_tryWill 35 = .ok (.invokevirtual 204, 3) := by decide +kernel
theorem dX5_tryWill_38 : decode cX5_tryWill 38 = .ok (.aload_n 0, 1) := by decide +kernel
theorem dX5_tryWill_39 : decode cX5_tryWill 39 = .ok (.getfield 51, 3) := by decide +kernel
theorem dX5_tryWill_42 : decode cX5_tryWill 42 = .ok (.getfield 208, 3) := by decide +kernel
theorem dX5_tryWill_45 : decode cX5_tryWill 45 = .ok (.aload_n 0, 1) := by decide +kernel
theorem dX5_tryWill_46 : decode cX5_tryWill 46 = .ok (.getfield 72, 3) := by decide +kernel
theorem dX5_tryWill_49 : decode cX5_tryWill 49 = .ok (.if_icmp .ge 30, 3) := by decide +kernel
theorem dX5_tryWill_52 : decode cX5_tryWill 52 = .ok (.aload_n 0, 1) := by decide +kernel
theorem dX5_tryWill_53 : decode cX5_tryWill 53 = .ok (.aload_n 0, 1) := by decide +kernel
theorem dX5_tryWill_54 : decode cX5_tryWill 54 = .ok (.getfield 51, 3) := by decide +kernel
theorem dX5_tryWill_57 : decode cX5_tryWill 57 = .ok (.getfield 208, 3) := by decide +kernel
theorem dX5_tryWill_60 : decode cX5_tryWill 60 = .ok (.putfield 72, 3) := by decide +kernel
theorem dX5_tryWill_63 : decode cX5_tryWill 63 = .ok (.aload_n 0, 1) := by decide +kernel
theorem dX5_tryWill_64 : decode cX5_tryWill 64 = .ok (.sipush 1000, 3) := by decide +kernel
theorem dX5_tryWill_67 : decode cX5_tryWill 67 = .ok (.iload_n 1, 1) := by decide +kernel
theorem dX5_tryWill_68 : decode cX5_tryWill 68 = .ok (.imul, 1) := by decide +kernel
theorem dX5_tryWill_69 : decode cX5_tryWill 69 = .ok (.bipush 100, 2) := by decide +kernel
theorem dX5_tryWill_71 : decode cX5_tryWill 71 = .ok (.iload_n 2, 1) := by decide +kernel
theorem dX5_tryWill_72 : decode cX5_tryWill 72 = .ok (.imul, 1) := by decide +kernel
theorem dX5_tryWill_73 : decode cX5_tryWill 73 = .ok (.iadd, 1) := by decide +kernel
theorem dX5_tryWill_74 : decode cX5_tryWill 74 = .ok (.iload_n 3, 1) := by decide +kernel
theorem dX5_tryWill_75 : decode cX5_tryWill 75 = .ok (.iadd, 1) := by decide +kernel
theorem dX5_tryWill_76 : decode cX5_tryWill 76 = .ok (.putfield 68, 3) := by decide +kernel
theorem dX5_tryWill_79 : decode cX5_tryWill 79 = .ok (.return_, 1) := by decide +kernel
theorem dX5_takeToldWills_0 : decode cX5_takeToldWills 0 = .ok (.aload_n 0, 1) := by decide +kernel
theorem dX5_takeToldWills_1 : decode cX5_takeToldWills 1 = .ok (.getfield 48, 3) := by decide +kernel
theorem dX5_takeToldWills_4 : decode cX5_takeToldWills 4 = .ok (.aload_n 0, 1) := by decide +kernel
theorem dX5_takeToldWills_5 : decode cX5_takeToldWills 5 = .ok (.getfield 28, 3) := by decide +kernel
theorem dX5_takeToldWills_8 : decode cX5_takeToldWills 8 = .ok (.invokevirtual 214, 3) := by decide +kernel
theorem dX5_takeToldWills_11 : decode cX5_takeToldWills 11 = .ok (.aload_n 0, 1) := by decide +kernel
theorem dX5_takeToldWills_12 : decode cX5_takeToldWills 12 = .ok (.getfield 48, 3) := by decide +kernel
theorem dX5_takeToldWills_15 : decode cX5_takeToldWills 15 = .ok (.iconst 0, 1) := by decide +kernel
theorem dX5_takeToldWills_16 : decode cX5_takeToldWills 16 = .ok (.putfield 157, 3) := by decide +kernel
theorem dX5_takeToldWills_19 : decode cX5_takeToldWills 19 = .ok (.iconst 0, 1) := by decide +kernel
theorem dX5_takeToldWills_20 : decode cX5_takeToldWills 20 = .ok (.istore 4, 2) := by decide +kernel
theorem dX5_takeToldWills_22 : decode cX5_takeToldWills 22 = .ok (.iload 4, 2) := by decide +kernel
theorem dX5_takeToldWills_24 : decode cX5_takeToldWills 24 = .ok (.iload_n 3, 1) := by decide +kernel
theorem dX5_takeToldWills_25 : decode cX5_takeToldWills 25 = .ok (.if_icmp .ge 98, 3) := by decide +kernel
theorem dX5_takeToldWills_28 : decode cX5_takeToldWills 28 = .ok (.iload_n 2, 1) := by decide +kernel
theorem dX5_takeToldWills_29 : decode cX5_takeToldWills 29 = .ok (.iconst 3, 1) := by decide +kernel
theorem dX5_takeToldWills_30 : decode cX5_takeToldWills 30 = .ok (.iload 4, 2) := by decide +kernel
theorem dX5_takeToldWills_32 : decode cX5_takeToldWills 32 = .ok (.imul, 1) := by decide +kernel
theorem dX5_takeToldWills_33 : decode cX5_takeToldWills 33 = .ok (.iadd, 1) := by decide +kernel
theorem dX5_takeToldWills_34 : decode cX5_takeToldWills 34 = .ok (.istore 5, 2) := by decide +kernel
theorem dX5_takeToldWills_36 : decode cX5_takeToldWills 36 = .ok (.aload_n 0, 1) := by decide +kernel
theorem dX5_takeToldWills_37 : decode cX5_takeToldWills 37 = .ok (.getfield 15, 3) := by decide +kernel
theorem dX5_takeToldWills_40 : decode cX5_takeToldWills 40 = .ok (.iload_n 1, 1) := by decide +kernel
theorem dX5_takeToldWills_41 : decode cX5_takeToldWills 41 = .ok (.iload 5, 2) := by decide +kernel
theorem dX5_takeToldWills_43 : decode cX5_takeToldWills 43 = .ok (.invokevirtual 239, 3) := by decide +kernel
theorem dX5_takeToldWills_46 : decode cX5_takeToldWills 46 = .ok (.istore 6, 2) := by decide +kernel
theorem dX5_takeToldWills_48 : decode cX5_takeToldWills 48 = .ok (.aload_n 0, 1) := by decide +kernel
theorem dX5_takeToldWills_49 : decode cX5_takeToldWills 49 = .ok (.getfield 15, 3) := by decide +kernel
theorem dX5_takeToldWills_52 : decode cX5_takeToldWills 52 = .ok (.iload_n 1, 1) := by decide +kernel
theorem dX5_takeToldWills_53 : decode cX5_takeToldWills 53 = .ok (.iload 5, 2) := by decide +kernel
theorem dX5_takeToldWills_55 : decode cX5_takeToldWills 55 = .ok (.iconst 1, 1) := by decide +kernel
theorem dX5_takeToldWills_56 : decode cX5_takeToldWills 56 = .ok (.iadd, 1) := by decide +kernel
theorem dX5_takeToldWills_57 : decode cX5_takeToldWills 57 = .ok (.invokevirtual 239, 3) := by decide +kernel
theorem dX5_takeToldWills_60 : decode cX5_takeToldWills 60 = .ok (.istore 7, 2) := by decide +kernel
theorem dX5_takeToldWills_62 : decode cX5_takeToldWills 62 = .ok (.aload_n 0, 1) := by decide +kernel
theorem dX5_takeToldWills_63 : decode cX5_takeToldWills 63 = .ok (.getfield 15, 3) := by decide +kernel
theorem dX5_takeToldWills_66 : decode cX5_takeToldWills 66 = .ok (.iload_n 1, 1) := by decide +kernel
theorem dX5_takeToldWills_67 : decode cX5_takeToldWills 67 = .ok (.iload 5, 2) := by decide +kernel
theorem dX5_takeToldWills_69 : decode cX5_takeToldWills 69 = .ok (.iconst 2, 1) := by decide +kernel
theorem dX5_takeToldWills_70 : decode cX5_takeToldWills 70 = .ok (.iadd, 1) := by decide +kernel
theorem dX5_takeToldWills_71 : decode cX5_takeToldWills 71 = .ok (.invokevirtual 239, 3) := by decide +kernel
theorem dX5_takeToldWills_74 : decode cX5_takeToldWills 74 = .ok (.istore 8, 2) := by decide +kernel
theorem dX5_takeToldWills_76 : decode cX5_takeToldWills 76 = .ok (.aload_n 0, 1) := by decide +kernel
theorem dX5_takeToldWills_77 : decode cX5_takeToldWills 77 = .ok (.iload 6, 2) := by decide +kernel
theorem dX5_takeToldWills_79 : decode cX5_takeToldWills 79 = .ok (.invokevirtual 151, 3) := by decide +kernel
theorem dX5_takeToldWills_82 : decode cX5_takeToldWills 82 = .ok (.ifCond .eq 20, 3) := by decide +kernel
theorem dX5_takeToldWills_85 : decode cX5_takeToldWills 85 = .ok (.aload_n 0, 1) := by decide +kernel
theorem dX5_takeToldWills_86 : decode cX5_takeToldWills 86 = .ok (.iload 7, 2) := by decide +kernel
theorem dX5_takeToldWills_88 : decode cX5_takeToldWills 88 = .ok (.invokevirtual 120, 3) := by decide +kernel
theorem dX5_takeToldWills_91 : decode cX5_takeToldWills 91 = .ok (.ifCond .eq 11, 3) := by decide +kernel
theorem dX5_takeToldWills_94 : decode cX5_takeToldWills 94 = .ok (.iload 8, 2) := by decide +kernel
theorem dX5_takeToldWills_96 : decode cX5_takeToldWills 96 = .ok (.invokestatic 154, 3) := by decide +kernel
theorem dX5_takeToldWills_99 : decode cX5_takeToldWills 99 = .ok (.ifCond .ne 5, 3) := by decide +kernel
theorem dX5_takeToldWills_102 : decode cX5_takeToldWills 102 = .ok (.iconst 0, 1) := by decide +kernel
theorem dX5_takeToldWills_103 : decode cX5_takeToldWills 103 = .ok (.ireturn, 1) := by decide +kernel
theorem dX5_takeToldWills_104 : decode cX5_takeToldWills 104 = .ok (.aload_n 0, 1) := by decide +kernel
theorem dX5_takeToldWills_105 : decode cX5_takeToldWills 105 = .ok (.getfield 48, 3) := by decide +kernel
theorem dX5_takeToldWills_108 : decode cX5_takeToldWills 108 = .ok (.iload 6, 2) := by decide +kernel
theorem dX5_takeToldWills_110 : decode cX5_takeToldWills 110 = .ok (.iload 7, 2) := by decide +kernel
theorem dX5_takeToldWills_112 : decode cX5_takeToldWills 112 = .ok (.iload 8, 2) := by decide +kernel
theorem dX5_takeToldWills_114 : decode cX5_takeToldWills 114 = .ok (.invokevirtual 160, 3) := by decide +kernel
theorem dX5_takeToldWills_117 : decode cX5_takeToldWills 117 = .ok (.iinc 4 1, 3) := by decide +kernel
theorem dX5_takeToldWills_120 : decode cX5_takeToldWills 120 = .ok (.goto (-98), 3) := by decide +kernel
theorem dX5_takeToldWills_123 : decode cX5_takeToldWills 123 = .ok (.iconst 1, 1) := by decide +kernel
theorem dX5_takeToldWills_124 : decode cX5_takeToldWills 124 = .ok (.ireturn, 1) := by decide +kernel
theorem dX5_allAreSo_0 : decode cX5_allAreSo 0 = .ok (.aload_n 0, 1) := by decide +kernel
theorem dX5_allAreSo_1 : decode cX5_allAreSo 1 = .ok (.getfield 51, 3) := by decide +kernel
theorem dX5_allAreSo_4 : decode cX5_allAreSo 4 = .ok (.aload_n 0, 1) := by decide +kernel
theorem dX5_allAreSo_5 : decode cX5_allAreSo 5 = .ok (.getfield 48, 3) := by decide +kernel
theorem dX5_allAreSo_8 : decode cX5_allAreSo 8 = .ok (.aload_n 0, 1) := by decide +kernel
theorem dX5_allAreSo_9 : decode cX5_allAreSo 9 = .ok (.getfield 35, 3) := by decide +kernel
theorem dX5_allAreSo_12 : decode cX5_allAreSo 12 = .ok (.invokevirtual 270, 3) := by decide +kernel
theorem dX5_allAreSo_15 : decode cX5_allAreSo 15 = .ok (.sipush 1000, 3) := by decide +kernel
theorem dX5_allAreSo_18 : decode cX5_allAreSo 18 = .ok (.invokevirtual 204, 3) := by decide +kernel
theorem dX5_allAreSo_21 : decode cX5_allAreSo 21 = .ok (.aload_n 0, 1) := by decide +kernel
theorem dX5_allAreSo_22 : decode cX5_allAreSo 22 = .ok (.getfield 35, 3) := by decide +kernel
theorem dX5_allAreSo_25 : decode cX5_allAreSo 25 = .ok (.aload_n 0, 1) := by decide +kernel
theorem dX5_allAreSo_26 : decode cX5_allAreSo 26 = .ok (.getfield 51, 3) := by decide +kernel
theorem dX5_allAreSo_29 : decode cX5_allAreSo 29 = .ok (.invokevirtual 273, 3) := by decide +kernel
theorem dX5_allAreSo_32 : decode cX5_allAreSo 32 = .ok (.ireturn, 1) := by decide +kernel
theorem dX5_leave_0 : decode cX5_leave 0 = .ok (.aload_n 0, 1) := by decide +kernel
theorem dX5_leave_1 : decode cX5_leave 1 = .ok (.bipush 31, 2) := by decide +kernel
theorem dX5_leave_3 : decode cX5_leave 3 = .ok (.aload_n 0, 1) := by decide +kernel
theorem dX5_leave_4 : decode cX5_leave 4 = .ok (.getfield 78, 3) := by decide +kernel
theorem dX5_leave_7 : decode cX5_leave 7 = .ok (.imul, 1) := by decide +kernel
theorem dX5_leave_8 : decode cX5_leave 8 = .ok (.iload_n 1, 1) := by decide +kernel
theorem dX5_leave_9 : decode cX5_leave 9 = .ok (.iadd, 1) := by decide +kernel
theorem dX5_leave_10 : decode cX5_leave 10 = .ok (.putfield 78, 3) := by decide +kernel
theorem dX5_leave_13 : decode cX5_leave 13 = .ok (.return_, 1) := by decide +kernel
theorem dX5_tellDreamer_0 : decode cX5_tellDreamer 0 = .ok (.aload_n 0, 1) := by decide +kernel
theorem dX5_tellDreamer_1 : decode cX5_tellDreamer 1 = .ok (.iconst 1, 1) := by decide +kernel
theorem dX5_tellDreamer_2 : decode cX5_tellDreamer 2 = .ok (.invokevirtual 258, 3) := by decide +kernel
theorem dX5_tellDreamer_5 : decode cX5_tellDreamer 5 = .ok (.iload_n 1, 1) := by decide +kernel
theorem dX5_tellDreamer_6 : decode cX5_tellDreamer 6 = .ok (.ireturn, 1) := by decide +kernel
theorem dX5_tellHeavy_0 : decode cX5_tellHeavy 0 = .ok (.aload_n 0, 1) := by decide +kernel
theorem dX5_tellHeavy_1 : decode cX5_tellHeavy 1 = .ok (.iconst 2, 1) := by decide +kernel
theorem dX5_tellHeavy_2 : decode cX5_tellHeavy 2 = .ok (.invokevirtual 258, 3) := by decide +kernel
theorem dX5_tellHeavy_5 : decode cX5_tellHeavy 5 = .ok (.aload_n 0, 1) := by decide +kernel
theorem dX5_tellHeavy_6 : decode cX5_tellHeavy 6 = .ok (.iload_n 1, 1) := by decide +kernel
theorem dX5_tellHeavy_7 : decode cX5_tellHeavy 7 = .ok (.invokevirtual 255, 3) := by decide +kernel
theorem dX5_tellHeavy_10 : decode cX5_tellHeavy 10 = .ok (.bipush 100, 2) := by decide +kernel
theorem dX5_tellHeavy_12 : decode cX5_tellHeavy 12 = .ok (.iadd, 1) := by decide +kernel
theorem dX5_tellHeavy_13 : decode cX5_tellHeavy 13 = .ok (.ireturn, 1) := by decide +kernel
theorem dX5_tellEnchanted_0 : decode cX5_tellEnchanted 0 = .ok (.aload_n 0, 1) := by decide +kernel
theorem dX5_tellEnchanted_1 : decode cX5_tellEnchanted 1 = .ok (.iconst 3, 1) := by decide +kernel
theorem dX5_tellEnchanted_2 : decode cX5_tellEnchanted 2 = .ok (.invokevirtual 258, 3) := by decide +kernel
theorem dX5_tellEnchanted_5 : decode cX5_tellEnchanted 5 = .ok (.aload_n 0, 1) := by decide +kernel
theorem dX5_tellEnchanted_6 : decode cX5_tellEnchanted 6 = .ok (.iload_n 1, 1) := by decide +kernel
theorem dX5_tellEnchanted_7 : decode cX5_tellEnchanted 7 = .ok (.invokevirtual 252, 3) := by decide +kernel
theorem dX5_tellEnchanted_10 : decode cX5_tellEnchanted 10 = .ok (.istore_n 2, 1) := by decide +kernel
theorem dX5_tellEnchanted_11 : decode cX5_tellEnchanted 11 = .ok (.iload_n 2, 1) := by decide +kernel
theorem dX5_tellEnchanted_12 : decode cX5_tellEnchanted 12 = .ok (.aload_n 0, 1) := by decide +kernel
theorem dX5_tellEnchanted_13 : decode cX5_tellEnchanted 13 = .ok (.iload_n 1, 1) := by decide +kernel
theorem dX5_tellEnchanted_14 : decode cX5_tellEnchanted 14 = .ok (.invokevirtual 255, 3) := by decide +kernel
theorem dX5_tellEnchanted_17 : decode cX5_tellEnchanted 17 = .ok (.iadd, 1) := by decide +kernel
theorem dX5_tellEnchanted_18 : decode cX5_tellEnchanted 18 = .ok (.ireturn, 1) := by decide +kernel
theorem dX6_init_0 : decode cX6_init 0 = .ok (.aload_n 0, 1) := by decide +kernel
theorem dX6_init_1 : decode cX6_init 1 = .ok (.invokespecial 1, 3) := by decide +kernel
theorem dX6_init_4 : decode cX6_init 4 = .ok (.aload_n 0, 1) := by decide +kernel
theorem dX6_init_5 : decode cX6_init 5 = .ok (.bipush 6, 2) := by decide +kernel
theorem dX6_init_7 : decode cX6_init 7 = .ok (.newarray .int, 2) := by decide +kernel
theorem dX6_init_9 : decode cX6_init 9 = .ok (.putfield 7, 3) := by decide +kernel
theorem dX6_init_12 : decode cX6_init 12 = .ok (.aload_n 0, 1) := by decide +kernel
theorem dX6_init_13 : decode cX6_init 13 = .ok (.bipush 6, 2) := by decide +kernel
theorem dX6_init_15 : decode cX6_init 15 = .ok (.newarray .int, 2) := by decide +kernel
theorem dX6_init_17 : decode cX6_init 17 = .ok (.putfield 13, 3) := by decide +kernel
theorem dX6_init_20 : decode cX6_init 20 = .ok (.aload_n 0, 1) := by decide +kernel
theorem dX6_init_21 : decode cX6_init 21 = .ok (.bipush 6, 2) := by decide +kernel
theorem dX6_init_23 : decode cX6_init 23 = .ok (.newarray .int, 2) := by decide +kernel
theorem dX6_init_25 : decode cX6_init 25 = .ok (.putfield 16, 3) := by decide +kernel
theorem dX6_init_28 : decode cX6_init 28 = .ok (.aload_n 0, 1) := by decide +kernel
theorem dX6_init_29 : decode cX6_init 29 = .ok (.bipush 6, 2) := by decide +kernel
theorem dX6_init_31 : decode cX6_init 31 = .ok (.newarray .int, 2) := by decide +kernel
theorem dX6_init_33 : decode cX6_init 33 = .ok (.putfield 19, 3) := by decide +kernel
theorem dX6_init_36 : decode cX6_init 36 = .ok (.aload_n 0, 1) := by decide +kernel
theorem dX6_init_37 : decode cX6_init 37 = .ok (.bipush 6, 2) := by decide +kernel
theorem dX6_init_39 : decode cX6_init 39 = .ok (.newarray .int, 2) := by decide +kernel
theorem dX6_init_41 : decode cX6_init 41 = .ok (.putfield 22, 3) := by decide +kernel
theorem dX6_init_44 : decode cX6_init 44 = .ok (.aload_n 0, 1) := by decide +kernel
theorem dX6_init_45 : decode cX6_init 45 = .ok (.iconst 4, 1) := by decide +kernel
theorem dX6_init_46 : decode cX6_init 46 = .ok (.newarray .int, 2) := by decide +kernel
theorem dX6_init_48 : decode cX6_init 48 = .ok (.putfield 25, 3) := by decide +kernel
theorem dX6_init_51 : decode cX6_init 51 = .ok (.aload_n 0, 1) := by decide +kernel
theorem dX6_init_52 : decode cX6_init 52 = .ok (.bipush 6, 2) := by decide +kernel
theorem dX6_init_54 : decode cX6_init 54 = .ok (.newarray .int, 2) := by decide +kernel
theorem dX6_init_56 : decode cX6_init 56 = .ok (.putfield 28, 3) := by decide +kernel
theorem dX6_init_59 : decode cX6_init 59 = .ok (.aload_n 0, 1) := by decide +kernel
theorem dX6_init_60 : decode cX6_init 60 = .ok (.bipush 6, 2) := by decide +kernel
theorem dX6_init_62 : decode cX6_init 62 = .ok (.newarray .int, 2) := by decide +kernel
theorem dX6_init_64 : decode cX6_init 64 = .ok (.putfield 31, 3) := by decide +kernel
theorem dX6_init_67 : decode cX6_init 67 = .ok (.aload_n 0, 1) := by decide +kernel
theorem dX6_init_68 : decode cX6_init 68 = .ok (.bipush 6, 2) := by decide +kernel
theorem dX6_init_70 : decode cX6_init 70 = .ok (.newarray .int, 2) := by decide +kernel
theorem dX6_init_72 : decode cX6_init 72 = .ok (.putfield 34, 3) := by decide +kernel
theorem dX6_init_75 : decode cX6_init 75 = .ok (.aload_n 0, 1) := by decide +kernel
theorem dX6_init_76 : decode cX6_init 76 = .ok (.bipush 6, 2) := by decide +kernel
theorem dX6_init_78 : decode cX6_init 78 = .ok (.newarray .int, 2) := by decide +kernel
theorem dX6_init_80 : decode cX6_init 80 = .ok (.putfield 37, 3) := by decide +kernel
theorem dX6_init_83 : decode cX6_init 83 = .ok (.aload_n 0, 1) := by decide +kernel
theorem dX6_init_84 : decode cX6_init 84 = .ok (.bipush 6, 2) := by decide +kernel
theorem dX6_init_86 : decode cX6_init 86 = .ok (.newarray .int, 2) := by decide +kernel
theorem dX6_init_88 : decode cX6_init 88 = .ok (.putfield 40, 3) := by decide +kernel
theorem dX6_init_91 : decode cX6_init 91 = .ok (.aload_n 0, 1) := by decide +kernel
theorem dX6_init_92 : decode cX6_init 92 = .ok (.bipush 7, 2) := by decide +kernel
theorem dX6_init_94 : decode cX6_init 94 = .ok (.newarray .int, 2) := by decide +kernel
theorem dX6_init_96 : decode cX6_init 96 = .ok (.putfield 43, 3) := by decide +kernel
theorem dX6_init_99 : decode cX6_init 99 = .ok (.aload_n 0, 1) := by decide +kernel
theorem dX6_init_100 : decode cX6_init 100 = .ok (.bipush 7, 2) := by decide +kernel
theorem dX6_init_102 : decode cX6_init 102 = .ok (.newarray .int, 2) := by decide +kernel
theorem dX6_init_104 : decode cX6_init 104 = .ok (.putfield 46, 3) := by decide +kernel
theorem dX6_init_107 : decode cX6_init 107 = .ok (.aload_n 0, 1) := by decide +kernel
theorem dX6_init_108 : decode cX6_init 108 = .ok (.bipush 7, 2) := by decide +kernel
theorem dX6_init_110 : decode cX6_init 110 = .ok (.newarray .int, 2) := by decide +kernel
theorem dX6_init_112 : decode cX6_init 112 = .ok (.putfield 49, 3) := by decide +kernel
theorem dX6_init_115 : decode cX6_init 115 = .ok (.aload_n 0, 1) := by decide +kernel
theorem dX6_init_116 : decode cX6_init 116 = .ok (.bipush 6, 2) := by decide +kernel
theorem dX6_init_118 : decode cX6_init 118 = .ok (.newarray .int, 2) := by decide +kernel
theorem dX6_init_120 : decode cX6_init 120 = .ok (.putfield 52, 3) := by decide +kernel
theorem dX6_init_123 : decode cX6_init 123 = .ok (.aload_n 0, 1) := by decide +kernel
theorem dX6_init_124 : decode cX6_init 124 = .ok (.bipush 6, 2) := by decide +kernel
theorem dX6_init_126 : decode cX6_init 126 = .ok (.newarray .int, 2) := by decide +kernel
theorem dX6_init_128 : decode cX6_init 128 = .ok (.putfield 55, 3) := by decide +kernel
theorem dX6_init_131 : decode cX6_init 131 = .ok (.aload_n 0, 1) := by decide +kernel
theorem dX6_init_132 : decode cX6_init 132 = .ok (.bipush 6, 2) := by decide +kernel
theorem dX6_init_134 : decode cX6_init 134 = .ok (.newarray .int, 2) := by decide +kernel
theorem dX6_init_136 : decode cX6_init 136 = .ok (.putfield 58, 3) := by decide +kernel
theorem dX6_init_139 : decode cX6_init 139 = .ok (.aload_n 0, 1) := by decide +kernel
theorem dX6_init_140 : decode cX6_init 140 = .ok (.bipush 6, 2) := by decide +kernel
theorem dX6_init_142 : decode cX6_init 142 = .ok (.newarray .int, 2) := by decide +kernel
theorem dX6_init_144 : decode cX6_init 144 = .ok (.putfield 61, 3) := by decide +kernel
theorem dX6_init_147 : decode cX6_init 147 = .ok (.aload_n 0, 1) := by decide +kernel
theorem dX6_init_148 : decode cX6_init 148 = .ok (.iconst 4, 1) := by decide +kernel
theorem dX6_init_149 : decode cX6_init 149 = .ok (.newarray .int, 2) := by decide +kernel
theorem dX6_init_151 : decode cX6_init 151 = .ok (.putfield 64, 3) := by decide +kernel
theorem dX6_init_154 : decode cX6_init 154 = .ok (.aload_n 0, 1) := by decide +kernel
theorem dX6_init_155 : decode cX6_init 155 = .ok (.bipush 6, 2) := by decide +kernel
theorem dX6_init_157 : decode cX6_init 157 = .ok (.newarray .int, 2) := by decide +kernel
theorem dX6_init_159 : decode cX6_init 159 = .ok (.putfield 67, 3) := by decide +kernel
theorem dX6_init_162 : decode cX6_init 162 = .ok (.aload_n 0, 1) := by decide +kernel
theorem dX6_init_163 : decode cX6_init 163 = .ok (.bipush 6, 2) := by decide +kernel
theorem dX6_init_165 : decode cX6_init 165 = .ok (.newarray .int, 2) := by decide +kernel
theorem dX6_init_167 : decode cX6_init 167 = .ok (.putfield 70, 3) := by decide +kernel
theorem dX6_init_170 : decode cX6_init 170 = .ok (.aload_n 0, 1) := by decide +kernel
theorem dX6_init_171 : decode cX6_init 171 = .ok (.bipush 6, 2) := by decide +kernel
theorem dX6_init_173 : decode cX6_init 173 = .ok (.newarray .int, 2) := by decide +kernel
theorem dX6_init_175 : decode cX6_init 175 = .ok (.putfield 73, 3) := by decide +kernel
theorem dX6_init_178 : decode cX6_init 178 = .ok (.aload_n 0, 1) := by decide +kernel
theorem dX6_init_179 : decode cX6_init 179 = .ok (.bipush 8, 2) := by decide +kernel
theorem dX6_init_181 : decode cX6_init 181 = .ok (.newarray .int, 2) := by decide +kernel
theorem dX6_init_183 : decode cX6_init 183 = .ok (.putfield 76, 3) := by decide +kernel
theorem dX6_init_186 : decode cX6_init 186 = .ok (.aload_n 0, 1) := by decide +kernel
theorem dX6_init_187 : decode cX6_init 187 = .ok (.bipush 8, 2) := by decide +kernel
theorem dX6_init_189 : decode cX6_init 189 = .ok (.newarray .int, 2) := by decide +kernel
theorem dX6_init_191 : decode cX6_init 191 = .ok (.putfield 79, 3) := by decide +kernel
theorem dX6_init_194 : decode cX6_init 194 = .ok (.aload_n 0, 1) := by decide +kernel
theorem dX6_init_195 : decode cX6_init 195 = .ok (.bipush 8, 2) := by decide +kernel
theorem dX6_init_197 : decode cX6_init 197 = .ok (.newarray .int, 2) := by decide +kernel
theorem dX6_init_199 : decode cX6_init 199 = .ok (.putfield 82, 3) := by decide +kernel
theorem dX6_init_202 : decode cX6_init 202 = .ok (.aload_n 0, 1) := by decide +kernel
theorem dX6_init_203 : decode cX6_init 203 = .ok (.iconst 4, 1) := by decide +kernel
theorem dX6_init_204 : decode cX6_init 204 = .ok (.newarray .int, 2) := by decide +kernel
theorem dX6_init_206 : decode cX6_init 206 = .ok (.putfield 85, 3) := by decide +kernel
theorem dX6_init_209 : decode cX6_init 209 = .ok (.aload_n 0, 1) := by decide +kernel
theorem dX6_init_210 : decode cX6_init 210 = .ok (.iconst 4, 1) := by decide +kernel
theorem dX6_init_211 : decode cX6_init 211 = .ok (.newarray .int, 2) := by decide +kernel
theorem dX6_init_213 : decode cX6_init 213 = .ok (.putfield 88, 3) := by decide +kernel
theorem dX6_init_216 : decode cX6_init 216 = .ok (.aload_n 0, 1) := by decide +kernel
theorem dX6_init_217 : decode cX6_init 217 = .ok (.sipush 240, 3) := by decide +kernel
theorem dX6_init_220 : decode cX6_init 220 = .ok (.newarray .int, 2) := by decide +kernel
theorem dX6_init_222 : decode cX6_init 222 = .ok (.putfield 91, 3) := by decide +kernel
theorem dX6_init_225 : decode cX6_init 225 = .ok (.aload_n 0, 1) := by decide +kernel
theorem dX6_init_226 : decode cX6_init 226 = .ok (.bipush 60, 2) := by decide +kernel
theorem dX6_init_228 : decode cX6_init 228 = .ok (.newarray .int, 2) := by decide +kernel
theorem dX6_init_230 : decode cX6_init 230 = .ok (.putfield 94, 3) := by decide +kernel
theorem dX6_init_233 : decode cX6_init 233 = .ok (.iconst 0, 1) := by decide +kernel
theorem dX6_init_234 : decode cX6_init 234 = .ok (.istore_n 1, 1) := by decide +kernel
theorem dX6_init_235 : decode cX6_init 235 = .ok (.iload_n 1, 1) := by decide +kernel
theorem dX6_init_236 : decode cX6_init 236 = .ok (.iconst 4, 1) := by decide +kernel
theorem dX6_init_237 : decode cX6_init 237 = .ok (.if_icmp .ge 16, 3) := by decide +kernel
theorem dX6_init_240 : decode cX6_init 240 = .ok (.aload_n 0, 1) := by decide +kernel
theorem dX6_init_241 : decode cX6_init 241 = .ok (.getfield 85, 3) := by decide +kernel
theorem dX6_init_244 : decode cX6_init 244 = .ok (.iload_n 1, 1) := by decide +kernel
theorem dX6_init_245 : decode cX6_init 245 = .ok (.iconst (-1), 1) := by decide +kernel
theorem dX6_init_246 : decode cX6_init 246 = .ok (.iastore, 1) := by decide +kernel
theorem dX6_init_247 : decode cX6_init 247 = .ok (.iinc 1 1, 3) := by decide +kernel
theorem dX6_init_250 : decode cX6_init 250 = .ok (.goto (-15), 3) := by decide +kernel
theorem dX6_init_253 : decode cX6_init 253 = .ok (.return_, 1) := by decide +kernel
theorem dX6_in_0 : decode cX6_in 0 = .ok (.lload_n 0, 1) := by decide +kernel
theorem dX6_in_1 : decode cX6_in 1 = .ok (.lload_n 2, 1) := by decide +kernel
theorem dX6_in_2 : decode cX6_in 2 = .ok (.lcmp, 1) := by decide +kernel
theorem dX6_in_3 : decode cX6_in 3 = .ok (.ifCond .lt 14, 3) := by decide +kernel
theorem dX6_in_6 : decode cX6_in 6 = .ok (.lload_n 0, 1) := by decide +kernel
theorem dX6_in_7 : decode cX6_in 7 = .ok (.lload 4, 2) := by decide +kernel
theorem dX6_in_9 : decode cX6_in 9 = .ok (.lcmp, 1) := by decide +kernel
theorem dX6_in_10 : decode cX6_in 10 = .ok (.ifCond .gt 7, 3) := by decide +kernel
theorem dX6_in_13 : decode cX6_in 13 = .ok (.iconst 1, 1) := by decide +kernel
theorem dX6_in_14 : decode cX6_in 14 = .ok (.goto 4, 3) := by decide +kernel
theorem dX6_in_17 : decode cX6_in 17 = .ok (.iconst 0, 1) := by decide +kernel
theorem dX6_in_18 : decode cX6_in 18 = .ok (.ireturn, 1) := by decide +kernel
theorem dX6_lost_0 : decode cX6_lost 0 = .ok (.ldc2_w 97, 3) := by decide +kernel
theorem dX6_lost_3 : decode cX6_lost 3 = .ok (.lreturn, 1) := by decide +kernel
theorem dX6_isIn_0 : decode cX6_isIn 0 = .ok (.iload_n 0, 1) := by decide +kernel
theorem dX6_isIn_1 : decode cX6_isIn 1 = .ok (.iload_n 1, 1) := by decide +kernel
theorem dX6_isIn_2 : decode cX6_isIn 2 = .ok (.ishr, 1) := by decide +kernel
theorem dX6_isIn_3 : decode cX6_isIn 3 = .ok (.iconst 1, 1) := by decide +kernel
theorem dX6_isIn_4 : decode cX6_isIn 4 = .ok (.iand, 1) := by decide +kernel
theorem dX6_isIn_5 : decode cX6_isIn 5 = .ok (.iconst 1, 1) := by decide +kernel
theorem dX6_isIn_6 : decode cX6_isIn 6 = .ok (.if_icmp .ne 7, 3) := by decide +kernel
theorem dX6_isIn_9 : decode cX6_isIn 9 = .ok (.iconst 1, 1) := by decide +kernel
theorem dX6_isIn_10 : decode cX6_isIn 10 = .ok (.goto 4, 3) := by decide +kernel
theorem dX6_isIn_13 : decode cX6_isIn 13 = .ok (.iconst 0, 1) := by decide +kernel
theorem dX6_isIn_14 : decode cX6_isIn 14 = .ok (.ireturn, 1) := by decide +kernel
theorem dX6_bits_0 : decode cX6_bits 0 = .ok (.iconst 0, 1) := by decide +kernel
theorem dX6_bits_1 : decode cX6_bits 1 = .ok (.istore_n 1, 1) := by decide +kernel
theorem dX6_bits_2 : decode cX6_bits 2 = .ok (.iload_n 0, 1) := by decide +kernel
theorem dX6_bits_3 : decode cX6_bits 3 = .ok (.istore_n 2, 1) := by decide +kernel
theorem dX6_bits_4 : decode cX6_bits 4 = .ok (.iload_n 2, 1) := by decide +kernel
theorem dX6_bits_5 : decode cX6_bits 5 = .ok (.ifCond .le 16, 3) := by decide +kernel
theorem dX6_bits_8 : decode cX6_bits 8 = .ok (.iload_n 1, 1) := by decide +kernel
theorem dX6_bits_9 : decode cX6_bits 9 = .ok (.iload_n 2, 1) := by decide +kernel
theorem dX6_bits_10 : decode cX6_bits 10 = .ok (.iconst 1, 1) := by decide +kernel
theorem dX6_bits_11 : decode cX6_bits 11 = .ok (.iand, 1) := by decide +kernel
theorem dX6_bits_12 : decode cX6_bits 12 = .ok (.iadd, 1) := by decide +kernel
theorem dX6_bits_13 : decode cX6_bits 13 = .ok (.istore_n 1, 1) := by decide +kernel
theorem dX6_bits_14 : decode cX6_bits 14 = .ok (.iload_n 2, 1) := by decide +kernel
theorem dX6_bits_15 : decode cX6_bits 15 = .ok (.iconst 1, 1) := by decide +kernel
theorem dX6_bits_16 : decode cX6_bits 16 = .ok (.ishr, 1) := by decide +kernel
theorem dX6_bits_17 : decode cX6_bits 17 = .ok (.istore_n 2, 1) := by decide +kernel
theorem dX6_bits_18 : decode cX6_bits 18 = .ok (.goto (-14), 3) := by decide +kernel
theorem dX6_bits_21 : decode cX6_bits 21 = .ok (.iload_n 1, 1) := by decide +kernel
theorem dX6_bits_22 : decode cX6_bits 22 = .ok (.ireturn, 1) := by decide +kernel
theorem dX6_told_0 : decode cX6_told 0 = .ok (.lload_n 0, 1) := by decide +kernel
theorem dX6_told_1 : decode cX6_told 1 = .ok (.lstore 5, 2) := by decide +kernel
theorem dX6_told_3 : decode cX6_told 3 = .ok (.lload_n 2, 1) := by decide +kernel
theorem dX6_told_4 : decode cX6_told 4 = .ok (.lstore 7, 2) := by decide +kernel
theorem dX6_told_6 : decode cX6_told 6 = .ok (.lload 7, 2) := by decide +kernel
theorem dX6_told_8 : decode cX6_told 8 = .ok (.lconst 0, 1) := by decide +kernel
theorem dX6_told_9 : decode cX6_told 9 = .ok (.lcmp, 1) := by decide +kernel
theorem dX6_told_10 : decode cX6_told 10 = .ok (.ifCond .eq 21, 3) := by decide +kernel
theorem dX6_told_13 : decode cX6_told 13 = .ok (.lload 5, 2) := by decide +kernel
theorem dX6_told_15 : decode cX6_told 15 = .ok (.lload 7, 2) := by decide +kernel
theorem dX6_told_17 : decode cX6_told 17 = .ok (.lrem, 1) := by decide +kernel
theorem dX6_told_18 : decode cX6_told 18 = .ok (.lstore 9, 2) := by decide +kernel
theorem dX6_told_20 : decode cX6_told 20 = .ok (.lload 7, 2) := by decide +kernel
theorem dX6_told_22 : decode cX6_told 22 = .ok (.lstore 5, 2) := by decide +kernel
theorem dX6_told_24 : decode cX6_told 24 = .ok (.lload 9, 2) := by decide +kernel
theorem dX6_told_26 : decode cX6_told 26 = .ok (.lstore 7, 2) := by decide +kernel
theorem dX6_told_28 : decode cX6_told 28 = .ok (.goto (-22), 3) := by decide +kernel
theorem dX6_told_31 : decode cX6_told 31 = .ok (.iload 4, 2) := by decide +kernel
theorem dX6_told_33 : decode cX6_told 33 = .ok (.ifCond .ne 7, 3) := by decide +kernel
theorem dX6_told_36 : decode cX6_told 36 = .ok (.lload_n 0, 1) := by decide +kernel
theorem dX6_told_37 : decode cX6_told 37 = .ok (.goto 4, 3) := by decide +kernel
theorem dX6_told_40 : decode cX6_told 40 = .ok (.lload_n 2, 1) := by decide +kernel
theorem dX6_told_41 : decode cX6_told 41 = .ok (.lload 5, 2) := by decide +kernel
theorem dX6_told_43 : decode cX6_told 43 = .ok (.ldiv, 1) := by decide +kernel
theorem dX6_told_44 : decode cX6_told 44 = .ok (.lreturn, 1) := by decide +kernel
theorem dX6_refused_0 : decode cX6_refused 0 = .ok (.aload_n 0, 1) := by decide +kernel
theorem dX6_refused_1 : decode cX6_refused 1 = .ok (.iconst 0, 1) := by decide +kernel
theorem dX6_refused_2 : decode cX6_refused 2 = .ok (.putfield 99, 3) := by decide +kernel
theorem dX6_refused_5 : decode cX6_refused 5 = .ok (.iload_n 1, 1) := by decide +kernel
theorem dX6_refused_6 : decode cX6_refused 6 = .ok (.ireturn, 1) := by decide +kernel
theorem dX6_failed_0 : decode cX6_failed 0 = .ok (.aload_n 0, 1) := by decide +kernel
theorem dX6_failed_1 : decode cX6_failed 1 = .ok (.iload_n 1, 1) := by decide +kernel
theorem dX6_failed_2 : decode cX6_failed 2 = .ok (.putfield 99, 3) := by decide +kernel
theorem dX6_failed_5 : decode cX6_failed 5 = .ok (.bipush (-10), 2) := by decide +kernel
theorem dX6_failed_7 : decode cX6_failed 7 = .ok (.iload_n 1, 1) := by decide +kernel
theorem dX6_failed_8 : decode cX6_failed 8 = .ok (.isub, 1) := by decide +kernel
theorem dX6_failed_9 : decode cX6_failed 9 = .ok (.ireturn, 1) := by decide +kernel
theorem dX6_failedLong_0 : decode cX6_failedLong 0 = .ok (.aload_n 0, 1) := by decide +kernel
theorem dX6_failedLong_1 : decode cX6_failedLong 1 = .ok (.iload_n 1, 1) := by decide +kernel
theorem dX6_failedLong_2 : decode cX6_failedLong 2 = .ok (.putfield 99, 3) := by decide +kernel
theorem dX6_failedLong_5 : decode cX6_failedLong 5 = .ok (.invokestatic 103, 3) := by decide +kernel
theorem dX6_failedLong_8 : decode cX6_failedLong 8 = .ok (.lreturn, 1) := by decide +kernel
theorem dX6_noPerson_0 : decode cX6_noPerson 0 = .ok (.iload_n 1, 1) := by decide +kernel
theorem dX6_noPerson_1 : decode cX6_noPerson 1 = .ok (.i2l, 1) := by decide +kernel
theorem dX6_noPerson_2 : decode cX6_noPerson 2 = .ok (.lconst 0, 1) := by decide +kernel
theorem dX6_noPerson_3 : decode cX6_noPerson 3 = .ok (.aload_n 0, 1) := by decide +kernel
theorem dX6_noPerson_4 : decode cX6_noPerson 4 = .ok (.getfield 107, 3) := by decide +kernel
theorem dX6_noPerson_7 : decode cX6_noPerson 7 = .ok (.i2l, 1) := by decide +kernel
theorem dX6_noPerson_8 : decode cX6_noPerson 8 = .ok (.lconst 1, 1) := by decide +kernel
theorem dX6_noPerson_9 : decode cX6_noPerson 9 = .ok (.lsub, 1) := by decide +kernel
theorem dX6_noPerson_10 : decode cX6_noPerson 10 = .ok (.invokestatic 110, 3) := by decide +kernel
theorem dX6_noPerson_13 : decode cX6_noPerson 13 = .ok (.ifCond .ne 7, 3) := by decide +kernel
theorem dX6_noPerson_16 : decode cX6_noPerson 16 = .ok (.iconst 1, 1) := by decide +kernel
theorem dX6_noPerson_17 : decode cX6_noPerson 17 = .ok (.goto 4, 3) := by decide +kernel
theorem dX6_noPerson_20 : decode cX6_noPerson 20 = .ok (.iconst 0, 1) := by decide +kernel
theorem dX6_noPerson_21 : decode cX6_noPerson 21 = .ok (.ireturn, 1) := by decide +kernel
theorem dX6_noPost_0 : decode cX6_noPost 0 = .ok (.iload_n 1, 1) := by decide +kernel
theorem dX6_noPost_1 : decode cX6_noPost 1 = .ok (.i2l, 1) := by decide +kernel
theorem dX6_noPost_2 : decode cX6_noPost 2 = .ok (.lconst 0, 1) := by decide +kernel
theorem dX6_noPost_3 : decode cX6_noPost 3 = .ok (.aload_n 0, 1) := by decide +kernel
theorem dX6_noPost_4 : decode cX6_noPost 4 = .ok (.getfield 114, 3) := by decide +kernel
theorem dX6_noPost_7 : decode cX6_noPost 7 = .ok (.i2l, 1) := by decide +kernel
theorem dX6_noPost_8 : decode cX6_noPost 8 = .ok (.lconst 1, 1) := by decide +kernel
theorem dX6_noPost_9 : decode cX6_noPost 9 = .ok (.lsub, 1) := by decide +kernel
theorem dX6_noPost_10 : decode cX6_noPost 10 = .ok (.invokestatic 110, 3) := by decide +kernel
theorem dX6_noPost_13 : decode cX6_noPost 13 = .ok (.ifCond .ne 7, 3) := by decide +kernel
theorem dX6_noPost_16 : decode cX6_noPost 16 = .ok (.iconst 1, 1) := by decide +kernel
theorem dX6_noPost_17 : decode cX6_noPost 17 = .ok (.goto 4, 3) := by decide +kernel
theorem dX6_noPost_20 : decode cX6_noPost 20 = .ok (.iconst 0, 1) := by decide +kernel
theorem dX6_noPost_21 : decode cX6_noPost 21 = .ok (.ireturn, 1) := by decide +kernel
theorem dX6_isDecade_0 : decode cX6_isDecade 0 = .ok (.iload_n 0, 1) := by decide +kernel
theorem dX6_isDecade_1 : decode cX6_isDecade 1 = .ok (.i2l, 1) := by decide +kernel
theorem dX6_isDecade_2 : decode cX6_isDecade 2 = .ok (.lconst 0, 1) := by decide +kernel
theorem dX6_isDecade_3 : decode cX6_isDecade 3 = .ok (.ldc2_w 117, 3) := by decide +kernel
theorem dX6_isDecade_6 : decode cX6_isDecade 6 = .ok (.invokestatic 110, 3) := by decide +kernel
theorem dX6_isDecade_9 : decode cX6_isDecade 9 = .ok (.ireturn, 1) := by decide +kernel
theorem dX6_all_0 : decode cX6_all 0 = .ok (.iconst 1, 1) := by decide +kernel
theorem dX6_all_1 : decode cX6_all 1 = .ok (.aload_n 0, 1) := by decide +kernel
theorem dX6_all_2 : decode cX6_all 2 = .ok (.getfield 107, 3) := by decide +kernel
theorem dX6_all_5 : decode cX6_all 5 = .ok (.ishl, 1) := by decide +kernel
theorem dX6_all_6 : decode cX6_all 6 = .ok (.iconst 1, 1) := by decide +kernel
theorem dX6_all_7 : decode cX6_all 7 = .ok (.isub, 1) := by decide +kernel
theorem dX6_all_8 : decode cX6_all 8 = .ok (.ireturn, 1) := by decide +kernel
theorem dX6_codeAt_0 : decode cX6_codeAt 0 = .ok (.aload_n 0, 1) := by decide +kernel
theorem dX6_codeAt_1 : decode cX6_codeAt 1 = .ok (.getfield 119, 3) := by decide +kernel
theorem dX6_codeAt_4 : decode cX6_codeAt 4 = .ok (.iload_n 2, 1) := by decide +kernel
theorem dX6_codeAt_5 : decode cX6_codeAt 5 = .ok (.if_icmp .ge 17, 3) := by decide +kernel
theorem dX6_codeAt_8 : decode cX6_codeAt 8 = .ok (.aload_n 0, 1) := by decide +kernel
theorem dX6_codeAt_9 : decode cX6_codeAt 9 = .ok (.getfield 91, 3) := by decide +kernel
theorem dX6_codeAt_12 : decode cX6_codeAt 12 = .ok (.iload_n 1, 1) := by decide +kernel
theorem dX6_codeAt_13 : decode cX6_codeAt 13 = .ok (.aload_n 0, 1) := by decide +kernel
theorem dX6_codeAt_14 : decode cX6_codeAt 14 = .ok (.getfield 119, 3) := by decide +kernel
theorem dX6_codeAt_17 : decode cX6_codeAt 17 = .ok (.iadd, 1) := by decide +kernel
theorem dX6_codeAt_18 : decode cX6_codeAt 18 = .ok (.iaload, 1) := by decide +kernel
theorem dX6_codeAt_19 : decode cX6_codeAt 19 = .ok (.goto 5, 3) := by decide +kernel
theorem dX6_codeAt_22 : decode cX6_codeAt 22 = .ok (.bipush (-9), 2) := by decide +kernel
theorem dX6_codeAt_24 : decode cX6_codeAt 24 = .ok (.ireturn, 1) := by decide +kernel
theorem dX6_figure_0 : decode cX6_figure 0 = .ok (.aload_n 0, 1) := by decide +kernel
theorem dX6_figure_1 : decode cX6_figure 1 = .ok (.iload_n 1, 1) := by decide +kernel
theorem dX6_figure_2 : decode cX6_figure 2 = .ok (.iload_n 2, 1) := by decide +kernel
theorem dX6_figure_3 : decode cX6_figure 3 = .ok (.invokevirtual 122, 3) := by decide +kernel
theorem dX6_figure_6 : decode cX6_figure 6 = .ok (.bipush 48, 2) := by decide +kernel
theorem dX6_figure_8 : decode cX6_figure 8 = .ok (.isub, 1) := by decide +kernel
theorem dX6_figure_9 : decode cX6_figure 9 = .ok (.istore 5, 2) := by decide +kernel
theorem dX6_figure_11 : decode cX6_figure 11 = .ok (.iload 5, 2) := by decide +kernel
theorem dX6_figure_13 : decode cX6_figure 13 = .ok (.i2l, 1) := by decide +kernel
theorem dX6_figure_14 : decode cX6_figure 14 = .ok (.iload_n 3, 1) := by decide +kernel
theorem dX6_figure_15 : decode cX6_figure 15 = .ok (.i2l, 1) := by decide +kernel
theorem dX6_figure_16 : decode cX6_figure 16 = .ok (.iload 4, 2) := by decide +kernel
theorem dX6_figure_18 : decode cX6_figure 18 = .ok (.i2l, 1) := by decide +kernel
theorem dX6_figure_19 : decode cX6_figure 19 = .ok (.invokestatic 110, 3) := by decide +kernel
theorem dX6_figure_22 : decode cX6_figure 22 = .ok (.istore 6, 2) := by decide +kernel
theorem dX6_figure_24 : decode cX6_figure 24 = .ok (.aload_n 0, 1) := by decide +kernel
theorem dX6_figure_25 : decode cX6_figure 25 = .ok (.dup, 1) := by decide +kernel
theorem dX6_figure_26 : decode cX6_figure 26 = .ok (.getfield 119, 3) := by decide +kernel
theorem dX6_figure_29 : decode cX6_figure 29 = .ok (.iload 6, 2) := by decide +kernel
theorem dX6_figure_31 : decode cX6_figure 31 = .ok (.ifCond .eq 7, 3) := by decide +kernel
theorem dX6_figure_34 : decode cX6_figure 34 = .ok (.iconst 1, 1) := by decide +kernel
theorem dX6_figure_35 : decode cX6_figure 35 = .ok (.goto 4, 3) := by decide +kernel
theorem dX6_figure_38 : decode cX6_figure 38 = .ok (.iconst 0, 1) := by decide +kernel
theorem dX6_figure_39 : decode cX6_figure 39 = .ok (.iadd, 1) := by decide +kernel
theorem dX6_figure_40 : decode cX6_figure 40 = .ok (.putfield 119, 3) := by decide +kernel
theorem dX6_figure_43 : decode cX6_figure 43 = .ok (.iload 6, 2) := by decide +kernel
theorem dX6_figure_45 : decode cX6_figure 45 = .ok (.ifCond .eq 8, 3) := by decide +kernel
theorem dX6_figure_48 : decode cX6_figure 48 = .ok (.iload 5, 2) := by decide +kernel
theorem dX6_figure_50 : decode cX6_figure 50 = .ok (.goto 5, 3) := by decide +kernel
theorem dX6_figure_53 : decode cX6_figure 53 = .ok (.bipush (-9), 2) := by decide +kernel
theorem dX6_figure_55 : decode cX6_figure 55 = .ok (.ireturn, 1) := by decide +kernel
theorem dX6_readsPerson_0 : decode cX6_readsPerson 0 = .ok (.aload_n 0, 1) := by decide +kernel
theorem dX6_readsPerson_1 : decode cX6_readsPerson 1 = .ok (.getfield 126, 3) := by decide +kernel
theorem dX6_readsPerson_4 : decode cX6_readsPerson 4 = .ok (.bipush 6, 2) := by decide +kernel
theorem dX6_readsPerson_6 : decode cX6_readsPerson 6 = .ok (.if_icmp .eq 14, 3) := by decide +kernel
theorem dX6_readsPerson_9 : decode cX6_readsPerson 9 = .ok (.aload_n 0, 1) := by decide +kernel
theorem dX6_readsPerson_10 : decode cX6_readsPerson 10 = .ok (.iload_n 1, 1) := by decide +kernel
theorem dX6_readsPerson_11 : decode cX6_readsPerson 11 = .ok (.iload_n 2, 1) := by decide +kernel
theorem dX6_readsPerson_12 : decode cX6_readsPerson 12 = .ok (.invokevirtual 122, 3) := by decide +kernel
theorem dX6_readsPerson_15 : decode cX6_readsPerson 15 = .ok (.bipush 59, 2) := by decide +kernel
theorem dX6_readsPerson_17 : decode cX6_readsPerson 17 = .ok (.if_icmp .eq 5, 3) := by decide +kernel
theorem dX6_readsPerson_20 : decode cX6_readsPerson 20 = .ok (.iconst 0, 1) := by decide +kernel
theorem dX6_readsPerson_21 : decode cX6_readsPerson 21 = .ok (.ireturn, 1) := by decide +kernel
theorem dX6_readsPerson_22 : decode cX6_readsPerson 22 = .ok (.aload_n 0, 1) := by decide +kernel
theorem dX6_readsPerson_23 : decode cX6_readsPerson 23 = .ok (.dup, 1) := by decide +kernel
theorem dX6_readsPerson_24 : decode cX6_readsPerson 24 = .ok (.getfield 119, 3) := by decide +kernel
theorem dX6_readsPerson_27 : decode cX6_readsPerson 27 = .ok (.iconst 1, 1) := by decide +kernel
theorem dX6_readsPerson_28 : decode cX6_readsPerson 28 = .ok (.iadd, 1) := by decide +kernel
theorem dX6_readsPerson_29 : decode cX6_readsPerson 29 = .ok (.putfield 119, 3) := by decide +kernel
theorem dX6_readsPerson_32 : decode cX6_readsPerson 32 = .ok (.aload_n 0, 1) := by decide +kernel
theorem dX6_readsPerson_33 : decode cX6_readsPerson 33 = .ok (.iload_n 1, 1) := by decide +kernel
theorem dX6_readsPerson_34 : decode cX6_readsPerson 34 = .ok (.iload_n 2, 1) := by decide +kernel
theorem dX6_readsPerson_35 : decode cX6_readsPerson 35 = .ok (.invokevirtual 122, 3) := by decide +kernel
theorem dX6_readsPerson_38 : decode cX6_readsPerson 38 = .ok (.istore_n 3, 1) := by decide +kernel
theorem dX6_readsPerson_39 : decode cX6_readsPerson 39 = .ok (.iload_n 3, 1) := by decide +kernel
theorem dX6_readsPerson_40 : decode cX6_readsPerson 40 = .ok (.bipush 100, 2) := by decide +kernel
theorem dX6_readsPerson_42 : decode cX6_readsPerson 42 = .ok (.if_icmp .eq 17, 3) := by decide +kernel
theorem dX6_readsPerson_45 : decode cX6_readsPerson 45 = .ok (.iload_n 3, 1) := by decide +kernel
theorem dX6_readsPerson_46 : decode cX6_readsPerson 46 = .ok (.bipush 104, 2) := by decide +kernel
theorem dX6_readsPerson_48 : decode cX6_readsPerson 48 = .ok (.if_icmp .eq 11, 3) := by decide +kernel
theorem dX6_readsPerson_51 : decode cX6_readsPerson 51 = .ok (.iload_n 3, 1) := by decide +kernel
theorem dX6_readsPerson_52 : decode cX6_readsPerson 52 = .ok (.bipush 101, 2) := by decide +kernel
theorem dX6_readsPerson_54 : decode cX6_readsPerson 54 = .ok (.if_icmp .eq 5, 3) := by decide +kernel
theorem dX6_readsPerson_57 : decode cX6_readsPerson 57 = .ok (.iconst 0, 1) := by decide +kernel
theorem dX6_readsPerson_58 : decode cX6_readsPerson 58 = .ok (.ireturn, 1) := by decide +kernel
theorem dX6_readsPerson_59 : decode cX6_readsPerson 59 = .ok (.aload_n 0, 1) := by decide +kernel
theorem dX6_readsPerson_60 : decode cX6_readsPerson 60 = .ok (.dup, 1) := by decide +kernel
theorem dX6_readsPerson_61 : decode cX6_readsPerson 61 = .ok (.getfield 119, 3) := by decide +kernel
theorem dX6_readsPerson_64 : decode cX6_readsPerson 64 = .ok (.iconst 1, 1) := by decide +kernel
theorem dX6_readsPerson_65 : decode cX6_readsPerson 65 = .ok (.iadd, 1) := by decide +kernel
theorem dX6_readsPerson_66 : decode cX6_readsPerson 66 = .ok (.putfield 119, 3) := by decide +kernel
theorem dX6_readsPerson_69 : decode cX6_readsPerson 69 = .ok (.aload_n 0, 1) := by decide +kernel
theorem dX6_readsPerson_70 : decode cX6_readsPerson 70 = .ok (.iload_n 1, 1) := by decide +kernel
theorem dX6_readsPerson_71 : decode cX6_readsPerson 71 = .ok (.iload_n 2, 1) := by decide +kernel
theorem dX6_readsPerson_72 : decode cX6_readsPerson 72 = .ok (.iconst 0, 1) := by decide +kernel
theorem dX6_readsPerson_73 : decode cX6_readsPerson 73 = .ok (.aload_n 0, 1) := by decide +kernel
theorem dX6_readsPerson_74 : decode cX6_readsPerson 74 = .ok (.getfield 129, 3) := by decide +kernel
theorem dX6_readsPerson_77 : decode cX6_readsPerson 77 = .ok (.iconst 1, 1) := by decide +kernel
theorem dX6_readsPerson_78 : decode cX6_readsPerson 78 = .ok (.isub, 1) := by decide +kernel
theorem dX6_readsPerson_79 : decode cX6_readsPerson 79 = .ok (.invokevirtual 132, 3) := by decide +kernel
theorem dX6_readsPerson_82 : decode cX6_readsPerson 82 = .ok (.istore 4, 2) := by decide +kernel
theorem dX6_readsPerson_84 : decode cX6_readsPerson 84 = .ok (.iload 4, 2) := by decide +kernel
theorem dX6_readsPerson_86 : decode cX6_readsPerson 86 = .ok (.ifCond .ge 8, 3) := by decide +kernel
theorem dX6_readsPerson_89 : decode cX6_readsPerson 89 = .ok (.bipush (-9), 2) := by decide +kernel
theorem dX6_readsPerson_91 : decode cX6_readsPerson 91 = .ok (.goto 12, 3) := by decide +kernel
theorem dX6_readsPerson_94 : decode cX6_readsPerson 94 = .ok (.aload_n 0, 1) := by decide +kernel
theorem dX6_readsPerson_95 : decode cX6_readsPerson 95 = .ok (.iload_n 1, 1) := by decide +kernel
theorem dX6_readsPerson_96 : decode cX6_readsPerson 96 = .ok (.iload_n 2, 1) := by decide +kernel
theorem dX6_readsPerson_97 : decode cX6_readsPerson 97 = .ok (.iconst 0, 1) := by decide +kernel
theorem dX6_readsPerson_98 : decode cX6_readsPerson 98 = .ok (.bipush 9, 2) := by decide +kernel
theorem dX6_readsPerson_100 : decode cX6_readsPerson 100 = .ok (.invokevirtual 132, 3) := by decide +kernel
theorem dX6_readsPerson_103 : decode cX6_readsPerson 103 = .ok (.istore 5, 2) := by decide +kernel
theorem dX6_readsPerson_105 : decode cX6_readsPerson 105 = .ok (.iload 5, 2) := by decide +kernel
theorem dX6_readsPerson_107 : decode cX6_readsPerson 107 = .ok (.ifCond .ge 8, 3) := by decide +kernel
theorem dX6_readsPerson_110 : decode cX6_readsPerson 110 = .ok (.bipush (-9), 2) := by decide +kernel
theorem dX6_readsPerson_112 : decode cX6_readsPerson 112 = .ok (.goto 12, 3) := by decide +kernel
theorem dX6_readsPerson_115 : decode cX6_readsPerson 115 = .ok (.aload_n 0, 1) := by decide +kernel
theorem dX6_readsPerson_116 : decode cX6_readsPerson 116 = .ok (.iload_n 1, 1) := by decide +kernel
theorem dX6_readsPerson_117 : decode cX6_readsPerson 117 = .ok (.iload_n 2, 1) := by decide +kernel
theorem dX6_readsPerson_118 : decode cX6_readsPerson 118 = .ok (.iconst 1, 1) := by decide +kernel
theorem dX6_readsPerson_119 : decode cX6_readsPerson 119 = .ok (.bipush 9, 2) := by decide +kernel
theorem dX6_readsPerson_121 : decode cX6_readsPerson 121 = .ok (.invokevirtual 132, 3) := by decide +kernel
theorem dX6_readsPerson_124 : decode cX6_readsPerson 124 = .ok (.istore 6, 2) := by decide +kernel
theorem dX6_readsPerson_126 : decode cX6_readsPerson 126 = .ok (.iload 6, 2) := by decide +kernel
theorem dX6_readsPerson_128 : decode cX6_readsPerson 128 = .ok (.ifCond .ge 8, 3) := by decide +kernel
theorem dX6_readsPerson_131 : decode cX6_readsPerson 131 = .ok (.bipush (-9), 2) := by decide +kernel
theorem dX6_readsPerson_133 : decode cX6_readsPerson 133 = .ok (.goto 12, 3) := by decide +kernel
theorem dX6_readsPerson_136 : decode cX6_readsPerson 136 = .ok (.aload_n 0, 1) := by decide +kernel
theorem dX6_readsPerson_137 : decode cX6_readsPerson 137 = .ok (.iload_n 1, 1) := by decide +kernel
theorem dX6_readsPerson_138 : decode cX6_readsPerson 138 = .ok (.iload_n 2, 1) := by decide +kernel
theorem dX6_readsPerson_139 : decode cX6_readsPerson 139 = .ok (.iconst 1, 1) := by decide +kernel
theorem dX6_readsPerson_140 : decode cX6_readsPerson 140 = .ok (.bipush 9, 2) := by decide +kernel
theorem dX6_readsPerson_142 : decode cX6_readsPerson 142 = .ok (.invokevirtual 132, 3) := by decide +kernel
theorem dX6_readsPerson_145 : decode cX6_readsPerson 145 = .ok (.istore 7, 2) := by decide +kernel
theorem dX6_readsPerson_147 : decode cX6_readsPerson 147 = .ok (.iload 7, 2) := by decide +kernel
theorem dX6_readsPerson_149 : decode cX6_readsPerson 149 = .ok (.ifCond .ge 5, 3) := by decide +kernel
theorem dX6_readsPerson_152 : decode cX6_readsPerson 152 = .ok (.iconst 0, 1) := by decide +kernel
theorem dX6_readsPerson_153 : decode cX6_readsPerson 153 = .ok (.ireturn, 1) := by decide +kernel
theorem dX6_readsPerson_154 : decode cX6_readsPerson 154 = .ok (.aload_n 0, 1) := by decide +kernel
theorem dX6_readsPerson_155 : decode cX6_readsPerson 155 = .ok (.getfield 28, 3) := by decide +kernel
theorem dX6_readsPerson_158 : decode cX6_readsPerson 158 = .ok (.aload_n 0, 1) := by decide +kernel
theorem dX6_readsPerson_159 : decode cX6_readsPerson 159 = .ok (.getfield 126, 3) := by decide +kernel
theorem dX6_readsPerson_162 : decode cX6_readsPerson 162 = .ok (.iload_n 3, 1) := by decide +kernel
theorem dX6_readsPerson_163 : decode cX6_readsPerson 163 = .ok (.bipush 100, 2) := by decide +kernel
theorem dX6_readsPerson_165 : decode cX6_readsPerson 165 = .ok (.if_icmp .ne 7, 3) := by decide +kernel
theorem dX6_readsPerson_168 : decode cX6_readsPerson 168 = .ok (.iconst 0, 1) := by decide +kernel
theorem dX6_readsPerson_169 : decode cX6_readsPerson 169 = .ok (.goto 14, 3) := by decide +kernel
theorem dX6_readsPerson_172 : decode cX6_readsPerson 172 = .ok (.iload_n 3, 1) := by decide +kernel
theorem dX6_readsPerson_173 : decode cX6_readsPerson 173 = .ok (.bipush 104, 2) := by decide +kernel
theorem dX6_readsPerson_175 : decode cX6_readsPerson 175 = .ok (.if_icmp .ne 7, 3) := by decide +kernel
theorem dX6_readsPerson_178 : decode cX6_readsPerson 178 = .ok (.iconst 1, 1) := by decide +kernel
theorem dX6_readsPerson_179 : decode cX6_readsPerson 179 = .ok (.goto 4, 3) := by decide +kernel
theorem dX6_readsPerson_182 : decode cX6_readsPerson 182 = .ok (.iconst 2, 1) := by decide +kernel
theorem dX6_readsPerson_183 : decode cX6_readsPerson 183 = .ok (.iastore, 1) := by decide +kernel
theorem dX6_readsPerson_184 : decode cX6_readsPerson 184 = .ok (.aload_n 0, 1) := by decide +kernel
theorem dX6_readsPerson_185 : decode cX6_readsPerson 185 = .ok (.getfield 31, 3) := by decide +kernel
theorem dX6_readsPerson_188 : decode cX6_readsPerson 188 = .ok (.aload_n 0, 1) := by decide +kernel
theorem dX6_readsPerson_189 : decode cX6_readsPerson 189 = .ok (.getfield 126, 3) := by decide +kernel
theorem dX6_readsPerson_192 : decode cX6_readsPerson 192 = .ok (.iload 4, 2) := by decide +kernel
theorem dX6_readsPerson_194 : decode cX6_readsPerson 194 = .ok (.iastore, 1) := by decide +kernel
theorem dX6_readsPerson_195 : decode cX6_readsPerson 195 = .ok (.aload_n 0, 1) := by decide +kernel
theorem dX6_readsPerson_196 : decode cX6_readsPerson 196 = .ok (.getfield 34, 3) := by decide +kernel
theorem dX6_readsPerson_199 : decode cX6_readsPerson 199 = .ok (.aload_n 0, 1) := by decide +kernel
theorem dX6_readsPerson_200 : decode cX6_readsPerson 200 = .ok (.getfield 126, 3) := by decide +kernel
theorem dX6_readsPerson_203 : decode cX6_readsPerson 203 = .ok (.iload 5, 2) := by decide +kernel
theorem dX6_readsPerson_205 : decode cX6_readsPerson 205 = .ok (.iastore, 1) := by decide +kernel
theorem dX6_readsPerson_206 : decode cX6_readsPerson 206 = .ok (.aload_n 0, 1) := by decide +kernel
theorem dX6_readsPerson_207 : decode cX6_readsPerson 207 = .ok (.getfield 37, 3) := by decide +kernel
theorem dX6_readsPerson_210 : decode cX6_readsPerson 210 = .ok (.aload_n 0, 1) := by decide +kernel
theorem dX6_readsPerson_211 : decode cX6_readsPerson 211 = .ok (.getfield 126, 3) := by decide +kernel
theorem dX6_readsPerson_214 : decode cX6_readsPerson 214 = .ok (.iload 6, 2) := by decide +kernel
theorem dX6_readsPerson_216 : decode cX6_readsPerson 216 = .ok (.iastore, 1) := by decide +kernel
theorem dX6_readsPerson_217 : decode cX6_readsPerson 217 = .ok (.aload_n 0, 1) := by decide +kernel
theorem dX6_readsPerson_218 : decode cX6_readsPerson 218 = .ok (.getfield 40, 3) := by decide +kernel
theorem dX6_readsPerson_221 : decode cX6_readsPerson 221 = .ok (.aload_n 0, 1) := by decide +kernel
theorem dX6_readsPerson_222 : decode cX6_readsPerson 222 = .ok (.getfield 126, 3) := by decide +kernel
theorem dX6_readsPerson_225 : decode cX6_readsPerson 225 = .ok (.iload 7, 2) := by decide +kernel
theorem dX6_readsPerson_227 : decode cX6_readsPerson 227 = .ok (.iastore, 1) := by decide +kernel
theorem dX6_readsPerson_228 : decode cX6_readsPerson 228 = .ok (.aload_n 0, 1) := by decide +kernel
theorem dX6_readsPerson_229 : decode cX6_readsPerson 229 = .ok (.dup, 1) := by decide +kernel
theorem dX6_readsPerson_230 : decode cX6_readsPerson 230 = .ok (.getfield 126, 3) := by decide +kernel
theorem dX6_readsPerson_233 : decode cX6_readsPerson 233 = .ok (.iconst 1, 1) := by decide +kernel
theorem dX6_readsPerson_234 : decode cX6_readsPerson 234 = .ok (.iadd, 1) := by decide +kernel
theorem dX6_readsPerson_235 : decode cX6_readsPerson 235 = .ok (.putfield 126, 3) := by decide +kernel
theorem dX6_readsPerson_238 : decode cX6_readsPerson 238 = .ok (.iconst 1, 1) := by decide +kernel
theorem dX6_readsPerson_239 : decode cX6_readsPerson 239 = .ok (.ireturn, 1) := by decide +kernel
theorem dX6_readsLand_0 : decode cX6_readsLand 0 = .ok (.aload_n 0, 1) := by decide +kernel
theorem dX6_readsLand_1 : decode cX6_readsLand 1 = .ok (.iconst 0, 1) := by decide +kernel
theorem dX6_readsLand_2 : decode cX6_readsLand 2 = .ok (.putfield 119, 3) := by decide +kernel
theorem dX6_readsLand_5 : decode cX6_readsLand 5 = .ok (.aload_n 0, 1) := by decide +kernel
theorem dX6_readsLand_6 : decode cX6_readsLand 6 = .ok (.iconst 0, 1) := by decide +kernel
theorem dX6_readsLand_7 : decode cX6_readsLand 7 = .ok (.putfield 126, 3) := by decide +kernel
theorem dX6_readsLand_10 : decode cX6_readsLand 10 = .ok (.aload_n 0, 1) := by decide +kernel
theorem dX6_readsLand_11 : decode cX6_readsLand 11 = .ok (.iload_n 1, 1) := by decide +kernel
theorem dX6_readsLand_12 : decode cX6_readsLand 12 = .ok (.iload_n 2, 1) := by decide +kernel
theorem dX6_readsLand_13 : decode cX6_readsLand 13 = .ok (.invokevirtual 122, 3) := by decide +kernel
theorem dX6_readsLand_16 : decode cX6_readsLand 16 = .ok (.bipush 99, 2) := by decide +kernel
theorem dX6_readsLand_18 : decode cX6_readsLand 18 = .ok (.if_icmp .ne 7, 3) := by decide +kernel
theorem dX6_readsLand_21 : decode cX6_readsLand 21 = .ok (.iconst 1, 1) := by decide +kernel
theorem dX6_readsLand_22 : decode cX6_readsLand 22 = .ok (.goto 4, 3) := by decide +kernel
theorem dX6_readsLand_25 : decode cX6_readsLand 25 = .ok (.iconst 0, 1) := by decide +kernel
theorem dX6_readsLand_26 : decode cX6_readsLand 26 = .ok (.istore_n 3, 1) := by decide +kernel
theorem dX6_readsLand_27 : decode cX6_readsLand 27 = .ok (.aload_n 0, 1) := by decide +kernel
theorem dX6_readsLand_28 : decode cX6_readsLand 28 = .ok (.dup, 1) := by decide +kernel
theorem dX6_readsLand_29 : decode cX6_readsLand 29 = .ok (.getfield 119, 3) := by decide +kernel
theorem dX6_readsLand_32 : decode cX6_readsLand 32 = .ok (.iload_n 3, 1) := by decide +kernel
theorem dX6_readsLand_33 : decode cX6_readsLand 33 = .ok (.ifCond .eq 7, 3) := by decide +kernel
theorem dX6_readsLand_36 : decode cX6_readsLand 36 = .ok (.iconst 1, 1) := by decide +kernel
theorem dX6_readsLand_37 : decode cX6_readsLand 37 = .ok (.goto 4, 3) := by decide +kernel
theorem dX6_readsLand_40 : decode cX6_readsLand 40 = .ok (.iconst 0, 1) := by decide +kernel
theorem dX6_readsLand_41 : decode cX6_readsLand 41 = .ok (.iadd, 1) := by decide +kernel
theorem dX6_readsLand_42 : decode cX6_readsLand 42 = .ok (.putfield 119, 3) := by decide +kernel
theorem dX6_readsLand_45 : decode cX6_readsLand 45 = .ok (.aload_n 0, 1) := by decide +kernel
theorem dX6_readsLand_46 : decode cX6_readsLand 46 = .ok (.iload_n 3, 1) := by decide +kernel
theorem dX6_readsLand_47 : decode cX6_readsLand 47 = .ok (.ifCond .eq 14, 3) := by decide +kernel
theorem dX6_readsLand_50 : decode cX6_readsLand 50 = .ok (.aload_n 0, 1) := by decide +kernel
theorem dX6_readsLand_51 : decode cX6_readsLand 51 = .ok (.iload_n 1, 1) := by decide +kernel
theorem dX6_readsLand_52 : decode cX6_readsLand 52 = .ok (.iload_n 2, 1) := by decide +kernel
theorem dX6_readsLand_53 : decode cX6_readsLand 53 = .ok (.iconst 1, 1) := by decide +kernel
theorem dX6_readsLand_54 : decode cX6_readsLand 54 = .ok (.iconst 4, 1) := by decide +kernel
theorem dX6_readsLand_55 : decode cX6_readsLand 55 = .ok (.invokevirtual 132, 3) := by decide +kernel
theorem dX6_readsLand_58 : decode cX6_readsLand 58 = .ok (.goto 5, 3) := by decide +kernel
theorem dX6_readsLand_61 : decode cX6_readsLand 61 = .ok (.bipush (-9), 2) := by decide +kernel
theorem dX6_readsLand_63 : decode cX6_readsLand 63 = .ok (.putfield 129, 3) := by decide +kernel
theorem dX6_readsLand_66 : decode cX6_readsLand 66 = .ok (.aload_n 0, 1) := by decide +kernel
theorem dX6_readsLand_67 : decode cX6_readsLand 67 = .ok (.getfield 129, 3) := by decide +kernel
theorem dX6_readsLand_70 : decode cX6_readsLand 70 = .ok (.ifCond .le 7, 3) := by decide +kernel
theorem dX6_readsLand_73 : decode cX6_readsLand 73 = .ok (.iconst 1, 1) := by decide +kernel
theorem dX6_readsLand_74 : decode cX6_readsLand 74 = .ok (.goto 4, 3) := by decide +kernel
theorem dX6_readsLand_77 : decode cX6_readsLand 77 = .ok (.iconst 0, 1) := by decide +kernel
theorem dX6_readsLand_78 : decode cX6_readsLand 78 = .ok (.istore_n 3, 1) := by decide +kernel
theorem dX6_readsLand_79 : decode cX6_readsLand 79 = .ok (.iload_n 3, 1) := by decide +kernel
theorem dX6_readsLand_80 : decode cX6_readsLand 80 = .ok (.ifCond .eq 29, 3) := by decide +kernel
theorem dX6_readsLand_83 : decode cX6_readsLand 83 = .ok (.aload_n 0, 1) := by decide +kernel
theorem dX6_readsLand_84 : decode cX6_readsLand 84 = .ok (.getfield 126, 3) := by decide +kernel
theorem dX6_readsLand_87 : decode cX6_readsLand 87 = .ok (.iconst 2, 1) := by decide +kernel
theorem dX6_readsLand_88 : decode cX6_readsLand 88 = .ok (.if_icmp .lt 11, 3) := by decide +kernel
theorem dX6_readsLand_91 : decode cX6_readsLand 91 = .ok (.aload_n 0, 1) := by decide +kernel
theorem dX6_readsLand_92 : decode cX6_readsLand 92 = .ok (.getfield 119, 3) := by decide +kernel
theorem dX6_readsLand_95 : decode cX6_readsLand 95 = .ok (.iload_n 2, 1) := by decide +kernel
theorem dX6_readsLand_96 : decode cX6_readsLand 96 = .ok (.if_icmp .ge 13, 3) := by decide +kernel
theorem dX6_readsLand_99 : decode cX6_readsLand 99 = .ok (.aload_n 0, 1) := by decide +kernel
theorem dX6_readsLand_100 : decode cX6_readsLand 100 = .ok (.iload_n 1, 1) := by decide +kernel
theorem dX6_readsLand_101 : decode cX6_readsLand 101 = .ok (.iload_n 2, 1) := by decide +kernel
theorem dX6_readsLand_102 : decode cX6_readsLand 102 = .ok (.invokevirtual 136, 3) := by decide +kernel
theorem dX6_readsLand_105 : decode cX6_readsLand 105 = .ok (.istore_n 3, 1) := by decide +kernel
theorem dX6_readsLand_106 : decode cX6_readsLand 106 = .ok (.goto (-27), 3) := by decide +kernel
theorem dX6_readsLand_109 : decode cX6_readsLand 109 = .ok (.iload_n 3, 1) := by decide +kernel
theorem dX6_readsLand_110 : decode cX6_readsLand 110 = .ok (.ireturn, 1) := by decide +kernel
theorem dX6_cellsBarred_0 : decode cX6_cellsBarred 0 = .ok (.aload_n 0, 1) := by decide +kernel
theorem dX6_cellsBarred_1 : decode cX6_cellsBarred 1 = .ok (.getfield 85, 3) := by decide +kernel
theorem dX6_cellsBarred_4 : decode cX6_cellsBarred 4 = .ok (.iload_n 1, 1) := by decide +kernel
theorem dX6_cellsBarred_5 : decode cX6_cellsBarred 5 = .ok (.iaload, 1) := by decide +kernel
theorem dX6_cellsBarred_6 : decode cX6_cellsBarred 6 = .ok (.ifCond .lt 19, 3) := by decide +kernel
theorem dX6_cellsBarred_9 : decode cX6_cellsBarred 9 = .ok (.aload_n 0, 1) := by decide +kernel
theorem dX6_cellsBarred_10 : decode cX6_cellsBarred 10 = .ok (.getfield 88, 3) := by decide +kernel
theorem dX6_cellsBarred_13 : decode cX6_cellsBarred 13 = .ok (.iload_n 1, 1) := by decide +kernel
theorem dX6_cellsBarred_14 : decode cX6_cellsBarred 14 = .ok (.iaload, 1) := by decide +kernel
theorem dX6_cellsBarred_15 : decode cX6_cellsBarred 15 = .ok (.iload_n 2, 1) := by decide +kernel
theorem dX6_cellsBarred_16 : decode cX6_cellsBarred 16 = .ok (.if_icmp .eq 9, 3) := by decide +kernel
theorem dX6_cellsBarred_19 : decode cX6_cellsBarred 19 = .ok (.aload_n 0, 1) := by decide +kernel
theorem dX6_cellsBarred_20 : decode cX6_cellsBarred 20 = .ok (.iconst 2, 1) := by decide +kernel
theorem dX6_cellsBarred_21 : decode cX6_cellsBarred 21 = .ok (.invokevirtual 140, 3) := by decide +kernel
theorem dX6_cellsBarred_24 : decode cX6_cellsBarred 24 = .ok (.ireturn, 1) := by decide +kernel
theorem dX6_cellsBarred_25 : decode cX6_cellsBarred 25 = .ok (.aload_n 0, 1) := by decide +kernel
theorem dX6_cellsBarred_26 : decode cX6_cellsBarred 26 = .ok (.getfield 85, 3) := by decide +kernel
theorem dX6_cellsBarred_29 : decode cX6_cellsBarred 29 = .ok (.iload_n 1, 1) := by decide +kernel
theorem dX6_cellsBarred_30 : decode cX6_cellsBarred 30 = .ok (.iaload, 1) := by decide +kernel
theorem dX6_cellsBarred_31 : decode cX6_cellsBarred 31 = .ok (.ifCond .ge 9, 3) := by decide +kernel
theorem dX6_cellsBarred_34 : decode cX6_cellsBarred 34 = .ok (.aload_n 0, 1) := by decide +kernel
theorem dX6_cellsBarred_35 : decode cX6_cellsBarred 35 = .ok (.iconst 1, 1) := by decide +kernel
theorem dX6_cellsBarred_36 : decode cX6_cellsBarred 36 = .ok (.invokevirtual 140, 3) := by decide +kernel
theorem dX6_cellsBarred_39 : decode cX6_cellsBarred 39 = .ok (.ireturn, 1) := by decide +kernel
theorem dX6_cellsBarred_40 : decode cX6_cellsBarred 40 = .ok (.lload 4, 2) := by decide +kernel
theorem dX6_cellsBarred_42 : decode cX6_cellsBarred 42 = .ok (.lconst 0, 1) := by decide +kernel
theorem dX6_cellsBarred_43 : decode cX6_cellsBarred 43 = .ok (.lcmp, 1) := by decide +kernel
theorem dX6_cellsBarred_44 : decode cX6_cellsBarred 44 = .ok (.ifCond .ge 9, 3) := by decide +kernel
theorem dX6_cellsBarred_47 : decode cX6_cellsBarred 47 = .ok (.aload_n 0, 1) := by decide +kernel
theorem dX6_cellsBarred_48 : decode cX6_cellsBarred 48 = .ok (.iconst 4, 1) := by decide +kernel
theorem dX6_cellsBarred_49 : decode cX6_cellsBarred 49 = .ok (.invokevirtual 140, 3) := by decide +kernel
theorem dX6_cellsBarred_52 : decode cX6_cellsBarred 52 = .ok (.ireturn, 1) := by decide +kernel
theorem dX6_cellsBarred_53 : decode cX6_cellsBarred 53 = .ok (.iload_n 3, 1) := by decide +kernel
theorem dX6_cellsBarred_54 : decode cX6_cellsBarred 54 = .ok (.lload 4, 2) := by decide +kernel
theorem dX6_cellsBarred_56 : decode cX6_cellsBarred 56 = .ok (.aload_n 0, 1) := by decide +kernel
theorem dX6_cellsBarred_57 : decode cX6_cellsBarred 57 = .ok (.getfield 85, 3) := by decide +kernel
theorem dX6_cellsBarred_60 : decode cX6_cellsBarred 60 = .ok (.iload_n 1, 1) := by decide +kernel
theorem dX6_cellsBarred_61 : decode cX6_cellsBarred 61 = .ok (.iaload, 1) := by decide +kernel
theorem dX6_cellsBarred_62 : decode cX6_cellsBarred 62 = .ok (.invokestatic 144, 3) := by decide +kernel
theorem dX6_cellsBarred_65 : decode cX6_cellsBarred 65 = .ok (.ifCond .eq 11, 3) := by decide +kernel
theorem dX6_cellsBarred_68 : decode cX6_cellsBarred 68 = .ok (.aload_n 0, 1) := by decide +kernel
theorem dX6_cellsBarred_69 : decode cX6_cellsBarred 69 = .ok (.iconst 3, 1) := by decide +kernel
theorem dX6_cellsBarred_70 : decode cX6_cellsBarred 70 = .ok (.invokevirtual 140, 3) := by decide +kernel
theorem dX6_cellsBarred_73 : decode cX6_cellsBarred 73 = .ok (.goto 4, 3) := by decide +kernel
theorem dX6_cellsBarred_76 : decode cX6_cellsBarred 76 = .ok (.iconst 0, 1) := by decide +kernel
theorem dX6_cellsBarred_77 : decode cX6_cellsBarred 77 = .ok (.ireturn, 1) := by decide +kernel
theorem dX6_land_0 : decode cX6_land 0 = .ok (.iload_n 1, 1) := by decide +kernel
theorem dX6_land_1 : decode cX6_land 1 = .ok (.invokestatic 148, 3) := by decide +kernel
theorem dX6_land_4 : decode cX6_land 4 = .ok (.ifCond .eq 9, 3) := by decide +kernel
theorem dX6_land_7 : decode cX6_land 7 = .ok (.aload_n 0, 1) := by decide +kernel
theorem dX6_land_8 : decode cX6_land 8 = .ok (.iconst (-1), 1) := by decide +kernel
theorem dX6_land_9 : decode cX6_land 9 = .ok (.invokevirtual 152, 3) := by decide +kernel
theorem dX6_land_12 : decode cX6_land 12 = .ok (.ireturn, 1) := by decide +kernel
theorem dX6_land_13 : decode cX6_land 13 = .ok (.iload_n 2, 1) := by decide +kernel
theorem dX6_land_14 : decode cX6_land 14 = .ok (.i2l, 1) := by decide +kernel
theorem dX6_land_15 : decode cX6_land 15 = .ok (.lconst 0, 1) := by decide +kernel
theorem dX6_land_16 : decode cX6_land 16 = .ok (.ldc2_w 155, 3) := by decide +kernel
theorem dX6_land_19 : decode cX6_land 19 = .ok (.invokestatic 110, 3) := by decide +kernel
theorem dX6_land_22 : decode cX6_land 22 = .ok (.ifCond .ne 10, 3) := by decide +kernel
theorem dX6_land_25 : decode cX6_land 25 = .ok (.aload_n 0, 1) := by decide +kernel
theorem dX6_land_26 : decode cX6_land 26 = .ok (.bipush (-2), 2) := by decide +kernel
theorem dX6_land_28 : decode cX6_land 28 = .ok (.invokevirtual 152, 3) := by decide +kernel
theorem dX6_land_31 : decode cX6_land 31 = .ok (.ireturn, 1) := by decide +kernel
theorem dX6_land_32 : decode cX6_land 32 = .ok (.aload_n 0, 1) := by decide +kernel
theorem dX6_land_33 : decode cX6_land 33 = .ok (.iload_n 1, 1) := by decide +kernel
theorem dX6_land_34 : decode cX6_land 34 = .ok (.iload_n 2, 1) := by decide +kernel
theorem dX6_land_35 : decode cX6_land 35 = .ok (.iload_n 3, 1) := by decide +kernel
theorem dX6_land_36 : decode cX6_land 36 = .ok (.iload 4, 2) := by decide +kernel
theorem dX6_land_38 : decode cX6_land 38 = .ok (.i2l, 1) := by decide +kernel
theorem dX6_land_39 : decode cX6_land 39 = .ok (.invokevirtual 157, 3) := by decide +kernel
theorem dX6_land_42 : decode cX6_land 42 = .ok (.istore 5, 2) := by decide +kernel
theorem dX6_land_44 : decode cX6_land 44 = .ok (.iload 5, 2) := by decide +kernel
theorem dX6_land_46 : decode cX6_land 46 = .ok (.ifCond .ge 6, 3) := by decide +kernel
theorem dX6_land_49 : decode cX6_land 49 = .ok (.iload 5, 2) := by decide +kernel
theorem dX6_land_51 : decode cX6_land 51 = .ok (.ireturn, 1) := by decide +kernel
theorem dX6_land_52 : decode cX6_land 52 = .ok (.aload_n 0, 1) := by decide +kernel
theorem dX6_land_53 : decode cX6_land 53 = .ok (.bipush 60, 2) := by decide +kernel
theorem dX6_land_55 : decode cX6_land 55 = .ok (.iload_n 1, 1) := by decide +kernel
theorem dX6_land_56 : decode cX6_land 56 = .ok (.imul, 1) := by decide +kernel
theorem dX6_land_57 : decode cX6_land 57 = .ok (.iload_n 3, 1) := by decide +kernel
theorem dX6_land_58 : decode cX6_land 58 = .ok (.iadd, 1) := by decide +kernel
theorem dX6_land_59 : decode cX6_land 59 = .ok (.iload 4, 2) := by decide +kernel
theorem dX6_land_61 : decode cX6_land 61 = .ok (.invokevirtual 161, 3) := by decide +kernel
theorem dX6_land_64 : decode cX6_land 64 = .ok (.ifCond .ne 15, 3) := by decide +kernel
theorem dX6_land_67 : decode cX6_land 67 = .ok (.aload_n 0, 1) := by decide +kernel
theorem dX6_land_68 : decode cX6_land 68 = .ok (.bipush (-100), 2) := by decide +kernel
theorem dX6_land_70 : decode cX6_land 70 = .ok (.aload_n 0, 1) := by decide +kernel
theorem dX6_land_71 : decode cX6_land 71 = .ok (.getfield 119, 3) := by decide +kernel
theorem dX6_land_74 : decode cX6_land 74 = .ok (.isub, 1) := by decide +kernel
theorem dX6_land_75 : decode cX6_land 75 = .ok (.invokevirtual 152, 3) := by decide +kernel
theorem dX6_land_78 : decode cX6_land 78 = .ok (.ireturn, 1) := by decide +kernel
theorem dX6_land_79 : decode cX6_land 79 = .ok (.aload_n 0, 1) := by decide +kernel
theorem dX6_land_80 : decode cX6_land 80 = .ok (.aload_n 0, 1) := by decide +kernel
theorem dX6_land_81 : decode cX6_land 81 = .ok (.getfield 129, 3) := by decide +kernel
theorem dX6_land_84 : decode cX6_land 84 = .ok (.putfield 114, 3) := by decide +kernel
theorem dX6_land_87 : decode cX6_land 87 = .ok (.aload_n 0, 1) := by decide +kernel
theorem dX6_land_88 : decode cX6_land 88 = .ok (.aload_n 0, 1) := by decide +kernel
theorem dX6_land_89 : decode cX6_land 89 = .ok (.getfield 126, 3) := by decide +kernel
theorem dX6_land_92 : decode cX6_land 92 = .ok (.putfield 107, 3) := by decide +kernel
theorem dX6_land_95 : decode cX6_land 95 = .ok (.iconst 0, 1) := by decide +kernel
theorem dX6_land_96 : decode cX6_land 96 = .ok (.istore 6, 2) := by decide +kernel
theorem dX6_land_98 : decode cX6_land 98 = .ok (.iload 6, 2) := by decide +kernel
theorem dX6_land_100 : decode cX6_land 100 = .ok (.aload_n 0, 1) := by decide +kernel
theorem dX6_land_101 : decode cX6_land 101 = .ok (.getfield 107, 3) := by decide +kernel
theorem dX6_land_104 : decode cX6_land 104 = .ok (.if_icmp .ge 79, 3) := by decide +kernel
theorem dX6_land_107 : decode cX6_land 107 = .ok (.aload_n 0, 1) := by decide +kernel
theorem dX6_land_108 : decode cX6_land 108 = .ok (.getfield 7, 3) := by decide +kernel
theorem dX6_land_111 : decode cX6_land 111 = .ok (.iload 6, 2) := by decide +kernel
theorem dX6_land_113 : decode cX6_land 113 = .ok (.aload_n 0, 1) := by decide +kernel
theorem dX6_land_114 : decode cX6_land 114 = .ok (.getfield 28, 3) := by decide +kernel
theorem dX6_land_117 : decode cX6_land 117 = .ok (.iload 6, 2) := by decide +kernel
theorem dX6_land_119 : decode cX6_land 119 = .ok (.iaload, 1) := by decide +kernel
theorem dX6_land_120 : decode cX6_land 120 = .ok (.iastore, 1) := by decide +kernel
theorem dX6_land_121 : decode cX6_land 121 = .ok (.aload_n 0, 1) := by decide +kernel
theorem dX6_land_122 : decode cX6_land 122 = .ok (.getfield 13, 3) := by decide +kernel
theorem dX6_land_125 : decode cX6_land 125 = .ok (.iload 6, 2) := by decide +kernel
theorem dX6_land_127 : decode cX6_land 127 = .ok (.aload_n 0, 1) := by decide +kernel
theorem dX6_land_128 : decode cX6_land 128 = .ok (.getfield 31, 3) := by decide +kernel
theorem dX6_land_131 : decode cX6_land 131 = .ok (.iload 6, 2) := by decide +kernel
theorem dX6_land_133 : decode cX6_land 133 = .ok (.iaload, 1) := by decide +kernel
theorem dX6_land_134 : decode cX6_land 134 = .ok (.iastore, 1) := by decide +kernel
theorem dX6_land_135 : decode cX6_land 135 = .ok (.aload_n 0, 1) := by decide +kernel
theorem dX6_land_136 : decode cX6_land 136 = .ok (.getfield 16, 3) := by decide +kernel
theorem dX6_land_139 : decode cX6_land 139 = .ok (.iload 6, 2) := by decide +kernel
theorem dX6_land_141 : decode cX6_land 141 = .ok (.aload_n 0, 1) := by decide +kernel
theorem dX6_land_142 : decode cX6_land 142 = .ok (.getfield 34, 3) := by decide +kernel
theorem dX6_land_145 : decode cX6_land 145 = .ok (.iload 6, 2) := by decide +kernel
theorem dX6_land_147 : decode cX6_land 147 = .ok (.iaload, 1) := by decide +kernel
theorem dX6_land_148 : decode cX6_land 148 = .ok (.iastore, 1) := by decide +kernel
theorem dX6_land_149 : decode cX6_land 149 = .ok (.aload_n 0, 1) := by decide +kernel
theorem dX6_land_150 : decode cX6_land 150 = .ok (.getfield 19, 3) := by decide +kernel
theorem dX6_land_153 : decode cX6_land 153 = .ok (.iload 6, 2) := by decide +kernel
theorem dX6_land_155 : decode cX6_land 155 = .ok (.aload_n 0, 1) := by decide +kernel
theorem dX6_land_156 : decode cX6_land 156 = .ok (.getfield 37, 3) := by decide +kernel
theorem dX6_land_159 : decode cX6_land 159 = .ok (.iload 6, 2) := by decide +kernel
theorem dX6_land_161 : decode cX6_land 161 = .ok (.iaload, 1) := by decide +kernel
theorem dX6_land_162 : decode cX6_land 162 = .ok (.iastore, 1) := by decide +kernel
theorem dX6_land_163 : decode cX6_land 163 = .ok (.aload_n 0, 1) := by decide +kernel
theorem dX6_land_164 : decode cX6_land 164 = .ok (.getfield 22, 3) := by decide +kernel
theorem dX6_land_167 : decode cX6_land 167 = .ok (.iload 6, 2) := by decide +kernel
theorem dX6_land_169 : decode cX6_land 169 = .ok (.aload_n 0, 1) := by decide +kernel
theorem dX6_land_170 : decode cX6_land 170 = .ok (.getfield 40, 3) := by decide +kernel
theorem dX6_land_173 : decode cX6_land 173 = .ok (.iload 6, 2) := by decide +kernel
theorem dX6_land_175 : decode cX6_land 175 = .ok (.iaload, 1) := by decide +kernel
theorem dX6_land_176 : decode cX6_land 176 = .ok (.iastore, 1) := by decide +kernel
theorem dX6_land_177 : decode cX6_land 177 = .ok (.iinc 6 1, 3) := by decide +kernel
theorem dX6_land_180 : decode cX6_land 180 = .ok (.goto (-82), 3) := by decide +kernel
theorem dX6_land_183 : decode cX6_land 183 = .ok (.iconst 0, 1) := by decide +kernel
theorem dX6_land_184 : decode cX6_land 184 = .ok (.istore 6, 2) := by decide +kernel
theorem dX6_land_186 : decode cX6_land 186 = .ok (.iload 6, 2) := by decide +kernel
theorem dX6_land_188 : decode cX6_land 188 = .ok (.iconst 4, 1) := by decide +kernel
theorem dX6_land_189 : decode cX6_land 189 = .ok (.if_icmp .ge 18, 3) := by decide +kernel
theorem dX6_land_192 : decode cX6_land 192 = .ok (.aload_n 0, 1) := by decide +kernel
theorem dX6_land_193 : decode cX6_land 193 = .ok (.getfield 25, 3) := by decide +kernel
theorem dX6_land_196 : decode cX6_land 196 = .ok (.iload 6, 2) := by decide +kernel
theorem dX6_land_198 : decode cX6_land 198 = .ok (.bipush 40, 2) := by decide +kernel
theorem dX6_land_200 : decode cX6_land 200 = .ok (.iastore, 1) := by decide +kernel
theorem dX6_land_201 : decode cX6_land 201 = .ok (.iinc 6 1, 3) := by decide +kernel
theorem dX6_land_204 : decode cX6_land 204 = .ok (.goto (-18), 3) := by decide +kernel
theorem dX6_land_207 : decode cX6_land 207 = .ok (.aload_n 0, 1) := by decide +kernel
theorem dX6_land_208 : decode cX6_land 208 = .ok (.iconst 0, 1) := by decide +kernel
theorem dX6_land_209 : decode cX6_land 209 = .ok (.putfield 164, 3) := by decide +kernel
theorem dX6_land_212 : decode cX6_land 212 = .ok (.aload_n 0, 1) := by decide +kernel
theorem dX6_land_213 : decode cX6_land 213 = .ok (.iconst 0, 1) := by decide +kernel
theorem dX6_land_214 : decode cX6_land 214 = .ok (.putfield 167, 3) := by decide +kernel
theorem dX6_land_217 : decode cX6_land 217 = .ok (.aload_n 0, 1) := by decide +kernel
theorem dX6_land_218 : decode cX6_land 218 = .ok (.iconst 0, 1) := by decide +kernel
theorem dX6_land_219 : decode cX6_land 219 = .ok (.putfield 170, 3) := by decide +kernel
theorem dX6_land_222 : decode cX6_land 222 = .ok (.aload_n 0, 1) := by decide +kernel
theorem dX6_land_223 : decode cX6_land 223 = .ok (.iconst 0, 1) := by decide +kernel
theorem dX6_land_224 : decode cX6_land 224 = .ok (.putfield 173, 3) := by decide +kernel
theorem dX6_land_227 : decode cX6_land 227 = .ok (.aload_n 0, 1) := by decide +kernel
theorem dX6_land_228 : decode cX6_land 228 = .ok (.aload_n 0, 1) := by decide +kernel
theorem dX6_land_229 : decode cX6_land 229 = .ok (.getfield 107, 3) := by decide +kernel
theorem dX6_land_232 : decode cX6_land 232 = .ok (.invokevirtual 152, 3) := by decide +kernel
theorem dX6_land_235 : decode cX6_land 235 = .ok (.ireturn, 1) := by decide +kernel
theorem dX6_sleepOf_0 : decode cX6_sleepOf 0 = .ok (.aload_n 0, 1) := by decide +kernel
theorem dX6_sleepOf_1 : decode cX6_sleepOf 1 = .ok (.getfield 22, 3) := by decide +kernel
theorem dX6_sleepOf_4 : decode cX6_sleepOf 4 = .ok (.iload_n 1, 1) := by decide +kernel
theorem dX6_sleepOf_5 : decode cX6_sleepOf 5 = .ok (.iaload, 1) := by decide +kernel
theorem dX6_sleepOf_6 : decode cX6_sleepOf 6 = .ok (.istore_n 2, 1) := by decide +kernel
theorem dX6_sleepOf_7 : decode cX6_sleepOf 7 = .ok (.aload_n 0, 1) := by decide +kernel
theorem dX6_sleepOf_8 : decode cX6_sleepOf 8 = .ok (.getfield 7, 3) := by decide +kernel
theorem dX6_sleepOf_11 : decode cX6_sleepOf 11 = .ok (.iload_n 1, 1) := by decide +kernel
theorem dX6_sleepOf_12 : decode cX6_sleepOf 12 = .ok (.iaload, 1) := by decide +kernel
theorem dX6_sleepOf_13 : decode cX6_sleepOf 13 = .ok (.ifCond .ne 7, 3) := by decide +kernel
theorem dX6_sleepOf_16 : decode cX6_sleepOf 16 = .ok (.iload_n 2, 1) := by decide +kernel
theorem dX6_sleepOf_17 : decode cX6_sleepOf 17 = .ok (.goto 24, 3) := by decide +kernel
theorem dX6_sleepOf_20 : decode cX6_sleepOf 20 = .ok (.aload_n 0, 1) := by decide +kernel
theorem dX6_sleepOf_21 : decode cX6_sleepOf 21 = .ok (.getfield 7, 3) := by decide +kernel
theorem dX6_sleepOf_24 : decode cX6_sleepOf 24 = .ok (.iload_n 1, 1) := by decide +kernel
theorem dX6_sleepOf_25 : decode cX6_sleepOf 25 = .ok (.iaload, 1) := by decide +kernel
theorem dX6_sleepOf_26 : decode cX6_sleepOf 26 = .ok (.iconst 1, 1) := by decide +kernel
theorem dX6_sleepOf_27 : decode cX6_sleepOf 27 = .ok (.if_icmp .ne 9, 3) := by decide +kernel
theorem dX6_sleepOf_30 : decode cX6_sleepOf 30 = .ok (.iload_n 2, 1) := by decide +kernel
theorem dX6_sleepOf_31 : decode cX6_sleepOf 31 = .ok (.iconst 2, 1) := by decide +kernel
theorem dX6_sleepOf_32 : decode cX6_sleepOf 32 = .ok (.iadd, 1) := by decide +kernel
theorem dX6_sleepOf_33 : decode cX6_sleepOf 33 = .ok (.goto 8, 3) := by decide +kernel
theorem dX6_sleepOf_36 : decode cX6_sleepOf 36 = .ok (.iconst 2, 1) := by decide +kernel
theorem dX6_sleepOf_37 : decode cX6_sleepOf 37 = .ok (.iload_n 2, 1) := by decide +kernel
theorem dX6_sleepOf_38 : decode cX6_sleepOf 38 = .ok (.iconst 2, 1) := by decide +kernel
theorem dX6_sleepOf_39 : decode cX6_sleepOf 39 = .ok (.iadd, 1) := by decide +kernel
theorem dX6_sleepOf_40 : decode cX6_sleepOf 40 = .ok (.imul, 1) := by decide +kernel
theorem dX6_sleepOf_41 : decode cX6_sleepOf 41 = .ok (.ireturn, 1) := by decide +kernel
theorem dX6_ofPerson_0 : decode cX6_ofPerson 0 = .ok (.aload_n 0, 1) := by decide +kernel
theorem dX6_ofPerson_1 : decode cX6_ofPerson 1 = .ok (.iload_n 1, 1) := by decide +kernel
theorem dX6_ofPerson_2 : decode cX6_ofPerson 2 = .ok (.invokevirtual 176, 3) := by decide +kernel
theorem dX6_ofPerson_5 : decode cX6_ofPerson 5 = .ok (.ifCond .eq 5, 3) := by decide +kernel
theorem dX6_ofPerson_8 : decode cX6_ofPerson 8 = .ok (.iconst (-1), 1) := by decide +kernel
theorem dX6_ofPerson_9 : decode cX6_ofPerson 9 = .ok (.ireturn, 1) := by decide +kernel
theorem dX6_ofPerson_10 : decode cX6_ofPerson 10 = .ok (.iload_n 2, 1) := by decide +kernel
theorem dX6_ofPerson_11 : decode cX6_ofPerson 11 = .ok (.tableswitch 99 0 6 #[41, 48, 55, 62, 69, 76, 82], 41) := by decide +kernel
theorem dX6_ofPerson_52 : decode cX6_ofPerson 52 = .ok (.aload_n 0, 1) := by decide +kernel
theorem dX6_ofPerson_53 : decode cX6_ofPerson 53 = .ok (.getfield 7, 3) := by decide +kernel
theorem dX6_ofPerson_56 : decode cX6_ofPerson 56 = .ok (.iload_n 1, 1) := by decide +kernel
theorem dX6_ofPerson_57 : decode cX6_ofPerson 57 = .ok (.iaload, 1) := by decide +kernel
theorem dX6_ofPerson_58 : decode cX6_ofPerson 58 = .ok (.ireturn, 1) := by decide +kernel
theorem dX6_ofPerson_59 : decode cX6_ofPerson 59 = .ok (.aload_n 0, 1) := by decide +kernel
theorem dX6_ofPerson_60 : decode cX6_ofPerson 60 = .ok (.getfield 13, 3) := by decide +kernel
theorem dX6_ofPerson_63 : decode cX6_ofPerson 63 = .ok (.iload_n 1, 1) := by decide +kernel
theorem dX6_ofPerson_64 : decode cX6_ofPerson 64 = .ok (.iaload, 1) := by decide +kernel
theorem dX6_ofPerson_65 : decode cX6_ofPerson 65 = .ok (.ireturn, 1) := by decide +kernel
theorem dX6_ofPerson_66 : decode cX6_ofPerson 66 = .ok (.aload_n 0, 1) := by decide +kernel
theorem dX6_ofPerson_67 : decode cX6_ofPerson 67 = .ok (.getfield 16, 3) := by decide +kernel
theorem dX6_ofPerson_70 : decode cX6_ofPerson 70 = .ok (.iload_n 1, 1) := by decide +kernel
theorem dX6_ofPerson_71 : decode cX6_ofPerson 71 = .ok (.iaload, 1) := by decide +kernel
theorem dX6_ofPerson_72 : decode cX6_ofPerson 72 = .ok (.ireturn, 1) := by decide +kernel
theorem dX6_ofPerson_73 : decode cX6_ofPerson 73 = .ok (.aload_n 0, 1) := by decide +kernel
theorem dX6_ofPerson_74 : decode cX6_ofPerson 74 = .ok (.getfield 19, 3) := by decide +kernel
theorem dX6_ofPerson_77 : decode cX6_ofPerson 77 = .ok (.iload_n 1, 1) := by decide +kernel
theorem dX6_ofPerson_78 : decode cX6_ofPerson 78 = .ok (.iaload, 1) := by decide +kernel
theorem dX6_ofPerson_79 : decode cX6_ofPerson 79 = .ok (.ireturn, 1) := by decide +kernel
theorem dX6_ofPerson_80 : decode cX6_ofPerson 80 = .ok (.aload_n 0, 1) := by decide +kernel
theorem dX6_ofPerson_81 : decode cX6_ofPerson 81 = .ok (.getfield 22, 3) := by decide +kernel
theorem dX6_ofPerson_84 : decode cX6_ofPerson 84 = .ok (.iload_n 1, 1) := by decide +kernel
theorem dX6_ofPerson_85 : decode cX6_ofPerson 85 = .ok (.iaload, 1) := by decide +kernel
theorem dX6_ofPerson_86 : decode cX6_ofPerson 86 = .ok (.ireturn, 1) := by decide +kernel
theorem dX6_ofPerson_87 : decode cX6_ofPerson 87 = .ok (.aload_n 0, 1) := by decide +kernel
theorem dX6_ofPerson_88 : decode cX6_ofPerson 88 = .ok (.iload_n 1, 1) := by decide +kernel
theorem dX6_ofPerson_89 : decode cX6_ofPerson 89 = .ok (.invokevirtual 179, 3) := by decide +kernel
theorem dX6_ofPerson_92 : decode cX6_ofPerson 92 = .ok (.ireturn, 1) := by decide +kernel
theorem dX6_ofPerson_93 : decode cX6_ofPerson 93 = .ok (.aload_n 0, 1) := by decide +kernel
theorem dX6_ofPerson_94 : decode cX6_ofPerson 94 = .ok (.getfield 164, 3) := by decide +kernel
theorem dX6_ofPerson_97 : decode cX6_ofPerson 97 = .ok (.iload_n 1, 1) := by decide +kernel
theorem dX6_ofPerson_98 : decode cX6_ofPerson 98 = .ok (.invokestatic 182, 3) := by decide +kernel
theorem dX6_ofPerson_101 : decode cX6_ofPerson 101 = .ok (.ifCond .eq 7, 3) := by decide +kernel
theorem dX6_ofPerson_104 : decode cX6_ofPerson 104 = .ok (.iconst 1, 1) := by decide +kernel
theorem dX6_ofPerson_105 : decode cX6_ofPerson 105 = .ok (.goto 4, 3) := by decide +kernel
theorem dX6_ofPerson_108 : decode cX6_ofPerson 108 = .ok (.iconst 0, 1) := by decide +kernel
theorem dX6_ofPerson_109 : decode cX6_ofPerson 109 = .ok (.ireturn, 1) := by decide +kernel
theorem dX6_ofPerson_110 : decode cX6_ofPerson 110 = .ok (.bipush (-2), 2) := by decide +kernel
theorem dX6_ofPerson_112 : decode cX6_ofPerson 112 = .ok (.ireturn, 1) := by decide +kernel
theorem dX6_law_0 : decode cX6_law 0 = .ok (.iload_n 1, 1) := by decide +kernel
theorem dX6_law_1 : decode cX6_law 1 = .ok (.i2l, 1) := by decide +kernel
theorem dX6_law_2 : decode cX6_law 2 = .ok (.lconst 0, 1) := by decide +kernel
theorem dX6_law_3 : decode cX6_law 3 = .ok (.ldc2_w 155, 3) := by decide +kernel
theorem dX6_law_6 : decode cX6_law 6 = .ok (.invokestatic 110, 3) := by decide +kernel
theorem dX6_law_9 : decode cX6_law 9 = .ok (.ifCond .ne 6, 3) := by decide +kernel
theorem dX6_law_12 : decode cX6_law 12 = .ok (.bipush (-2), 2) := by decide +kernel
theorem dX6_law_14 : decode cX6_law 14 = .ok (.ireturn, 1) := by decide +kernel
theorem dX6_law_15 : decode cX6_law 15 = .ok (.aload_n 0, 1) := by decide +kernel
theorem dX6_law_16 : decode cX6_law 16 = .ok (.getfield 107, 3) := by decide +kernel
theorem dX6_law_19 : decode cX6_law 19 = .ok (.ifCond .ne 6, 3) := by decide +kernel
theorem dX6_law_22 : decode cX6_law 22 = .ok (.bipush (-3), 2) := by decide +kernel
theorem dX6_law_24 : decode cX6_law 24 = .ok (.ireturn, 1) := by decide +kernel
theorem dX6_law_25 : decode cX6_law 25 = .ok (.aload_n 0, 1) := by decide +kernel
theorem dX6_law_26 : decode cX6_law 26 = .ok (.getfield 167, 3) := by decide +kernel
theorem dX6_law_29 : decode cX6_law 29 = .ok (.istore_n 2, 1) := by decide +kernel
theorem dX6_law_30 : decode cX6_law 30 = .ok (.aload_n 0, 1) := by decide +kernel
theorem dX6_law_31 : decode cX6_law 31 = .ok (.iload_n 1, 1) := by decide +kernel
theorem dX6_law_32 : decode cX6_law 32 = .ok (.putfield 167, 3) := by decide +kernel
theorem dX6_law_35 : decode cX6_law 35 = .ok (.iload_n 2, 1) := by decide +kernel
theorem dX6_law_36 : decode cX6_law 36 = .ok (.ireturn, 1) := by decide +kernel
theorem dX6_refuse_0 : decode cX6_refuse 0 = .ok (.aload_n 0, 1) := by decide +kernel
theorem dX6_refuse_1 : decode cX6_refuse 1 = .ok (.iload_n 1, 1) := by decide +kernel
theorem dX6_refuse_2 : decode cX6_refuse 2 = .ok (.invokevirtual 176, 3) := by decide +kernel
theorem dX6_refuse_5 : decode cX6_refuse 5 = .ok (.ifCond .eq 5, 3) := by decide +kernel
theorem dX6_refuse_8 : decode cX6_refuse 8 = .ok (.iconst (-1), 1) := by decide +kernel
theorem dX6_refuse_9 : decode cX6_refuse 9 = .ok (.ireturn, 1) := by decide +kernel
theorem dX6_refuse_10 : decode cX6_refuse 10 = .ok (.aload_n 0, 1) := by decide +kernel
theorem dX6_refuse_11 : decode cX6_refuse 11 = .ok (.getfield 164, 3) := by decide +kernel
theorem dX6_refuse_14 : decode cX6_refuse 14 = .ok (.iload_n 1, 1) := by decide +kernel
theorem dX6_refuse_15 : decode cX6_refuse 15 = .ok (.invokestatic 182, 3) := by decide +kernel
theorem dX6_refuse_18 : decode cX6_refuse 18 = .ok (.istore_n 3, 1) := by decide +kernel
theorem dX6_refuse_19 : decode cX6_refuse 19 = .ok (.aload_n 0, 1) := by decide +kernel
theorem dX6_refuse_20 : decode cX6_refuse 20 = .ok (.iload_n 2, 1) := by decide +kernel
theorem dX6_refuse_21 : decode cX6_refuse 21 = .ok (.ifCond .eq 14, 3) := by decide +kernel
theorem dX6_refuse_24 : decode cX6_refuse 24 = .ok (.aload_n 0, 1) := by decide +kernel
theorem dX6_refuse_25 : decode cX6_refuse 25 = .ok (.getfield 164, 3) := by decide +kernel
theorem dX6_refuse_28 : decode cX6_refuse 28 = .ok (.iconst 1, 1) := by decide +kernel
theorem dX6_refuse_29 : decode cX6_refuse 29 = .ok (.iload_n 1, 1) := by decide +kernel
theorem dX6_refuse_30 : decode cX6_refuse 30 = .ok (.ishl, 1) := by decide +kernel
theorem dX6_refuse_31 : decode cX6_refuse 31 = .ok (.ior, 1) := by decide +kernel
theorem dX6_refuse_32 : decode cX6_refuse 32 = .ok (.goto 13, 3) := by decide +kernel
theorem dX6_refuse_35 : decode cX6_refuse 35 = .ok (.aload_n 0, 1) := by decide +kernel
theorem dX6_refuse_36 : decode cX6_refuse 36 = .ok (.getfield 164, 3) := by decide +kernel
theorem dX6_refuse_39 : decode cX6_refuse 39 = .ok (.iconst 1, 1) := by decide +kernel
theorem dX6_refuse_40 : decode cX6_refuse 40 = .ok (.iload_n 1, 1) := by decide +kernel
theorem dX6_refuse_41 : decode cX6_refuse 41 = .ok (.ishl, 1) := by decide +kernel
theorem dX6_refuse_42 : decode cX6_refuse 42 = .ok (.iconst (-1), 1) := by decide +kernel
theorem dX6_refuse_43 : decode cX6_refuse 43 = .ok (.ixor, 1) := by decide +kernel
theorem dX6_refuse_44 : decode cX6_refuse 44 = .ok (.iand, 1) := by decide +kernel
theorem dX6_refuse_45 : decode cX6_refuse 45 = .ok (.putfield 164, 3) := by decide +kernel
theorem dX6_refuse_48 : decode cX6_refuse 48 = .ok (.iload_n 3, 1) := by decide +kernel
theorem dX6_refuse_49 : decode cX6_refuse 49 = .ok (.iload_n 2, 1) := by decide +kernel
theorem dX6_refuse_50 : decode cX6_refuse 50 = .ok (.if_icmp .ne 7, 3) := by decide +kernel
theorem dX6_refuse_53 : decode cX6_refuse 53 = .ok (.iconst 0, 1) := by decide +kernel
theorem dX6_refuse_54 : decode cX6_refuse 54 = .ok (.goto 4, 3) := by decide +kernel
theorem dX6_refuse_57 : decode cX6_refuse 57 = .ok (.iconst 1, 1) := by decide +kernel
theorem dX6_refuse_58 : decode cX6_refuse 58 = .ok (.ireturn, 1) := by decide +kernel
theorem dX6_will_0 : decode cX6_will 0 = .ok (.aload_n 0, 1) := by decide +kernel
theorem dX6_will_1 : decode cX6_will 1 = .ok (.iload_n 1, 1) := by decide +kernel
theorem dX6_will_2 : decode cX6_will 2 = .ok (.invokevirtual 185, 3) := by decide +kernel
theorem dX6_will_5 : decode cX6_will 5 = .ok (.ifCond .ne 11, 3) := by decide +kernel
theorem dX6_will_8 : decode cX6_will 8 = .ok (.aload_n 0, 1) := by decide +kernel
theorem dX6_will_9 : decode cX6_will 9 = .ok (.iload_n 2, 1) := by decide +kernel
theorem dX6_will_10 : decode cX6_will 10 = .ok (.invokevirtual 176, 3) := by decide +kernel
theorem dX6_will_13 : decode cX6_will 13 = .ok (.ifCond .eq 5, 3) := by decide +kernel
theorem dX6_will_16 : decode cX6_will 16 = .ok (.iconst (-1), 1) := by decide +kernel
theorem dX6_will_17 : decode cX6_will 17 = .ok (.ireturn, 1) := by decide +kernel
theorem dX6_will_18 : decode cX6_will 18 = .ok (.iload_n 3, 1) := by decide +kernel
theorem dX6_will_19 : decode cX6_will 19 = .ok (.invokestatic 188, 3) := by decide +kernel
theorem dX6_will_22 : decode cX6_will 22 = .ok (.ifCond .ne 6, 3) := by decide +kernel
theorem dX6_will_25 : decode cX6_will 25 = .ok (.bipush (-2), 2) := by decide +kernel
theorem dX6_will_27 : decode cX6_will 27 = .ok (.ireturn, 1) := by decide +kernel
theorem dX6_will_28 : decode cX6_will 28 = .ok (.aload_n 0, 1) := by decide +kernel
theorem dX6_will_29 : decode cX6_will 29 = .ok (.getfield 170, 3) := by decide +kernel
theorem dX6_will_32 : decode cX6_will 32 = .ok (.bipush 6, 2) := by decide +kernel
theorem dX6_will_34 : decode cX6_will 34 = .ok (.if_icmp .ne 6, 3) := by decide +kernel
theorem dX6_will_37 : decode cX6_will 37 = .ok (.bipush (-4), 2) := by decide +kernel
theorem dX6_will_39 : decode cX6_will 39 = .ok (.ireturn, 1) := by decide +kernel
theorem dX6_will_40 : decode cX6_will 40 = .ok (.aload_n 0, 1) := by decide +kernel
theorem dX6_will_41 : decode cX6_will 41 = .ok (.getfield 43, 3) := by decide +kernel
theorem dX6_will_44 : decode cX6_will 44 = .ok (.aload_n 0, 1) := by decide +kernel
theorem dX6_will_45 : decode cX6_will 45 = .ok (.getfield 170, 3) := by decide +kernel
theorem dX6_will_48 : decode cX6_will 48 = .ok (.iload_n 1, 1) := by decide +kernel
theorem dX6_will_49 : decode cX6_will 49 = .ok (.iastore, 1) := by decide +kernel
theorem dX6_will_50 : decode cX6_will 50 = .ok (.aload_n 0, 1) := by decide +kernel
theorem dX6_will_51 : decode cX6_will 51 = .ok (.getfield 46, 3) := by decide +kernel
theorem dX6_will_54 : decode cX6_will 54 = .ok (.aload_n 0, 1) := by decide +kernel
theorem dX6_will_55 : decode cX6_will 55 = .ok (.getfield 170, 3) := by decide +kernel
theorem dX6_will_58 : decode cX6_will 58 = .ok (.iload_n 2, 1) := by decide +kernel
theorem dX6_will_59 : decode cX6_will 59 = .ok (.iastore, 1) := by decide +kernel
theorem dX6_will_60 : decode cX6_will 60 = .ok (.aload_n 0, 1) := by decide +kernel
theorem dX6_will_61 : decode cX6_will 61 = .ok (.getfield 49, 3) := by decide +kernel
theorem dX6_will_64 : decode cX6_will 64 = .ok (.aload_n 0, 1) := by decide +kernel
theorem dX6_will_65 : decode cX6_will 65 = .ok (.getfield 170, 3) := by decide +kernel
theorem dX6_will_68 : decode cX6_will 68 = .ok (.iload_n 3, 1) := by decide +kernel
theorem dX6_will_69 : decode cX6_will 69 = .ok (.iastore, 1) := by decide +kernel
theorem dX6_will_70 : decode cX6_will 70 = .ok (.aload_n 0, 1) := by decide +kernel
theorem dX6_will_71 : decode cX6_will 71 = .ok (.dup, 1) := by decide +kernel
theorem dX6_will_72 : decode cX6_will 72 = .ok (.getfield 170, 3) := by decide +kernel
theorem dX6_will_75 : decode cX6_will 75 = .ok (.iconst 1, 1) := by decide +kernel
theorem dX6_will_76 : decode cX6_will 76 = .ok (.iadd, 1) := by decide +kernel
theorem dX6_will_77 : decode cX6_will 77 = .ok (.putfield 170, 3) := by decide +kernel
theorem dX6_will_80 : decode cX6_will 80 = .ok (.aload_n 0, 1) := by decide +kernel
theorem dX6_will_81 : decode cX6_will 81 = .ok (.getfield 170, 3) := by decide +kernel
theorem dX6_will_84 : decode cX6_will 84 = .ok (.iconst 1, 1) := by decide +kernel
theorem dX6_will_85 : decode cX6_will 85 = .ok (.isub, 1) := by decide +kernel
theorem dX6_will_86 : decode cX6_will 86 = .ok (.ireturn, 1) := by decide +kernel
theorem dX6_burn_0 : decode cX6_burn 0 = .ok (.iload_n 1, 1) := by decide +kernel
theorem dX6_burn_1 : decode cX6_burn 1 = .ok (.i2l, 1) := by decide +kernel
theorem dX6_burn_2 : decode cX6_burn 2 = .ok (.lconst 0, 1) := by decide +kernel
theorem dX6_burn_3 : decode cX6_burn 3 = .ok (.aload_n 0, 1) := by decide +kernel
theorem dX6_burn_4 : decode cX6_burn 4 = .ok (.getfield 170, 3) := by decide +kernel
theorem dX6_burn_7 : decode cX6_burn 7 = .ok (.i2l, 1) := by decide +kernel
theorem dX6_burn_8 : decode cX6_burn 8 = .ok (.invokestatic 110, 3) := by decide +kernel
theorem dX6_burn_11 : decode cX6_burn 11 = .ok (.ifCond .ne 6, 3) := by decide +kernel
theorem dX6_burn_14 : decode cX6_burn 14 = .ok (.bipush (-2), 2) := by decide +kernel
theorem dX6_burn_16 : decode cX6_burn 16 = .ok (.ireturn, 1) := by decide +kernel
theorem dX6_burn_17 : decode cX6_burn 17 = .ok (.aload_n 0, 1) := by decide +kernel
theorem dX6_burn_18 : decode cX6_burn 18 = .ok (.dup, 1) := by decide +kernel
theorem dX6_burn_19 : decode cX6_burn 19 = .ok (.getfield 170, 3) := by decide +kernel
theorem dX6_burn_22 : decode cX6_burn 22 = .ok (.iload_n 1, 1) := by decide +kernel
theorem dX6_burn_23 : decode cX6_burn 23 = .ok (.isub, 1) := by decide +kernel
theorem dX6_burn_24 : decode cX6_burn 24 = .ok (.putfield 170, 3) := by decide +kernel
theorem dX6_burn_27 : decode cX6_burn 27 = .ok (.aload_n 0, 1) := by decide +kernel
theorem dX6_burn_28 : decode cX6_burn 28 = .ok (.getfield 170, 3) := by decide +kernel
theorem dX6_burn_31 : decode cX6_burn 31 = .ok (.ireturn, 1) := by decide +kernel
theorem dX6_giveUp_0 : decode cX6_giveUp 0 = .ok (.aload_n 0, 1) := by decide +kernel
theorem dX6_giveUp_1 : decode cX6_giveUp 1 = .ok (.iload_n 1, 1) := by decide +kernel
theorem dX6_giveUp_2 : decode cX6_giveUp 2 = .ok (.invokevirtual 185, 3) := by decide +kernel
theorem dX6_giveUp_5 : decode cX6_giveUp 5 = .ok (.ifCond .eq 5, 3) := by decide +kernel
theorem dX6_giveUp_8 : decode cX6_giveUp 8 = .ok (.iconst (-1), 1) := by decide +kernel
theorem dX6_giveUp_9 : decode cX6_giveUp 9 = .ok (.ireturn, 1) := by decide +kernel
theorem dX6_giveUp_10 : decode cX6_giveUp 10 = .ok (.iload_n 2, 1) := by decide +kernel
theorem dX6_giveUp_11 : decode cX6_giveUp 11 = .ok (.i2l, 1) := by decide +kernel
theorem dX6_giveUp_12 : decode cX6_giveUp 12 = .ok (.lconst 0, 1) := by decide +kernel
theorem dX6_giveUp_13 : decode cX6_giveUp 13 = .ok (.ldc2_w 191, 3) := by decide +kernel
theorem dX6_giveUp_16 : decode cX6_giveUp 16 = .ok (.invokestatic 110, 3) := by decide +kernel
theorem dX6_giveUp_19 : decode cX6_giveUp 19 = .ok (.ifCond .ne 6, 3) := by decide +kernel
theorem dX6_giveUp_22 : decode cX6_giveUp 22 = .ok (.bipush (-2), 2) := by decide +kernel
theorem dX6_giveUp_24 : decode cX6_giveUp 24 = .ok (.ireturn, 1) := by decide +kernel
theorem dX6_giveUp_25 : decode cX6_giveUp 25 = .ok (.aload_n 0, 1) := by decide +kernel
theorem dX6_giveUp_26 : decode cX6_giveUp 26 = .ok (.getfield 25, 3) := by decide +kernel
theorem dX6_giveUp_29 : decode cX6_giveUp 29 = .ok (.iload_n 1, 1) := by decide +kernel
theorem dX6_giveUp_30 : decode cX6_giveUp 30 = .ok (.iaload, 1) := by decide +kernel
theorem dX6_giveUp_31 : decode cX6_giveUp 31 = .ok (.istore_n 3, 1) := by decide +kernel
theorem dX6_giveUp_32 : decode cX6_giveUp 32 = .ok (.aload_n 0, 1) := by decide +kernel
theorem dX6_giveUp_33 : decode cX6_giveUp 33 = .ok (.getfield 25, 3) := by decide +kernel
theorem dX6_giveUp_36 : decode cX6_giveUp 36 = .ok (.iload_n 1, 1) := by decide +kernel
theorem dX6_giveUp_37 : decode cX6_giveUp 37 = .ok (.iload_n 2, 1) := by decide +kernel
theorem dX6_giveUp_38 : decode cX6_giveUp 38 = .ok (.iastore, 1) := by decide +kernel
theorem dX6_giveUp_39 : decode cX6_giveUp 39 = .ok (.iload_n 3, 1) := by decide +kernel
theorem dX6_giveUp_40 : decode cX6_giveUp 40 = .ok (.ireturn, 1) := by decide +kernel
theorem dX6_begin_0 : decode cX6_begin 0 = .ok (.iconst 0, 1) := by decide +kernel
theorem dX6_begin_1 : decode cX6_begin 1 = .ok (.istore_n 1, 1) := by decide +kernel
theorem dX6_begin_2 : decode cX6_begin 2 = .ok (.iload_n 1, 1) := by decide +kernel
theorem dX6_begin_3 : decode cX6_begin 3 = .ok (.bipush 6, 2) := by decide +kernel
theorem dX6_begin_5 : decode cX6_begin 5 = .ok (.if_icmp .ge 30, 3) := by decide +kernel
theorem dX6_begin_8 : decode cX6_begin 8 = .ok (.aload_n 0, 1) := by decide +kernel
theorem dX6_begin_9 : decode cX6_begin 9 = .ok (.getfield 52, 3) := by decide +kernel
theorem dX6_begin_12 : decode cX6_begin 12 = .ok (.iload_n 1, 1) := by decide +kernel
theorem dX6_begin_13 : decode cX6_begin 13 = .ok (.iconst 0, 1) := by decide +kernel
theorem dX6_begin_14 : decode cX6_begin 14 = .ok (.iastore, 1) := by decide +kernel
theorem dX6_begin_15 : decode cX6_begin 15 = .ok (.aload_n 0, 1) := by decide +kernel
theorem dX6_begin_16 : decode cX6_begin 16 = .ok (.getfield 55, 3) := by decide +kernel
theorem dX6_begin_19 : decode cX6_begin 19 = .ok (.iload_n 1, 1) := by decide +kernel
theorem dX6_begin_20 : decode cX6_begin 20 = .ok (.iconst 0, 1) := by decide +kernel
theorem dX6_begin_21 : decode cX6_begin 21 = .ok (.iastore, 1) := by decide +kernel
theorem dX6_begin_22 : decode cX6_begin 22 = .ok (.aload_n 0, 1) := by decide +kernel
theorem dX6_begin_23 : decode cX6_begin 23 = .ok (.getfield 61, 3) := by decide +kernel
theorem dX6_begin_26 : decode cX6_begin 26 = .ok (.iload_n 1, 1) := by decide +kernel
theorem dX6_begin_27 : decode cX6_begin 27 = .ok (.iconst 0, 1) := by decide +kernel
theorem dX6_begin_28 : decode cX6_begin 28 = .ok (.iastore, 1) := by decide +kernel
theorem dX6_begin_29 : decode cX6_begin 29 = .ok (.iinc 1 1, 3) := by decide +kernel
theorem dX6_begin_32 : decode cX6_begin 32 = .ok (.goto (-30), 3) := by decide +kernel
theorem dX6_begin_35 : decode cX6_begin 35 = .ok (.iconst 0, 1) := by decide +kernel
theorem dX6_begin_36 : decode cX6_begin 36 = .ok (.istore_n 1, 1) := by decide +kernel
theorem dX6_begin_37 : decode cX6_begin 37 = .ok (.iload_n 1, 1) := by decide +kernel
theorem dX6_begin_38 : decode cX6_begin 38 = .ok (.iconst 4, 1) := by decide +kernel
theorem dX6_begin_39 : decode cX6_begin 39 = .ok (.if_icmp .ge 17, 3) := by decide +kernel
theorem dX6_begin_42 : decode cX6_begin 42 = .ok (.aload_n 0, 1) := by decide +kernel
theorem dX6_begin_43 : decode cX6_begin 43 = .ok (.getfield 64, 3) := by decide +kernel
theorem dX6_begin_46 : decode cX6_begin 46 = .ok (.iload_n 1, 1) := by decide +kernel
theorem dX6_begin_47 : decode cX6_begin 47 = .ok (.bipush (-9), 2) := by decide +kernel
theorem dX6_begin_49 : decode cX6_begin 49 = .ok (.iastore, 1) := by decide +kernel
theorem dX6_begin_50 : decode cX6_begin 50 = .ok (.iinc 1 1, 3) := by decide +kernel
theorem dX6_begin_53 : decode cX6_begin 53 = .ok (.goto (-16), 3) := by decide +kernel
theorem dX6_begin_56 : decode cX6_begin 56 = .ok (.aload_n 0, 1) := by decide +kernel
theorem dX6_begin_57 : decode cX6_begin 57 = .ok (.iconst 0, 1) := by decide +kernel
theorem dX6_begin_58 : decode cX6_begin 58 = .ok (.putfield 193, 3) := by decide +kernel
theorem dX6_begin_61 : decode cX6_begin 61 = .ok (.return_, 1) := by decide +kernel
theorem dX6_mayLie_0 : decode cX6_mayLie 0 = .ok (.aload_n 0, 1) := by decide +kernel
theorem dX6_mayLie_1 : decode cX6_mayLie 1 = .ok (.getfield 52, 3) := by decide +kernel
theorem dX6_mayLie_4 : decode cX6_mayLie 4 = .ok (.iload_n 1, 1) := by decide +kernel
theorem dX6_mayLie_5 : decode cX6_mayLie 5 = .ok (.iaload, 1) := by decide +kernel
theorem dX6_mayLie_6 : decode cX6_mayLie 6 = .ok (.iconst 1, 1) := by decide +kernel
theorem dX6_mayLie_7 : decode cX6_mayLie 7 = .ok (.if_icmp .ne 29, 3) := by decide +kernel
theorem dX6_mayLie_10 : decode cX6_mayLie 10 = .ok (.aload_n 0, 1) := by decide +kernel
theorem dX6_mayLie_11 : decode cX6_mayLie 11 = .ok (.getfield 196, 3) := by decide +kernel
theorem dX6_mayLie_14 : decode cX6_mayLie 14 = .ok (.iload_n 1, 1) := by decide +kernel
theorem dX6_mayLie_15 : decode cX6_mayLie 15 = .ok (.invokestatic 182, 3) := by decide +kernel
theorem dX6_mayLie_18 : decode cX6_mayLie 18 = .ok (.ifCond .eq 18, 3) := by decide +kernel
theorem dX6_mayLie_21 : decode cX6_mayLie 21 = .ok (.aload_n 0, 1) := by decide +kernel
theorem dX6_mayLie_22 : decode cX6_mayLie 22 = .ok (.getfield 164, 3) := by decide +kernel
theorem dX6_mayLie_25 : decode cX6_mayLie 25 = .ok (.iload_n 1, 1) := by decide +kernel
theorem dX6_mayLie_26 : decode cX6_mayLie 26 = .ok (.invokestatic 182, 3) := by decide +kernel
theorem dX6_mayLie_29 : decode cX6_mayLie 29 = .ok (.ifCond .ne 7, 3) := by decide +kernel
theorem dX6_mayLie_32 : decode cX6_mayLie 32 = .ok (.iconst 1, 1) := by decide +kernel
theorem dX6_mayLie_33 : decode cX6_mayLie 33 = .ok (.goto 4, 3) := by decide +kernel
theorem dX6_mayLie_36 : decode cX6_mayLie 36 = .ok (.iconst 0, 1) := by decide +kernel
theorem dX6_mayLie_37 : decode cX6_mayLie 37 = .ok (.ireturn, 1) := by decide +kernel
theorem dX6_isRather_0 : decode cX6_isRather 0 = .ok (.aload_n 0, 1) := by decide +kernel
theorem dX6_isRather_1 : decode cX6_isRather 1 = .ok (.getfield 167, 3) := by decide +kernel
theorem dX6_isRather_4 : decode cX6_isRather 4 = .ok (.iconst 1, 1) := by decide +kernel
theorem dX6_isRather_5 : decode cX6_isRather 5 = .ok (.if_icmp .ne 24, 3) := by decide +kernel
theorem dX6_isRather_8 : decode cX6_isRather 8 = .ok (.aload_n 0, 1) := by decide +kernel
theorem dX6_isRather_9 : decode cX6_isRather 9 = .ok (.getfield 55, 3) := by decide +kernel
theorem dX6_isRather_12 : decode cX6_isRather 12 = .ok (.iload_n 1, 1) := by decide +kernel
theorem dX6_isRather_13 : decode cX6_isRather 13 = .ok (.iaload, 1) := by decide +kernel
theorem dX6_isRather_14 : decode cX6_isRather 14 = .ok (.aload_n 0, 1) := by decide +kernel
theorem dX6_isRather_15 : decode cX6_isRather 15 = .ok (.getfield 55, 3) := by decide +kernel
theorem dX6_isRather_18 : decode cX6_isRather 18 = .ok (.iload_n 2, 1) := by decide +kernel
theorem dX6_isRather_19 : decode cX6_isRather 19 = .ok (.iaload, 1) := by decide +kernel
theorem dX6_isRather_20 : decode cX6_isRather 20 = .ok (.if_icmp .le 7, 3) := by decide +kernel
theorem dX6_isRather_23 : decode cX6_isRather 23 = .ok (.iconst 1, 1) := by decide +kernel
theorem dX6_isRather_24 : decode cX6_isRather 24 = .ok (.goto 4, 3) := by decide +kernel
theorem dX6_isRather_27 : decode cX6_isRather 27 = .ok (.iconst 0, 1) := by decide +kernel
theorem dX6_isRather_28 : decode cX6_isRather 28 = .ok (.ireturn, 1) := by decide +kernel
theorem dX6_isRather_29 : decode cX6_isRather 29 = .ok (.aload_n 0, 1) := by decide +kernel
theorem dX6_isRather_30 : decode cX6_isRather 30 = .ok (.getfield 13, 3) := by decide +kernel
theorem dX6_isRather_33 : decode cX6_isRather 33 = .ok (.iload_n 1, 1) := by decide +kernel
theorem dX6_isRather_34 : decode cX6_isRather 34 = .ok (.iaload, 1) := by decide +kernel
theorem dX6_isRather_35 : decode cX6_isRather 35 = .ok (.iload_n 3, 1) := by decide +kernel
theorem dX6_isRather_36 : decode cX6_isRather 36 = .ok (.if_icmp .le 14, 3) := by decide +kernel
theorem dX6_isRather_39 : decode cX6_isRather 39 = .ok (.aload_n 0, 1) := by decide +kernel
theorem dX6_isRather_40 : decode cX6_isRather 40 = .ok (.getfield 13, 3) := by decide +kernel
theorem dX6_isRather_43 : decode cX6_isRather 43 = .ok (.iload_n 1, 1) := by decide +kernel
theorem dX6_isRather_44 : decode cX6_isRather 44 = .ok (.iaload, 1) := by decide +kernel
theorem dX6_isRather_45 : decode cX6_isRather 45 = .ok (.iload_n 3, 1) := by decide +kernel
theorem dX6_isRather_46 : decode cX6_isRather 46 = .ok (.isub, 1) := by decide +kernel
theorem dX6_isRather_47 : decode cX6_isRather 47 = .ok (.goto 11, 3) := by decide +kernel
theorem dX6_isRather_50 : decode cX6_isRather 50 = .ok (.iload_n 3, 1) := by decide +kernel
theorem dX6_isRather_51 : decode cX6_isRather 51 = .ok (.aload_n 0, 1) := by decide +kernel
theorem dX6_isRather_52 : decode cX6_isRather 52 = .ok (.getfield 13, 3) := by decide +kernel
theorem dX6_isRather_55 : decode cX6_isRather 55 = .ok (.iload_n 1, 1) := by decide +kernel
theorem dX6_isRather_56 : decode cX6_isRather 56 = .ok (.iaload, 1) := by decide +kernel
theorem dX6_isRather_57 : decode cX6_isRather 57 = .ok (.isub, 1) := by decide +kernel
theorem dX6_isRather_58 : decode cX6_isRather 58 = .ok (.istore 4, 2) := by decide +kernel
theorem dX6_isRather_60 : decode cX6_isRather 60 = .ok (.aload_n 0, 1) := by decide +kernel
theorem dX6_isRather_61 : decode cX6_isRather 61 = .ok (.getfield 13, 3) := by decide +kernel
theorem dX6_isRather_64 : decode cX6_isRather 64 = .ok (.iload_n 2, 1) := by decide +kernel
theorem dX6_isRather_65 : decode cX6_isRather 65 = .ok (.iaload, 1) := by decide +kernel
theorem dX6_isRather_66 : decode cX6_isRather 66 = .ok (.iload_n 3, 1) := by decide +kernel
theorem dX6_isRather_67 : decode cX6_isRather 67 = .ok (.if_icmp .le 14, 3) := by decide +kernel
theorem dX6_isRather_70 : decode cX6_isRather 70 = .ok (.aload_n 0, 1) := by decide +kernel
theorem dX6_isRather_71 : decode cX6_isRather 71 = .ok (.getfield 13, 3) := by decide +kernel
theorem dX6_isRather_74 : decode cX6_isRather 74 = .ok (.iload_n 2, 1) := by decide +kernel
theorem dX6_isRather_75 : decode cX6_isRather 75 = .ok (.iaload, 1) := by decide +kernel
theorem dX6_isRather_76 : decode cX6_isRather 76 = .ok (.iload_n 3, 1) := by decide +kernel
theorem dX6_isRather_77 : decode cX6_isRather 77 = .ok (.isub, 1) := by decide +kernel
theorem dX6_isRather_78 : decode cX6_isRather 78 = .ok (.goto 11, 3) := by decide +kernel
theorem dX6_isRather_81 : decode cX6_isRather 81 = .ok (.iload_n 3, 1) := by decide +kernel
theorem dX6_isRather_82 : decode cX6_isRather 82 = .ok (.aload_n 0, 1) := by decide +kernel
theorem dX6_isRather_83 : decode cX6_isRather 83 = .ok (.getfield 13, 3) := by decide +kernel
theorem dX6_isRather_86 : decode cX6_isRather 86 = .ok (.iload_n 2, 1) := by decide +kernel
theorem dX6_isRather_87 : decode cX6_isRather 87 = .ok (.iaload, 1) := by decide +kernel
theorem dX6_isRather_88 : decode cX6_isRather 88 = .ok (.isub, 1) := by decide +kernel
theorem dX6_isRather_89 : decode cX6_isRather 89 = .ok (.istore 5, 2) := by decide +kernel
theorem dX6_isRather_91 : decode cX6_isRather 91 = .ok (.aload_n 0, 1) := by decide +kernel
theorem dX6_isRather_92 : decode cX6_isRather 92 = .ok (.getfield 167, 3) := by decide +kernel
theorem dX6_isRather_95 : decode cX6_isRather 95 = .ok (.iconst 2, 1) := by decide +kernel
theorem dX6_isRather_96 : decode cX6_isRather 96 = .ok (.if_icmp .ne 14, 3) := by decide +kernel
theorem dX6_isRather_99 : decode cX6_isRather 99 = .ok (.iload 4, 2) := by decide +kernel
theorem dX6_isRather_101 : decode cX6_isRather 101 = .ok (.iload 5, 2) := by decide +kernel
theorem dX6_isRather_103 : decode cX6_isRather 103 = .ok (.if_icmp .ge 7, 3) := by decide +kernel
theorem dX6_isRather_106 : decode cX6_isRather 106 = .ok (.iconst 1, 1) := by decide +kernel
theorem dX6_isRather_107 : decode cX6_isRather 107 = .ok (.goto 4, 3) := by decide +kernel
theorem dX6_isRather_110 : decode cX6_isRather 110 = .ok (.iconst 0, 1) := by decide +kernel
theorem dX6_isRather_111 : decode cX6_isRather 111 = .ok (.ireturn, 1) := by decide +kernel
theorem dX6_lierAt_0 : decode cX6_lierAt 0 = .ok (.iconst 0, 1) := by decide +kernel
theorem dX6_lierAt_1 : decode cX6_lierAt 1 = .ok (.istore_n 3, 1) := by decide +kernel
theorem dX6_lierAt_2 : decode cX6_lierAt 2 = .ok (.iload_n 3, 1) := by decide +kernel
theorem dX6_lierAt_3 : decode cX6_lierAt 3 = .ok (.aload_n 0, 1) := by decide +kernel
theorem dX6_lierAt_4 : decode cX6_lierAt 4 = .ok (.getfield 170, 3) := by decide +kernel
theorem dX6_lierAt_7 : decode cX6_lierAt 7 = .ok (.if_icmp .ge 49, 3) := by decide +kernel
theorem dX6_lierAt_10 : decode cX6_lierAt 10 = .ok (.aload_n 0, 1) := by decide +kernel
theorem dX6_lierAt_11 : decode cX6_lierAt 11 = .ok (.getfield 43, 3) := by decide +kernel
theorem dX6_lierAt_14 : decode cX6_lierAt 14 = .ok (.iload_n 3, 1) := by decide +kernel
theorem dX6_lierAt_15 : decode cX6_lierAt 15 = .ok (.iaload, 1) := by decide +kernel
theorem dX6_lierAt_16 : decode cX6_lierAt 16 = .ok (.iload_n 1, 1) := by decide +kernel
theorem dX6_lierAt_17 : decode cX6_lierAt 17 = .ok (.if_icmp .ne 33, 3) := by decide +kernel
theorem dX6_lierAt_20 : decode cX6_lierAt 20 = .ok (.aload_n 0, 1) := by decide +kernel
theorem dX6_lierAt_21 : decode cX6_lierAt 21 = .ok (.getfield 49, 3) := by decide +kernel
theorem dX6_lierAt_24 : decode cX6_lierAt 24 = .ok (.iload_n 3, 1) := by decide +kernel
theorem dX6_lierAt_25 : decode cX6_lierAt 25 = .ok (.iaload, 1) := by decide +kernel
theorem dX6_lierAt_26 : decode cX6_lierAt 26 = .ok (.iload_n 2, 1) := by decide +kernel
theorem dX6_lierAt_27 : decode cX6_lierAt 27 = .ok (.if_icmp .ne 23, 3) := by decide +kernel
theorem dX6_lierAt_30 : decode cX6_lierAt 30 = .ok (.aload_n 0, 1) := by decide +kernel
theorem dX6_lierAt_31 : decode cX6_lierAt 31 = .ok (.aload_n 0, 1) := by decide +kernel
theorem dX6_lierAt_32 : decode cX6_lierAt 32 = .ok (.getfield 46, 3) := by decide +kernel
theorem dX6_lierAt_35 : decode cX6_lierAt 35 = .ok (.iload_n 3, 1) := by decide +kernel
theorem dX6_lierAt_36 : decode cX6_lierAt 36 = .ok (.iaload, 1) := by decide +kernel
theorem dX6_lierAt_37 : decode cX6_lierAt 37 = .ok (.invokevirtual 199, 3) := by decide +kernel
theorem dX6_lierAt_40 : decode cX6_lierAt 40 = .ok (.ifCond .eq 10, 3) := by decide +kernel
theorem dX6_lierAt_43 : decode cX6_lierAt 43 = .ok (.aload_n 0, 1) := by decide +kernel
theorem dX6_lierAt_44 : decode cX6_lierAt 44 = .ok (.getfield 46, 3) := by decide +kernel
theorem dX6_lierAt_47 : decode cX6_lierAt 47 = .ok (.iload_n 3, 1) := by decide +kernel
theorem dX6_lierAt_48 : decode cX6_lierAt 48 = .ok (.iaload, 1) := by decide +kernel
theorem dX6_lierAt_49 : decode cX6_lierAt 49 = .ok (.ireturn, 1) := by decide +kernel
theorem dX6_lierAt_50 : decode cX6_lierAt 50 = .ok (.iinc 3 1, 3) := by decide +kernel
theorem dX6_lierAt_53 : decode cX6_lierAt 53 = .ok (.goto (-51), 3) := by decide +kernel
theorem dX6_lierAt_56 : decode cX6_lierAt 56 = .ok (.bipush (-9), 2) := by decide +kernel
theorem dX6_lierAt_58 : decode cX6_lierAt 58 = .ok (.istore_n 3, 1) := by decide +kernel
theorem dX6_lierAt_59 : decode cX6_lierAt 59 = .ok (.iconst 0, 1) := by decide +kernel
theorem dX6_lierAt_60 : decode cX6_lierAt 60 = .ok (.istore 4, 2) := by decide +kernel
theorem dX6_lierAt_62 : decode cX6_lierAt 62 = .ok (.iload 4, 2) := by decide +kernel
theorem dX6_lierAt_64 : decode cX6_lierAt 64 = .ok (.aload_n 0, 1) := by decide +kernel
theorem dX6_lierAt_65 : decode cX6_lierAt 65 = .ok (.getfield 107, 3) := by decide +kernel
theorem dX6_lierAt_68 : decode cX6_lierAt 68 = .ok (.if_icmp .ge 40, 3) := by decide +kernel
theorem dX6_lierAt_71 : decode cX6_lierAt 71 = .ok (.aload_n 0, 1) := by decide +kernel
theorem dX6_lierAt_72 : decode cX6_lierAt 72 = .ok (.iload 4, 2) := by decide +kernel
theorem dX6_lierAt_74 : decode cX6_lierAt 74 = .ok (.invokevirtual 199, 3) := by decide +kernel
theorem dX6_lierAt_77 : decode cX6_lierAt 77 = .ok (.ifCond .eq 23, 3) := by decide +kernel
theorem dX6_lierAt_80 : decode cX6_lierAt 80 = .ok (.iload_n 3, 1) := by decide +kernel
theorem dX6_lierAt_81 : decode cX6_lierAt 81 = .ok (.ifCond .lt 14, 3) := by decide +kernel
theorem dX6_lierAt_84 : decode cX6_lierAt 84 = .ok (.aload_n 0, 1) := by decide +kernel
theorem dX6_lierAt_85 : decode cX6_lierAt 85 = .ok (.iload 4, 2) := by decide +kernel
theorem dX6_lierAt_87 : decode cX6_lierAt 87 = .ok (.iload_n 3, 1) := by decide +kernel
theorem dX6_lierAt_88 : decode cX6_lierAt 88 = .ok (.iload_n 1, 1) := by decide +kernel
theorem dX6_lierAt_89 : decode cX6_lierAt 89 = .ok (.invokevirtual 202, 3) := by decide +kernel
theorem dX6_lierAt_92 : decode cX6_lierAt 92 = .ok (.ifCond .eq 8, 3) := by decide +kernel
theorem dX6_lierAt_95 : decode cX6_lierAt 95 = .ok (.iload 4, 2) := by decide +kernel
theorem dX6_lierAt_97 : decode cX6_lierAt 97 = .ok (.goto 4, 3) := by decide +kernel
theorem dX6_lierAt_100 : decode cX6_lierAt 100 = .ok (.iload_n 3, 1) := by decide +kernel
theorem dX6_lierAt_101 : decode cX6_lierAt 101 = .ok (.istore_n 3, 1) := by decide +kernel
theorem dX6_lierAt_102 : decode cX6_lierAt 102 = .ok (.iinc 4 1, 3) := by decide +kernel
theorem dX6_lierAt_105 : decode cX6_lierAt 105 = .ok (.goto (-43), 3) := by decide +kernel
theorem dX6_lierAt_108 : decode cX6_lierAt 108 = .ok (.iload_n 3, 1) := by decide +kernel
theorem dX6_lierAt_109 : decode cX6_lierAt 109 = .ok (.ireturn, 1) := by decide +kernel
theorem dX6_wakeAll_0 : decode cX6_wakeAll 0 = .ok (.aload_n 0, 1) := by decide +kernel
theorem dX6_wakeAll_1 : decode cX6_wakeAll 1 = .ok (.aload_n 0, 1) := by decide +kernel
theorem dX6_wakeAll_2 : decode cX6_wakeAll 2 = .ok (.invokevirtual 206, 3) := by decide +kernel
theorem dX6_wakeAll_5 : decode cX6_wakeAll 5 = .ok (.putfield 196, 3) := by decide +kernel
theorem dX6_wakeAll_8 : decode cX6_wakeAll 8 = .ok (.iconst 0, 1) := by decide +kernel
theorem dX6_wakeAll_9 : decode cX6_wakeAll 9 = .ok (.istore_n 2, 1) := by decide +kernel
theorem dX6_wakeAll_10 : decode cX6_wakeAll 10 = .ok (.iload_n 2, 1) := by decide +kernel
theorem dX6_wakeAll_11 : decode cX6_wakeAll 11 = .ok (.aload_n 0, 1) := by decide +kernel
theorem dX6_wakeAll_12 : decode cX6_wakeAll 12 = .ok (.getfield 114, 3) := by decide +kernel
theorem dX6_wakeAll_15 : decode cX6_wakeAll 15 = .ok (.if_icmp .ge 59, 3) := by decide +kernel
theorem dX6_wakeAll_18 : decode cX6_wakeAll 18 = .ok (.aload_n 0, 1) := by decide +kernel
theorem dX6_wakeAll_19 : decode cX6_wakeAll 19 = .ok (.getfield 64, 3) := by decide +kernel
theorem dX6_wakeAll_22 : decode cX6_wakeAll 22 = .ok (.iload_n 2, 1) := by decide +kernel
theorem dX6_wakeAll_23 : decode cX6_wakeAll 23 = .ok (.iaload, 1) := by decide +kernel
theorem dX6_wakeAll_24 : decode cX6_wakeAll 24 = .ok (.istore_n 3, 1) := by decide +kernel
theorem dX6_wakeAll_25 : decode cX6_wakeAll 25 = .ok (.iload_n 3, 1) := by decide +kernel
theorem dX6_wakeAll_26 : decode cX6_wakeAll 26 = .ok (.ifCond .lt 42, 3) := by decide +kernel
theorem dX6_wakeAll_29 : decode cX6_wakeAll 29 = .ok (.aload_n 0, 1) := by decide +kernel
theorem dX6_wakeAll_30 : decode cX6_wakeAll 30 = .ok (.getfield 58, 3) := by decide +kernel
theorem dX6_wakeAll_33 : decode cX6_wakeAll 33 = .ok (.iload_n 3, 1) := by decide +kernel
theorem dX6_wakeAll_34 : decode cX6_wakeAll 34 = .ok (.iaload, 1) := by decide +kernel
theorem dX6_wakeAll_35 : decode cX6_wakeAll 35 = .ok (.iload_n 1, 1) := by decide +kernel
theorem dX6_wakeAll_36 : decode cX6_wakeAll 36 = .ok (.if_icmp .ne 32, 3) := by decide +kernel
theorem dX6_wakeAll_39 : decode cX6_wakeAll 39 = .ok (.aload_n 0, 1) := by decide +kernel
theorem dX6_wakeAll_40 : decode cX6_wakeAll 40 = .ok (.getfield 64, 3) := by decide +kernel
theorem dX6_wakeAll_43 : decode cX6_wakeAll 43 = .ok (.iload_n 2, 1) := by decide +kernel
theorem dX6_wakeAll_44 : decode cX6_wakeAll 44 = .ok (.bipush (-9), 2) := by decide +kernel
theorem dX6_wakeAll_46 : decode cX6_wakeAll 46 = .ok (.iastore, 1) := by decide +kernel
theorem dX6_wakeAll_47 : decode cX6_wakeAll 47 = .ok (.aload_n 0, 1) := by decide +kernel
theorem dX6_wakeAll_48 : decode cX6_wakeAll 48 = .ok (.getfield 52, 3) := by decide +kernel
theorem dX6_wakeAll_51 : decode cX6_wakeAll 51 = .ok (.iload_n 3, 1) := by decide +kernel
theorem dX6_wakeAll_52 : decode cX6_wakeAll 52 = .ok (.iconst 1, 1) := by decide +kernel
theorem dX6_wakeAll_53 : decode cX6_wakeAll 53 = .ok (.iastore, 1) := by decide +kernel
theorem dX6_wakeAll_54 : decode cX6_wakeAll 54 = .ok (.aload_n 0, 1) := by decide +kernel
theorem dX6_wakeAll_55 : decode cX6_wakeAll 55 = .ok (.dup, 1) := by decide +kernel
theorem dX6_wakeAll_56 : decode cX6_wakeAll 56 = .ok (.getfield 196, 3) := by decide +kernel
theorem dX6_wakeAll_59 : decode cX6_wakeAll 59 = .ok (.iconst 1, 1) := by decide +kernel
theorem dX6_wakeAll_60 : decode cX6_wakeAll 60 = .ok (.iload_n 3, 1) := by decide +kernel
theorem dX6_wakeAll_61 : decode cX6_wakeAll 61 = .ok (.ishl, 1) := by decide +kernel
theorem dX6_wakeAll_62 : decode cX6_wakeAll 62 = .ok (.iconst (-1), 1) := by decide +kernel
theorem dX6_wakeAll_63 : decode cX6_wakeAll 63 = .ok (.ixor, 1) := by decide +kernel
theorem dX6_wakeAll_64 : decode cX6_wakeAll 64 = .ok (.iand, 1) := by decide +kernel
theorem dX6_wakeAll_65 : decode cX6_wakeAll 65 = .ok (.putfield 196, 3) := by decide +kernel
theorem dX6_wakeAll_68 : decode cX6_wakeAll 68 = .ok (.iinc 2 1, 3) := by decide +kernel
theorem dX6_wakeAll_71 : decode cX6_wakeAll 71 = .ok (.goto (-61), 3) := by decide +kernel
theorem dX6_wakeAll_74 : decode cX6_wakeAll 74 = .ok (.return_, 1) := by decide +kernel
theorem dX6_goDecade_0 : decode cX6_goDecade 0 = .ok (.iconst 0, 1) := by decide +kernel
theorem dX6_goDecade_1 : decode cX6_goDecade 1 = .ok (.istore_n 2, 1) := by decide +kernel
theorem dX6_goDecade_2 : decode cX6_goDecade 2 = .ok (.iload_n 2, 1) := by decide +kernel
theorem dX6_goDecade_3 : decode cX6_goDecade 3 = .ok (.aload_n 0, 1) := by decide +kernel
theorem dX6_goDecade_4 : decode cX6_goDecade 4 = .ok (.getfield 107, 3) := by decide +kernel
theorem dX6_goDecade_7 : decode cX6_goDecade 7 = .ok (.if_icmp .ge 74, 3) := by decide +kernel
theorem dX6_goDecade_10 : decode cX6_goDecade 10 = .ok (.aload_n 0, 1) := by decide +kernel
theorem dX6_goDecade_11 : decode cX6_goDecade 11 = .ok (.getfield 52, 3) := by decide +kernel
theorem dX6_goDecade_14 : decode cX6_goDecade 14 = .ok (.iload_n 2, 1) := by decide +kernel
theorem dX6_goDecade_15 : decode cX6_goDecade 15 = .ok (.iaload, 1) := by decide +kernel
theorem dX6_goDecade_16 : decode cX6_goDecade 16 = .ok (.iconst 1, 1) := by decide +kernel
theorem dX6_goDecade_17 : decode cX6_goDecade 17 = .ok (.if_icmp .ne 22, 3) := by decide +kernel
theorem dX6_goDecade_20 : decode cX6_goDecade 20 = .ok (.aload_n 0, 1) := by decide +kernel
theorem dX6_goDecade_21 : decode cX6_goDecade 21 = .ok (.getfield 55, 3) := by decide +kernel
theorem dX6_goDecade_24 : decode cX6_goDecade 24 = .ok (.iload_n 2, 1) := by decide +kernel
theorem dX6_goDecade_25 : decode cX6_goDecade 25 = .ok (.iaload, 1) := by decide +kernel
theorem dX6_goDecade_26 : decode cX6_goDecade 26 = .ok (.aload_n 0, 1) := by decide +kernel
theorem dX6_goDecade_27 : decode cX6_goDecade 27 = .ok (.getfield 19, 3) := by decide +kernel
theorem dX6_goDecade_30 : decode cX6_goDecade 30 = .ok (.iload_n 2, 1) := by decide +kernel
theorem dX6_goDecade_31 : decode cX6_goDecade 31 = .ok (.iaload, 1) := by decide +kernel
theorem dX6_goDecade_32 : decode cX6_goDecade 32 = .ok (.if_icmp .lt 7, 3) := by decide +kernel
theorem dX6_goDecade_35 : decode cX6_goDecade 35 = .ok (.iconst 1, 1) := by decide +kernel
theorem dX6_goDecade_36 : decode cX6_goDecade 36 = .ok (.goto 4, 3) := by decide +kernel
theorem dX6_goDecade_39 : decode cX6_goDecade 39 = .ok (.iconst 0, 1) := by decide +kernel
theorem dX6_goDecade_40 : decode cX6_goDecade 40 = .ok (.istore_n 3, 1) := by decide +kernel
theorem dX6_goDecade_41 : decode cX6_goDecade 41 = .ok (.aload_n 0, 1) := by decide +kernel
theorem dX6_goDecade_42 : decode cX6_goDecade 42 = .ok (.getfield 52, 3) := by decide +kernel
theorem dX6_goDecade_45 : decode cX6_goDecade 45 = .ok (.iload_n 2, 1) := by decide +kernel
theorem dX6_goDecade_46 : decode cX6_goDecade 46 = .ok (.aload_n 0, 1) := by decide +kernel
theorem dX6_goDecade_47 : decode cX6_goDecade 47 = .ok (.getfield 16, 3) := by decide +kernel
theorem dX6_goDecade_50 : decode cX6_goDecade 50 = .ok (.iload_n 2, 1) := by decide +kernel
theorem dX6_goDecade_51 : decode cX6_goDecade 51 = .ok (.iaload, 1) := by decide +kernel
theorem dX6_goDecade_52 : decode cX6_goDecade 52 = .ok (.iload_n 1, 1) := by decide +kernel
theorem dX6_goDecade_53 : decode cX6_goDecade 53 = .ok (.if_icmp .ne 7, 3) := by decide +kernel
theorem dX6_goDecade_56 : decode cX6_goDecade 56 = .ok (.iconst 1, 1) := by decide +kernel
theorem dX6_goDecade_57 : decode cX6_goDecade 57 = .ok (.goto 17, 3) := by decide +kernel
theorem dX6_goDecade_60 : decode cX6_goDecade 60 = .ok (.iload_n 3, 1) := by decide +kernel
theorem dX6_goDecade_61 : decode cX6_goDecade 61 = .ok (.ifCond .eq 7, 3) := by decide +kernel
theorem dX6_goDecade_64 : decode cX6_goDecade 64 = .ok (.iconst 3, 1) := by decide +kernel
theorem dX6_goDecade_65 : decode cX6_goDecade 65 = .ok (.goto 9, 3) := by decide +kernel
theorem dX6_goDecade_68 : decode cX6_goDecade 68 = .ok (.aload_n 0, 1) := by decide +kernel
theorem dX6_goDecade_69 : decode cX6_goDecade 69 = .ok (.getfield 52, 3) := by decide +kernel
theorem dX6_goDecade_72 : decode cX6_goDecade 72 = .ok (.iload_n 2, 1) := by decide +kernel
theorem dX6_goDecade_73 : decode cX6_goDecade 73 = .ok (.iaload, 1) := by decide +kernel
theorem dX6_goDecade_74 : decode cX6_goDecade 74 = .ok (.iastore, 1) := by decide +kernel
theorem dX6_goDecade_75 : decode cX6_goDecade 75 = .ok (.iinc 2 1, 3) := by decide +kernel
theorem dX6_goDecade_78 : decode cX6_goDecade 78 = .ok (.goto (-76), 3) := by decide +kernel
theorem dX6_goDecade_81 : decode cX6_goDecade 81 = .ok (.aload_n 0, 1) := by decide +kernel
theorem dX6_goDecade_82 : decode cX6_goDecade 82 = .ok (.iload_n 1, 1) := by decide +kernel
theorem dX6_goDecade_83 : decode cX6_goDecade 83 = .ok (.invokevirtual 210, 3) := by decide +kernel
theorem dX6_goDecade_86 : decode cX6_goDecade 86 = .ok (.aload_n 0, 1) := by decide +kernel
theorem dX6_goDecade_87 : decode cX6_goDecade 87 = .ok (.iconst 0, 1) := by decide +kernel
theorem dX6_goDecade_88 : decode cX6_goDecade 88 = .ok (.putfield 214, 3) := by decide +kernel
theorem dX6_goDecade_91 : decode cX6_goDecade 91 = .ok (.iconst 0, 1) := by decide +kernel
theorem dX6_goDecade_92 : decode cX6_goDecade 92 = .ok (.istore_n 2, 1) := by decide +kernel
theorem dX6_goDecade_93 : decode cX6_goDecade 93 = .ok (.iload_n 2, 1) := by decide +kernel
theorem dX6_goDecade_94 : decode cX6_goDecade 94 = .ok (.aload_n 0, 1) := by decide +kernel
theorem dX6_goDecade_95 : decode cX6_goDecade 95 = .ok (.getfield 114, 3) := by decide +kernel
theorem dX6_goDecade_98 : decode cX6_goDecade 98 = .ok (.if_icmp .ge 86, 3) := by decide +kernel
theorem dX6_goDecade_101 : decode cX6_goDecade 101 = .ok (.aload_n 0, 1) := by decide +kernel
theorem dX6_goDecade_102 : decode cX6_goDecade 102 = .ok (.getfield 64, 3) := by decide +kernel
theorem dX6_goDecade_105 : decode cX6_goDecade 105 = .ok (.iload_n 2, 1) := by decide +kernel
theorem dX6_goDecade_106 : decode cX6_goDecade 106 = .ok (.iaload, 1) := by decide +kernel
theorem dX6_goDecade_107 : decode cX6_goDecade 107 = .ok (.ifCond .ge 71, 3) := by decide +kernel
theorem dX6_goDecade_110 : decode cX6_goDecade 110 = .ok (.iload_n 1, 1) := by decide +kernel
theorem dX6_goDecade_111 : decode cX6_goDecade 111 = .ok (.aload_n 0, 1) := by decide +kernel
theorem dX6_goDecade_112 : decode cX6_goDecade 112 = .ok (.getfield 25, 3) := by decide +kernel
theorem dX6_goDecade_115 : decode cX6_goDecade 115 = .ok (.iload_n 2, 1) := by decide +kernel
theorem dX6_goDecade_116 : decode cX6_goDecade 116 = .ok (.iaload, 1) := by decide +kernel
theorem dX6_goDecade_117 : decode cX6_goDecade 117 = .ok (.if_icmp .ge 61, 3) := by decide +kernel
theorem dX6_goDecade_120 : decode cX6_goDecade 120 = .ok (.aload_n 0, 1) := by decide +kernel
theorem dX6_goDecade_121 : decode cX6_goDecade 121 = .ok (.iload_n 2, 1) := by decide +kernel
theorem dX6_goDecade_122 : decode cX6_goDecade 122 = .ok (.iload_n 1, 1) := by decide +kernel
theorem dX6_goDecade_123 : decode cX6_goDecade 123 = .ok (.invokevirtual 217, 3) := by decide +kernel
theorem dX6_goDecade_126 : decode cX6_goDecade 126 = .ok (.istore_n 3, 1) := by decide +kernel
theorem dX6_goDecade_127 : decode cX6_goDecade 127 = .ok (.aload_n 0, 1) := by decide +kernel
theorem dX6_goDecade_128 : decode cX6_goDecade 128 = .ok (.getfield 64, 3) := by decide +kernel
theorem dX6_goDecade_131 : decode cX6_goDecade 131 = .ok (.iload_n 2, 1) := by decide +kernel
theorem dX6_goDecade_132 : decode cX6_goDecade 132 = .ok (.iload_n 3, 1) := by decide +kernel
theorem dX6_goDecade_133 : decode cX6_goDecade 133 = .ok (.iastore, 1) := by decide +kernel
theorem dX6_goDecade_134 : decode cX6_goDecade 134 = .ok (.aload_n 0, 1) := by decide +kernel
theorem dX6_goDecade_135 : decode cX6_goDecade 135 = .ok (.dup, 1) := by decide +kernel
theorem dX6_goDecade_136 : decode cX6_goDecade 136 = .ok (.getfield 214, 3) := by decide +kernel
theorem dX6_goDecade_139 : decode cX6_goDecade 139 = .ok (.iload_n 3, 1) := by decide +kernel
theorem dX6_goDecade_140 : decode cX6_goDecade 140 = .ok (.ifCond .ge 9, 3) := by decide +kernel
theorem dX6_goDecade_143 : decode cX6_goDecade 143 = .ok (.iconst 1, 1) := by decide +kernel
theorem dX6_goDecade_144 : decode cX6_goDecade 144 = .ok (.iload_n 2, 1) := by decide +kernel
theorem dX6_goDecade_145 : decode cX6_goDecade 145 = .ok (.ishl, 1) := by decide +kernel
theorem dX6_goDecade_146 : decode cX6_goDecade 146 = .ok (.goto 4, 3) := by decide +kernel
theorem dX6_goDecade_149 : decode cX6_goDecade 149 = .ok (.iconst 0, 1) := by decide +kernel
theorem dX6_goDecade_150 : decode cX6_goDecade 150 = .ok (.ior, 1) := by decide +kernel
theorem dX6_goDecade_151 : decode cX6_goDecade 151 = .ok (.putfield 214, 3) := by decide +kernel
theorem dX6_goDecade_154 : decode cX6_goDecade 154 = .ok (.iload_n 3, 1) := by decide +kernel
theorem dX6_goDecade_155 : decode cX6_goDecade 155 = .ok (.ifCond .lt 23, 3) := by decide +kernel
theorem dX6_goDecade_158 : decode cX6_goDecade 158 = .ok (.aload_n 0, 1) := by decide +kernel
theorem dX6_goDecade_159 : decode cX6_goDecade 159 = .ok (.getfield 52, 3) := by decide +kernel
theorem dX6_goDecade_162 : decode cX6_goDecade 162 = .ok (.iload_n 3, 1) := by decide +kernel
theorem dX6_goDecade_163 : decode cX6_goDecade 163 = .ok (.iconst 2, 1) := by decide +kernel
theorem dX6_goDecade_164 : decode cX6_goDecade 164 = .ok (.iastore, 1) := by decide +kernel
theorem dX6_goDecade_165 : decode cX6_goDecade 165 = .ok (.aload_n 0, 1) := by decide +kernel
theorem dX6_goDecade_166 : decode cX6_goDecade 166 = .ok (.getfield 58, 3) := by decide +kernel
theorem dX6_goDecade_169 : decode cX6_goDecade 169 = .ok (.iload_n 3, 1) := by decide +kernel
theorem dX6_goDecade_170 : decode cX6_goDecade 170 = .ok (.iload_n 1, 1) := by decide +kernel
theorem dX6_goDecade_171 : decode cX6_goDecade 171 = .ok (.aload_n 0, 1) := by decide +kernel
theorem dX6_goDecade_172 : decode cX6_goDecade 172 = .ok (.iload_n 3, 1) := by decide +kernel
theorem dX6_goDecade_173 : decode cX6_goDecade 173 = .ok (.invokevirtual 179, 3) := by decide +kernel
theorem dX6_goDecade_176 : decode cX6_goDecade 176 = .ok (.iadd, 1) := by decide +kernel
theorem dX6_goDecade_177 : decode cX6_goDecade 177 = .ok (.iastore, 1) := by decide +kernel
theorem dX6_goDecade_178 : decode cX6_goDecade 178 = .ok (.iinc 2 1, 3) := by decide +kernel
theorem dX6_goDecade_181 : decode cX6_goDecade 181 = .ok (.goto (-88), 3) := by decide +kernel
theorem dX6_goDecade_184 : decode cX6_goDecade 184 = .ok (.aload_n 0, 1) := by decide +kernel
theorem dX6_goDecade_185 : decode cX6_goDecade 185 = .ok (.dup, 1) := by decide +kernel
theorem dX6_goDecade_186 : decode cX6_goDecade 186 = .ok (.getfield 193, 3) := by decide +kernel
theorem dX6_goDecade_189 : decode cX6_goDecade 189 = .ok (.aload_n 0, 1) := by decide +kernel
theorem dX6_goDecade_190 : decode cX6_goDecade 190 = .ok (.getfield 214, 3) := by decide +kernel
theorem dX6_goDecade_193 : decode cX6_goDecade 193 = .ok (.invokestatic 220, 3) := by decide +kernel
theorem dX6_goDecade_196 : decode cX6_goDecade 196 = .ok (.iadd, 1) := by decide +kernel
theorem dX6_goDecade_197 : decode cX6_goDecade 197 = .ok (.putfield 193, 3) := by decide +kernel
theorem dX6_goDecade_200 : decode cX6_goDecade 200 = .ok (.iconst 0, 1) := by decide +kernel
theorem dX6_goDecade_201 : decode cX6_goDecade 201 = .ok (.istore_n 2, 1) := by decide +kernel
theorem dX6_goDecade_202 : decode cX6_goDecade 202 = .ok (.iload_n 2, 1) := by decide +kernel
theorem dX6_goDecade_203 : decode cX6_goDecade 203 = .ok (.aload_n 0, 1) := by decide +kernel
theorem dX6_goDecade_204 : decode cX6_goDecade 204 = .ok (.getfield 107, 3) := by decide +kernel
theorem dX6_goDecade_207 : decode cX6_goDecade 207 = .ok (.if_icmp .ge 33, 3) := by decide +kernel
theorem dX6_goDecade_210 : decode cX6_goDecade 210 = .ok (.aload_n 0, 1) := by decide +kernel
theorem dX6_goDecade_211 : decode cX6_goDecade 211 = .ok (.getfield 61, 3) := by decide +kernel
theorem dX6_goDecade_214 : decode cX6_goDecade 214 = .ok (.iload_n 2, 1) := by decide +kernel
theorem dX6_goDecade_215 : decode cX6_goDecade 215 = .ok (.dup2, 1) := by decide +kernel
theorem dX6_goDecade_216 : decode cX6_goDecade 216 = .ok (.iaload, 1) := by decide +kernel
theorem dX6_goDecade_217 : decode cX6_goDecade 217 = .ok (.aload_n 0, 1) := by decide +kernel
theorem dX6_goDecade_218 : decode cX6_goDecade 218 = .ok (.getfield 52, 3) := by decide +kernel
theorem dX6_goDecade_221 : decode cX6_goDecade 221 = .ok (.iload_n 2, 1) := by decide +kernel
theorem dX6_goDecade_222 : decode cX6_goDecade 222 = .ok (.iaload, 1) := by decide +kernel
theorem dX6_goDecade_223 : decode cX6_goDecade 223 = .ok (.iconst 2, 1) := by decide +kernel
theorem dX6_goDecade_224 : decode cX6_goDecade 224 = .ok (.if_icmp .ne 7, 3) := by decide +kernel
theorem dX6_goDecade_227 : decode cX6_goDecade 227 = .ok (.iconst 1, 1) := by decide +kernel
theorem dX6_goDecade_228 : decode cX6_goDecade 228 = .ok (.goto 4, 3) := by decide +kernel
theorem dX6_goDecade_231 : decode cX6_goDecade 231 = .ok (.iconst 0, 1) := by decide +kernel
theorem dX6_goDecade_232 : decode cX6_goDecade 232 = .ok (.iadd, 1) := by decide +kernel
theorem dX6_goDecade_233 : decode cX6_goDecade 233 = .ok (.iastore, 1) := by decide +kernel
theorem dX6_goDecade_234 : decode cX6_goDecade 234 = .ok (.iinc 2 1, 3) := by decide +kernel
theorem dX6_goDecade_237 : decode cX6_goDecade 237 = .ok (.goto (-35), 3) := by decide +kernel
theorem dX6_goDecade_240 : decode cX6_goDecade 240 = .ok (.return_, 1) := by decide +kernel
theorem dX6_endDecade_0 : decode cX6_endDecade 0 = .ok (.iconst 0, 1) := by decide +kernel
theorem dX6_endDecade_1 : decode cX6_endDecade 1 = .ok (.istore_n 1, 1) := by decide +kernel
theorem dX6_endDecade_2 : decode cX6_endDecade 2 = .ok (.iload_n 1, 1) := by decide +kernel
theorem dX6_endDecade_3 : decode cX6_endDecade 3 = .ok (.aload_n 0, 1) := by decide +kernel
theorem dX6_endDecade_4 : decode cX6_endDecade 4 = .ok (.getfield 107, 3) := by decide +kernel
theorem dX6_endDecade_7 : decode cX6_endDecade 7 = .ok (.if_icmp .ge 33, 3) := by decide +kernel
theorem dX6_endDecade_10 : decode cX6_endDecade 10 = .ok (.aload_n 0, 1) := by decide +kernel
theorem dX6_endDecade_11 : decode cX6_endDecade 11 = .ok (.getfield 55, 3) := by decide +kernel
theorem dX6_endDecade_14 : decode cX6_endDecade 14 = .ok (.iload_n 1, 1) := by decide +kernel
theorem dX6_endDecade_15 : decode cX6_endDecade 15 = .ok (.dup2, 1) := by decide +kernel
theorem dX6_endDecade_16 : decode cX6_endDecade 16 = .ok (.iaload, 1) := by decide +kernel
theorem dX6_endDecade_17 : decode cX6_endDecade 17 = .ok (.aload_n 0, 1) := by decide +kernel
theorem dX6_endDecade_18 : decode cX6_endDecade 18 = .ok (.getfield 52, 3) := by decide +kernel
theorem dX6_endDecade_21 : decode cX6_endDecade 21 = .ok (.iload_n 1, 1) := by decide +kernel
theorem dX6_endDecade_22 : decode cX6_endDecade 22 = .ok (.iaload, 1) := by decide +kernel
theorem dX6_endDecade_23 : decode cX6_endDecade 23 = .ok (.iconst 1, 1) := by decide +kernel
theorem dX6_endDecade_24 : decode cX6_endDecade 24 = .ok (.if_icmp .ne 7, 3) := by decide +kernel
theorem dX6_endDecade_27 : decode cX6_endDecade 27 = .ok (.iconst 1, 1) := by decide +kernel
theorem dX6_endDecade_28 : decode cX6_endDecade 28 = .ok (.goto 4, 3) := by decide +kernel
theorem dX6_endDecade_31 : decode cX6_endDecade 31 = .ok (.iconst 0, 1) := by decide +kernel
theorem dX6_endDecade_32 : decode cX6_endDecade 32 = .ok (.iadd, 1) := by decide +kernel
theorem dX6_endDecade_33 : decode cX6_endDecade 33 = .ok (.iastore, 1) := by decide +kernel
theorem dX6_endDecade_34 : decode cX6_endDecade 34 = .ok (.iinc 1 1, 3) := by decide +kernel
theorem dX6_endDecade_37 : decode cX6_endDecade 37 = .ok (.goto (-35), 3) := by decide +kernel
theorem dX6_endDecade_40 : decode cX6_endDecade 40 = .ok (.return_, 1) := by decide +kernel
theorem dX6_goTo_0 : decode cX6_goTo 0 = .ok (.aload_n 0, 1) := by decide +kernel
theorem dX6_goTo_1 : decode cX6_goTo 1 = .ok (.invokevirtual 223, 3) := by decide +kernel
theorem dX6_goTo_4 : decode cX6_goTo 4 = .ok (.aload_n 0, 1) := by decide +kernel
theorem dX6_goTo_5 : decode cX6_goTo 5 = .ok (.iconst 0, 1) := by decide +kernel
theorem dX6_goTo_6 : decode cX6_goTo 6 = .ok (.invokevirtual 226, 3) := by decide +kernel
theorem dX6_goTo_9 : decode cX6_goTo 9 = .ok (.iconst 1, 1) := by decide +kernel
theorem dX6_goTo_10 : decode cX6_goTo 10 = .ok (.istore_n 2, 1) := by decide +kernel
theorem dX6_goTo_11 : decode cX6_goTo 11 = .ok (.iload_n 2, 1) := by decide +kernel
theorem dX6_goTo_12 : decode cX6_goTo 12 = .ok (.iload_n 1, 1) := by decide +kernel
theorem dX6_goTo_13 : decode cX6_goTo 13 = .ok (.if_icmp .gt 18, 3) := by decide +kernel
theorem dX6_goTo_16 : decode cX6_goTo 16 = .ok (.aload_n 0, 1) := by decide +kernel
theorem dX6_goTo_17 : decode cX6_goTo 17 = .ok (.invokevirtual 229, 3) := by decide +kernel
theorem dX6_goTo_20 : decode cX6_goTo 20 = .ok (.aload_n 0, 1) := by decide +kernel
theorem dX6_goTo_21 : decode cX6_goTo 21 = .ok (.iload_n 2, 1) := by decide +kernel
theorem dX6_goTo_22 : decode cX6_goTo 22 = .ok (.invokevirtual 226, 3) := by decide +kernel
theorem dX6_goTo_25 : decode cX6_goTo 25 = .ok (.iinc 2 1, 3) := by decide +kernel
theorem dX6_goTo_28 : decode cX6_goTo 28 = .ok (.goto (-17), 3) := by decide +kernel
theorem dX6_goTo_31 : decode cX6_goTo 31 = .ok (.return_, 1) := by decide +kernel
theorem dX6_refusedFor_0 : decode cX6_refusedFor 0 = .ok (.iload_n 1, 1) := by decide +kernel
theorem dX6_refusedFor_1 : decode cX6_refusedFor 1 = .ok (.invokestatic 188, 3) := by decide +kernel
theorem dX6_refusedFor_4 : decode cX6_refusedFor 4 = .ok (.ifCond .ne 8, 3) := by decide +kernel
theorem dX6_refusedFor_7 : decode cX6_refusedFor 7 = .ok (.bipush (-2), 2) := by decide +kernel
theorem dX6_refusedFor_9 : decode cX6_refusedFor 9 = .ok (.goto 16, 3) := by decide +kernel
theorem dX6_refusedFor_12 : decode cX6_refusedFor 12 = .ok (.aload_n 0, 1) := by decide +kernel
theorem dX6_refusedFor_13 : decode cX6_refusedFor 13 = .ok (.getfield 107, 3) := by decide +kernel
theorem dX6_refusedFor_16 : decode cX6_refusedFor 16 = .ok (.ifCond .ne 8, 3) := by decide +kernel
theorem dX6_refusedFor_19 : decode cX6_refusedFor 19 = .ok (.bipush (-3), 2) := by decide +kernel
theorem dX6_refusedFor_21 : decode cX6_refusedFor 21 = .ok (.goto 4, 3) := by decide +kernel
theorem dX6_refusedFor_24 : decode cX6_refusedFor 24 = .ok (.iconst 0, 1) := by decide +kernel
theorem dX6_refusedFor_25 : decode cX6_refusedFor 25 = .ok (.ireturn, 1) := by decide +kernel
theorem dX6_guard_0 : decode cX6_guard 0 = .ok (.aload_n 0, 1) := by decide +kernel
theorem dX6_guard_1 : decode cX6_guard 1 = .ok (.iload_n 1, 1) := by decide +kernel
theorem dX6_guard_2 : decode cX6_guard 2 = .ok (.invokevirtual 185, 3) := by decide +kernel
theorem dX6_guard_5 : decode cX6_guard 5 = .ok (.ifCond .eq 5, 3) := by decide +kernel
theorem dX6_guard_8 : decode cX6_guard 8 = .ok (.iconst (-1), 1) := by decide +kernel
theorem dX6_guard_9 : decode cX6_guard 9 = .ok (.ireturn, 1) := by decide +kernel
theorem dX6_guard_10 : decode cX6_guard 10 = .ok (.iload_n 2, 1) := by decide +kernel
theorem dX6_guard_11 : decode cX6_guard 11 = .ok (.invokestatic 188, 3) := by decide +kernel
theorem dX6_guard_14 : decode cX6_guard 14 = .ok (.ifCond .ne 6, 3) := by decide +kernel
theorem dX6_guard_17 : decode cX6_guard 17 = .ok (.bipush (-2), 2) := by decide +kernel
theorem dX6_guard_19 : decode cX6_guard 19 = .ok (.ireturn, 1) := by decide +kernel
theorem dX6_guard_20 : decode cX6_guard 20 = .ok (.aload_n 0, 1) := by decide +kernel
theorem dX6_guard_21 : decode cX6_guard 21 = .ok (.iload_n 2, 1) := by decide +kernel
theorem dX6_guard_22 : decode cX6_guard 22 = .ok (.invokevirtual 232, 3) := by decide +kernel
theorem dX6_guard_25 : decode cX6_guard 25 = .ok (.aload_n 0, 1) := by decide +kernel
theorem dX6_guard_26 : decode cX6_guard 26 = .ok (.getfield 64, 3) := by decide +kernel
theorem dX6_guard_29 : decode cX6_guard 29 = .ok (.iload_n 1, 1) := by decide +kernel
theorem dX6_guard_30 : decode cX6_guard 30 = .ok (.iaload, 1) := by decide +kernel
theorem dX6_guard_31 : decode cX6_guard 31 = .ok (.ireturn, 1) := by decide +kernel
theorem dX6_how_0 : decode cX6_how 0 = .ok (.aload_n 0, 1) := by decide +kernel
theorem dX6_how_1 : decode cX6_how 1 = .ok (.iload_n 1, 1) := by decide +kernel
theorem dX6_how_2 : decode cX6_how 2 = .ok (.invokevirtual 176, 3) := by decide +kernel
theorem dX6_how_5 : decode cX6_how 5 = .ok (.ifCond .eq 5, 3) := by decide +kernel
theorem dX6_how_8 : decode cX6_how 8 = .ok (.iconst (-1), 1) := by decide +kernel
theorem dX6_how_9 : decode cX6_how 9 = .ok (.ireturn, 1) := by decide +kernel
theorem dX6_how_10 : decode cX6_how 10 = .ok (.iload_n 2, 1) := by decide +kernel
theorem dX6_how_11 : decode cX6_how 11 = .ok (.invokestatic 188, 3) := by decide +kernel
theorem dX6_how_14 : decode cX6_how 14 = .ok (.ifCond .ne 6, 3) := by decide +kernel
theorem dX6_how_17 : decode cX6_how 17 = .ok (.bipush (-2), 2) := by decide +kernel
theorem dX6_how_19 : decode cX6_how 19 = .ok (.ireturn, 1) := by decide +kernel
theorem dX6_how_20 : decode cX6_how 20 = .ok (.aload_n 0, 1) := by decide +kernel
theorem dX6_how_21 : decode cX6_how 21 = .ok (.iload_n 2, 1) := by decide +kernel
theorem dX6_how_22 : decode cX6_how 22 = .ok (.invokevirtual 232, 3) := by decide +kernel
theorem dX6_how_25 : decode cX6_how 25 = .ok (.aload_n 0, 1) := by decide +kernel
theorem dX6_how_26 : decode cX6_how 26 = .ok (.getfield 52, 3) := by decide +kernel
theorem dX6_how_29 : decode cX6_how 29 = .ok (.iload_n 1, 1) := by decide +kernel
theorem dX6_how_30 : decode cX6_how 30 = .ok (.iaload, 1) := by decide +kernel
theorem dX6_how_31 : decode cX6_how 31 = .ok (.ireturn, 1) := by decide +kernel
theorem dX6_age_0 : decode cX6_age 0 = .ok (.aload_n 0, 1) := by decide +kernel
theorem dX6_age_1 : decode cX6_age 1 = .ok (.iload_n 1, 1) := by decide +kernel
theorem dX6_age_2 : decode cX6_age 2 = .ok (.invokevirtual 176, 3) := by decide +kernel
theorem dX6_age_5 : decode cX6_age 5 = .ok (.ifCond .eq 5, 3) := by decide +kernel
theorem dX6_age_8 : decode cX6_age 8 = .ok (.iconst (-1), 1) := by decide +kernel
theorem dX6_age_9 : decode cX6_age 9 = .ok (.ireturn, 1) := by decide +kernel
theorem dX6_age_10 : decode cX6_age 10 = .ok (.iload_n 2, 1) := by decide +kernel
theorem dX6_age_11 : decode cX6_age 11 = .ok (.invokestatic 188, 3) := by decide +kernel
theorem dX6_age_14 : decode cX6_age 14 = .ok (.ifCond .ne 6, 3) := by decide +kernel
theorem dX6_age_17 : decode cX6_age 17 = .ok (.bipush (-2), 2) := by decide +kernel
theorem dX6_age_19 : decode cX6_age 19 = .ok (.ireturn, 1) := by decide +kernel
theorem dX6_age_20 : decode cX6_age 20 = .ok (.aload_n 0, 1) := by decide +kernel
theorem dX6_age_21 : decode cX6_age 21 = .ok (.iload_n 2, 1) := by decide +kernel
theorem dX6_age_22 : decode cX6_age 22 = .ok (.invokevirtual 232, 3) := by decide +kernel
theorem dX6_age_25 : decode cX6_age 25 = .ok (.aload_n 0, 1) := by decide +kernel
theorem dX6_age_26 : decode cX6_age 26 = .ok (.invokevirtual 229, 3) := by decide +kernel
theorem dX6_age_29 : decode cX6_age 29 = .ok (.aload_n 0, 1) := by decide +kernel
theorem dX6_age_30 : decode cX6_age 30 = .ok (.getfield 55, 3) := by decide +kernel
theorem dX6_age_33 : decode cX6_age 33 = .ok (.iload_n 1, 1) := by decide +kernel
theorem dX6_age_34 : decode cX6_age 34 = .ok (.iaload, 1) := by decide +kernel
theorem dX6_age_35 : decode cX6_age 35 = .ok (.ireturn, 1) := by decide +kernel
theorem dX6_empty_0 : decode cX6_empty 0 = .ok (.aload_n 0, 1) := by decide +kernel
theorem dX6_empty_1 : decode cX6_empty 1 = .ok (.iload_n 1, 1) := by decide +kernel
theorem dX6_empty_2 : decode cX6_empty 2 = .ok (.invokevirtual 235, 3) := by decide +kernel
theorem dX6_empty_5 : decode cX6_empty 5 = .ok (.istore_n 2, 1) := by decide +kernel
theorem dX6_empty_6 : decode cX6_empty 6 = .ok (.iload_n 2, 1) := by decide +kernel
theorem dX6_empty_7 : decode cX6_empty 7 = .ok (.ifCond .ge 5, 3) := by decide +kernel
theorem dX6_empty_10 : decode cX6_empty 10 = .ok (.iload_n 2, 1) := by decide +kernel
theorem dX6_empty_11 : decode cX6_empty 11 = .ok (.ireturn, 1) := by decide +kernel
theorem dX6_empty_12 : decode cX6_empty 12 = .ok (.aload_n 0, 1) := by decide +kernel
theorem dX6_empty_13 : decode cX6_empty 13 = .ok (.iload_n 1, 1) := by decide +kernel
theorem dX6_empty_14 : decode cX6_empty 14 = .ok (.invokevirtual 232, 3) := by decide +kernel
theorem dX6_empty_17 : decode cX6_empty 17 = .ok (.aload_n 0, 1) := by decide +kernel
theorem dX6_empty_18 : decode cX6_empty 18 = .ok (.getfield 214, 3) := by decide +kernel
theorem dX6_empty_21 : decode cX6_empty 21 = .ok (.ireturn, 1) := by decide +kernel
theorem dX6_empties_0 : decode cX6_empties 0 = .ok (.aload_n 0, 1) := by decide +kernel
theorem dX6_empties_1 : decode cX6_empties 1 = .ok (.iload_n 1, 1) := by decide +kernel
theorem dX6_empties_2 : decode cX6_empties 2 = .ok (.invokevirtual 235, 3) := by decide +kernel
theorem dX6_empties_5 : decode cX6_empties 5 = .ok (.istore_n 2, 1) := by decide +kernel
theorem dX6_empties_6 : decode cX6_empties 6 = .ok (.iload_n 2, 1) := by decide +kernel
theorem dX6_empties_7 : decode cX6_empties 7 = .ok (.ifCond .ge 5, 3) := by decide +kernel
theorem dX6_empties_10 : decode cX6_empties 10 = .ok (.iload_n 2, 1) := by decide +kernel
theorem dX6_empties_11 : decode cX6_empties 11 = .ok (.ireturn, 1) := by decide +kernel
theorem dX6_empties_12 : decode cX6_empties 12 = .ok (.aload_n 0, 1) := by decide +kernel
theorem dX6_empties_13 : decode cX6_empties 13 = .ok (.iload_n 1, 1) := by decide +kernel
theorem dX6_empties_14 : decode cX6_empties 14 = .ok (.invokevirtual 232, 3) := by decide +kernel
theorem dX6_empties_17 : decode cX6_empties 17 = .ok (.aload_n 0, 1) := by decide +kernel
theorem dX6_empties_18 : decode cX6_empties 18 = .ok (.getfield 193, 3) := by decide +kernel
theorem dX6_empties_21 : decode cX6_empties 21 = .ok (.ireturn, 1) := by decide +kernel
theorem dX6_awake_0 : decode cX6_awake 0 = .ok (.aload_n 0, 1) := by decide +kernel
theorem dX6_awake_1 : decode cX6_awake 1 = .ok (.iload_n 1, 1) := by decide +kernel
theorem dX6_awake_2 : decode cX6_awake 2 = .ok (.invokevirtual 235, 3) := by decide +kernel
theorem dX6_awake_5 : decode cX6_awake 5 = .ok (.istore_n 2, 1) := by decide +kernel
theorem dX6_awake_6 : decode cX6_awake 6 = .ok (.iload_n 2, 1) := by decide +kernel
theorem dX6_awake_7 : decode cX6_awake 7 = .ok (.ifCond .ge 5, 3) := by decide +kernel
theorem dX6_awake_10 : decode cX6_awake 10 = .ok (.iload_n 2, 1) := by decide +kernel
theorem dX6_awake_11 : decode cX6_awake 11 = .ok (.ireturn, 1) := by decide +kernel
theorem dX6_awake_12 : decode cX6_awake 12 = .ok (.aload_n 0, 1) := by decide +kernel
theorem dX6_awake_13 : decode cX6_awake 13 = .ok (.iload_n 1, 1) := by decide +kernel
theorem dX6_awake_14 : decode cX6_awake 14 = .ok (.invokevirtual 232, 3) := by decide +kernel
theorem dX6_awake_17 : decode cX6_awake 17 = .ok (.iconst 0, 1) := by decide +kernel
theorem dX6_awake_18 : decode cX6_awake 18 = .ok (.istore_n 3, 1) := by decide +kernel
theorem dX6_awake_19 : decode cX6_awake 19 = .ok (.iconst 0, 1) := by decide +kernel
theorem dX6_awake_20 : decode cX6_awake 20 = .ok (.istore 4, 2) := by decide +kernel
theorem dX6_awake_22 : decode cX6_awake 22 = .ok (.iload 4, 2) := by decide +kernel
theorem dX6_awake_24 : decode cX6_awake 24 = .ok (.aload_n 0, 1) := by decide +kernel
theorem dX6_awake_25 : decode cX6_awake 25 = .ok (.getfield 107, 3) := by decide +kernel
theorem dX6_awake_28 : decode cX6_awake 28 = .ok (.if_icmp .ge 31, 3) := by decide +kernel
theorem dX6_awake_31 : decode cX6_awake 31 = .ok (.iload_n 3, 1) := by decide +kernel
theorem dX6_awake_32 : decode cX6_awake 32 = .ok (.aload_n 0, 1) := by decide +kernel
theorem dX6_awake_33 : decode cX6_awake 33 = .ok (.getfield 52, 3) := by decide +kernel
theorem dX6_awake_36 : decode cX6_awake 36 = .ok (.iload 4, 2) := by decide +kernel
theorem dX6_awake_38 : decode cX6_awake 38 = .ok (.iaload, 1) := by decide +kernel
theorem dX6_awake_39 : decode cX6_awake 39 = .ok (.iconst 1, 1) := by decide +kernel
theorem dX6_awake_40 : decode cX6_awake 40 = .ok (.if_icmp .ne 10, 3) := by decide +kernel
theorem dX6_awake_43 : decode cX6_awake 43 = .ok (.iconst 1, 1) := by decide +kernel
theorem dX6_awake_44 : decode cX6_awake 44 = .ok (.iload 4, 2) := by decide +kernel
theorem dX6_awake_46 : decode cX6_awake 46 = .ok (.ishl, 1) := by decide +kernel
theorem dX6_awake_47 : decode cX6_awake 47 = .ok (.goto 4, 3) := by decide +kernel
theorem dX6_awake_50 : decode cX6_awake 50 = .ok (.iconst 0, 1) := by decide +kernel
theorem dX6_awake_51 : decode cX6_awake 51 = .ok (.ior, 1) := by decide +kernel
theorem dX6_awake_52 : decode cX6_awake 52 = .ok (.istore_n 3, 1) := by decide +kernel
theorem dX6_awake_53 : decode cX6_awake 53 = .ok (.iinc 4 1, 3) := by decide +kernel
theorem dX6_awake_56 : decode cX6_awake 56 = .ok (.goto (-34), 3) := by decide +kernel
theorem dX6_awake_59 : decode cX6_awake 59 = .ok (.iload_n 3, 1) := by decide +kernel
theorem dX6_awake_60 : decode cX6_awake 60 = .ok (.ireturn, 1) := by decide +kernel
theorem dX6_slept_0 : decode cX6_slept 0 = .ok (.aload_n 0, 1) := by decide +kernel
theorem dX6_slept_1 : decode cX6_slept 1 = .ok (.iload_n 1, 1) := by decide +kernel
theorem dX6_slept_2 : decode cX6_slept 2 = .ok (.invokevirtual 176, 3) := by decide +kernel
theorem dX6_slept_5 : decode cX6_slept 5 = .ok (.ifCond .eq 5, 3) := by decide +kernel
theorem dX6_slept_8 : decode cX6_slept 8 = .ok (.iconst (-1), 1) := by decide +kernel
theorem dX6_slept_9 : decode cX6_slept 9 = .ok (.ireturn, 1) := by decide +kernel
theorem dX6_slept_10 : decode cX6_slept 10 = .ok (.iload_n 2, 1) := by decide +kernel
theorem dX6_slept_11 : decode cX6_slept 11 = .ok (.invokestatic 188, 3) := by decide +kernel
theorem dX6_slept_14 : decode cX6_slept 14 = .ok (.ifCond .ne 6, 3) := by decide +kernel
theorem dX6_slept_17 : decode cX6_slept 17 = .ok (.bipush (-2), 2) := by decide +kernel
theorem dX6_slept_19 : decode cX6_slept 19 = .ok (.ireturn, 1) := by decide +kernel
theorem dX6_slept_20 : decode cX6_slept 20 = .ok (.aload_n 0, 1) := by decide +kernel
theorem dX6_slept_21 : decode cX6_slept 21 = .ok (.iload_n 2, 1) := by decide +kernel
theorem dX6_slept_22 : decode cX6_slept 22 = .ok (.invokevirtual 232, 3) := by decide +kernel
theorem dX6_slept_25 : decode cX6_slept 25 = .ok (.aload_n 0, 1) := by decide +kernel
theorem dX6_slept_26 : decode cX6_slept 26 = .ok (.getfield 61, 3) := by decide +kernel
theorem dX6_slept_29 : decode cX6_slept 29 = .ok (.iload_n 1, 1) := by decide +kernel
theorem dX6_slept_30 : decode cX6_slept 30 = .ok (.iaload, 1) := by decide +kernel
theorem dX6_slept_31 : decode cX6_slept 31 = .ok (.ireturn, 1) := by decide +kernel
theorem dX6_noneEmpty_0 : decode cX6_noneEmpty 0 = .ok (.aload_n 0, 1) := by decide +kernel
theorem dX6_noneEmpty_1 : decode cX6_noneEmpty 1 = .ok (.iload_n 1, 1) := by decide +kernel
theorem dX6_noneEmpty_2 : decode cX6_noneEmpty 2 = .ok (.invokevirtual 232, 3) := by decide +kernel
theorem dX6_noneEmpty_5 : decode cX6_noneEmpty 5 = .ok (.aload_n 0, 1) := by decide +kernel
theorem dX6_noneEmpty_6 : decode cX6_noneEmpty 6 = .ok (.getfield 193, 3) := by decide +kernel
theorem dX6_noneEmpty_9 : decode cX6_noneEmpty 9 = .ok (.ifCond .ne 7, 3) := by decide +kernel
theorem dX6_noneEmpty_12 : decode cX6_noneEmpty 12 = .ok (.iconst 1, 1) := by decide +kernel
theorem dX6_noneEmpty_13 : decode cX6_noneEmpty 13 = .ok (.goto 4, 3) := by decide +kernel
theorem dX6_noneEmpty_16 : decode cX6_noneEmpty 16 = .ok (.iconst 0, 1) := by decide +kernel
theorem dX6_noneEmpty_17 : decode cX6_noneEmpty 17 = .ok (.ireturn, 1) := by decide +kernel
theorem dX6_fewest_0 : decode cX6_fewest 0 = .ok (.aload_n 0, 1) := by decide +kernel
theorem dX6_fewest_1 : decode cX6_fewest 1 = .ok (.iload_n 1, 1) := by decide +kernel
theorem dX6_fewest_2 : decode cX6_fewest 2 = .ok (.invokevirtual 235, 3) := by decide +kernel
theorem dX6_fewest_5 : decode cX6_fewest 5 = .ok (.istore_n 2, 1) := by decide +kernel
theorem dX6_fewest_6 : decode cX6_fewest 6 = .ok (.iload_n 2, 1) := by decide +kernel
theorem dX6_fewest_7 : decode cX6_fewest 7 = .ok (.ifCond .ge 5, 3) := by decide +kernel
theorem dX6_fewest_10 : decode cX6_fewest 10 = .ok (.iload_n 2, 1) := by decide +kernel
theorem dX6_fewest_11 : decode cX6_fewest 11 = .ok (.ireturn, 1) := by decide +kernel
theorem dX6_fewest_12 : decode cX6_fewest 12 = .ok (.aload_n 0, 1) := by decide +kernel
theorem dX6_fewest_13 : decode cX6_fewest 13 = .ok (.getfield 164, 3) := by decide +kernel
theorem dX6_fewest_16 : decode cX6_fewest 16 = .ok (.istore_n 3, 1) := by decide +kernel
theorem dX6_fewest_17 : decode cX6_fewest 17 = .ok (.bipush (-9), 2) := by decide +kernel
theorem dX6_fewest_19 : decode cX6_fewest 19 = .ok (.istore 4, 2) := by decide +kernel
theorem dX6_fewest_21 : decode cX6_fewest 21 = .ok (.iconst 0, 1) := by decide +kernel
theorem dX6_fewest_22 : decode cX6_fewest 22 = .ok (.istore 5, 2) := by decide +kernel
theorem dX6_fewest_24 : decode cX6_fewest 24 = .ok (.iload 5, 2) := by decide +kernel
theorem dX6_fewest_26 : decode cX6_fewest 26 = .ok (.aload_n 0, 1) := by decide +kernel
theorem dX6_fewest_27 : decode cX6_fewest 27 = .ok (.invokevirtual 206, 3) := by decide +kernel
theorem dX6_fewest_30 : decode cX6_fewest 30 = .ok (.if_icmp .gt 57, 3) := by decide +kernel
theorem dX6_fewest_33 : decode cX6_fewest 33 = .ok (.iload 4, 2) := by decide +kernel
theorem dX6_fewest_35 : decode cX6_fewest 35 = .ok (.ifCond .lt 16, 3) := by decide +kernel
theorem dX6_fewest_38 : decode cX6_fewest 38 = .ok (.iload 5, 2) := by decide +kernel
theorem dX6_fewest_40 : decode cX6_fewest 40 = .ok (.invokestatic 220, 3) := by decide +kernel
theorem dX6_fewest_43 : decode cX6_fewest 43 = .ok (.iload 4, 2) := by decide +kernel
theorem dX6_fewest_45 : decode cX6_fewest 45 = .ok (.invokestatic 220, 3) := by decide +kernel
theorem dX6_fewest_48 : decode cX6_fewest 48 = .ok (.if_icmp .ge 33, 3) := by decide +kernel
theorem dX6_fewest_51 : decode cX6_fewest 51 = .ok (.aload_n 0, 1) := by decide +kernel
theorem dX6_fewest_52 : decode cX6_fewest 52 = .ok (.aload_n 0, 1) := by decide +kernel
theorem dX6_fewest_53 : decode cX6_fewest 53 = .ok (.invokevirtual 206, 3) := by decide +kernel
theorem dX6_fewest_56 : decode cX6_fewest 56 = .ok (.iload 5, 2) := by decide +kernel
theorem dX6_fewest_58 : decode cX6_fewest 58 = .ok (.iconst (-1), 1) := by decide +kernel
theorem dX6_fewest_59 : decode cX6_fewest 59 = .ok (.ixor, 1) := by decide +kernel
theorem dX6_fewest_60 : decode cX6_fewest 60 = .ok (.iand, 1) := by decide +kernel
theorem dX6_fewest_61 : decode cX6_fewest 61 = .ok (.putfield 164, 3) := by decide +kernel
theorem dX6_fewest_64 : decode cX6_fewest 64 = .ok (.aload_n 0, 1) := by decide +kernel
theorem dX6_fewest_65 : decode cX6_fewest 65 = .ok (.iload_n 1, 1) := by decide +kernel
theorem dX6_fewest_66 : decode cX6_fewest 66 = .ok (.invokevirtual 238, 3) := by decide +kernel
theorem dX6_fewest_69 : decode cX6_fewest 69 = .ok (.ifCond .eq 8, 3) := by decide +kernel
theorem dX6_fewest_72 : decode cX6_fewest 72 = .ok (.iload 5, 2) := by decide +kernel
theorem dX6_fewest_74 : decode cX6_fewest 74 = .ok (.goto 5, 3) := by decide +kernel
theorem dX6_fewest_77 : decode cX6_fewest 77 = .ok (.iload 4, 2) := by decide +kernel
theorem dX6_fewest_79 : decode cX6_fewest 79 = .ok (.istore 4, 2) := by decide +kernel
theorem dX6_fewest_81 : decode cX6_fewest 81 = .ok (.iinc 5 1, 3) := by decide +kernel
theorem dX6_fewest_84 : decode cX6_fewest 84 = .ok (.goto (-60), 3) := by decide +kernel
theorem dX6_fewest_87 : decode cX6_fewest 87 = .ok (.aload_n 0, 1) := by decide +kernel
theorem dX6_fewest_88 : decode cX6_fewest 88 = .ok (.iload_n 3, 1) := by decide +kernel
theorem dX6_fewest_89 : decode cX6_fewest 89 = .ok (.putfield 164, 3) := by decide +kernel
theorem dX6_fewest_92 : decode cX6_fewest 92 = .ok (.iload 4, 2) := by decide +kernel
theorem dX6_fewest_94 : decode cX6_fewest 94 = .ok (.ireturn, 1) := by decide +kernel
theorem dX6_allEmpties_0 : decode cX6_allEmpties 0 = .ok (.aload_n 0, 1) := by decide +kernel
theorem dX6_allEmpties_1 : decode cX6_allEmpties 1 = .ok (.bipush 39, 2) := by decide +kernel
theorem dX6_allEmpties_3 : decode cX6_allEmpties 3 = .ok (.invokevirtual 232, 3) := by decide +kernel
theorem dX6_allEmpties_6 : decode cX6_allEmpties 6 = .ok (.aload_n 0, 1) := by decide +kernel
theorem dX6_allEmpties_7 : decode cX6_allEmpties 7 = .ok (.getfield 193, 3) := by decide +kernel
theorem dX6_allEmpties_10 : decode cX6_allEmpties 10 = .ok (.ireturn, 1) := by decide +kernel
theorem dX6_help_0 : decode cX6_help 0 = .ok (.iload_n 1, 1) := by decide +kernel
theorem dX6_help_1 : decode cX6_help 1 = .ok (.i2l, 1) := by decide +kernel
theorem dX6_help_2 : decode cX6_help 2 = .ok (.lconst 0, 1) := by decide +kernel
theorem dX6_help_3 : decode cX6_help 3 = .ok (.lconst 1, 1) := by decide +kernel
theorem dX6_help_4 : decode cX6_help 4 = .ok (.invokestatic 110, 3) := by decide +kernel
theorem dX6_help_7 : decode cX6_help 7 = .ok (.ifCond .ne 6, 3) := by decide +kernel
theorem dX6_help_10 : decode cX6_help 10 = .ok (.bipush (-2), 2) := by decide +kernel
theorem dX6_help_12 : decode cX6_help 12 = .ok (.ireturn, 1) := by decide +kernel
theorem dX6_help_13 : decode cX6_help 13 = .ok (.aload_n 0, 1) := by decide +kernel
theorem dX6_help_14 : decode cX6_help 14 = .ok (.getfield 107, 3) := by decide +kernel
theorem dX6_help_17 : decode cX6_help 17 = .ok (.ifCond .ne 6, 3) := by decide +kernel
theorem dX6_help_20 : decode cX6_help 20 = .ok (.bipush (-3), 2) := by decide +kernel
theorem dX6_help_22 : decode cX6_help 22 = .ok (.ireturn, 1) := by decide +kernel
theorem dX6_help_23 : decode cX6_help 23 = .ok (.bipush (-9), 2) := by decide +kernel
theorem dX6_help_25 : decode cX6_help 25 = .ok (.istore_n 2, 1) := by decide +kernel
theorem dX6_help_26 : decode cX6_help 26 = .ok (.aload_n 0, 1) := by decide +kernel
theorem dX6_help_27 : decode cX6_help 27 = .ok (.invokevirtual 241, 3) := by decide +kernel
theorem dX6_help_30 : decode cX6_help 30 = .ok (.istore_n 3, 1) := by decide +kernel
theorem dX6_help_31 : decode cX6_help 31 = .ok (.aload_n 0, 1) := by decide +kernel
theorem dX6_help_32 : decode cX6_help 32 = .ok (.dup, 1) := by decide +kernel
theorem dX6_help_33 : decode cX6_help 33 = .ok (.getfield 170, 3) := by decide +kernel
theorem dX6_help_36 : decode cX6_help 36 = .ok (.iconst 1, 1) := by decide +kernel
theorem dX6_help_37 : decode cX6_help 37 = .ok (.iadd, 1) := by decide +kernel
theorem dX6_help_38 : decode cX6_help 38 = .ok (.putfield 170, 3) := by decide +kernel
theorem dX6_help_41 : decode cX6_help 41 = .ok (.aload_n 0, 1) := by decide +kernel
theorem dX6_help_42 : decode cX6_help 42 = .ok (.getfield 170, 3) := by decide +kernel
theorem dX6_help_45 : decode cX6_help 45 = .ok (.iconst 1, 1) := by decide +kernel
theorem dX6_help_46 : decode cX6_help 46 = .ok (.isub, 1) := by decide +kernel
theorem dX6_help_47 : decode cX6_help 47 = .ok (.istore 4, 2) := by decide +kernel
theorem dX6_help_49 : decode cX6_help 49 = .ok (.iconst 0, 1) := by decide +kernel
theorem dX6_help_50 : decode cX6_help 50 = .ok (.istore 5, 2) := by decide +kernel
theorem dX6_help_52 : decode cX6_help 52 = .ok (.iload 5, 2) := by decide +kernel
theorem dX6_help_54 : decode cX6_help 54 = .ok (.aload_n 0, 1) := by decide +kernel
theorem dX6_help_55 : decode cX6_help 55 = .ok (.getfield 114, 3) := by decide +kernel
theorem dX6_help_58 : decode cX6_help 58 = .ok (.aload_n 0, 1) := by decide +kernel
theorem dX6_help_59 : decode cX6_help 59 = .ok (.getfield 107, 3) := by decide +kernel
theorem dX6_help_62 : decode cX6_help 62 = .ok (.imul, 1) := by decide +kernel
theorem dX6_help_63 : decode cX6_help 63 = .ok (.bipush 40, 2) := by decide +kernel
theorem dX6_help_65 : decode cX6_help 65 = .ok (.imul, 1) := by decide +kernel
theorem dX6_help_66 : decode cX6_help 66 = .ok (.if_icmp .ge 115, 3) := by decide +kernel
theorem dX6_help_69 : decode cX6_help 69 = .ok (.aload_n 0, 1) := by decide +kernel
theorem dX6_help_70 : decode cX6_help 70 = .ok (.getfield 43, 3) := by decide +kernel
theorem dX6_help_73 : decode cX6_help 73 = .ok (.iload 4, 2) := by decide +kernel
theorem dX6_help_75 : decode cX6_help 75 = .ok (.iload 5, 2) := by decide +kernel
theorem dX6_help_77 : decode cX6_help 77 = .ok (.bipush 40, 2) := by decide +kernel
theorem dX6_help_79 : decode cX6_help 79 = .ok (.idiv, 1) := by decide +kernel
theorem dX6_help_80 : decode cX6_help 80 = .ok (.aload_n 0, 1) := by decide +kernel
theorem dX6_help_81 : decode cX6_help 81 = .ok (.getfield 107, 3) := by decide +kernel
theorem dX6_help_84 : decode cX6_help 84 = .ok (.idiv, 1) := by decide +kernel
theorem dX6_help_85 : decode cX6_help 85 = .ok (.iastore, 1) := by decide +kernel
theorem dX6_help_86 : decode cX6_help 86 = .ok (.aload_n 0, 1) := by decide +kernel
theorem dX6_help_87 : decode cX6_help 87 = .ok (.getfield 46, 3) := by decide +kernel
theorem dX6_help_90 : decode cX6_help 90 = .ok (.iload 4, 2) := by decide +kernel
theorem dX6_help_92 : decode cX6_help 92 = .ok (.iload 5, 2) := by decide +kernel
theorem dX6_help_94 : decode cX6_help 94 = .ok (.bipush 40, 2) := by decide +kernel
theorem dX6_help_96 : decode cX6_help 96 = .ok (.idiv, 1) := by decide +kernel
theorem dX6_help_97 : decode cX6_help 97 = .ok (.aload_n 0, 1) := by decide +kernel
theorem dX6_help_98 : decode cX6_help 98 = .ok (.getfield 107, 3) := by decide +kernel
theorem dX6_help_101 : decode cX6_help 101 = .ok (.irem, 1) := by decide +kernel
theorem dX6_help_102 : decode cX6_help 102 = .ok (.iastore, 1) := by decide +kernel
theorem dX6_help_103 : decode cX6_help 103 = .ok (.aload_n 0, 1) := by decide +kernel
theorem dX6_help_104 : decode cX6_help 104 = .ok (.getfield 49, 3) := by decide +kernel
theorem dX6_help_107 : decode cX6_help 107 = .ok (.iload 4, 2) := by decide +kernel
theorem dX6_help_109 : decode cX6_help 109 = .ok (.iload 5, 2) := by decide +kernel
theorem dX6_help_111 : decode cX6_help 111 = .ok (.bipush 40, 2) := by decide +kernel
theorem dX6_help_113 : decode cX6_help 113 = .ok (.irem, 1) := by decide +kernel
theorem dX6_help_114 : decode cX6_help 114 = .ok (.iastore, 1) := by decide +kernel
theorem dX6_help_115 : decode cX6_help 115 = .ok (.aload_n 0, 1) := by decide +kernel
theorem dX6_help_116 : decode cX6_help 116 = .ok (.invokevirtual 241, 3) := by decide +kernel
theorem dX6_help_119 : decode cX6_help 119 = .ok (.istore 6, 2) := by decide +kernel
theorem dX6_help_121 : decode cX6_help 121 = .ok (.iload 6, 2) := by decide +kernel
theorem dX6_help_123 : decode cX6_help 123 = .ok (.iload_n 3, 1) := by decide +kernel
theorem dX6_help_124 : decode cX6_help 124 = .ok (.if_icmp .ge 36, 3) := by decide +kernel
theorem dX6_help_127 : decode cX6_help 127 = .ok (.sipush 1000, 3) := by decide +kernel
theorem dX6_help_130 : decode cX6_help 130 = .ok (.aload_n 0, 1) := by decide +kernel
theorem dX6_help_131 : decode cX6_help 131 = .ok (.getfield 43, 3) := by decide +kernel
theorem dX6_help_134 : decode cX6_help 134 = .ok (.iload 4, 2) := by decide +kernel
theorem dX6_help_136 : decode cX6_help 136 = .ok (.iaload, 1) := by decide +kernel
theorem dX6_help_137 : decode cX6_help 137 = .ok (.imul, 1) := by decide +kernel
theorem dX6_help_138 : decode cX6_help 138 = .ok (.bipush 100, 2) := by decide +kernel
theorem dX6_help_140 : decode cX6_help 140 = .ok (.aload_n 0, 1) := by decide +kernel
theorem dX6_help_141 : decode cX6_help 141 = .ok (.getfield 46, 3) := by decide +kernel
theorem dX6_help_144 : decode cX6_help 144 = .ok (.iload 4, 2) := by decide +kernel
theorem dX6_help_146 : decode cX6_help 146 = .ok (.iaload, 1) := by decide +kernel
theorem dX6_help_147 : decode cX6_help 147 = .ok (.imul, 1) := by decide +kernel
theorem dX6_help_148 : decode cX6_help 148 = .ok (.iadd, 1) := by decide +kernel
theorem dX6_help_149 : decode cX6_help 149 = .ok (.aload_n 0, 1) := by decide +kernel
theorem dX6_help_150 : decode cX6_help 150 = .ok (.getfield 49, 3) := by decide +kernel
theorem dX6_help_153 : decode cX6_help 153 = .ok (.iload 4, 2) := by decide +kernel
theorem dX6_help_155 : decode cX6_help 155 = .ok (.iaload, 1) := by decide +kernel
theorem dX6_help_156 : decode cX6_help 156 = .ok (.iadd, 1) := by decide +kernel
theorem dX6_help_157 : decode cX6_help 157 = .ok (.goto 4, 3) := by decide +kernel
theorem dX6_help_160 : decode cX6_help 160 = .ok (.iload_n 2, 1) := by decide +kernel
theorem dX6_help_161 : decode cX6_help 161 = .ok (.istore_n 2, 1) := by decide +kernel
theorem dX6_help_162 : decode cX6_help 162 = .ok (.iload 6, 2) := by decide +kernel
theorem dX6_help_164 : decode cX6_help 164 = .ok (.iload_n 3, 1) := by decide +kernel
theorem dX6_help_165 : decode cX6_help 165 = .ok (.if_icmp .ge 8, 3) := by decide +kernel
theorem dX6_help_168 : decode cX6_help 168 = .ok (.iload 6, 2) := by decide +kernel
theorem dX6_help_170 : decode cX6_help 170 = .ok (.goto 4, 3) := by decide +kernel
theorem dX6_help_173 : decode cX6_help 173 = .ok (.iload_n 3, 1) := by decide +kernel
theorem dX6_help_174 : decode cX6_help 174 = .ok (.istore_n 3, 1) := by decide +kernel
theorem dX6_help_175 : decode cX6_help 175 = .ok (.iinc 5 1, 3) := by decide +kernel
theorem dX6_help_178 : decode cX6_help 178 = .ok (.goto (-126), 3) := by decide +kernel
theorem dX6_help_181 : decode cX6_help 181 = .ok (.aload_n 0, 1) := by decide +kernel
theorem dX6_help_182 : decode cX6_help 182 = .ok (.dup, 1) := by decide +kernel
theorem dX6_help_183 : decode cX6_help 183 = .ok (.getfield 170, 3) := by decide +kernel
theorem dX6_help_186 : decode cX6_help 186 = .ok (.iconst 1, 1) := by decide +kernel
theorem dX6_help_187 : decode cX6_help 187 = .ok (.isub, 1) := by decide +kernel
theorem dX6_help_188 : decode cX6_help 188 = .ok (.putfield 170, 3) := by decide +kernel
theorem dX6_help_191 : decode cX6_help 191 = .ok (.iload_n 1, 1) := by decide +kernel
theorem dX6_help_192 : decode cX6_help 192 = .ok (.ifCond .ne 7, 3) := by decide +kernel
theorem dX6_help_195 : decode cX6_help 195 = .ok (.iload_n 2, 1) := by decide +kernel
theorem dX6_help_196 : decode cX6_help 196 = .ok (.goto 4, 3) := by decide +kernel
theorem dX6_help_199 : decode cX6_help 199 = .ok (.iload_n 3, 1) := by decide +kernel
theorem dX6_help_200 : decode cX6_help 200 = .ok (.ireturn, 1) := by decide +kernel
theorem dX6_emptiesBy_0 : decode cX6_emptiesBy 0 = .ok (.aload_n 0, 1) := by decide +kernel
theorem dX6_emptiesBy_1 : decode cX6_emptiesBy 1 = .ok (.getfield 170, 3) := by decide +kernel
theorem dX6_emptiesBy_4 : decode cX6_emptiesBy 4 = .ok (.istore_n 3, 1) := by decide +kernel
theorem dX6_emptiesBy_5 : decode cX6_emptiesBy 5 = .ok (.iconst 0, 1) := by decide +kernel
theorem dX6_emptiesBy_6 : decode cX6_emptiesBy 6 = .ok (.istore 4, 2) := by decide +kernel
theorem dX6_emptiesBy_8 : decode cX6_emptiesBy 8 = .ok (.iload 4, 2) := by decide +kernel
theorem dX6_emptiesBy_10 : decode cX6_emptiesBy 10 = .ok (.iload_n 3, 1) := by decide +kernel
theorem dX6_emptiesBy_11 : decode cX6_emptiesBy 11 = .ok (.if_icmp .ge 51, 3) := by decide +kernel
theorem dX6_emptiesBy_14 : decode cX6_emptiesBy 14 = .ok (.aload_n 0, 1) := by decide +kernel
theorem dX6_emptiesBy_15 : decode cX6_emptiesBy 15 = .ok (.getfield 67, 3) := by decide +kernel
theorem dX6_emptiesBy_18 : decode cX6_emptiesBy 18 = .ok (.iload 4, 2) := by decide +kernel
theorem dX6_emptiesBy_20 : decode cX6_emptiesBy 20 = .ok (.aload_n 0, 1) := by decide +kernel
theorem dX6_emptiesBy_21 : decode cX6_emptiesBy 21 = .ok (.getfield 43, 3) := by decide +kernel
theorem dX6_emptiesBy_24 : decode cX6_emptiesBy 24 = .ok (.iload 4, 2) := by decide +kernel
theorem dX6_emptiesBy_26 : decode cX6_emptiesBy 26 = .ok (.iaload, 1) := by decide +kernel
theorem dX6_emptiesBy_27 : decode cX6_emptiesBy 27 = .ok (.iastore, 1) := by decide +kernel
theorem dX6_emptiesBy_28 : decode cX6_emptiesBy 28 = .ok (.aload_n 0, 1) := by decide +kernel
theorem dX6_emptiesBy_29 : decode cX6_emptiesBy 29 = .ok (.getfield 70, 3) := by decide +kernel
theorem dX6_emptiesBy_32 : decode cX6_emptiesBy 32 = .ok (.iload 4, 2) := by decide +kernel
theorem dX6_emptiesBy_34 : decode cX6_emptiesBy 34 = .ok (.aload_n 0, 1) := by decide +kernel
theorem dX6_emptiesBy_35 : decode cX6_emptiesBy 35 = .ok (.getfield 46, 3) := by decide +kernel
theorem dX6_emptiesBy_38 : decode cX6_emptiesBy 38 = .ok (.iload 4, 2) := by decide +kernel
theorem dX6_emptiesBy_40 : decode cX6_emptiesBy 40 = .ok (.iaload, 1) := by decide +kernel
theorem dX6_emptiesBy_41 : decode cX6_emptiesBy 41 = .ok (.iastore, 1) := by decide +kernel
theorem dX6_emptiesBy_42 : decode cX6_emptiesBy 42 = .ok (.aload_n 0, 1) := by decide +kernel
theorem dX6_emptiesBy_43 : decode cX6_emptiesBy 43 = .ok (.getfield 73, 3) := by decide +kernel
theorem dX6_emptiesBy_46 : decode cX6_emptiesBy 46 = .ok (.iload 4, 2) := by decide +kernel
theorem dX6_emptiesBy_48 : decode cX6_emptiesBy 48 = .ok (.aload_n 0, 1) := by decide +kernel
theorem dX6_emptiesBy_49 : decode cX6_emptiesBy 49 = .ok (.getfield 49, 3) := by decide +kernel
theorem dX6_emptiesBy_52 : decode cX6_emptiesBy 52 = .ok (.iload 4, 2) := by decide +kernel
theorem dX6_emptiesBy_54 : decode cX6_emptiesBy 54 = .ok (.iaload, 1) := by decide +kernel
theorem dX6_emptiesBy_55 : decode cX6_emptiesBy 55 = .ok (.iastore, 1) := by decide +kernel
theorem dX6_emptiesBy_56 : decode cX6_emptiesBy 56 = .ok (.iinc 4 1, 3) := by decide +kernel
theorem dX6_emptiesBy_59 : decode cX6_emptiesBy 59 = .ok (.goto (-51), 3) := by decide +kernel
theorem dX6_emptiesBy_62 : decode cX6_emptiesBy 62 = .ok (.iconst 0, 1) := by decide +kernel
theorem dX6_emptiesBy_63 : decode cX6_emptiesBy 63 = .ok (.istore 4, 2) := by decide +kernel
theorem dX6_emptiesBy_65 : decode cX6_emptiesBy 65 = .ok (.iload 4, 2) := by decide +kernel
theorem dX6_emptiesBy_67 : decode cX6_emptiesBy 67 = .ok (.iload_n 2, 1) := by decide +kernel
theorem dX6_emptiesBy_68 : decode cX6_emptiesBy 68 = .ok (.if_icmp .ge 67, 3) := by decide +kernel
theorem dX6_emptiesBy_71 : decode cX6_emptiesBy 71 = .ok (.aload_n 0, 1) := by decide +kernel
theorem dX6_emptiesBy_72 : decode cX6_emptiesBy 72 = .ok (.getfield 43, 3) := by decide +kernel
theorem dX6_emptiesBy_75 : decode cX6_emptiesBy 75 = .ok (.iload 4, 2) := by decide +kernel
theorem dX6_emptiesBy_77 : decode cX6_emptiesBy 77 = .ok (.aload_n 0, 1) := by decide +kernel
theorem dX6_emptiesBy_78 : decode cX6_emptiesBy 78 = .ok (.getfield 91, 3) := by decide +kernel
theorem dX6_emptiesBy_81 : decode cX6_emptiesBy 81 = .ok (.iload_n 1, 1) := by decide +kernel
theorem dX6_emptiesBy_82 : decode cX6_emptiesBy 82 = .ok (.iconst 3, 1) := by decide +kernel
theorem dX6_emptiesBy_83 : decode cX6_emptiesBy 83 = .ok (.iload 4, 2) := by decide +kernel
theorem dX6_emptiesBy_85 : decode cX6_emptiesBy 85 = .ok (.imul, 1) := by decide +kernel
theorem dX6_emptiesBy_86 : decode cX6_emptiesBy 86 = .ok (.iadd, 1) := by decide +kernel
theorem dX6_emptiesBy_87 : decode cX6_emptiesBy 87 = .ok (.iaload, 1) := by decide +kernel
theorem dX6_emptiesBy_88 : decode cX6_emptiesBy 88 = .ok (.iastore, 1) := by decide +kernel
theorem dX6_emptiesBy_89 : decode cX6_emptiesBy 89 = .ok (.aload_n 0, 1) := by decide +kernel
theorem dX6_emptiesBy_90 : decode cX6_emptiesBy 90 = .ok (.getfield 46, 3) := by decide +kernel
theorem dX6_emptiesBy_93 : decode cX6_emptiesBy 93 = .ok (.iload 4, 2) := by decide +kernel
theorem dX6_emptiesBy_95 : decode cX6_emptiesBy 95 = .ok (.aload_n 0, 1) := by decide +kernel
theorem dX6_emptiesBy_96 : decode cX6_emptiesBy 96 = .ok (.getfield 91, 3) := by decide +kernel
theorem dX6_emptiesBy_99 : decode cX6_emptiesBy 99 = .ok (.iload_n 1, 1) := by decide +kernel
theorem dX6_emptiesBy_100 : decode cX6_emptiesBy 100 = .ok (.iconst 3, 1) := by decide +kernel
theorem dX6_emptiesBy_101 : decode cX6_emptiesBy 101 = .ok (.iload 4, 2) := by decide +kernel
theorem dX6_emptiesBy_103 : decode cX6_emptiesBy 103 = .ok (.imul, 1) := by decide +kernel
theorem dX6_emptiesBy_104 : decode cX6_emptiesBy 104 = .ok (.iadd, 1) := by decide +kernel
theorem dX6_emptiesBy_105 : decode cX6_emptiesBy 105 = .ok (.iconst 1, 1) := by decide +kernel
theorem dX6_emptiesBy_106 : decode cX6_emptiesBy 106 = .ok (.iadd, 1) := by decide +kernel
theorem dX6_emptiesBy_107 : decode cX6_emptiesBy 107 = .ok (.iaload, 1) := by decide +kernel
theorem dX6_emptiesBy_108 : decode cX6_emptiesBy 108 = .ok (.iastore, 1) := by decide +kernel
theorem dX6_emptiesBy_109 : decode cX6_emptiesBy 109 = .ok (.aload_n 0, 1) := by decide +kernel
theorem dX6_emptiesBy_110 : decode cX6_emptiesBy 110 = .ok (.getfield 49, 3) := by decide +kernel
theorem dX6_emptiesBy_113 : decode cX6_emptiesBy 113 = .ok (.iload 4, 2) := by decide +kernel
theorem dX6_emptiesBy_115 : decode cX6_emptiesBy 115 = .ok (.aload_n 0, 1) := by decide +kernel
theorem dX6_emptiesBy_116 : decode cX6_emptiesBy 116 = .ok (.getfield 91, 3) := by decide +kernel
theorem dX6_emptiesBy_119 : decode cX6_emptiesBy 119 = .ok (.iload_n 1, 1) := by decide +kernel
theorem dX6_emptiesBy_120 : decode cX6_emptiesBy 120 = .ok (.iconst 3, 1) := by decide +kernel
theorem dX6_emptiesBy_121 : decode cX6_emptiesBy 121 = .ok (.iload 4, 2) := by decide +kernel
theorem dX6_emptiesBy_123 : decode cX6_emptiesBy 123 = .ok (.imul, 1) := by decide +kernel
theorem dX6_emptiesBy_124 : decode cX6_emptiesBy 124 = .ok (.iadd, 1) := by decide +kernel
theorem dX6_emptiesBy_125 : decode cX6_emptiesBy 125 = .ok (.iconst 2, 1) := by decide +kernel
theorem dX6_emptiesBy_126 : decode cX6_emptiesBy 126 = .ok (.iadd, 1) := by decide +kernel
theorem dX6_emptiesBy_127 : decode cX6_emptiesBy 127 = .ok (.iaload, 1) := by decide +kernel
theorem dX6_emptiesBy_128 : decode cX6_emptiesBy 128 = .ok (.iastore, 1) := by decide +kernel
theorem dX6_emptiesBy_129 : decode cX6_emptiesBy 129 = .ok (.iinc 4 1, 3) := by decide +kernel
theorem dX6_emptiesBy_132 : decode cX6_emptiesBy 132 = .ok (.goto (-67), 3) := by decide +kernel
theorem dX6_emptiesBy_135 : decode cX6_emptiesBy 135 = .ok (.aload_n 0, 1) := by decide +kernel
theorem dX6_emptiesBy_136 : decode cX6_emptiesBy 136 = .ok (.iload_n 2, 1) := by decide +kernel
theorem dX6_emptiesBy_137 : decode cX6_emptiesBy 137 = .ok (.putfield 170, 3) := by decide +kernel
theorem dX6_emptiesBy_140 : decode cX6_emptiesBy 140 = .ok (.aload_n 0, 1) := by decide +kernel
theorem dX6_emptiesBy_141 : decode cX6_emptiesBy 141 = .ok (.invokevirtual 241, 3) := by decide +kernel
theorem dX6_emptiesBy_144 : decode cX6_emptiesBy 144 = .ok (.istore 4, 2) := by decide +kernel
theorem dX6_emptiesBy_146 : decode cX6_emptiesBy 146 = .ok (.iconst 0, 1) := by decide +kernel
theorem dX6_emptiesBy_147 : decode cX6_emptiesBy 147 = .ok (.istore 5, 2) := by decide +kernel
theorem dX6_emptiesBy_149 : decode cX6_emptiesBy 149 = .ok (.iload 5, 2) := by decide +kernel
theorem dX6_emptiesBy_151 : decode cX6_emptiesBy 151 = .ok (.iload_n 3, 1) := by decide +kernel
theorem dX6_emptiesBy_152 : decode cX6_emptiesBy 152 = .ok (.if_icmp .ge 51, 3) := by decide +kernel
theorem dX6_emptiesBy_155 : decode cX6_emptiesBy 155 = .ok (.aload_n 0, 1) := by decide +kernel
theorem dX6_emptiesBy_156 : decode cX6_emptiesBy 156 = .ok (.getfield 43, 3) := by decide +kernel
theorem dX6_emptiesBy_159 : decode cX6_emptiesBy 159 = .ok (.iload 5, 2) := by decide +kernel
theorem dX6_emptiesBy_161 : decode cX6_emptiesBy 161 = .ok (.aload_n 0, 1) := by decide +kernel
theorem dX6_emptiesBy_162 : decode cX6_emptiesBy 162 = .ok (.getfield 67, 3) := by decide +kernel
theorem dX6_emptiesBy_165 : decode cX6_emptiesBy 165 = .ok (.iload 5, 2) := by decide +kernel
theorem dX6_emptiesBy_167 : decode cX6_emptiesBy 167 = .ok (.iaload, 1) := by decide +kernel
theorem dX6_emptiesBy_168 : decode cX6_emptiesBy 168 = .ok (.iastore, 1) := by decide +kernel
theorem dX6_emptiesBy_169 : decode cX6_emptiesBy 169 = .ok (.aload_n 0, 1) := by decide +kernel
theorem dX6_emptiesBy_170 : decode cX6_emptiesBy 170 = .ok (.getfield 46, 3) := by decide +kernel
theorem dX6_emptiesBy_173 : decode cX6_emptiesBy 173 = .ok (.iload 5, 2) := by decide +kernel
theorem dX6_emptiesBy_175 : decode cX6_emptiesBy 175 = .ok (.aload_n 0, 1) := by decide +kernel
theorem dX6_emptiesBy_176 : decode cX6_emptiesBy 176 = .ok (.getfield 70, 3) := by decide +kernel
theorem dX6_emptiesBy_179 : decode cX6_emptiesBy 179 = .ok (.iload 5, 2) := by decide +kernel
theorem dX6_emptiesBy_181 : decode cX6_emptiesBy 181 = .ok (.iaload, 1) := by decide +kernel
theorem dX6_emptiesBy_182 : decode cX6_emptiesBy 182 = .ok (.iastore, 1) := by decide +kernel
theorem dX6_emptiesBy_183 : decode cX6_emptiesBy 183 = .ok (.aload_n 0, 1) := by decide +kernel
theorem dX6_emptiesBy_184 : decode cX6_emptiesBy 184 = .ok (.getfield 49, 3) := by decide +kernel
theorem dX6_emptiesBy_187 : decode cX6_emptiesBy 187 = .ok (.iload 5, 2) := by decide +kernel
theorem dX6_emptiesBy_189 : decode cX6_emptiesBy 189 = .ok (.aload_n 0, 1) := by decide +kernel
theorem dX6_emptiesBy_190 : decode cX6_emptiesBy 190 = .ok (.getfield 73, 3) := by decide +kernel
theorem dX6_emptiesBy_193 : decode cX6_emptiesBy 193 = .ok (.iload 5, 2) := by decide +kernel
theorem dX6_emptiesBy_195 : decode cX6_emptiesBy 195 = .ok (.iaload, 1) := by decide +kernel
theorem dX6_emptiesBy_196 : decode cX6_emptiesBy 196 = .ok (.iastore, 1) := by decide +kernel
theorem dX6_emptiesBy_197 : decode cX6_emptiesBy 197 = .ok (.iinc 5 1, 3) := by decide +kernel
theorem dX6_emptiesBy_200 : decode cX6_emptiesBy 200 = .ok (.goto (-51), 3) := by decide +kernel
theorem dX6_emptiesBy_203 : decode cX6_emptiesBy 203 = .ok (.aload_n 0, 1) := by decide +kernel
theorem dX6_emptiesBy_204 : decode cX6_emptiesBy 204 = .ok (.iload_n 3, 1) := by decide +kernel
theorem dX6_emptiesBy_205 : decode cX6_emptiesBy 205 = .ok (.putfield 170, 3) := by decide +kernel
theorem dX6_emptiesBy_208 : decode cX6_emptiesBy 208 = .ok (.iload 4, 2) := by decide +kernel
theorem dX6_emptiesBy_210 : decode cX6_emptiesBy 210 = .ok (.ireturn, 1) := by decide +kernel
theorem dX6_wills_0 : decode cX6_wills 0 = .ok (.iload_n 1, 1) := by decide +kernel
theorem dX6_wills_1 : decode cX6_wills 1 = .ok (.invokestatic 148, 3) := by decide +kernel
theorem dX6_wills_4 : decode cX6_wills 4 = .ok (.ifCond .eq 9, 3) := by decide +kernel
theorem dX6_wills_7 : decode cX6_wills 7 = .ok (.aload_n 0, 1) := by decide +kernel
theorem dX6_wills_8 : decode cX6_wills 8 = .ok (.iconst (-1), 1) := by decide +kernel
theorem dX6_wills_9 : decode cX6_wills 9 = .ok (.invokevirtual 152, 3) := by decide +kernel
theorem dX6_wills_12 : decode cX6_wills 12 = .ok (.ireturn, 1) := by decide +kernel
theorem dX6_wills_13 : decode cX6_wills 13 = .ok (.iload_n 2, 1) := by decide +kernel
theorem dX6_wills_14 : decode cX6_wills 14 = .ok (.i2l, 1) := by decide +kernel
theorem dX6_wills_15 : decode cX6_wills 15 = .ok (.lconst 0, 1) := by decide +kernel
theorem dX6_wills_16 : decode cX6_wills 16 = .ok (.ldc2_w 155, 3) := by decide +kernel
theorem dX6_wills_19 : decode cX6_wills 19 = .ok (.invokestatic 110, 3) := by decide +kernel
theorem dX6_wills_22 : decode cX6_wills 22 = .ok (.ifCond .eq 16, 3) := by decide +kernel
theorem dX6_wills_25 : decode cX6_wills 25 = .ok (.iload 4, 2) := by decide +kernel
theorem dX6_wills_27 : decode cX6_wills 27 = .ok (.i2l, 1) := by decide +kernel
theorem dX6_wills_28 : decode cX6_wills 28 = .ok (.lconst 0, 1) := by decide +kernel
theorem dX6_wills_29 : decode cX6_wills 29 = .ok (.ldc2_w 244, 3) := by decide +kernel
theorem dX6_wills_32 : decode cX6_wills 32 = .ok (.invokestatic 110, 3) := by decide +kernel
theorem dX6_wills_35 : decode cX6_wills 35 = .ok (.ifCond .ne 10, 3) := by decide +kernel
theorem dX6_wills_38 : decode cX6_wills 38 = .ok (.aload_n 0, 1) := by decide +kernel
theorem dX6_wills_39 : decode cX6_wills 39 = .ok (.bipush (-2), 2) := by decide +kernel
theorem dX6_wills_41 : decode cX6_wills 41 = .ok (.invokevirtual 152, 3) := by decide +kernel
theorem dX6_wills_44 : decode cX6_wills 44 = .ok (.ireturn, 1) := by decide +kernel
theorem dX6_wills_45 : decode cX6_wills 45 = .ok (.aload_n 0, 1) := by decide +kernel
theorem dX6_wills_46 : decode cX6_wills 46 = .ok (.getfield 107, 3) := by decide +kernel
theorem dX6_wills_49 : decode cX6_wills 49 = .ok (.ifCond .ne 10, 3) := by decide +kernel
theorem dX6_wills_52 : decode cX6_wills 52 = .ok (.aload_n 0, 1) := by decide +kernel
theorem dX6_wills_53 : decode cX6_wills 53 = .ok (.bipush (-3), 2) := by decide +kernel
theorem dX6_wills_55 : decode cX6_wills 55 = .ok (.invokevirtual 152, 3) := by decide +kernel
theorem dX6_wills_58 : decode cX6_wills 58 = .ok (.ireturn, 1) := by decide +kernel
theorem dX6_wills_59 : decode cX6_wills 59 = .ok (.aload_n 0, 1) := by decide +kernel
theorem dX6_wills_60 : decode cX6_wills 60 = .ok (.iload_n 1, 1) := by decide +kernel
theorem dX6_wills_61 : decode cX6_wills 61 = .ok (.iload_n 2, 1) := by decide +kernel
theorem dX6_wills_62 : decode cX6_wills 62 = .ok (.iload_n 3, 1) := by decide +kernel
theorem dX6_wills_63 : decode cX6_wills 63 = .ok (.ldc2_w 246, 3) := by decide +kernel
theorem dX6_wills_66 : decode cX6_wills 66 = .ok (.iload 4, 2) := by decide +kernel
theorem dX6_wills_68 : decode cX6_wills 68 = .ok (.i2l, 1) := by decide +kernel
theorem dX6_wills_69 : decode cX6_wills 69 = .ok (.lmul, 1) := by decide +kernel
theorem dX6_wills_70 : decode cX6_wills 70 = .ok (.invokevirtual 157, 3) := by decide +kernel
theorem dX6_wills_73 : decode cX6_wills 73 = .ok (.istore 5, 2) := by decide +kernel
theorem dX6_wills_75 : decode cX6_wills 75 = .ok (.iload 5, 2) := by decide +kernel
theorem dX6_wills_77 : decode cX6_wills 77 = .ok (.ifCond .ge 6, 3) := by decide +kernel
theorem dX6_wills_80 : decode cX6_wills 80 = .ok (.iload 5, 2) := by decide +kernel
theorem dX6_wills_82 : decode cX6_wills 82 = .ok (.ireturn, 1) := by decide +kernel
theorem dX6_wills_83 : decode cX6_wills 83 = .ok (.bipush 60, 2) := by decide +kernel
theorem dX6_wills_85 : decode cX6_wills 85 = .ok (.iload_n 1, 1) := by decide +kernel
theorem dX6_wills_86 : decode cX6_wills 86 = .ok (.imul, 1) := by decide +kernel
theorem dX6_wills_87 : decode cX6_wills 87 = .ok (.iload_n 3, 1) := by decide +kernel
theorem dX6_wills_88 : decode cX6_wills 88 = .ok (.iadd, 1) := by decide +kernel
theorem dX6_wills_89 : decode cX6_wills 89 = .ok (.istore 6, 2) := by decide +kernel
theorem dX6_wills_91 : decode cX6_wills 91 = .ok (.iconst 0, 1) := by decide +kernel
theorem dX6_wills_92 : decode cX6_wills 92 = .ok (.istore 7, 2) := by decide +kernel
theorem dX6_wills_94 : decode cX6_wills 94 = .ok (.iload 7, 2) := by decide +kernel
theorem dX6_wills_96 : decode cX6_wills 96 = .ok (.iload 4, 2) := by decide +kernel
theorem dX6_wills_98 : decode cX6_wills 98 = .ok (.if_icmp .ge 76, 3) := by decide +kernel
theorem dX6_wills_101 : decode cX6_wills 101 = .ok (.aload_n 0, 1) := by decide +kernel
theorem dX6_wills_102 : decode cX6_wills 102 = .ok (.aload_n 0, 1) := by decide +kernel
theorem dX6_wills_103 : decode cX6_wills 103 = .ok (.getfield 91, 3) := by decide +kernel
theorem dX6_wills_106 : decode cX6_wills 106 = .ok (.iload 6, 2) := by decide +kernel
theorem dX6_wills_108 : decode cX6_wills 108 = .ok (.iconst 3, 1) := by decide +kernel
theorem dX6_wills_109 : decode cX6_wills 109 = .ok (.iload 7, 2) := by decide +kernel
theorem dX6_wills_111 : decode cX6_wills 111 = .ok (.imul, 1) := by decide +kernel
theorem dX6_wills_112 : decode cX6_wills 112 = .ok (.iadd, 1) := by decide +kernel
theorem dX6_wills_113 : decode cX6_wills 113 = .ok (.iaload, 1) := by decide +kernel
theorem dX6_wills_114 : decode cX6_wills 114 = .ok (.invokevirtual 185, 3) := by decide +kernel
theorem dX6_wills_117 : decode cX6_wills 117 = .ok (.ifCond .ne 44, 3) := by decide +kernel
theorem dX6_wills_120 : decode cX6_wills 120 = .ok (.aload_n 0, 1) := by decide +kernel
theorem dX6_wills_121 : decode cX6_wills 121 = .ok (.aload_n 0, 1) := by decide +kernel
theorem dX6_wills_122 : decode cX6_wills 122 = .ok (.getfield 91, 3) := by decide +kernel
theorem dX6_wills_125 : decode cX6_wills 125 = .ok (.iload 6, 2) := by decide +kernel
theorem dX6_wills_127 : decode cX6_wills 127 = .ok (.iconst 3, 1) := by decide +kernel
theorem dX6_wills_128 : decode cX6_wills 128 = .ok (.iload 7, 2) := by decide +kernel
theorem dX6_wills_130 : decode cX6_wills 130 = .ok (.imul, 1) := by decide +kernel
theorem dX6_wills_131 : decode cX6_wills 131 = .ok (.iadd, 1) := by decide +kernel
theorem dX6_wills_132 : decode cX6_wills 132 = .ok (.iconst 1, 1) := by decide +kernel
theorem dX6_wills_133 : decode cX6_wills 133 = .ok (.iadd, 1) := by decide +kernel
theorem dX6_wills_134 : decode cX6_wills 134 = .ok (.iaload, 1) := by decide +kernel
theorem dX6_wills_135 : decode cX6_wills 135 = .ok (.invokevirtual 176, 3) := by decide +kernel
theorem dX6_wills_138 : decode cX6_wills 138 = .ok (.ifCond .ne 23, 3) := by decide +kernel
theorem dX6_wills_141 : decode cX6_wills 141 = .ok (.aload_n 0, 1) := by decide +kernel
theorem dX6_wills_142 : decode cX6_wills 142 = .ok (.getfield 91, 3) := by decide +kernel
theorem dX6_wills_145 : decode cX6_wills 145 = .ok (.iload 6, 2) := by decide +kernel
theorem dX6_wills_147 : decode cX6_wills 147 = .ok (.iconst 3, 1) := by decide +kernel
theorem dX6_wills_148 : decode cX6_wills 148 = .ok (.iload 7, 2) := by decide +kernel
theorem dX6_wills_150 : decode cX6_wills 150 = .ok (.imul, 1) := by decide +kernel
theorem dX6_wills_151 : decode cX6_wills 151 = .ok (.iadd, 1) := by decide +kernel
theorem dX6_wills_152 : decode cX6_wills 152 = .ok (.iconst 2, 1) := by decide +kernel
theorem dX6_wills_153 : decode cX6_wills 153 = .ok (.iadd, 1) := by decide +kernel
theorem dX6_wills_154 : decode cX6_wills 154 = .ok (.iaload, 1) := by decide +kernel
theorem dX6_wills_155 : decode cX6_wills 155 = .ok (.invokestatic 188, 3) := by decide +kernel
theorem dX6_wills_158 : decode cX6_wills 158 = .ok (.ifCond .ne 10, 3) := by decide +kernel
theorem dX6_wills_161 : decode cX6_wills 161 = .ok (.aload_n 0, 1) := by decide +kernel
theorem dX6_wills_162 : decode cX6_wills 162 = .ok (.bipush (-2), 2) := by decide +kernel
theorem dX6_wills_164 : decode cX6_wills 164 = .ok (.invokevirtual 152, 3) := by decide +kernel
theorem dX6_wills_167 : decode cX6_wills 167 = .ok (.ireturn, 1) := by decide +kernel
theorem dX6_wills_168 : decode cX6_wills 168 = .ok (.iinc 7 1, 3) := by decide +kernel
theorem dX6_wills_171 : decode cX6_wills 171 = .ok (.goto (-77), 3) := by decide +kernel
theorem dX6_wills_174 : decode cX6_wills 174 = .ok (.aload_n 0, 1) := by decide +kernel
theorem dX6_wills_175 : decode cX6_wills 175 = .ok (.aload_n 0, 1) := by decide +kernel
theorem dX6_wills_176 : decode cX6_wills 176 = .ok (.iload 6, 2) := by decide +kernel
theorem dX6_wills_178 : decode cX6_wills 178 = .ok (.iload 4, 2) := by decide +kernel
theorem dX6_wills_180 : decode cX6_wills 180 = .ok (.invokevirtual 248, 3) := by decide +kernel
theorem dX6_wills_183 : decode cX6_wills 183 = .ok (.invokevirtual 152, 3) := by decide +kernel
theorem dX6_wills_186 : decode cX6_wills 186 = .ok (.ireturn, 1) := by decide +kernel
theorem dX6_reading_0 : decode cX6_reading 0 = .ok (.aload_n 0, 1) := by decide +kernel
theorem dX6_reading_1 : decode cX6_reading 1 = .ok (.iload_n 1, 1) := by decide +kernel
theorem dX6_reading_2 : decode cX6_reading 2 = .ok (.invokevirtual 185, 3) := by decide +kernel
theorem dX6_reading_5 : decode cX6_reading 5 = .ok (.ifCond .ne 17, 3) := by decide +kernel
theorem dX6_reading_8 : decode cX6_reading 8 = .ok (.iload_n 3, 1) := by decide +kernel
theorem dX6_reading_9 : decode cX6_reading 9 = .ok (.bipush (-9), 2) := by decide +kernel
theorem dX6_reading_11 : decode cX6_reading 11 = .ok (.if_icmp .eq 13, 3) := by decide +kernel
theorem dX6_reading_14 : decode cX6_reading 14 = .ok (.aload_n 0, 1) := by decide +kernel
theorem dX6_reading_15 : decode cX6_reading 15 = .ok (.iload_n 3, 1) := by decide +kernel
theorem dX6_reading_16 : decode cX6_reading 16 = .ok (.invokevirtual 176, 3) := by decide +kernel
theorem dX6_reading_19 : decode cX6_reading 19 = .ok (.ifCond .eq 5, 3) := by decide +kernel
theorem dX6_reading_22 : decode cX6_reading 22 = .ok (.iconst (-1), 1) := by decide +kernel
theorem dX6_reading_23 : decode cX6_reading 23 = .ok (.ireturn, 1) := by decide +kernel
theorem dX6_reading_24 : decode cX6_reading 24 = .ok (.iload_n 2, 1) := by decide +kernel
theorem dX6_reading_25 : decode cX6_reading 25 = .ok (.invokestatic 188, 3) := by decide +kernel
theorem dX6_reading_28 : decode cX6_reading 28 = .ok (.ifCond .ne 6, 3) := by decide +kernel
theorem dX6_reading_31 : decode cX6_reading 31 = .ok (.bipush (-2), 2) := by decide +kernel
theorem dX6_reading_33 : decode cX6_reading 33 = .ok (.ireturn, 1) := by decide +kernel
theorem dX6_reading_34 : decode cX6_reading 34 = .ok (.aload_n 0, 1) := by decide +kernel
theorem dX6_reading_35 : decode cX6_reading 35 = .ok (.getfield 173, 3) := by decide +kernel
theorem dX6_reading_38 : decode cX6_reading 38 = .ok (.bipush 8, 2) := by decide +kernel
theorem dX6_reading_40 : decode cX6_reading 40 = .ok (.if_icmp .ne 6, 3) := by decide +kernel
theorem dX6_reading_43 : decode cX6_reading 43 = .ok (.bipush (-4), 2) := by decide +kernel
theorem dX6_reading_45 : decode cX6_reading 45 = .ok (.ireturn, 1) := by decide +kernel
theorem dX6_reading_46 : decode cX6_reading 46 = .ok (.aload_n 0, 1) := by decide +kernel
theorem dX6_reading_47 : decode cX6_reading 47 = .ok (.getfield 76, 3) := by decide +kernel
theorem dX6_reading_50 : decode cX6_reading 50 = .ok (.aload_n 0, 1) := by decide +kernel
theorem dX6_reading_51 : decode cX6_reading 51 = .ok (.getfield 173, 3) := by decide +kernel
theorem dX6_reading_54 : decode cX6_reading 54 = .ok (.iload_n 1, 1) := by decide +kernel
theorem dX6_reading_55 : decode cX6_reading 55 = .ok (.iastore, 1) := by decide +kernel
theorem dX6_reading_56 : decode cX6_reading 56 = .ok (.aload_n 0, 1) := by decide +kernel
theorem dX6_reading_57 : decode cX6_reading 57 = .ok (.getfield 79, 3) := by decide +kernel
theorem dX6_reading_60 : decode cX6_reading 60 = .ok (.aload_n 0, 1) := by decide +kernel
theorem dX6_reading_61 : decode cX6_reading 61 = .ok (.getfield 173, 3) := by decide +kernel
theorem dX6_reading_64 : decode cX6_reading 64 = .ok (.iload_n 2, 1) := by decide +kernel
theorem dX6_reading_65 : decode cX6_reading 65 = .ok (.iastore, 1) := by decide +kernel
theorem dX6_reading_66 : decode cX6_reading 66 = .ok (.aload_n 0, 1) := by decide +kernel
theorem dX6_reading_67 : decode cX6_reading 67 = .ok (.getfield 82, 3) := by decide +kernel
theorem dX6_reading_70 : decode cX6_reading 70 = .ok (.aload_n 0, 1) := by decide +kernel
theorem dX6_reading_71 : decode cX6_reading 71 = .ok (.getfield 173, 3) := by decide +kernel
theorem dX6_reading_74 : decode cX6_reading 74 = .ok (.iload_n 3, 1) := by decide +kernel
theorem dX6_reading_75 : decode cX6_reading 75 = .ok (.iastore, 1) := by decide +kernel
theorem dX6_reading_76 : decode cX6_reading 76 = .ok (.aload_n 0, 1) := by decide +kernel
theorem dX6_reading_77 : decode cX6_reading 77 = .ok (.dup, 1) := by decide +kernel
theorem dX6_reading_78 : decode cX6_reading 78 = .ok (.getfield 173, 3) := by decide +kernel
theorem dX6_reading_81 : decode cX6_reading 81 = .ok (.iconst 1, 1) := by decide +kernel
theorem dX6_reading_82 : decode cX6_reading 82 = .ok (.iadd, 1) := by decide +kernel
theorem dX6_reading_83 : decode cX6_reading 83 = .ok (.putfield 173, 3) := by decide +kernel
theorem dX6_reading_86 : decode cX6_reading 86 = .ok (.aload_n 0, 1) := by decide +kernel
theorem dX6_reading_87 : decode cX6_reading 87 = .ok (.getfield 173, 3) := by decide +kernel
theorem dX6_reading_90 : decode cX6_reading 90 = .ok (.iconst 1, 1) := by decide +kernel
theorem dX6_reading_91 : decode cX6_reading 91 = .ok (.isub, 1) := by decide +kernel
theorem dX6_reading_92 : decode cX6_reading 92 = .ok (.ireturn, 1) := by decide +kernel
theorem dX6_back_0 : decode cX6_back 0 = .ok (.iload_n 1, 1) := by decide +kernel
theorem dX6_back_1 : decode cX6_back 1 = .ok (.i2l, 1) := by decide +kernel
theorem dX6_back_2 : decode cX6_back 2 = .ok (.lconst 0, 1) := by decide +kernel
theorem dX6_back_3 : decode cX6_back 3 = .ok (.aload_n 0, 1) := by decide +kernel
theorem dX6_back_4 : decode cX6_back 4 = .ok (.getfield 173, 3) := by decide +kernel
theorem dX6_back_7 : decode cX6_back 7 = .ok (.i2l, 1) := by decide +kernel
theorem dX6_back_8 : decode cX6_back 8 = .ok (.invokestatic 110, 3) := by decide +kernel
theorem dX6_back_11 : decode cX6_back 11 = .ok (.ifCond .ne 6, 3) := by decide +kernel
theorem dX6_back_14 : decode cX6_back 14 = .ok (.bipush (-2), 2) := by decide +kernel
theorem dX6_back_16 : decode cX6_back 16 = .ok (.ireturn, 1) := by decide +kernel
theorem dX6_back_17 : decode cX6_back 17 = .ok (.aload_n 0, 1) := by decide +kernel
theorem dX6_back_18 : decode cX6_back 18 = .ok (.dup, 1) := by decide +kernel
theorem dX6_back_19 : decode cX6_back 19 = .ok (.getfield 173, 3) := by decide +kernel
theorem dX6_back_22 : decode cX6_back 22 = .ok (.iload_n 1, 1) := by decide +kernel
theorem dX6_back_23 : decode cX6_back 23 = .ok (.isub, 1) := by decide +kernel
theorem dX6_back_24 : decode cX6_back 24 = .ok (.putfield 173, 3) := by decide +kernel
theorem dX6_back_27 : decode cX6_back 27 = .ok (.aload_n 0, 1) := by decide +kernel
theorem dX6_back_28 : decode cX6_back 28 = .ok (.getfield 173, 3) := by decide +kernel
theorem dX6_back_31 : decode cX6_back 31 = .ok (.ireturn, 1) := by decide +kernel
theorem dX6_areSo_0 : decode cX6_areSo 0 = .ok (.iconst 1, 1) := by decide +kernel
theorem dX6_areSo_1 : decode cX6_areSo 1 = .ok (.istore_n 1, 1) := by decide +kernel
theorem dX6_areSo_2 : decode cX6_areSo 2 = .ok (.iconst 0, 1) := by decide +kernel
theorem dX6_areSo_3 : decode cX6_areSo 3 = .ok (.istore_n 2, 1) := by decide +kernel
theorem dX6_areSo_4 : decode cX6_areSo 4 = .ok (.iload_n 2, 1) := by decide +kernel
theorem dX6_areSo_5 : decode cX6_areSo 5 = .ok (.aload_n 0, 1) := by decide +kernel
theorem dX6_areSo_6 : decode cX6_areSo 6 = .ok (.getfield 173, 3) := by decide +kernel
theorem dX6_areSo_9 : decode cX6_areSo 9 = .ok (.if_icmp .ge 49, 3) := by decide +kernel
theorem dX6_areSo_12 : decode cX6_areSo 12 = .ok (.iload_n 1, 1) := by decide +kernel
theorem dX6_areSo_13 : decode cX6_areSo 13 = .ok (.ifCond .eq 45, 3) := by decide +kernel
theorem dX6_areSo_16 : decode cX6_areSo 16 = .ok (.aload_n 0, 1) := by decide +kernel
theorem dX6_areSo_17 : decode cX6_areSo 17 = .ok (.aload_n 0, 1) := by decide +kernel
theorem dX6_areSo_18 : decode cX6_areSo 18 = .ok (.getfield 79, 3) := by decide +kernel
theorem dX6_areSo_21 : decode cX6_areSo 21 = .ok (.iload_n 2, 1) := by decide +kernel
theorem dX6_areSo_22 : decode cX6_areSo 22 = .ok (.iaload, 1) := by decide +kernel
theorem dX6_areSo_23 : decode cX6_areSo 23 = .ok (.invokevirtual 232, 3) := by decide +kernel
theorem dX6_areSo_26 : decode cX6_areSo 26 = .ok (.aload_n 0, 1) := by decide +kernel
theorem dX6_areSo_27 : decode cX6_areSo 27 = .ok (.getfield 64, 3) := by decide +kernel
theorem dX6_areSo_30 : decode cX6_areSo 30 = .ok (.aload_n 0, 1) := by decide +kernel
theorem dX6_areSo_31 : decode cX6_areSo 31 = .ok (.getfield 76, 3) := by decide +kernel
theorem dX6_areSo_34 : decode cX6_areSo 34 = .ok (.iload_n 2, 1) := by decide +kernel
theorem dX6_areSo_35 : decode cX6_areSo 35 = .ok (.iaload, 1) := by decide +kernel
theorem dX6_areSo_36 : decode cX6_areSo 36 = .ok (.iaload, 1) := by decide +kernel
theorem dX6_areSo_37 : decode cX6_areSo 37 = .ok (.aload_n 0, 1) := by decide +kernel
theorem dX6_areSo_38 : decode cX6_areSo 38 = .ok (.getfield 82, 3) := by decide +kernel
theorem dX6_areSo_41 : decode cX6_areSo 41 = .ok (.iload_n 2, 1) := by decide +kernel
theorem dX6_areSo_42 : decode cX6_areSo 42 = .ok (.iaload, 1) := by decide +kernel
theorem dX6_areSo_43 : decode cX6_areSo 43 = .ok (.if_icmp .ne 7, 3) := by decide +kernel
theorem dX6_areSo_46 : decode cX6_areSo 46 = .ok (.iconst 1, 1) := by decide +kernel
theorem dX6_areSo_47 : decode cX6_areSo 47 = .ok (.goto 4, 3) := by decide +kernel
theorem dX6_areSo_50 : decode cX6_areSo 50 = .ok (.iconst 0, 1) := by decide +kernel
theorem dX6_areSo_51 : decode cX6_areSo 51 = .ok (.istore_n 1, 1) := by decide +kernel
theorem dX6_areSo_52 : decode cX6_areSo 52 = .ok (.iinc 2 1, 3) := by decide +kernel
theorem dX6_areSo_55 : decode cX6_areSo 55 = .ok (.goto (-51), 3) := by decide +kernel
theorem dX6_areSo_58 : decode cX6_areSo 58 = .ok (.iload_n 1, 1) := by decide +kernel
theorem dX6_areSo_59 : decode cX6_areSo 59 = .ok (.ireturn, 1) := by decide +kernel
theorem dX6_laws_0 : decode cX6_laws 0 = .ok (.aload_n 0, 1) := by decide +kernel
theorem dX6_laws_1 : decode cX6_laws 1 = .ok (.getfield 107, 3) := by decide +kernel
theorem dX6_laws_4 : decode cX6_laws 4 = .ok (.ifCond .ne 6, 3) := by decide +kernel
theorem dX6_laws_7 : decode cX6_laws 7 = .ok (.bipush (-3), 2) := by decide +kernel
theorem dX6_laws_9 : decode cX6_laws 9 = .ok (.ireturn, 1) := by decide +kernel
theorem dX6_laws_10 : decode cX6_laws 10 = .ok (.aload_n 0, 1) := by decide +kernel
theorem dX6_laws_11 : decode cX6_laws 11 = .ok (.getfield 167, 3) := by decide +kernel
theorem dX6_laws_14 : decode cX6_laws 14 = .ok (.istore_n 1, 1) := by decide +kernel
theorem dX6_laws_15 : decode cX6_laws 15 = .ok (.iconst 0, 1) := by decide +kernel
theorem dX6_laws_16 : decode cX6_laws 16 = .ok (.istore_n 2, 1) := by decide +kernel
theorem dX6_laws_17 : decode cX6_laws 17 = .ok (.iconst 0, 1) := by decide +kernel
theorem dX6_laws_18 : decode cX6_laws 18 = .ok (.istore_n 3, 1) := by decide +kernel
theorem dX6_laws_19 : decode cX6_laws 19 = .ok (.iload_n 3, 1) := by decide +kernel
theorem dX6_laws_20 : decode cX6_laws 20 = .ok (.iconst 3, 1) := by decide +kernel
theorem dX6_laws_21 : decode cX6_laws 21 = .ok (.if_icmp .ge 31, 3) := by decide +kernel
theorem dX6_laws_24 : decode cX6_laws 24 = .ok (.aload_n 0, 1) := by decide +kernel
theorem dX6_laws_25 : decode cX6_laws 25 = .ok (.iload_n 3, 1) := by decide +kernel
theorem dX6_laws_26 : decode cX6_laws 26 = .ok (.putfield 167, 3) := by decide +kernel
theorem dX6_laws_29 : decode cX6_laws 29 = .ok (.iload_n 2, 1) := by decide +kernel
theorem dX6_laws_30 : decode cX6_laws 30 = .ok (.aload_n 0, 1) := by decide +kernel
theorem dX6_laws_31 : decode cX6_laws 31 = .ok (.invokevirtual 251, 3) := by decide +kernel
theorem dX6_laws_34 : decode cX6_laws 34 = .ok (.ifCond .eq 9, 3) := by decide +kernel
theorem dX6_laws_37 : decode cX6_laws 37 = .ok (.iconst 1, 1) := by decide +kernel
theorem dX6_laws_38 : decode cX6_laws 38 = .ok (.iload_n 3, 1) := by decide +kernel
theorem dX6_laws_39 : decode cX6_laws 39 = .ok (.ishl, 1) := by decide +kernel
theorem dX6_laws_40 : decode cX6_laws 40 = .ok (.goto 4, 3) := by decide +kernel
theorem dX6_laws_43 : decode cX6_laws 43 = .ok (.iconst 0, 1) := by decide +kernel
theorem dX6_laws_44 : decode cX6_laws 44 = .ok (.ior, 1) := by decide +kernel
theorem dX6_laws_45 : decode cX6_laws 45 = .ok (.istore_n 2, 1) := by decide +kernel
theorem dX6_laws_46 : decode cX6_laws 46 = .ok (.iinc 3 1, 3) := by decide +kernel
theorem dX6_laws_49 : decode cX6_laws 49 = .ok (.goto (-30), 3) := by decide +kernel
theorem dX6_laws_52 : decode cX6_laws 52 = .ok (.aload_n 0, 1) := by decide +kernel
theorem dX6_laws_53 : decode cX6_laws 53 = .ok (.iload_n 1, 1) := by decide +kernel
theorem dX6_laws_54 : decode cX6_laws 54 = .ok (.putfield 167, 3) := by decide +kernel
theorem dX6_laws_57 : decode cX6_laws 57 = .ok (.iload_n 2, 1) := by decide +kernel
theorem dX6_laws_58 : decode cX6_laws 58 = .ok (.ireturn, 1) := by decide +kernel
theorem dX6_stubborn_0 : decode cX6_stubborn 0 = .ok (.aload_n 0, 1) := by decide +kernel
theorem dX6_stubborn_1 : decode cX6_stubborn 1 = .ok (.getfield 107, 3) := by decide +kernel
theorem dX6_stubborn_4 : decode cX6_stubborn 4 = .ok (.ifCond .ne 6, 3) := by decide +kernel
theorem dX6_stubborn_7 : decode cX6_stubborn 7 = .ok (.bipush (-3), 2) := by decide +kernel
theorem dX6_stubborn_9 : decode cX6_stubborn 9 = .ok (.ireturn, 1) := by decide +kernel
theorem dX6_stubborn_10 : decode cX6_stubborn 10 = .ok (.aload_n 0, 1) := by decide +kernel
theorem dX6_stubborn_11 : decode cX6_stubborn 11 = .ok (.getfield 164, 3) := by decide +kernel
theorem dX6_stubborn_14 : decode cX6_stubborn 14 = .ok (.istore_n 1, 1) := by decide +kernel
theorem dX6_stubborn_15 : decode cX6_stubborn 15 = .ok (.iconst 0, 1) := by decide +kernel
theorem dX6_stubborn_16 : decode cX6_stubborn 16 = .ok (.istore_n 2, 1) := by decide +kernel
theorem dX6_stubborn_17 : decode cX6_stubborn 17 = .ok (.iconst 0, 1) := by decide +kernel
theorem dX6_stubborn_18 : decode cX6_stubborn 18 = .ok (.istore_n 3, 1) := by decide +kernel
theorem dX6_stubborn_19 : decode cX6_stubborn 19 = .ok (.iload_n 3, 1) := by decide +kernel
theorem dX6_stubborn_20 : decode cX6_stubborn 20 = .ok (.aload_n 0, 1) := by decide +kernel
theorem dX6_stubborn_21 : decode cX6_stubborn 21 = .ok (.getfield 107, 3) := by decide +kernel
theorem dX6_stubborn_24 : decode cX6_stubborn 24 = .ok (.if_icmp .ge 35, 3) := by decide +kernel
theorem dX6_stubborn_27 : decode cX6_stubborn 27 = .ok (.aload_n 0, 1) := by decide +kernel
theorem dX6_stubborn_28 : decode cX6_stubborn 28 = .ok (.iload_n 1, 1) := by decide +kernel
theorem dX6_stubborn_29 : decode cX6_stubborn 29 = .ok (.iconst 1, 1) := by decide +kernel
theorem dX6_stubborn_30 : decode cX6_stubborn 30 = .ok (.iload_n 3, 1) := by decide +kernel
theorem dX6_stubborn_31 : decode cX6_stubborn 31 = .ok (.ishl, 1) := by decide +kernel
theorem dX6_stubborn_32 : decode cX6_stubborn 32 = .ok (.ior, 1) := by decide +kernel
theorem dX6_stubborn_33 : decode cX6_stubborn 33 = .ok (.putfield 164, 3) := by decide +kernel
theorem dX6_stubborn_36 : decode cX6_stubborn 36 = .ok (.iload_n 2, 1) := by decide +kernel
theorem dX6_stubborn_37 : decode cX6_stubborn 37 = .ok (.aload_n 0, 1) := by decide +kernel
theorem dX6_stubborn_38 : decode cX6_stubborn 38 = .ok (.invokevirtual 251, 3) := by decide +kernel
theorem dX6_stubborn_41 : decode cX6_stubborn 41 = .ok (.ifCond .eq 9, 3) := by decide +kernel
theorem dX6_stubborn_44 : decode cX6_stubborn 44 = .ok (.iconst 1, 1) := by decide +kernel
theorem dX6_stubborn_45 : decode cX6_stubborn 45 = .ok (.iload_n 3, 1) := by decide +kernel
theorem dX6_stubborn_46 : decode cX6_stubborn 46 = .ok (.ishl, 1) := by decide +kernel
theorem dX6_stubborn_47 : decode cX6_stubborn 47 = .ok (.goto 4, 3) := by decide +kernel
theorem dX6_stubborn_50 : decode cX6_stubborn 50 = .ok (.iconst 0, 1) := by decide +kernel
theorem dX6_stubborn_51 : decode cX6_stubborn 51 = .ok (.ior, 1) := by decide +kernel
theorem dX6_stubborn_52 : decode cX6_stubborn 52 = .ok (.istore_n 2, 1) := by decide +kernel
theorem dX6_stubborn_53 : decode cX6_stubborn 53 = .ok (.iinc 3 1, 3) := by decide +kernel
theorem dX6_stubborn_56 : decode cX6_stubborn 56 = .ok (.goto (-37), 3) := by decide +kernel
theorem dX6_stubborn_59 : decode cX6_stubborn 59 = .ok (.aload_n 0, 1) := by decide +kernel
theorem dX6_stubborn_60 : decode cX6_stubborn 60 = .ok (.iload_n 1, 1) := by decide +kernel
theorem dX6_stubborn_61 : decode cX6_stubborn 61 = .ok (.putfield 164, 3) := by decide +kernel
theorem dX6_stubborn_64 : decode cX6_stubborn 64 = .ok (.iload_n 2, 1) := by decide +kernel
theorem dX6_stubborn_65 : decode cX6_stubborn 65 = .ok (.ireturn, 1) := by decide +kernel
theorem dX6_named_0 : decode cX6_named 0 = .ok (.aload_n 0, 1) := by decide +kernel
theorem dX6_named_1 : decode cX6_named 1 = .ok (.iload_n 1, 1) := by decide +kernel
theorem dX6_named_2 : decode cX6_named 2 = .ok (.invokevirtual 185, 3) := by decide +kernel
theorem dX6_named_5 : decode cX6_named 5 = .ok (.ifCond .eq 5, 3) := by decide +kernel
theorem dX6_named_8 : decode cX6_named 8 = .ok (.iconst (-1), 1) := by decide +kernel
theorem dX6_named_9 : decode cX6_named 9 = .ok (.ireturn, 1) := by decide +kernel
theorem dX6_named_10 : decode cX6_named 10 = .ok (.iload_n 2, 1) := by decide +kernel
theorem dX6_named_11 : decode cX6_named 11 = .ok (.invokestatic 188, 3) := by decide +kernel
theorem dX6_named_14 : decode cX6_named 14 = .ok (.ifCond .ne 6, 3) := by decide +kernel
theorem dX6_named_17 : decode cX6_named 17 = .ok (.bipush (-2), 2) := by decide +kernel
theorem dX6_named_19 : decode cX6_named 19 = .ok (.ireturn, 1) := by decide +kernel
theorem dX6_named_20 : decode cX6_named 20 = .ok (.iconst 0, 1) := by decide +kernel
theorem dX6_named_21 : decode cX6_named 21 = .ok (.istore_n 3, 1) := by decide +kernel
theorem dX6_named_22 : decode cX6_named 22 = .ok (.aload_n 0, 1) := by decide +kernel
theorem dX6_named_23 : decode cX6_named 23 = .ok (.dup, 1) := by decide +kernel
theorem dX6_named_24 : decode cX6_named 24 = .ok (.getfield 170, 3) := by decide +kernel
theorem dX6_named_27 : decode cX6_named 27 = .ok (.iconst 1, 1) := by decide +kernel
theorem dX6_named_28 : decode cX6_named 28 = .ok (.iadd, 1) := by decide +kernel
theorem dX6_named_29 : decode cX6_named 29 = .ok (.putfield 170, 3) := by decide +kernel
theorem dX6_named_32 : decode cX6_named 32 = .ok (.aload_n 0, 1) := by decide +kernel
theorem dX6_named_33 : decode cX6_named 33 = .ok (.getfield 43, 3) := by decide +kernel
theorem dX6_named_36 : decode cX6_named 36 = .ok (.aload_n 0, 1) := by decide +kernel
theorem dX6_named_37 : decode cX6_named 37 = .ok (.getfield 170, 3) := by decide +kernel
theorem dX6_named_40 : decode cX6_named 40 = .ok (.iconst 1, 1) := by decide +kernel
theorem dX6_named_41 : decode cX6_named 41 = .ok (.isub, 1) := by decide +kernel
theorem dX6_named_42 : decode cX6_named 42 = .ok (.iload_n 1, 1) := by decide +kernel
theorem dX6_named_43 : decode cX6_named 43 = .ok (.iastore, 1) := by decide +kernel
theorem dX6_named_44 : decode cX6_named 44 = .ok (.aload_n 0, 1) := by decide +kernel
theorem dX6_named_45 : decode cX6_named 45 = .ok (.getfield 49, 3) := by decide +kernel
theorem dX6_named_48 : decode cX6_named 48 = .ok (.aload_n 0, 1) := by decide +kernel
theorem dX6_named_49 : decode cX6_named 49 = .ok (.getfield 170, 3) := by decide +kernel
theorem dX6_named_52 : decode cX6_named 52 = .ok (.iconst 1, 1) := by decide +kernel
theorem dX6_named_53 : decode cX6_named 53 = .ok (.isub, 1) := by decide +kernel
theorem dX6_named_54 : decode cX6_named 54 = .ok (.iload_n 2, 1) := by decide +kernel
theorem dX6_named_55 : decode cX6_named 55 = .ok (.iastore, 1) := by decide +kernel
theorem dX6_named_56 : decode cX6_named 56 = .ok (.iconst 0, 1) := by decide +kernel
theorem dX6_named_57 : decode cX6_named 57 = .ok (.istore 4, 2) := by decide +kernel
theorem dX6_named_59 : decode cX6_named 59 = .ok (.iload 4, 2) := by decide +kernel
theorem dX6_named_61 : decode cX6_named 61 = .ok (.aload_n 0, 1) := by decide +kernel
theorem dX6_named_62 : decode cX6_named 62 = .ok (.getfield 107, 3) := by decide +kernel
theorem dX6_named_65 : decode cX6_named 65 = .ok (.if_icmp .ge 40, 3) := by decide +kernel
theorem dX6_named_68 : decode cX6_named 68 = .ok (.aload_n 0, 1) := by decide +kernel
theorem dX6_named_69 : decode cX6_named 69 = .ok (.getfield 46, 3) := by decide +kernel
theorem dX6_named_72 : decode cX6_named 72 = .ok (.aload_n 0, 1) := by decide +kernel
theorem dX6_named_73 : decode cX6_named 73 = .ok (.getfield 170, 3) := by decide +kernel
theorem dX6_named_76 : decode cX6_named 76 = .ok (.iconst 1, 1) := by decide +kernel
theorem dX6_named_77 : decode cX6_named 77 = .ok (.isub, 1) := by decide +kernel
theorem dX6_named_78 : decode cX6_named 78 = .ok (.iload 4, 2) := by decide +kernel
theorem dX6_named_80 : decode cX6_named 80 = .ok (.iastore, 1) := by decide +kernel
theorem dX6_named_81 : decode cX6_named 81 = .ok (.iload_n 3, 1) := by decide +kernel
theorem dX6_named_82 : decode cX6_named 82 = .ok (.aload_n 0, 1) := by decide +kernel
theorem dX6_named_83 : decode cX6_named 83 = .ok (.invokevirtual 251, 3) := by decide +kernel
theorem dX6_named_86 : decode cX6_named 86 = .ok (.ifCond .eq 10, 3) := by decide +kernel
theorem dX6_named_89 : decode cX6_named 89 = .ok (.iconst 1, 1) := by decide +kernel
theorem dX6_named_90 : decode cX6_named 90 = .ok (.iload 4, 2) := by decide +kernel
theorem dX6_named_92 : decode cX6_named 92 = .ok (.ishl, 1) := by decide +kernel
theorem dX6_named_93 : decode cX6_named 93 = .ok (.goto 4, 3) := by decide +kernel
theorem dX6_named_96 : decode cX6_named 96 = .ok (.iconst 0, 1) := by decide +kernel
theorem dX6_named_97 : decode cX6_named 97 = .ok (.ior, 1) := by decide +kernel
theorem dX6_named_98 : decode cX6_named 98 = .ok (.istore_n 3, 1) := by decide +kernel
theorem dX6_named_99 : decode cX6_named 99 = .ok (.iinc 4 1, 3) := by decide +kernel
theorem dX6_named_102 : decode cX6_named 102 = .ok (.goto (-43), 3) := by decide +kernel
theorem dX6_named_105 : decode cX6_named 105 = .ok (.aload_n 0, 1) := by decide +kernel
theorem dX6_named_106 : decode cX6_named 106 = .ok (.dup, 1) := by decide +kernel
theorem dX6_named_107 : decode cX6_named 107 = .ok (.getfield 170, 3) := by decide +kernel
theorem dX6_named_110 : decode cX6_named 110 = .ok (.iconst 1, 1) := by decide +kernel
theorem dX6_named_111 : decode cX6_named 111 = .ok (.isub, 1) := by decide +kernel
theorem dX6_named_112 : decode cX6_named 112 = .ok (.putfield 170, 3) := by decide +kernel
theorem dX6_named_115 : decode cX6_named 115 = .ok (.iload_n 3, 1) := by decide +kernel
theorem dX6_named_116 : decode cX6_named 116 = .ok (.ireturn, 1) := by decide +kernel
theorem dX6_opened_0 : decode cX6_opened 0 = .ok (.aload_n 0, 1) := by decide +kernel
theorem dX6_opened_1 : decode cX6_opened 1 = .ok (.getfield 107, 3) := by decide +kernel
theorem dX6_opened_4 : decode cX6_opened 4 = .ok (.ifCond .ne 6, 3) := by decide +kernel
theorem dX6_opened_7 : decode cX6_opened 7 = .ok (.bipush (-3), 2) := by decide +kernel
theorem dX6_opened_9 : decode cX6_opened 9 = .ok (.ireturn, 1) := by decide +kernel
theorem dX6_opened_10 : decode cX6_opened 10 = .ok (.iconst 0, 1) := by decide +kernel
theorem dX6_opened_11 : decode cX6_opened 11 = .ok (.istore_n 1, 1) := by decide +kernel
theorem dX6_opened_12 : decode cX6_opened 12 = .ok (.iconst 0, 1) := by decide +kernel
theorem dX6_opened_13 : decode cX6_opened 13 = .ok (.istore_n 2, 1) := by decide +kernel
theorem dX6_opened_14 : decode cX6_opened 14 = .ok (.iload_n 2, 1) := by decide +kernel
theorem dX6_opened_15 : decode cX6_opened 15 = .ok (.aload_n 0, 1) := by decide +kernel
theorem dX6_opened_16 : decode cX6_opened 16 = .ok (.getfield 114, 3) := by decide +kernel
theorem dX6_opened_19 : decode cX6_opened 19 = .ok (.if_icmp .ge 48, 3) := by decide +kernel
theorem dX6_opened_22 : decode cX6_opened 22 = .ok (.aload_n 0, 1) := by decide +kernel
theorem dX6_opened_23 : decode cX6_opened 23 = .ok (.getfield 25, 3) := by decide +kernel
theorem dX6_opened_26 : decode cX6_opened 26 = .ok (.iload_n 2, 1) := by decide +kernel
theorem dX6_opened_27 : decode cX6_opened 27 = .ok (.iaload, 1) := by decide +kernel
theorem dX6_opened_28 : decode cX6_opened 28 = .ok (.istore_n 3, 1) := by decide +kernel
theorem dX6_opened_29 : decode cX6_opened 29 = .ok (.aload_n 0, 1) := by decide +kernel
theorem dX6_opened_30 : decode cX6_opened 30 = .ok (.getfield 25, 3) := by decide +kernel
theorem dX6_opened_33 : decode cX6_opened 33 = .ok (.iload_n 2, 1) := by decide +kernel
theorem dX6_opened_34 : decode cX6_opened 34 = .ok (.bipush 40, 2) := by decide +kernel
theorem dX6_opened_36 : decode cX6_opened 36 = .ok (.iastore, 1) := by decide +kernel
theorem dX6_opened_37 : decode cX6_opened 37 = .ok (.iload_n 1, 1) := by decide +kernel
theorem dX6_opened_38 : decode cX6_opened 38 = .ok (.aload_n 0, 1) := by decide +kernel
theorem dX6_opened_39 : decode cX6_opened 39 = .ok (.invokevirtual 251, 3) := by decide +kernel
theorem dX6_opened_42 : decode cX6_opened 42 = .ok (.ifCond .eq 9, 3) := by decide +kernel
theorem dX6_opened_45 : decode cX6_opened 45 = .ok (.iconst 1, 1) := by decide +kernel
theorem dX6_opened_46 : decode cX6_opened 46 = .ok (.iload_n 2, 1) := by decide +kernel
theorem dX6_opened_47 : decode cX6_opened 47 = .ok (.ishl, 1) := by decide +kernel
theorem dX6_opened_48 : decode cX6_opened 48 = .ok (.goto 4, 3) := by decide +kernel
theorem dX6_opened_51 : decode cX6_opened 51 = .ok (.iconst 0, 1) := by decide +kernel
theorem dX6_opened_52 : decode cX6_opened 52 = .ok (.ior, 1) := by decide +kernel
theorem dX6_opened_53 : decode cX6_opened 53 = .ok (.istore_n 1, 1) := by decide +kernel
theorem dX6_opened_54 : decode cX6_opened 54 = .ok (.aload_n 0, 1) := by decide +kernel
theorem dX6_opened_55 : decode cX6_opened 55 = .ok (.getfield 25, 3) := by decide +kernel
theorem dX6_opened_58 : decode cX6_opened 58 = .ok (.iload_n 2, 1) := by decide +kernel
theorem dX6_opened_59 : decode cX6_opened 59 = .ok (.iload_n 3, 1) := by decide +kernel
theorem dX6_opened_60 : decode cX6_opened 60 = .ok (.iastore, 1) := by decide +kernel
theorem dX6_opened_61 : decode cX6_opened 61 = .ok (.iinc 2 1, 3) := by decide +kernel
theorem dX6_opened_64 : decode cX6_opened 64 = .ok (.goto (-50), 3) := by decide +kernel
theorem dX6_opened_67 : decode cX6_opened 67 = .ok (.iload_n 1, 1) := by decide +kernel
theorem dX6_opened_68 : decode cX6_opened 68 = .ok (.ireturn, 1) := by decide +kernel
theorem dX6_odds_0 : decode cX6_odds 0 = .ok (.iload_n 1, 1) := by decide +kernel
theorem dX6_odds_1 : decode cX6_odds 1 = .ok (.invokestatic 188, 3) := by decide +kernel
theorem dX6_odds_4 : decode cX6_odds 4 = .ok (.ifCond .eq 20, 3) := by decide +kernel
theorem dX6_odds_7 : decode cX6_odds 7 = .ok (.iload_n 2, 1) := by decide +kernel
theorem dX6_odds_8 : decode cX6_odds 8 = .ok (.i2l, 1) := by decide +kernel
theorem dX6_odds_9 : decode cX6_odds 9 = .ok (.lconst 0, 1) := by decide +kernel
theorem dX6_odds_10 : decode cX6_odds 10 = .ok (.lconst 1, 1) := by decide +kernel
theorem dX6_odds_11 : decode cX6_odds 11 = .ok (.invokestatic 110, 3) := by decide +kernel
theorem dX6_odds_14 : decode cX6_odds 14 = .ok (.ifCond .eq 10, 3) := by decide +kernel
theorem dX6_odds_17 : decode cX6_odds 17 = .ok (.aload_n 0, 1) := by decide +kernel
theorem dX6_odds_18 : decode cX6_odds 18 = .ok (.getfield 107, 3) := by decide +kernel
theorem dX6_odds_21 : decode cX6_odds 21 = .ok (.ifCond .ne 7, 3) := by decide +kernel
theorem dX6_odds_24 : decode cX6_odds 24 = .ok (.invokestatic 103, 3) := by decide +kernel
theorem dX6_odds_27 : decode cX6_odds 27 = .ok (.lreturn, 1) := by decide +kernel
theorem dX6_odds_28 : decode cX6_odds 28 = .ok (.aload_n 0, 1) := by decide +kernel
theorem dX6_odds_29 : decode cX6_odds 29 = .ok (.getfield 164, 3) := by decide +kernel
theorem dX6_odds_32 : decode cX6_odds 32 = .ok (.istore_n 3, 1) := by decide +kernel
theorem dX6_odds_33 : decode cX6_odds 33 = .ok (.lconst 0, 1) := by decide +kernel
theorem dX6_odds_34 : decode cX6_odds 34 = .ok (.lstore 4, 2) := by decide +kernel
theorem dX6_odds_36 : decode cX6_odds 36 = .ok (.iconst 0, 1) := by decide +kernel
theorem dX6_odds_37 : decode cX6_odds 37 = .ok (.istore 6, 2) := by decide +kernel
theorem dX6_odds_39 : decode cX6_odds 39 = .ok (.iload 6, 2) := by decide +kernel
theorem dX6_odds_41 : decode cX6_odds 41 = .ok (.aload_n 0, 1) := by decide +kernel
theorem dX6_odds_42 : decode cX6_odds 42 = .ok (.invokevirtual 206, 3) := by decide +kernel
theorem dX6_odds_45 : decode cX6_odds 45 = .ok (.if_icmp .gt 33, 3) := by decide +kernel
theorem dX6_odds_48 : decode cX6_odds 48 = .ok (.aload_n 0, 1) := by decide +kernel
theorem dX6_odds_49 : decode cX6_odds 49 = .ok (.iload 6, 2) := by decide +kernel
theorem dX6_odds_51 : decode cX6_odds 51 = .ok (.putfield 164, 3) := by decide +kernel
theorem dX6_odds_54 : decode cX6_odds 54 = .ok (.lload 4, 2) := by decide +kernel
theorem dX6_odds_56 : decode cX6_odds 56 = .ok (.aload_n 0, 1) := by decide +kernel
theorem dX6_odds_57 : decode cX6_odds 57 = .ok (.iload_n 1, 1) := by decide +kernel
theorem dX6_odds_58 : decode cX6_odds 58 = .ok (.invokevirtual 238, 3) := by decide +kernel
theorem dX6_odds_61 : decode cX6_odds 61 = .ok (.ifCond .eq 7, 3) := by decide +kernel
theorem dX6_odds_64 : decode cX6_odds 64 = .ok (.lconst 1, 1) := by decide +kernel
theorem dX6_odds_65 : decode cX6_odds 65 = .ok (.goto 4, 3) := by decide +kernel
theorem dX6_odds_68 : decode cX6_odds 68 = .ok (.lconst 0, 1) := by decide +kernel
theorem dX6_odds_69 : decode cX6_odds 69 = .ok (.ladd, 1) := by decide +kernel
theorem dX6_odds_70 : decode cX6_odds 70 = .ok (.lstore 4, 2) := by decide +kernel
theorem dX6_odds_72 : decode cX6_odds 72 = .ok (.iinc 6 1, 3) := by decide +kernel
theorem dX6_odds_75 : decode cX6_odds 75 = .ok (.goto (-36), 3) := by decide +kernel
theorem dX6_odds_78 : decode cX6_odds 78 = .ok (.aload_n 0, 1) := by decide +kernel
theorem dX6_odds_79 : decode cX6_odds 79 = .ok (.iload_n 3, 1) := by decide +kernel
theorem dX6_odds_80 : decode cX6_odds 80 = .ok (.putfield 164, 3) := by decide +kernel
theorem dX6_odds_83 : decode cX6_odds 83 = .ok (.lload 4, 2) := by decide +kernel
theorem dX6_odds_85 : decode cX6_odds 85 = .ok (.aload_n 0, 1) := by decide +kernel
theorem dX6_odds_86 : decode cX6_odds 86 = .ok (.invokevirtual 206, 3) := by decide +kernel
theorem dX6_odds_89 : decode cX6_odds 89 = .ok (.i2l, 1) := by decide +kernel
theorem dX6_odds_90 : decode cX6_odds 90 = .ok (.lconst 1, 1) := by decide +kernel
theorem dX6_odds_91 : decode cX6_odds 91 = .ok (.ladd, 1) := by decide +kernel
theorem dX6_odds_92 : decode cX6_odds 92 = .ok (.iload_n 2, 1) := by decide +kernel
theorem dX6_odds_93 : decode cX6_odds 93 = .ok (.invokestatic 255, 3) := by decide +kernel
theorem dX6_odds_96 : decode cX6_odds 96 = .ok (.lreturn, 1) := by decide +kernel
theorem dX6_noSheet_0 : decode cX6_noSheet 0 = .ok (.iload_n 0, 1) := by decide +kernel
theorem dX6_noSheet_1 : decode cX6_noSheet 1 = .ok (.i2l, 1) := by decide +kernel
theorem dX6_noSheet_2 : decode cX6_noSheet 2 = .ok (.lconst 0, 1) := by decide +kernel
theorem dX6_noSheet_3 : decode cX6_noSheet 3 = .ok (.ldc2_w 246, 3) := by decide +kernel
theorem dX6_noSheet_6 : decode cX6_noSheet 6 = .ok (.invokestatic 110, 3) := by decide +kernel
theorem dX6_noSheet_9 : decode cX6_noSheet 9 = .ok (.ifCond .ne 7, 3) := by decide +kernel
theorem dX6_noSheet_12 : decode cX6_noSheet 12 = .ok (.iconst 1, 1) := by decide +kernel
theorem dX6_noSheet_13 : decode cX6_noSheet 13 = .ok (.goto 4, 3) := by decide +kernel
theorem dX6_noSheet_16 : decode cX6_noSheet 16 = .ok (.iconst 0, 1) := by decide +kernel
theorem dX6_noSheet_17 : decode cX6_noSheet 17 = .ok (.ireturn, 1) := by decide +kernel
theorem dX6_sheet_0 : decode cX6_sheet 0 = .ok (.iload_n 1, 1) := by decide +kernel
theorem dX6_sheet_1 : decode cX6_sheet 1 = .ok (.invokestatic 148, 3) := by decide +kernel
theorem dX6_sheet_4 : decode cX6_sheet 4 = .ok (.ifCond .eq 9, 3) := by decide +kernel
theorem dX6_sheet_7 : decode cX6_sheet 7 = .ok (.aload_n 0, 1) := by decide +kernel
theorem dX6_sheet_8 : decode cX6_sheet 8 = .ok (.iconst (-1), 1) := by decide +kernel
theorem dX6_sheet_9 : decode cX6_sheet 9 = .ok (.invokevirtual 152, 3) := by decide +kernel
theorem dX6_sheet_12 : decode cX6_sheet 12 = .ok (.ireturn, 1) := by decide +kernel
theorem dX6_sheet_13 : decode cX6_sheet 13 = .ok (.iload_n 2, 1) := by decide +kernel
theorem dX6_sheet_14 : decode cX6_sheet 14 = .ok (.i2l, 1) := by decide +kernel
theorem dX6_sheet_15 : decode cX6_sheet 15 = .ok (.lconst 0, 1) := by decide +kernel
theorem dX6_sheet_16 : decode cX6_sheet 16 = .ok (.ldc2_w 155, 3) := by decide +kernel
theorem dX6_sheet_19 : decode cX6_sheet 19 = .ok (.invokestatic 110, 3) := by decide +kernel
theorem dX6_sheet_22 : decode cX6_sheet 22 = .ok (.ifCond .eq 9, 3) := by decide +kernel
theorem dX6_sheet_25 : decode cX6_sheet 25 = .ok (.iload_n 3, 1) := by decide +kernel
theorem dX6_sheet_26 : decode cX6_sheet 26 = .ok (.bipush 60, 2) := by decide +kernel
theorem dX6_sheet_28 : decode cX6_sheet 28 = .ok (.if_icmp .le 10, 3) := by decide +kernel
theorem dX6_sheet_31 : decode cX6_sheet 31 = .ok (.aload_n 0, 1) := by decide +kernel
theorem dX6_sheet_32 : decode cX6_sheet 32 = .ok (.bipush (-2), 2) := by decide +kernel
theorem dX6_sheet_34 : decode cX6_sheet 34 = .ok (.invokevirtual 152, 3) := by decide +kernel
theorem dX6_sheet_37 : decode cX6_sheet 37 = .ok (.ireturn, 1) := by decide +kernel
theorem dX6_sheet_38 : decode cX6_sheet 38 = .ok (.iload_n 3, 1) := by decide +kernel
theorem dX6_sheet_39 : decode cX6_sheet 39 = .ok (.ifCond .ge 9, 3) := by decide +kernel
theorem dX6_sheet_42 : decode cX6_sheet 42 = .ok (.aload_n 0, 1) := by decide +kernel
theorem dX6_sheet_43 : decode cX6_sheet 43 = .ok (.iconst 4, 1) := by decide +kernel
theorem dX6_sheet_44 : decode cX6_sheet 44 = .ok (.invokevirtual 140, 3) := by decide +kernel
theorem dX6_sheet_47 : decode cX6_sheet 47 = .ok (.ireturn, 1) := by decide +kernel
theorem dX6_sheet_48 : decode cX6_sheet 48 = .ok (.aload_n 0, 1) := by decide +kernel
theorem dX6_sheet_49 : decode cX6_sheet 49 = .ok (.getfield 85, 3) := by decide +kernel
theorem dX6_sheet_52 : decode cX6_sheet 52 = .ok (.iload_n 1, 1) := by decide +kernel
theorem dX6_sheet_53 : decode cX6_sheet 53 = .ok (.iload_n 3, 1) := by decide +kernel
theorem dX6_sheet_54 : decode cX6_sheet 54 = .ok (.iastore, 1) := by decide +kernel
theorem dX6_sheet_55 : decode cX6_sheet 55 = .ok (.aload_n 0, 1) := by decide +kernel
theorem dX6_sheet_56 : decode cX6_sheet 56 = .ok (.getfield 88, 3) := by decide +kernel
theorem dX6_sheet_59 : decode cX6_sheet 59 = .ok (.iload_n 1, 1) := by decide +kernel
theorem dX6_sheet_60 : decode cX6_sheet 60 = .ok (.iload_n 2, 1) := by decide +kernel
theorem dX6_sheet_61 : decode cX6_sheet 61 = .ok (.iastore, 1) := by decide +kernel
theorem dX6_sheet_62 : decode cX6_sheet 62 = .ok (.iconst 0, 1) := by decide +kernel
theorem dX6_sheet_63 : decode cX6_sheet 63 = .ok (.istore 4, 2) := by decide +kernel
theorem dX6_sheet_65 : decode cX6_sheet 65 = .ok (.iload 4, 2) := by decide +kernel
theorem dX6_sheet_67 : decode cX6_sheet 67 = .ok (.iload_n 3, 1) := by decide +kernel
theorem dX6_sheet_68 : decode cX6_sheet 68 = .ok (.if_icmp .ge 22, 3) := by decide +kernel
theorem dX6_sheet_71 : decode cX6_sheet 71 = .ok (.aload_n 0, 1) := by decide +kernel
theorem dX6_sheet_72 : decode cX6_sheet 72 = .ok (.getfield 91, 3) := by decide +kernel
theorem dX6_sheet_75 : decode cX6_sheet 75 = .ok (.bipush 60, 2) := by decide +kernel
theorem dX6_sheet_77 : decode cX6_sheet 77 = .ok (.iload_n 1, 1) := by decide +kernel
theorem dX6_sheet_78 : decode cX6_sheet 78 = .ok (.imul, 1) := by decide +kernel
theorem dX6_sheet_79 : decode cX6_sheet 79 = .ok (.iload 4, 2) := by decide +kernel
theorem dX6_sheet_81 : decode cX6_sheet 81 = .ok (.iadd, 1) := by decide +kernel
theorem dX6_sheet_82 : decode cX6_sheet 82 = .ok (.iconst 0, 1) := by decide +kernel
theorem dX6_sheet_83 : decode cX6_sheet 83 = .ok (.iastore, 1) := by decide +kernel
theorem dX6_sheet_84 : decode cX6_sheet 84 = .ok (.iinc 4 1, 3) := by decide +kernel
theorem dX6_sheet_87 : decode cX6_sheet 87 = .ok (.goto (-22), 3) := by decide +kernel
theorem dX6_sheet_90 : decode cX6_sheet 90 = .ok (.aload_n 0, 1) := by decide +kernel
theorem dX6_sheet_91 : decode cX6_sheet 91 = .ok (.iconst 1, 1) := by decide +kernel
theorem dX6_sheet_92 : decode cX6_sheet 92 = .ok (.invokevirtual 152, 3) := by decide +kernel
theorem dX6_sheet_95 : decode cX6_sheet 95 = .ok (.ireturn, 1) := by decide +kernel
theorem dX6_lose_0 : decode cX6_lose 0 = .ok (.iload_n 1, 1) := by decide +kernel
theorem dX6_lose_1 : decode cX6_lose 1 = .ok (.invokestatic 148, 3) := by decide +kernel
theorem dX6_lose_4 : decode cX6_lose 4 = .ok (.ifCond .eq 5, 3) := by decide +kernel
theorem dX6_lose_7 : decode cX6_lose 7 = .ok (.iconst (-1), 1) := by decide +kernel
theorem dX6_lose_8 : decode cX6_lose 8 = .ok (.ireturn, 1) := by decide +kernel
theorem dX6_lose_9 : decode cX6_lose 9 = .ok (.aload_n 0, 1) := by decide +kernel
theorem dX6_lose_10 : decode cX6_lose 10 = .ok (.getfield 85, 3) := by decide +kernel
theorem dX6_lose_13 : decode cX6_lose 13 = .ok (.iload_n 1, 1) := by decide +kernel
theorem dX6_lose_14 : decode cX6_lose 14 = .ok (.iaload, 1) := by decide +kernel
theorem dX6_lose_15 : decode cX6_lose 15 = .ok (.ifCond .ge 7, 3) := by decide +kernel
theorem dX6_lose_18 : decode cX6_lose 18 = .ok (.iconst 0, 1) := by decide +kernel
theorem dX6_lose_19 : decode cX6_lose 19 = .ok (.goto 4, 3) := by decide +kernel
theorem dX6_lose_22 : decode cX6_lose 22 = .ok (.iconst 1, 1) := by decide +kernel
theorem dX6_lose_23 : decode cX6_lose 23 = .ok (.istore_n 2, 1) := by decide +kernel
theorem dX6_lose_24 : decode cX6_lose 24 = .ok (.aload_n 0, 1) := by decide +kernel
theorem dX6_lose_25 : decode cX6_lose 25 = .ok (.getfield 85, 3) := by decide +kernel
theorem dX6_lose_28 : decode cX6_lose 28 = .ok (.iload_n 1, 1) := by decide +kernel
theorem dX6_lose_29 : decode cX6_lose 29 = .ok (.iconst (-1), 1) := by decide +kernel
theorem dX6_lose_30 : decode cX6_lose 30 = .ok (.iastore, 1) := by decide +kernel
theorem dX6_lose_31 : decode cX6_lose 31 = .ok (.iload_n 2, 1) := by decide +kernel
theorem dX6_lose_32 : decode cX6_lose 32 = .ok (.ireturn, 1) := by decide +kernel
theorem dX6_noCell_0 : decode cX6_noCell 0 = .ok (.aload_n 0, 1) := by decide +kernel
theorem dX6_noCell_1 : decode cX6_noCell 1 = .ok (.getfield 85, 3) := by decide +kernel
theorem dX6_noCell_4 : decode cX6_noCell 4 = .ok (.iload_n 1, 1) := by decide +kernel
theorem dX6_noCell_5 : decode cX6_noCell 5 = .ok (.iaload, 1) := by decide +kernel
theorem dX6_noCell_6 : decode cX6_noCell 6 = .ok (.ifCond .ge 7, 3) := by decide +kernel
theorem dX6_noCell_9 : decode cX6_noCell 9 = .ok (.iconst 1, 1) := by decide +kernel
theorem dX6_noCell_10 : decode cX6_noCell 10 = .ok (.goto 26, 3) := by decide +kernel
theorem dX6_noCell_13 : decode cX6_noCell 13 = .ok (.iload_n 2, 1) := by decide +kernel
theorem dX6_noCell_14 : decode cX6_noCell 14 = .ok (.i2l, 1) := by decide +kernel
theorem dX6_noCell_15 : decode cX6_noCell 15 = .ok (.lconst 0, 1) := by decide +kernel
theorem dX6_noCell_16 : decode cX6_noCell 16 = .ok (.aload_n 0, 1) := by decide +kernel
theorem dX6_noCell_17 : decode cX6_noCell 17 = .ok (.getfield 85, 3) := by decide +kernel
theorem dX6_noCell_20 : decode cX6_noCell 20 = .ok (.iload_n 1, 1) := by decide +kernel
theorem dX6_noCell_21 : decode cX6_noCell 21 = .ok (.iaload, 1) := by decide +kernel
theorem dX6_noCell_22 : decode cX6_noCell 22 = .ok (.i2l, 1) := by decide +kernel
theorem dX6_noCell_23 : decode cX6_noCell 23 = .ok (.lconst 1, 1) := by decide +kernel
theorem dX6_noCell_24 : decode cX6_noCell 24 = .ok (.lsub, 1) := by decide +kernel
theorem dX6_noCell_25 : decode cX6_noCell 25 = .ok (.invokestatic 110, 3) := by decide +kernel
theorem dX6_noCell_28 : decode cX6_noCell 28 = .ok (.ifCond .eq 7, 3) := by decide +kernel
theorem dX6_noCell_31 : decode cX6_noCell 31 = .ok (.iconst 0, 1) := by decide +kernel
theorem dX6_noCell_32 : decode cX6_noCell 32 = .ok (.goto 4, 3) := by decide +kernel
theorem dX6_noCell_35 : decode cX6_noCell 35 = .ok (.iconst 3, 1) := by decide +kernel
theorem dX6_noCell_36 : decode cX6_noCell 36 = .ok (.ireturn, 1) := by decide +kernel
theorem dX6_put_0 : decode cX6_put 0 = .ok (.iload_n 1, 1) := by decide +kernel
theorem dX6_put_1 : decode cX6_put 1 = .ok (.invokestatic 148, 3) := by decide +kernel
theorem dX6_put_4 : decode cX6_put 4 = .ok (.ifCond .eq 9, 3) := by decide +kernel
theorem dX6_put_7 : decode cX6_put 7 = .ok (.aload_n 0, 1) := by decide +kernel
theorem dX6_put_8 : decode cX6_put 8 = .ok (.iconst (-1), 1) := by decide +kernel
theorem dX6_put_9 : decode cX6_put 9 = .ok (.invokevirtual 152, 3) := by decide +kernel
theorem dX6_put_12 : decode cX6_put 12 = .ok (.ireturn, 1) := by decide +kernel
theorem dX6_put_13 : decode cX6_put 13 = .ok (.aload_n 0, 1) := by decide +kernel
theorem dX6_put_14 : decode cX6_put 14 = .ok (.iload_n 1, 1) := by decide +kernel
theorem dX6_put_15 : decode cX6_put 15 = .ok (.iload_n 2, 1) := by decide +kernel
theorem dX6_put_16 : decode cX6_put 16 = .ok (.invokevirtual 259, 3) := by decide +kernel
theorem dX6_put_19 : decode cX6_put 19 = .ok (.ifCond .le 14, 3) := by decide +kernel
theorem dX6_put_22 : decode cX6_put 22 = .ok (.aload_n 0, 1) := by decide +kernel
theorem dX6_put_23 : decode cX6_put 23 = .ok (.aload_n 0, 1) := by decide +kernel
theorem dX6_put_24 : decode cX6_put 24 = .ok (.iload_n 1, 1) := by decide +kernel
theorem dX6_put_25 : decode cX6_put 25 = .ok (.iload_n 2, 1) := by decide +kernel
theorem dX6_put_26 : decode cX6_put 26 = .ok (.invokevirtual 259, 3) := by decide +kernel
theorem dX6_put_29 : decode cX6_put 29 = .ok (.invokevirtual 140, 3) := by decide +kernel
theorem dX6_put_32 : decode cX6_put 32 = .ok (.ireturn, 1) := by decide +kernel
theorem dX6_put_33 : decode cX6_put 33 = .ok (.aload_n 0, 1) := by decide +kernel
theorem dX6_put_34 : decode cX6_put 34 = .ok (.getfield 91, 3) := by decide +kernel
theorem dX6_put_37 : decode cX6_put 37 = .ok (.bipush 60, 2) := by decide +kernel
theorem dX6_put_39 : decode cX6_put 39 = .ok (.iload_n 1, 1) := by decide +kernel
theorem dX6_put_40 : decode cX6_put 40 = .ok (.imul, 1) := by decide +kernel
theorem dX6_put_41 : decode cX6_put 41 = .ok (.iload_n 2, 1) := by decide +kernel
theorem dX6_put_42 : decode cX6_put 42 = .ok (.iadd, 1) := by decide +kernel
theorem dX6_put_43 : decode cX6_put 43 = .ok (.aload_n 0, 1) := by decide +kernel
theorem dX6_put_44 : decode cX6_put 44 = .ok (.getfield 88, 3) := by decide +kernel
theorem dX6_put_47 : decode cX6_put 47 = .ok (.iload_n 1, 1) := by decide +kernel
theorem dX6_put_48 : decode cX6_put 48 = .ok (.iaload, 1) := by decide +kernel
theorem dX6_put_49 : decode cX6_put 49 = .ok (.ifCond .ne 8, 3) := by decide +kernel
theorem dX6_put_52 : decode cX6_put 52 = .ok (.iload_n 3, 1) := by decide +kernel
theorem dX6_put_53 : decode cX6_put 53 = .ok (.i2b, 1) := by decide +kernel
theorem dX6_put_54 : decode cX6_put 54 = .ok (.goto 19, 3) := by decide +kernel
theorem dX6_put_57 : decode cX6_put 57 = .ok (.aload_n 0, 1) := by decide +kernel
theorem dX6_put_58 : decode cX6_put 58 = .ok (.getfield 88, 3) := by decide +kernel
theorem dX6_put_61 : decode cX6_put 61 = .ok (.iload_n 1, 1) := by decide +kernel
theorem dX6_put_62 : decode cX6_put 62 = .ok (.iaload, 1) := by decide +kernel
theorem dX6_put_63 : decode cX6_put 63 = .ok (.iconst 1, 1) := by decide +kernel
theorem dX6_put_64 : decode cX6_put 64 = .ok (.if_icmp .ne 8, 3) := by decide +kernel
theorem dX6_put_67 : decode cX6_put 67 = .ok (.iload_n 3, 1) := by decide +kernel
theorem dX6_put_68 : decode cX6_put 68 = .ok (.i2s, 1) := by decide +kernel
theorem dX6_put_69 : decode cX6_put 69 = .ok (.goto 4, 3) := by decide +kernel
theorem dX6_put_72 : decode cX6_put 72 = .ok (.iload_n 3, 1) := by decide +kernel
theorem dX6_put_73 : decode cX6_put 73 = .ok (.iastore, 1) := by decide +kernel
theorem dX6_put_74 : decode cX6_put 74 = .ok (.aload_n 0, 1) := by decide +kernel
theorem dX6_put_75 : decode cX6_put 75 = .ok (.iconst 1, 1) := by decide +kernel
theorem dX6_put_76 : decode cX6_put 76 = .ok (.invokevirtual 152, 3) := by decide +kernel
theorem dX6_put_79 : decode cX6_put 79 = .ok (.ireturn, 1) := by decide +kernel
theorem dX6_cell_0 : decode cX6_cell 0 = .ok (.aload_n 0, 1) := by decide +kernel
theorem dX6_cell_1 : decode cX6_cell 1 = .ok (.iconst 0, 1) := by decide +kernel
theorem dX6_cell_2 : decode cX6_cell 2 = .ok (.putfield 99, 3) := by decide +kernel
theorem dX6_cell_5 : decode cX6_cell 5 = .ok (.iload_n 1, 1) := by decide +kernel
theorem dX6_cell_6 : decode cX6_cell 6 = .ok (.invokestatic 148, 3) := by decide +kernel
theorem dX6_cell_9 : decode cX6_cell 9 = .ok (.ifCond .ne 15, 3) := by decide +kernel
theorem dX6_cell_12 : decode cX6_cell 12 = .ok (.iload_n 3, 1) := by decide +kernel
theorem dX6_cell_13 : decode cX6_cell 13 = .ok (.i2l, 1) := by decide +kernel
theorem dX6_cell_14 : decode cX6_cell 14 = .ok (.lconst 0, 1) := by decide +kernel
theorem dX6_cell_15 : decode cX6_cell 15 = .ok (.ldc2_w 155, 3) := by decide +kernel
theorem dX6_cell_18 : decode cX6_cell 18 = .ok (.invokestatic 110, 3) := by decide +kernel
theorem dX6_cell_21 : decode cX6_cell 21 = .ok (.ifCond .ne 7, 3) := by decide +kernel
theorem dX6_cell_24 : decode cX6_cell 24 = .ok (.invokestatic 103, 3) := by decide +kernel
theorem dX6_cell_27 : decode cX6_cell 27 = .ok (.lreturn, 1) := by decide +kernel
theorem dX6_cell_28 : decode cX6_cell 28 = .ok (.aload_n 0, 1) := by decide +kernel
theorem dX6_cell_29 : decode cX6_cell 29 = .ok (.getfield 85, 3) := by decide +kernel
theorem dX6_cell_32 : decode cX6_cell 32 = .ok (.iload_n 1, 1) := by decide +kernel
theorem dX6_cell_33 : decode cX6_cell 33 = .ok (.iaload, 1) := by decide +kernel
theorem dX6_cell_34 : decode cX6_cell 34 = .ok (.ifCond .lt 19, 3) := by decide +kernel
theorem dX6_cell_37 : decode cX6_cell 37 = .ok (.aload_n 0, 1) := by decide +kernel
theorem dX6_cell_38 : decode cX6_cell 38 = .ok (.getfield 88, 3) := by decide +kernel
theorem dX6_cell_41 : decode cX6_cell 41 = .ok (.iload_n 1, 1) := by decide +kernel
theorem dX6_cell_42 : decode cX6_cell 42 = .ok (.iaload, 1) := by decide +kernel
theorem dX6_cell_43 : decode cX6_cell 43 = .ok (.iload_n 3, 1) := by decide +kernel
theorem dX6_cell_44 : decode cX6_cell 44 = .ok (.if_icmp .eq 9, 3) := by decide +kernel
theorem dX6_cell_47 : decode cX6_cell 47 = .ok (.aload_n 0, 1) := by decide +kernel
theorem dX6_cell_48 : decode cX6_cell 48 = .ok (.iconst 2, 1) := by decide +kernel
theorem dX6_cell_49 : decode cX6_cell 49 = .ok (.invokevirtual 262, 3) := by decide +kernel
theorem dX6_cell_52 : decode cX6_cell 52 = .ok (.lreturn, 1) := by decide +kernel
theorem dX6_cell_53 : decode cX6_cell 53 = .ok (.aload_n 0, 1) := by decide +kernel
theorem dX6_cell_54 : decode cX6_cell 54 = .ok (.iload_n 1, 1) := by decide +kernel
theorem dX6_cell_55 : decode cX6_cell 55 = .ok (.iload_n 2, 1) := by decide +kernel
theorem dX6_cell_56 : decode cX6_cell 56 = .ok (.invokevirtual 259, 3) := by decide +kernel
theorem dX6_cell_59 : decode cX6_cell 59 = .ok (.ifCond .le 16, 3) := by decide +kernel
theorem dX6_cell_62 : decode cX6_cell 62 = .ok (.aload_n 0, 1) := by decide +kernel
theorem dX6_cell_63 : decode cX6_cell 63 = .ok (.aload_n 0, 1) := by decide +kernel
theorem dX6_cell_64 : decode cX6_cell 64 = .ok (.iload_n 1, 1) := by decide +kernel
theorem dX6_cell_65 : decode cX6_cell 65 = .ok (.iload_n 2, 1) := by decide +kernel
theorem dX6_cell_66 : decode cX6_cell 66 = .ok (.invokevirtual 259, 3) := by decide +kernel
theorem dX6_cell_69 : decode cX6_cell 69 = .ok (.invokevirtual 262, 3) := by decide +kernel
theorem dX6_cell_72 : decode cX6_cell 72 = .ok (.goto 15, 3) := by decide +kernel
theorem dX6_cell_75 : decode cX6_cell 75 = .ok (.aload_n 0, 1) := by decide +kernel
theorem dX6_cell_76 : decode cX6_cell 76 = .ok (.getfield 91, 3) := by decide +kernel
theorem dX6_cell_79 : decode cX6_cell 79 = .ok (.bipush 60, 2) := by decide +kernel
theorem dX6_cell_81 : decode cX6_cell 81 = .ok (.iload_n 1, 1) := by decide +kernel
theorem dX6_cell_82 : decode cX6_cell 82 = .ok (.imul, 1) := by decide +kernel
theorem dX6_cell_83 : decode cX6_cell 83 = .ok (.iload_n 2, 1) := by decide +kernel
theorem dX6_cell_84 : decode cX6_cell 84 = .ok (.iadd, 1) := by decide +kernel
theorem dX6_cell_85 : decode cX6_cell 85 = .ok (.iaload, 1) := by decide +kernel
theorem dX6_cell_86 : decode cX6_cell 86 = .ok (.i2l, 1) := by decide +kernel
theorem dX6_cell_87 : decode cX6_cell 87 = .ok (.lreturn, 1) := by decide +kernel
theorem dX6_isBeyond_0 : decode cX6_isBeyond 0 = .ok (.iload_n 0, 1) := by decide +kernel
theorem dX6_isBeyond_1 : decode cX6_isBeyond 1 = .ok (.ifCond .lt 19, 3) := by decide +kernel
theorem dX6_isBeyond_4 : decode cX6_isBeyond 4 = .ok (.lload_n 1, 1) := by decide +kernel
theorem dX6_isBeyond_5 : decode cX6_isBeyond 5 = .ok (.lconst 0, 1) := by decide +kernel
theorem dX6_isBeyond_6 : decode cX6_isBeyond 6 = .ok (.lcmp, 1) := by decide +kernel
theorem dX6_isBeyond_7 : decode cX6_isBeyond 7 = .ok (.ifCond .lt 13, 3) := by decide +kernel
theorem dX6_isBeyond_10 : decode cX6_isBeyond 10 = .ok (.iload_n 0, 1) := by decide +kernel
theorem dX6_isBeyond_11 : decode cX6_isBeyond 11 = .ok (.i2l, 1) := by decide +kernel
theorem dX6_isBeyond_12 : decode cX6_isBeyond 12 = .ok (.lload_n 1, 1) := by decide +kernel
theorem dX6_isBeyond_13 : decode cX6_isBeyond 13 = .ok (.ladd, 1) := by decide +kernel
theorem dX6_isBeyond_14 : decode cX6_isBeyond 14 = .ok (.iload_n 3, 1) := by decide +kernel
theorem dX6_isBeyond_15 : decode cX6_isBeyond 15 = .ok (.i2l, 1) := by decide +kernel
theorem dX6_isBeyond_16 : decode cX6_isBeyond 16 = .ok (.lcmp, 1) := by decide +kernel
theorem dX6_isBeyond_17 : decode cX6_isBeyond 17 = .ok (.ifCond .le 7, 3) := by decide +kernel
theorem dX6_isBeyond_20 : decode cX6_isBeyond 20 = .ok (.iconst 1, 1) := by decide +kernel
theorem dX6_isBeyond_21 : decode cX6_isBeyond 21 = .ok (.goto 4, 3) := by decide +kernel
theorem dX6_isBeyond_24 : decode cX6_isBeyond 24 = .ok (.iconst 0, 1) := by decide +kernel
theorem dX6_isBeyond_25 : decode cX6_isBeyond 25 = .ok (.ireturn, 1) := by decide +kernel
theorem dX6_copy_0 : decode cX6_copy 0 = .ok (.iload_n 1, 1) := by decide +kernel
theorem dX6_copy_1 : decode cX6_copy 1 = .ok (.invokestatic 148, 3) := by decide +kernel
theorem dX6_copy_4 : decode cX6_copy 4 = .ok (.ifCond .ne 10, 3) := by decide +kernel
theorem dX6_copy_7 : decode cX6_copy 7 = .ok (.iload_n 3, 1) := by decide +kernel
theorem dX6_copy_8 : decode cX6_copy 8 = .ok (.invokestatic 148, 3) := by decide +kernel
theorem dX6_copy_11 : decode cX6_copy 11 = .ok (.ifCond .eq 9, 3) := by decide +kernel
theorem dX6_copy_14 : decode cX6_copy 14 = .ok (.aload_n 0, 1) := by decide +kernel
theorem dX6_copy_15 : decode cX6_copy 15 = .ok (.iconst (-1), 1) := by decide +kernel
theorem dX6_copy_16 : decode cX6_copy 16 = .ok (.invokevirtual 152, 3) := by decide +kernel
theorem dX6_copy_19 : decode cX6_copy 19 = .ok (.ireturn, 1) := by decide +kernel
theorem dX6_copy_20 : decode cX6_copy 20 = .ok (.aload_n 0, 1) := by decide +kernel
theorem dX6_copy_21 : decode cX6_copy 21 = .ok (.getfield 85, 3) := by decide +kernel
theorem dX6_copy_24 : decode cX6_copy 24 = .ok (.iload_n 1, 1) := by decide +kernel
theorem dX6_copy_25 : decode cX6_copy 25 = .ok (.iaload, 1) := by decide +kernel
theorem dX6_copy_26 : decode cX6_copy 26 = .ok (.ifCond .lt 12, 3) := by decide +kernel
theorem dX6_copy_29 : decode cX6_copy 29 = .ok (.aload_n 0, 1) := by decide +kernel
theorem dX6_copy_30 : decode cX6_copy 30 = .ok (.getfield 85, 3) := by decide +kernel
theorem dX6_copy_33 : decode cX6_copy 33 = .ok (.iload_n 3, 1) := by decide +kernel
theorem dX6_copy_34 : decode cX6_copy 34 = .ok (.iaload, 1) := by decide +kernel
theorem dX6_copy_35 : decode cX6_copy 35 = .ok (.ifCond .ge 9, 3) := by decide +kernel
theorem dX6_copy_38 : decode cX6_copy 38 = .ok (.aload_n 0, 1) := by decide +kernel
theorem dX6_copy_39 : decode cX6_copy 39 = .ok (.iconst 1, 1) := by decide +kernel
theorem dX6_copy_40 : decode cX6_copy 40 = .ok (.invokevirtual 140, 3) := by decide +kernel
theorem dX6_copy_43 : decode cX6_copy 43 = .ok (.ireturn, 1) := by decide +kernel
theorem dX6_copy_44 : decode cX6_copy 44 = .ok (.aload_n 0, 1) := by decide +kernel
theorem dX6_copy_45 : decode cX6_copy 45 = .ok (.getfield 88, 3) := by decide +kernel
theorem dX6_copy_48 : decode cX6_copy 48 = .ok (.iload_n 1, 1) := by decide +kernel
theorem dX6_copy_49 : decode cX6_copy 49 = .ok (.iaload, 1) := by decide +kernel
theorem dX6_copy_50 : decode cX6_copy 50 = .ok (.aload_n 0, 1) := by decide +kernel
theorem dX6_copy_51 : decode cX6_copy 51 = .ok (.getfield 88, 3) := by decide +kernel
theorem dX6_copy_54 : decode cX6_copy 54 = .ok (.iload_n 3, 1) := by decide +kernel
theorem dX6_copy_55 : decode cX6_copy 55 = .ok (.iaload, 1) := by decide +kernel
theorem dX6_copy_56 : decode cX6_copy 56 = .ok (.if_icmp .eq 9, 3) := by decide +kernel
theorem dX6_copy_59 : decode cX6_copy 59 = .ok (.aload_n 0, 1) := by decide +kernel
theorem dX6_copy_60 : decode cX6_copy 60 = .ok (.iconst 2, 1) := by decide +kernel
theorem dX6_copy_61 : decode cX6_copy 61 = .ok (.invokevirtual 140, 3) := by decide +kernel
theorem dX6_copy_64 : decode cX6_copy 64 = .ok (.ireturn, 1) := by decide +kernel
theorem dX6_copy_65 : decode cX6_copy 65 = .ok (.iload_n 2, 1) := by decide +kernel
theorem dX6_copy_66 : decode cX6_copy 66 = .ok (.iload 5, 2) := by decide +kernel
theorem dX6_copy_68 : decode cX6_copy 68 = .ok (.i2l, 1) := by decide +kernel
theorem dX6_copy_69 : decode cX6_copy 69 = .ok (.aload_n 0, 1) := by decide +kernel
theorem dX6_copy_70 : decode cX6_copy 70 = .ok (.getfield 85, 3) := by decide +kernel
theorem dX6_copy_73 : decode cX6_copy 73 = .ok (.iload_n 1, 1) := by decide +kernel
theorem dX6_copy_74 : decode cX6_copy 74 = .ok (.iaload, 1) := by decide +kernel
theorem dX6_copy_75 : decode cX6_copy 75 = .ok (.invokestatic 144, 3) := by decide +kernel
theorem dX6_copy_78 : decode cX6_copy 78 = .ok (.ifCond .ne 20, 3) := by decide +kernel
theorem dX6_copy_81 : decode cX6_copy 81 = .ok (.iload 4, 2) := by decide +kernel
theorem dX6_copy_83 : decode cX6_copy 83 = .ok (.iload 5, 2) := by decide +kernel
theorem dX6_copy_85 : decode cX6_copy 85 = .ok (.i2l, 1) := by decide +kernel
theorem dX6_copy_86 : decode cX6_copy 86 = .ok (.aload_n 0, 1) := by decide +kernel
theorem dX6_copy_87 : decode cX6_copy 87 = .ok (.getfield 85, 3) := by decide +kernel
theorem dX6_copy_90 : decode cX6_copy 90 = .ok (.iload_n 3, 1) := by decide +kernel
theorem dX6_copy_91 : decode cX6_copy 91 = .ok (.iaload, 1) := by decide +kernel
theorem dX6_copy_92 : decode cX6_copy 92 = .ok (.invokestatic 144, 3) := by decide +kernel
theorem dX6_copy_95 : decode cX6_copy 95 = .ok (.ifCond .eq 9, 3) := by decide +kernel
theorem dX6_copy_98 : decode cX6_copy 98 = .ok (.aload_n 0, 1) := by decide +kernel
theorem dX6_copy_99 : decode cX6_copy 99 = .ok (.iconst 3, 1) := by decide +kernel
theorem dX6_copy_100 : decode cX6_copy 100 = .ok (.invokevirtual 140, 3) := by decide +kernel
theorem dX6_copy_103 : decode cX6_copy 103 = .ok (.ireturn, 1) := by decide +kernel
theorem dX6_copy_104 : decode cX6_copy 104 = .ok (.iconst 0, 1) := by decide +kernel
theorem dX6_copy_105 : decode cX6_copy 105 = .ok (.istore 6, 2) := by decide +kernel
theorem dX6_copy_107 : decode cX6_copy 107 = .ok (.iload 6, 2) := by decide +kernel
theorem dX6_copy_109 : decode cX6_copy 109 = .ok (.iload 5, 2) := by decide +kernel
theorem dX6_copy_111 : decode cX6_copy 111 = .ok (.if_icmp .ge 30, 3) := by decide +kernel
theorem dX6_copy_114 : decode cX6_copy 114 = .ok (.aload_n 0, 1) := by decide +kernel
theorem dX6_copy_115 : decode cX6_copy 115 = .ok (.getfield 94, 3) := by decide +kernel
theorem dX6_copy_118 : decode cX6_copy 118 = .ok (.iload 6, 2) := by decide +kernel
theorem dX6_copy_120 : decode cX6_copy 120 = .ok (.aload_n 0, 1) := by decide +kernel
theorem dX6_copy_121 : decode cX6_copy 121 = .ok (.getfield 91, 3) := by decide +kernel
theorem dX6_copy_124 : decode cX6_copy 124 = .ok (.bipush 60, 2) := by decide +kernel
theorem dX6_copy_126 : decode cX6_copy 126 = .ok (.iload_n 1, 1) := by decide +kernel
theorem dX6_copy_127 : decode cX6_copy 127 = .ok (.imul, 1) := by decide +kernel
theorem dX6_copy_128 : decode cX6_copy 128 = .ok (.iload_n 2, 1) := by decide +kernel
theorem dX6_copy_129 : decode cX6_copy 129 = .ok (.iadd, 1) := by decide +kernel
theorem dX6_copy_130 : decode cX6_copy 130 = .ok (.iload 6, 2) := by decide +kernel
theorem dX6_copy_132 : decode cX6_copy 132 = .ok (.iadd, 1) := by decide +kernel
theorem dX6_copy_133 : decode cX6_copy 133 = .ok (.iaload, 1) := by decide +kernel
theorem dX6_copy_134 : decode cX6_copy 134 = .ok (.iastore, 1) := by decide +kernel
theorem dX6_copy_135 : decode cX6_copy 135 = .ok (.iinc 6 1, 3) := by decide +kernel
theorem dX6_copy_138 : decode cX6_copy 138 = .ok (.goto (-31), 3) := by decide +kernel
theorem dX6_copy_141 : decode cX6_copy 141 = .ok (.iconst 0, 1) := by decide +kernel
theorem dX6_copy_142 : decode cX6_copy 142 = .ok (.istore 6, 2) := by decide +kernel
theorem dX6_copy_144 : decode cX6_copy 144 = .ok (.iload 6, 2) := by decide +kernel
theorem dX6_copy_146 : decode cX6_copy 146 = .ok (.iload 5, 2) := by decide +kernel
theorem dX6_copy_148 : decode cX6_copy 148 = .ok (.if_icmp .ge 31, 3) := by decide +kernel
theorem dX6_copy_151 : decode cX6_copy 151 = .ok (.aload_n 0, 1) := by decide +kernel
theorem dX6_copy_152 : decode cX6_copy 152 = .ok (.getfield 91, 3) := by decide +kernel
theorem dX6_copy_155 : decode cX6_copy 155 = .ok (.bipush 60, 2) := by decide +kernel
theorem dX6_copy_157 : decode cX6_copy 157 = .ok (.iload_n 3, 1) := by decide +kernel
theorem dX6_copy_158 : decode cX6_copy 158 = .ok (.imul, 1) := by decide +kernel
theorem dX6_copy_159 : decode cX6_copy 159 = .ok (.iload 4, 2) := by decide +kernel
theorem dX6_copy_161 : decode cX6_copy 161 = .ok (.iadd, 1) := by decide +kernel
theorem dX6_copy_162 : decode cX6_copy 162 = .ok (.iload 6, 2) := by decide +kernel
theorem dX6_copy_164 : decode cX6_copy 164 = .ok (.iadd, 1) := by decide +kernel
theorem dX6_copy_165 : decode cX6_copy 165 = .ok (.aload_n 0, 1) := by decide +kernel
theorem dX6_copy_166 : decode cX6_copy 166 = .ok (.getfield 94, 3) := by decide +kernel
theorem dX6_copy_169 : decode cX6_copy 169 = .ok (.iload 6, 2) := by decide +kernel
theorem dX6_copy_171 : decode cX6_copy 171 = .ok (.iaload, 1) := by decide +kernel
theorem dX6_copy_172 : decode cX6_copy 172 = .ok (.iastore, 1) := by decide +kernel
theorem dX6_copy_173 : decode cX6_copy 173 = .ok (.iinc 6 1, 3) := by decide +kernel
theorem dX6_copy_176 : decode cX6_copy 176 = .ok (.goto (-32), 3) := by decide +kernel
theorem dX6_copy_179 : decode cX6_copy 179 = .ok (.aload_n 0, 1) := by decide +kernel
theorem dX6_copy_180 : decode cX6_copy 180 = .ok (.iload 5, 2) := by decide +kernel
theorem dX6_copy_182 : decode cX6_copy 182 = .ok (.invokevirtual 152, 3) := by decide +kernel
theorem dX6_copy_185 : decode cX6_copy 185 = .ok (.ireturn, 1) := by decide +kernel
theorem dX6_traced_0 : decode cX6_traced 0 = .ok (.aload_n 0, 1) := by decide +kernel
theorem dX6_traced_1 : decode cX6_traced 1 = .ok (.bipush 31, 2) := by decide +kernel
theorem dX6_traced_3 : decode cX6_traced 3 = .ok (.aload_n 0, 1) := by decide +kernel
theorem dX6_traced_4 : decode cX6_traced 4 = .ok (.getfield 266, 3) := by decide +kernel
theorem dX6_traced_7 : decode cX6_traced 7 = .ok (.imul, 1) := by decide +kernel
theorem dX6_traced_8 : decode cX6_traced 8 = .ok (.iload_n 1, 1) := by decide +kernel
theorem dX6_traced_9 : decode cX6_traced 9 = .ok (.iadd, 1) := by decide +kernel
theorem dX6_traced_10 : decode cX6_traced 10 = .ok (.putfield 266, 3) := by decide +kernel
theorem dX6_traced_13 : decode cX6_traced 13 = .ok (.return_, 1) := by decide +kernel
theorem dX6_tell_0 : decode cX6_tell 0 = .ok (.aload_n 0, 1) := by decide +kernel
theorem dX6_tell_1 : decode cX6_tell 1 = .ok (.iload_n 1, 1) := by decide +kernel
theorem dX6_tell_2 : decode cX6_tell 2 = .ok (.invokevirtual 176, 3) := by decide +kernel
theorem dX6_tell_5 : decode cX6_tell 5 = .ok (.ifCond .eq 5, 3) := by decide +kernel
theorem dX6_tell_8 : decode cX6_tell 8 = .ok (.iconst (-1), 1) := by decide +kernel
theorem dX6_tell_9 : decode cX6_tell 9 = .ok (.ireturn, 1) := by decide +kernel
theorem dX6_tell_10 : decode cX6_tell 10 = .ok (.aload_n 0, 1) := by decide +kernel
theorem dX6_tell_11 : decode cX6_tell 11 = .ok (.getfield 7, 3) := by decide +kernel
theorem dX6_tell_14 : decode cX6_tell 14 = .ok (.iload_n 1, 1) := by decide +kernel
theorem dX6_tell_15 : decode cX6_tell 15 = .ok (.iaload, 1) := by decide +kernel
theorem dX6_tell_16 : decode cX6_tell 16 = .ok (.istore_n 2, 1) := by decide +kernel
theorem dX6_tell_17 : decode cX6_tell 17 = .ok (.iload_n 2, 1) := by decide +kernel
theorem dX6_tell_18 : decode cX6_tell 18 = .ok (.iconst 2, 1) := by decide +kernel
theorem dX6_tell_19 : decode cX6_tell 19 = .ok (.if_icmp .ne 8, 3) := by decide +kernel
theorem dX6_tell_22 : decode cX6_tell 22 = .ok (.aload_n 0, 1) := by decide +kernel
theorem dX6_tell_23 : decode cX6_tell 23 = .ok (.iconst 3, 1) := by decide +kernel
theorem dX6_tell_24 : decode cX6_tell 24 = .ok (.invokevirtual 269, 3) := by decide +kernel
theorem dX6_tell_27 : decode cX6_tell 27 = .ok (.iload_n 2, 1) := by decide +kernel
theorem dX6_tell_28 : decode cX6_tell 28 = .ok (.ifCond .le 8, 3) := by decide +kernel
theorem dX6_tell_31 : decode cX6_tell 31 = .ok (.aload_n 0, 1) := by decide +kernel
theorem dX6_tell_32 : decode cX6_tell 32 = .ok (.iconst 2, 1) := by decide +kernel
theorem dX6_tell_33 : decode cX6_tell 33 = .ok (.invokevirtual 269, 3) := by decide +kernel
theorem dX6_tell_36 : decode cX6_tell 36 = .ok (.aload_n 0, 1) := by decide +kernel
theorem dX6_tell_37 : decode cX6_tell 37 = .ok (.iconst 1, 1) := by decide +kernel
theorem dX6_tell_38 : decode cX6_tell 38 = .ok (.invokevirtual 269, 3) := by decide +kernel
theorem dX6_tell_41 : decode cX6_tell 41 = .ok (.iload_n 2, 1) := by decide +kernel
theorem dX6_tell_42 : decode cX6_tell 42 = .ok (.iconst 2, 1) := by decide +kernel
theorem dX6_tell_43 : decode cX6_tell 43 = .ok (.if_icmp .ne 8, 3) := by decide +kernel
theorem dX6_tell_46 : decode cX6_tell 46 = .ok (.aload_n 0, 1) := by decide +kernel
theorem dX6_tell_47 : decode cX6_tell 47 = .ok (.iconst 1, 1) := by decide +kernel
theorem dX6_tell_48 : decode cX6_tell 48 = .ok (.invokevirtual 269, 3) := by decide +kernel
theorem dX6_tell_51 : decode cX6_tell 51 = .ok (.aload_n 0, 1) := by decide +kernel
theorem dX6_tell_52 : decode cX6_tell 52 = .ok (.getfield 22, 3) := by decide +kernel
theorem dX6_tell_55 : decode cX6_tell 55 = .ok (.iload_n 1, 1) := by decide +kernel
theorem dX6_tell_56 : decode cX6_tell 56 = .ok (.iaload, 1) := by decide +kernel
theorem dX6_tell_57 : decode cX6_tell 57 = .ok (.istore_n 3, 1) := by decide +kernel
theorem dX6_tell_58 : decode cX6_tell 58 = .ok (.iload_n 2, 1) := by decide +kernel
theorem dX6_tell_59 : decode cX6_tell 59 = .ok (.ifCond .ne 7, 3) := by decide +kernel
theorem dX6_tell_62 : decode cX6_tell 62 = .ok (.iload_n 3, 1) := by decide +kernel
theorem dX6_tell_63 : decode cX6_tell 63 = .ok (.goto 21, 3) := by decide +kernel
theorem dX6_tell_66 : decode cX6_tell 66 = .ok (.iload_n 2, 1) := by decide +kernel
theorem dX6_tell_67 : decode cX6_tell 67 = .ok (.iconst 1, 1) := by decide +kernel
theorem dX6_tell_68 : decode cX6_tell 68 = .ok (.if_icmp .ne 10, 3) := by decide +kernel
theorem dX6_tell_71 : decode cX6_tell 71 = .ok (.iload_n 3, 1) := by decide +kernel
theorem dX6_tell_72 : decode cX6_tell 72 = .ok (.bipush 100, 2) := by decide +kernel
theorem dX6_tell_74 : decode cX6_tell 74 = .ok (.iadd, 1) := by decide +kernel
theorem dX6_tell_75 : decode cX6_tell 75 = .ok (.goto 9, 3) := by decide +kernel
theorem dX6_tell_78 : decode cX6_tell 78 = .ok (.iconst 2, 1) := by decide +kernel
theorem dX6_tell_79 : decode cX6_tell 79 = .ok (.iload_n 3, 1) := by decide +kernel
theorem dX6_tell_80 : decode cX6_tell 80 = .ok (.imul, 1) := by decide +kernel
theorem dX6_tell_81 : decode cX6_tell 81 = .ok (.bipush 100, 2) := by decide +kernel
theorem dX6_tell_83 : decode cX6_tell 83 = .ok (.iadd, 1) := by decide +kernel
theorem dX6_tell_84 : decode cX6_tell 84 = .ok (.ireturn, 1) := by decide +kernel
theorem dX6_rouse_0 : decode cX6_rouse 0 = .ok (.aload_n 0, 1) := by decide +kernel
theorem dX6_rouse_1 : decode cX6_rouse 1 = .ok (.iload_n 1, 1) := by decide +kernel
theorem dX6_rouse_2 : decode cX6_rouse 2 = .ok (.invokevirtual 176, 3) := by decide +kernel
theorem dX6_rouse_5 : decode cX6_rouse 5 = .ok (.ifCond .eq 5, 3) := by decide +kernel
theorem dX6_rouse_8 : decode cX6_rouse 8 = .ok (.iconst (-1), 1) := by decide +kernel
theorem dX6_rouse_9 : decode cX6_rouse 9 = .ok (.ireturn, 1) := by decide +kernel
theorem dX6_rouse_10 : decode cX6_rouse 10 = .ok (.aload_n 0, 1) := by decide +kernel
theorem dX6_rouse_11 : decode cX6_rouse 11 = .ok (.aload_n 0, 1) := by decide +kernel
theorem dX6_rouse_12 : decode cX6_rouse 12 = .ok (.getfield 7, 3) := by decide +kernel
theorem dX6_rouse_15 : decode cX6_rouse 15 = .ok (.iload_n 1, 1) := by decide +kernel
theorem dX6_rouse_16 : decode cX6_rouse 16 = .ok (.iaload, 1) := by decide +kernel
theorem dX6_rouse_17 : decode cX6_rouse 17 = .ok (.iconst 2, 1) := by decide +kernel
theorem dX6_rouse_18 : decode cX6_rouse 18 = .ok (.if_icmp .ne 7, 3) := by decide +kernel
theorem dX6_rouse_21 : decode cX6_rouse 21 = .ok (.iconst 5, 1) := by decide +kernel
theorem dX6_rouse_22 : decode cX6_rouse 22 = .ok (.goto 4, 3) := by decide +kernel
theorem dX6_rouse_25 : decode cX6_rouse 25 = .ok (.iconst 4, 1) := by decide +kernel
theorem dX6_rouse_26 : decode cX6_rouse 26 = .ok (.invokevirtual 269, 3) := by decide +kernel
theorem dX6_rouse_29 : decode cX6_rouse 29 = .ok (.aload_n 0, 1) := by decide +kernel
theorem dX6_rouse_30 : decode cX6_rouse 30 = .ok (.getfield 7, 3) := by decide +kernel
theorem dX6_rouse_33 : decode cX6_rouse 33 = .ok (.iload_n 1, 1) := by decide +kernel
theorem dX6_rouse_34 : decode cX6_rouse 34 = .ok (.iaload, 1) := by decide +kernel
theorem dX6_rouse_35 : decode cX6_rouse 35 = .ok (.iconst 2, 1) := by decide +kernel
theorem dX6_rouse_36 : decode cX6_rouse 36 = .ok (.if_icmp .ne 8, 3) := by decide +kernel
theorem dX6_rouse_39 : decode cX6_rouse 39 = .ok (.bipush 70, 2) := by decide +kernel
theorem dX6_rouse_41 : decode cX6_rouse 41 = .ok (.goto 4, 3) := by decide +kernel
theorem dX6_rouse_44 : decode cX6_rouse 44 = .ok (.iload_n 1, 1) := by decide +kernel
theorem dX6_rouse_45 : decode cX6_rouse 45 = .ok (.ireturn, 1) := by decide +kernel
theorem dX6_as_0 : decode cX6_as 0 = .ok (.aload_n 0, 1) := by decide +kernel
theorem dX6_as_1 : decode cX6_as 1 = .ok (.iload_n 1, 1) := by decide +kernel
theorem dX6_as_2 : decode cX6_as 2 = .ok (.invokevirtual 176, 3) := by decide +kernel
theorem dX6_as_5 : decode cX6_as 5 = .ok (.ifCond .eq 9, 3) := by decide +kernel
theorem dX6_as_8 : decode cX6_as 8 = .ok (.aload_n 0, 1) := by decide +kernel
theorem dX6_as_9 : decode cX6_as 9 = .ok (.iconst (-1), 1) := by decide +kernel
theorem dX6_as_10 : decode cX6_as 10 = .ok (.invokevirtual 152, 3) := by decide +kernel
theorem dX6_as_13 : decode cX6_as 13 = .ok (.ireturn, 1) := by decide +kernel
theorem dX6_as_14 : decode cX6_as 14 = .ok (.iload_n 2, 1) := by decide +kernel
theorem dX6_as_15 : decode cX6_as 15 = .ok (.i2l, 1) := by decide +kernel
theorem dX6_as_16 : decode cX6_as 16 = .ok (.lconst 0, 1) := by decide +kernel
theorem dX6_as_17 : decode cX6_as 17 = .ok (.ldc2_w 155, 3) := by decide +kernel
theorem dX6_as_20 : decode cX6_as 20 = .ok (.invokestatic 110, 3) := by decide +kernel
theorem dX6_as_23 : decode cX6_as 23 = .ok (.ifCond .ne 10, 3) := by decide +kernel
theorem dX6_as_26 : decode cX6_as 26 = .ok (.aload_n 0, 1) := by decide +kernel
theorem dX6_as_27 : decode cX6_as 27 = .ok (.bipush (-2), 2) := by decide +kernel
theorem dX6_as_29 : decode cX6_as 29 = .ok (.invokevirtual 152, 3) := by decide +kernel
theorem dX6_as_32 : decode cX6_as 32 = .ok (.ireturn, 1) := by decide +kernel
theorem dX6_as_33 : decode cX6_as 33 = .ok (.aload_n 0, 1) := by decide +kernel
theorem dX6_as_34 : decode cX6_as 34 = .ok (.getfield 7, 3) := by decide +kernel
theorem dX6_as_37 : decode cX6_as 37 = .ok (.iload_n 1, 1) := by decide +kernel
theorem dX6_as_38 : decode cX6_as 38 = .ok (.iaload, 1) := by decide +kernel
theorem dX6_as_39 : decode cX6_as 39 = .ok (.iload_n 2, 1) := by decide +kernel
theorem dX6_as_40 : decode cX6_as 40 = .ok (.if_icmp .lt 11, 3) := by decide +kernel
theorem dX6_as_43 : decode cX6_as 43 = .ok (.aload_n 0, 1) := by decide +kernel
theorem dX6_as_44 : decode cX6_as 44 = .ok (.iconst 1, 1) := by decide +kernel
theorem dX6_as_45 : decode cX6_as 45 = .ok (.invokevirtual 152, 3) := by decide +kernel
theorem dX6_as_48 : decode cX6_as 48 = .ok (.goto 8, 3) := by decide +kernel
theorem dX6_as_51 : decode cX6_as 51 = .ok (.aload_n 0, 1) := by decide +kernel
theorem dX6_as_52 : decode cX6_as 52 = .ok (.iconst 2, 1) := by decide +kernel
theorem dX6_as_53 : decode cX6_as 53 = .ok (.invokevirtual 140, 3) := by decide +kernel
theorem dX6_as_56 : decode cX6_as 56 = .ok (.ireturn, 1) := by decide +kernel
theorem dX6_trace_0 : decode cX6_trace 0 = .ok (.aload_n 0, 1) := by decide +kernel
theorem dX6_trace_1 : decode cX6_trace 1 = .ok (.getfield 266, 3) := by decide +kernel
theorem dX6_trace_4 : decode cX6_trace 4 = .ok (.ireturn, 1) := by decide +kernel
theorem dX6_fault_0 : decode cX6_fault 0 = .ok (.aload_n 0, 1) := by decide +kernel
theorem dX6_fault_1 : decode cX6_fault 1 = .ok (.getfield 99, 3) := by decide +kernel
theorem dX6_fault_4 : decode cX6_fault 4 = .ok (.ireturn, 1) := by decide +kernel
theorem dX6_many_0 : decode cX6_many 0 = .ok (.iload_n 1, 1) := by decide +kernel
theorem dX6_many_1 : decode cX6_many 1 = .ok (.tableswitch 60 0 4 #[35, 40, 45, 50, 55], 35) := by decide +kernel
theorem dX6_many_36 : decode cX6_many 36 = .ok (.aload_n 0, 1) := by decide +kernel
theorem dX6_many_37 : decode cX6_many 37 = .ok (.getfield 107, 3) := by decide +kernel
theorem dX6_many_40 : decode cX6_many 40 = .ok (.ireturn, 1) := by decide +kernel
theorem dX6_many_41 : decode cX6_many 41 = .ok (.aload_n 0, 1) := by decide +kernel
theorem dX6_many_42 : decode cX6_many 42 = .ok (.getfield 114, 3) := by decide +kernel
theorem dX6_many_45 : decode cX6_many 45 = .ok (.ireturn, 1) := by decide +kernel
theorem dX6_many_46 : decode cX6_many 46 = .ok (.aload_n 0, 1) := by decide +kernel
theorem dX6_many_47 : decode cX6_many 47 = .ok (.getfield 170, 3) := by decide +kernel
theorem dX6_many_50 : decode cX6_many 50 = .ok (.ireturn, 1) := by decide +kernel
theorem dX6_many_51 : decode cX6_many 51 = .ok (.aload_n 0, 1) := by decide +kernel
theorem dX6_many_52 : decode cX6_many 52 = .ok (.getfield 173, 3) := by decide +kernel
theorem dX6_many_55 : decode cX6_many 55 = .ok (.ireturn, 1) := by decide +kernel
theorem dX6_many_56 : decode cX6_many 56 = .ok (.aload_n 0, 1) := by decide +kernel
theorem dX6_many_57 : decode cX6_many 57 = .ok (.getfield 167, 3) := by decide +kernel
theorem dX6_many_60 : decode cX6_many 60 = .ok (.ireturn, 1) := by decide +kernel
theorem dX6_many_61 : decode cX6_many 61 = .ok (.bipush (-2), 2) := by decide +kernel
theorem dX6_many_63 : decode cX6_many 63 = .ok (.ireturn, 1) := by decide +kernel
theorem dJ6_bitCount_0f7a4_0 : decode cJ6_bitCount_0f7a4 0 = .ok (.iload_n 0, 1) := by decide +kernel
theorem dJ6_bitCount_0f7a4_1 : decode cJ6_bitCount_0f7a4 1 = .ok (.iload_n 0, 1) := by decide +kernel
theorem dJ6_bitCount_0f7a4_2 : decode cJ6_bitCount_0f7a4 2 = .ok (.iconst 1, 1) := by decide +kernel
theorem dJ6_bitCount_0f7a4_3 : decode cJ6_bitCount_0f7a4 3 = .ok (.iushr, 1) := by decide +kernel
theorem dJ6_bitCount_0f7a4_4 : decode cJ6_bitCount_0f7a4 4 = .ok (.ldc_w 265, 3) := by decide +kernel
theorem dJ6_bitCount_0f7a4_7 : decode cJ6_bitCount_0f7a4 7 = .ok (.iand, 1) := by decide +kernel
theorem dJ6_bitCount_0f7a4_8 : decode cJ6_bitCount_0f7a4 8 = .ok (.isub, 1) := by decide +kernel
theorem dJ6_bitCount_0f7a4_9 : decode cJ6_bitCount_0f7a4 9 = .ok (.istore_n 0, 1) := by decide +kernel
theorem dJ6_bitCount_0f7a4_10 : decode cJ6_bitCount_0f7a4 10 = .ok (.iload_n 0, 1) := by decide +kernel
theorem dJ6_bitCount_0f7a4_11 : decode cJ6_bitCount_0f7a4 11 = .ok (.ldc_w 266, 3) := by decide +kernel
theorem dJ6_bitCount_0f7a4_14 : decode cJ6_bitCount_0f7a4 14 = .ok (.iand, 1) := by decide +kernel
theorem dJ6_bitCount_0f7a4_15 : decode cJ6_bitCount_0f7a4 15 = .ok (.iload_n 0, 1) := by decide +kernel
theorem dJ6_bitCount_0f7a4_16 : decode cJ6_bitCount_0f7a4 16 = .ok (.iconst 2, 1) := by decide +kernel
theorem dJ6_bitCount_0f7a4_17 : decode cJ6_bitCount_0f7a4 17 = .ok (.iushr, 1) := by decide +kernel
theorem dJ6_bitCount_0f7a4_18 : decode cJ6_bitCount_0f7a4 18 = .ok (.ldc_w 266, 3) := by decide +kernel
theorem dJ6_bitCount_0f7a4_21 : decode cJ6_bitCount_0f7a4 21 = .ok (.iand, 1) := by decide +kernel
theorem dJ6_bitCount_0f7a4_22 : decode cJ6_bitCount_0f7a4 22 = .ok (.iadd, 1) := by decide +kernel
theorem dJ6_bitCount_0f7a4_23 : decode cJ6_bitCount_0f7a4 23 = .ok (.istore_n 0, 1) := by decide +kernel
theorem dJ6_bitCount_0f7a4_24 : decode cJ6_bitCount_0f7a4 24 = .ok (.iload_n 0, 1) := by decide +kernel
theorem dJ6_bitCount_0f7a4_25 : decode cJ6_bitCount_0f7a4 25 = .ok (.iload_n 0, 1) := by decide +kernel
theorem dJ6_bitCount_0f7a4_26 : decode cJ6_bitCount_0f7a4 26 = .ok (.iconst 4, 1) := by decide +kernel
theorem dJ6_bitCount_0f7a4_27 : decode cJ6_bitCount_0f7a4 27 = .ok (.iushr, 1) := by decide +kernel
theorem dJ6_bitCount_0f7a4_28 : decode cJ6_bitCount_0f7a4 28 = .ok (.iadd, 1) := by decide +kernel
theorem dJ6_bitCount_0f7a4_29 : decode cJ6_bitCount_0f7a4 29 = .ok (.ldc_w 267, 3) := by decide +kernel
theorem dJ6_bitCount_0f7a4_32 : decode cJ6_bitCount_0f7a4 32 = .ok (.iand, 1) := by decide +kernel
theorem dJ6_bitCount_0f7a4_33 : decode cJ6_bitCount_0f7a4 33 = .ok (.istore_n 0, 1) := by decide +kernel
theorem dJ6_bitCount_0f7a4_34 : decode cJ6_bitCount_0f7a4 34 = .ok (.iload_n 0, 1) := by decide +kernel
theorem dJ6_bitCount_0f7a4_35 : decode cJ6_bitCount_0f7a4 35 = .ok (.iload_n 0, 1) := by decide +kernel
theorem dJ6_bitCount_0f7a4_36 : decode cJ6_bitCount_0f7a4 36 = .ok (.bipush 8, 2) := by decide +kernel
theorem dJ6_bitCount_0f7a4_38 : decode cJ6_bitCount_0f7a4 38 = .ok (.iushr, 1) := by decide +kernel
theorem dJ6_bitCount_0f7a4_39 : decode cJ6_bitCount_0f7a4 39 = .ok (.iadd, 1) := by decide +kernel
theorem dJ6_bitCount_0f7a4_40 : decode cJ6_bitCount_0f7a4 40 = .ok (.istore_n 0, 1) := by decide +kernel
theorem dJ6_bitCount_0f7a4_41 : decode cJ6_bitCount_0f7a4 41 = .ok (.iload_n 0, 1) := by decide +kernel
theorem dJ6_bitCount_0f7a4_42 : decode cJ6_bitCount_0f7a4 42 = .ok (.iload_n 0, 1) := by decide +kernel
theorem dJ6_bitCount_0f7a4_43 : decode cJ6_bitCount_0f7a4 43 = .ok (.bipush 16, 2) := by decide +kernel
theorem dJ6_bitCount_0f7a4_45 : decode cJ6_bitCount_0f7a4 45 = .ok (.iushr, 1) := by decide +kernel
theorem dJ6_bitCount_0f7a4_46 : decode cJ6_bitCount_0f7a4 46 = .ok (.iadd, 1) := by decide +kernel
theorem dJ6_bitCount_0f7a4_47 : decode cJ6_bitCount_0f7a4 47 = .ok (.istore_n 0, 1) := by decide +kernel
theorem dJ6_bitCount_0f7a4_48 : decode cJ6_bitCount_0f7a4 48 = .ok (.iload_n 0, 1) := by decide +kernel
theorem dJ6_bitCount_0f7a4_49 : decode cJ6_bitCount_0f7a4 49 = .ok (.bipush 63, 2) := by decide +kernel
theorem dJ6_bitCount_0f7a4_51 : decode cJ6_bitCount_0f7a4 51 = .ok (.iand, 1) := by decide +kernel
theorem dJ6_bitCount_0f7a4_52 : decode cJ6_bitCount_0f7a4 52 = .ok (.ireturn, 1) := by decide +kernel
theorem dJ9_abs_0f7a4_0 : decode cJ9_abs_0f7a4 0 = .ok (.iload_n 0, 1) := by decide +kernel
theorem dJ9_abs_0f7a4_1 : decode cJ9_abs_0f7a4 1 = .ok (.ifCond .ge 8, 3) := by decide +kernel
theorem dJ9_abs_0f7a4_4 : decode cJ9_abs_0f7a4 4 = .ok (.iload_n 0, 1) := by decide +kernel
theorem dJ9_abs_0f7a4_5 : decode cJ9_abs_0f7a4 5 = .ok (.ineg, 1) := by decide +kernel
theorem dJ9_abs_0f7a4_6 : decode cJ9_abs_0f7a4 6 = .ok (.goto 4, 3) := by decide +kernel
theorem dJ9_abs_0f7a4_9 : decode cJ9_abs_0f7a4 9 = .ok (.iload_n 0, 1) := by decide +kernel
theorem dJ9_abs_0f7a4_10 : decode cJ9_abs_0f7a4 10 = .ok (.ireturn, 1) := by decide +kernel
theorem dJ9_max_7cf53_0 : decode cJ9_max_7cf53 0 = .ok (.iload_n 0, 1) := by decide +kernel
theorem dJ9_max_7cf53_1 : decode cJ9_max_7cf53 1 = .ok (.iload_n 1, 1) := by decide +kernel
theorem dJ9_max_7cf53_2 : decode cJ9_max_7cf53 2 = .ok (.if_icmp .lt 7, 3) := by decide +kernel
theorem dJ9_max_7cf53_5 : decode cJ9_max_7cf53 5 = .ok (.iload_n 0, 1) := by decide +kernel
theorem dJ9_max_7cf53_6 : decode cJ9_max_7cf53 6 = .ok (.goto 4, 3) := by decide +kernel
theorem dJ9_max_7cf53_9 : decode cJ9_max_7cf53 9 = .ok (.iload_n 1, 1) := by decide +kernel
theorem dJ9_max_7cf53_10 : decode cJ9_max_7cf53 10 = .ok (.ireturn, 1) := by decide +kernel
theorem dJ7_fill_53178_0 : decode cJ7_fill_53178 0 = .ok (.iconst 0, 1) := by decide +kernel
theorem dJ7_fill_53178_1 : decode cJ7_fill_53178 1 = .ok (.istore_n 2, 1) := by decide +kernel
theorem dJ7_fill_53178_2 : decode cJ7_fill_53178 2 = .ok (.aload_n 0, 1) := by decide +kernel
theorem dJ7_fill_53178_3 : decode cJ7_fill_53178 3 = .ok (.arraylength, 1) := by decide +kernel
theorem dJ7_fill_53178_4 : decode cJ7_fill_53178 4 = .ok (.istore_n 3, 1) := by decide +kernel
theorem dJ7_fill_53178_5 : decode cJ7_fill_53178 5 = .ok (.iload_n 2, 1) := by decide +kernel
theorem dJ7_fill_53178_6 : decode cJ7_fill_53178 6 = .ok (.iload_n 3, 1) := by decide +kernel
theorem dJ7_fill_53178_7 : decode cJ7_fill_53178 7 = .ok (.if_icmp .ge 13, 3) := by decide +kernel
theorem dJ7_fill_53178_10 : decode cJ7_fill_53178 10 = .ok (.aload_n 0, 1) := by decide +kernel
theorem dJ7_fill_53178_11 : decode cJ7_fill_53178 11 = .ok (.iload_n 2, 1) := by decide +kernel
theorem dJ7_fill_53178_12 : decode cJ7_fill_53178 12 = .ok (.iload_n 1, 1) := by decide +kernel
theorem dJ7_fill_53178_13 : decode cJ7_fill_53178 13 = .ok (.iastore, 1) := by decide +kernel
theorem dJ7_fill_53178_14 : decode cJ7_fill_53178 14 = .ok (.iinc 2 1, 3) := by decide +kernel
theorem dJ7_fill_53178_17 : decode cJ7_fill_53178 17 = .ok (.goto (-12), 3) := by decide +kernel
theorem dJ7_fill_53178_20 : decode cJ7_fill_53178 20 = .ok (.return_, 1) := by decide +kernel
end
section
theorem dL_law_0 : decode cL_law 0 = .ok (.new 7, 3) := by decide +kernel
theorem dL_law_3 : decode cL_law 3 = .ok (.dup, 1) := by decide +kernel
theorem dL_law_4 : decode cL_law 4 = .ok (.invokespecial 9, 3) := by decide +kernel
theorem dL_law_7 : decode cL_law 7 = .ok (.astore_n 1, 1) := by decide +kernel
theorem dL_law_8 : decode cL_law 8 = .ok (.new 10, 3) := by decide +kernel
theorem dL_law_11 : decode cL_law 11 = .ok (.dup, 1) := by decide +kernel
theorem dL_law_12 : decode cL_law 12 = .ok (.invokespecial 12, 3) := by decide +kernel
theorem dL_law_15 : decode cL_law 15 = .ok (.astore_n 2, 1) := by decide +kernel
theorem dL_law_16 : decode cL_law 16 = .ok (.iconst 0, 1) := by decide +kernel
theorem dL_law_17 : decode cL_law 17 = .ok (.istore_n 3, 1) := by decide +kernel
theorem dL_law_18 : decode cL_law 18 = .ok (.iload_n 3, 1) := by decide +kernel
theorem dL_law_19 : decode cL_law 19 = .ok (.aload_n 0, 1) := by decide +kernel
theorem dL_law_20 : decode cL_law 20 = .ok (.arraylength, 1) := by decide +kernel
theorem dL_law_21 : decode cL_law 21 = .ok (.bipush 6, 2) := by decide +kernel
theorem dL_law_23 : decode cL_law 23 = .ok (.isub, 1) := by decide +kernel
theorem dL_law_24 : decode cL_law 24 = .ok (.if_icmp .gt 1243, 3) := by decide +kernel
theorem dL_law_27 : decode cL_law 27 = .ok (.aload_n 0, 1) := by decide +kernel
theorem dL_law_28 : decode cL_law 28 = .ok (.iload_n 3, 1) := by decide +kernel
theorem dL_law_29 : decode cL_law 29 = .ok (.iaload, 1) := by decide +kernel
theorem dL_law_30 : decode cL_law 30 = .ok (.bipush 63, 2) := by decide +kernel
theorem dL_law_32 : decode cL_law 32 = .ok (.iand, 1) := by decide +kernel
theorem dL_law_33 : decode cL_law 33 = .ok (.tableswitch 1228 0 34 #[155, 208, 241, 264, 313, 356, 379, 412, 445, 478, 511, 534, 557, 580, 613, 636, 659, 712, 755, 778, 791, 804, 837, 850, 884, 927, 950, 993, 1037, 1100, 1123, 1146, 1179, 1192, 1205], 155) := by decide +kernel
theorem dL_law_188 : decode cL_law 188 = .ok (.aload_n 1, 1) := by decide +kernel
theorem dL_law_189 : decode cL_law 189 = .ok (.aload_n 0, 1) := by decide +kernel
theorem dL_law_190 : decode cL_law 190 = .ok (.iload_n 3, 1) := by decide +kernel
theorem dL_law_191 : decode cL_law 191 = .ok (.iconst 1, 1) := by decide +kernel
theorem dL_law_192 : decode cL_law 192 = .ok (.iadd, 1) := by decide +kernel
theorem dL_law_193 : decode cL_law 193 = .ok (.iaload, 1) := by decide +kernel
theorem dL_law_194 : decode cL_law 194 = .ok (.aload_n 0, 1) := by decide +kernel
theorem dL_law_195 : decode cL_law 195 = .ok (.iload_n 3, 1) := by decide +kernel
theorem dL_law_196 : decode cL_law 196 = .ok (.iconst 2, 1) := by decide +kernel
theorem dL_law_197 : decode cL_law 197 = .ok (.iadd, 1) := by decide +kernel
theorem dL_law_198 : decode cL_law 198 = .ok (.iaload, 1) := by decide +kernel
theorem dL_law_199 : decode cL_law 199 = .ok (.aload_n 0, 1) := by decide +kernel
theorem dL_law_200 : decode cL_law 200 = .ok (.iload_n 3, 1) := by decide +kernel
theorem dL_law_201 : decode cL_law 201 = .ok (.iconst 3, 1) := by decide +kernel
theorem dL_law_202 : decode cL_law 202 = .ok (.iadd, 1) := by decide +kernel
theorem dL_law_203 : decode cL_law 203 = .ok (.iaload, 1) := by decide +kernel
theorem dL_law_204 : decode cL_law 204 = .ok (.aload_n 0, 1) := by decide +kernel
theorem dL_law_205 : decode cL_law 205 = .ok (.iload_n 3, 1) := by decide +kernel
theorem dL_law_206 : decode cL_law 206 = .ok (.iconst 4, 1) := by decide +kernel
theorem dL_law_207 : decode cL_law 207 = .ok (.iadd, 1) := by decide +kernel
theorem dL_law_208 : decode cL_law 208 = .ok (.iaload, 1) := by decide +kernel
theorem dL_law_209 : decode cL_law 209 = .ok (.invokevirtual 13, 3) := by decide +kernel
theorem dL_law_212 : decode cL_law 212 = .ok (.aload_n 2, 1) := by decide +kernel
theorem dL_law_213 : decode cL_law 213 = .ok (.aload_n 0, 1) := by decide +kernel
theorem dL_law_214 : decode cL_law 214 = .ok (.iload_n 3, 1) := by decide +kernel
theorem dL_law_215 : decode cL_law 215 = .ok (.iconst 1, 1) := by decide +kernel
theorem dL_law_216 : decode cL_law 216 = .ok (.iadd, 1) := by decide +kernel
theorem dL_law_217 : decode cL_law 217 = .ok (.iaload, 1) := by decide +kernel
theorem dL_law_218 : decode cL_law 218 = .ok (.aload_n 0, 1) := by decide +kernel
theorem dL_law_219 : decode cL_law 219 = .ok (.iload_n 3, 1) := by decide +kernel
theorem dL_law_220 : decode cL_law 220 = .ok (.iconst 2, 1) := by decide +kernel
theorem dL_law_221 : decode cL_law 221 = .ok (.iadd, 1) := by decide +kernel
theorem dL_law_222 : decode cL_law 222 = .ok (.iaload, 1) := by decide +kernel
theorem dL_law_223 : decode cL_law 223 = .ok (.aload_n 0, 1) := by decide +kernel
theorem dL_law_224 : decode cL_law 224 = .ok (.iload_n 3, 1) := by decide +kernel
theorem dL_law_225 : decode cL_law 225 = .ok (.iconst 3, 1) := by decide +kernel
theorem dL_law_226 : decode cL_law 226 = .ok (.iadd, 1) := by decide +kernel
theorem dL_law_227 : decode cL_law 227 = .ok (.iaload, 1) := by decide +kernel
theorem dL_law_228 : decode cL_law 228 = .ok (.aload_n 0, 1) := by decide +kernel
theorem dL_law_229 : decode cL_law 229 = .ok (.iload_n 3, 1) := by decide +kernel
theorem dL_law_230 : decode cL_law 230 = .ok (.iconst 4, 1) := by decide +kernel
theorem dL_law_231 : decode cL_law 231 = .ok (.iadd, 1) := by decide +kernel
theorem dL_law_232 : decode cL_law 232 = .ok (.iaload, 1) := by decide +kernel
theorem dL_law_233 : decode cL_law 233 = .ok (.invokevirtual 17, 3) := by decide +kernel
theorem dL_law_236 : decode cL_law 236 = .ok (.if_icmp .eq 1025, 3) := by decide +kernel
theorem dL_law_239 : decode cL_law 239 = .ok (.iconst 0, 1) := by decide +kernel
theorem dL_law_240 : decode cL_law 240 = .ok (.ireturn, 1) := by decide +kernel
theorem dL_law_241 : decode cL_law 241 = .ok (.aload_n 1, 1) := by decide +kernel
theorem dL_law_242 : decode cL_law 242 = .ok (.aload_n 0, 1) := by decide +kernel
theorem dL_law_243 : decode cL_law 243 = .ok (.iload_n 3, 1) := by decide +kernel
theorem dL_law_244 : decode cL_law 244 = .ok (.iconst 1, 1) := by decide +kernel
theorem dL_law_245 : decode cL_law 245 = .ok (.iadd, 1) := by decide +kernel
theorem dL_law_246 : decode cL_law 246 = .ok (.iaload, 1) := by decide +kernel
theorem dL_law_247 : decode cL_law 247 = .ok (.aload_n 0, 1) := by decide +kernel
theorem dL_law_248 : decode cL_law 248 = .ok (.iload_n 3, 1) := by decide +kernel
theorem dL_law_249 : decode cL_law 249 = .ok (.iconst 2, 1) := by decide +kernel
theorem dL_law_250 : decode cL_law 250 = .ok (.iadd, 1) := by decide +kernel
theorem dL_law_251 : decode cL_law 251 = .ok (.iaload, 1) := by decide +kernel
theorem dL_law_252 : decode cL_law 252 = .ok (.invokevirtual 18, 3) := by decide +kernel
theorem dL_law_255 : decode cL_law 255 = .ok (.aload_n 2, 1) := by decide +kernel
theorem dL_law_256 : decode cL_law 256 = .ok (.aload_n 0, 1) := by decide +kernel
theorem dL_law_257 : decode cL_law 257 = .ok (.iload_n 3, 1) := by decide +kernel
theorem dL_law_258 : decode cL_law 258 = .ok (.iconst 1, 1) := by decide +kernel
theorem dL_law_259 : decode cL_law 259 = .ok (.iadd, 1) := by decide +kernel
theorem dL_law_260 : decode cL_law 260 = .ok (.iaload, 1) := by decide +kernel
theorem dL_law_261 : decode cL_law 261 = .ok (.aload_n 0, 1) := by decide +kernel
theorem dL_law_262 : decode cL_law 262 = .ok (.iload_n 3, 1) := by decide +kernel
theorem dL_law_263 : decode cL_law 263 = .ok (.iconst 2, 1) := by decide +kernel
theorem dL_law_264 : decode cL_law 264 = .ok (.iadd, 1) := by decide +kernel
theorem dL_law_265 : decode cL_law 265 = .ok (.iaload, 1) := by decide +kernel
theorem dL_law_266 : decode cL_law 266 = .ok (.invokevirtual 22, 3) := by decide +kernel
theorem dL_law_269 : decode cL_law 269 = .ok (.if_icmp .eq 992, 3) := by decide +kernel
theorem dL_law_272 : decode cL_law 272 = .ok (.iconst 0, 1) := by decide +kernel
theorem dL_law_273 : decode cL_law 273 = .ok (.ireturn, 1) := by decide +kernel
theorem dL_law_274 : decode cL_law 274 = .ok (.aload_n 1, 1) := by decide +kernel
theorem dL_law_275 : decode cL_law 275 = .ok (.aload_n 0, 1) := by decide +kernel
theorem dL_law_276 : decode cL_law 276 = .ok (.iload_n 3, 1) := by decide +kernel
theorem dL_law_277 : decode cL_law 277 = .ok (.iconst 1, 1) := by decide +kernel
theorem dL_law_278 : decode cL_law 278 = .ok (.iadd, 1) := by decide +kernel
theorem dL_law_279 : decode cL_law 279 = .ok (.iaload, 1) := by decide +kernel
theorem dL_law_280 : decode cL_law 280 = .ok (.invokevirtual 23, 3) := by decide +kernel
theorem dL_law_283 : decode cL_law 283 = .ok (.aload_n 2, 1) := by decide +kernel
theorem dL_law_284 : decode cL_law 284 = .ok (.aload_n 0, 1) := by decide +kernel
theorem dL_law_285 : decode cL_law 285 = .ok (.iload_n 3, 1) := by decide +kernel
theorem dL_law_286 : decode cL_law 286 = .ok (.iconst 1, 1) := by decide +kernel
theorem dL_law_287 : decode cL_law 287 = .ok (.iadd, 1) := by decide +kernel
theorem dL_law_288 : decode cL_law 288 = .ok (.iaload, 1) := by decide +kernel
theorem dL_law_289 : decode cL_law 289 = .ok (.invokevirtual 27, 3) := by decide +kernel
theorem dL_law_292 : decode cL_law 292 = .ok (.if_icmp .eq 969, 3) := by decide +kernel
theorem dL_law_295 : decode cL_law 295 = .ok (.iconst 0, 1) := by decide +kernel
theorem dL_law_296 : decode cL_law 296 = .ok (.ireturn, 1) := by decide +kernel
theorem dL_law_297 : decode cL_law 297 = .ok (.aload_n 1, 1) := by decide +kernel
theorem dL_law_298 : decode cL_law 298 = .ok (.aload_n 0, 1) := by decide +kernel
theorem dL_law_299 : decode cL_law 299 = .ok (.iload_n 3, 1) := by decide +kernel
theorem dL_law_300 : decode cL_law 300 = .ok (.iconst 1, 1) := by decide +kernel
theorem dL_law_301 : decode cL_law 301 = .ok (.iadd, 1) := by decide +kernel
theorem dL_law_302 : decode cL_law 302 = .ok (.iaload, 1) := by decide +kernel
theorem dL_law_303 : decode cL_law 303 = .ok (.aload_n 0, 1) := by decide +kernel
theorem dL_law_304 : decode cL_law 304 = .ok (.iload_n 3, 1) := by decide +kernel
theorem dL_law_305 : decode cL_law 305 = .ok (.iconst 2, 1) := by decide +kernel
theorem dL_law_306 : decode cL_law 306 = .ok (.iadd, 1) := by decide +kernel
theorem dL_law_307 : decode cL_law 307 = .ok (.iaload, 1) := by decide +kernel
theorem dL_law_308 : decode cL_law 308 = .ok (.ifCond .eq 7, 3) := by decide +kernel
theorem dL_law_311 : decode cL_law 311 = .ok (.iconst 1, 1) := by decide +kernel
theorem dL_law_312 : decode cL_law 312 = .ok (.goto 4, 3) := by decide +kernel
theorem dL_law_315 : decode cL_law 315 = .ok (.iconst 0, 1) := by decide +kernel
theorem dL_law_316 : decode cL_law 316 = .ok (.invokevirtual 28, 3) := by decide +kernel
theorem dL_law_319 : decode cL_law 319 = .ok (.aload_n 2, 1) := by decide +kernel
theorem dL_law_320 : decode cL_law 320 = .ok (.aload_n 0, 1) := by decide +kernel
theorem dL_law_321 : decode cL_law 321 = .ok (.iload_n 3, 1) := by decide +kernel
theorem dL_law_322 : decode cL_law 322 = .ok (.iconst 1, 1) := by decide +kernel
theorem dL_law_323 : decode cL_law 323 = .ok (.iadd, 1) := by decide +kernel
theorem dL_law_324 : decode cL_law 324 = .ok (.iaload, 1) := by decide +kernel
theorem dL_law_325 : decode cL_law 325 = .ok (.aload_n 0, 1) := by decide +kernel
theorem dL_law_326 : decode cL_law 326 = .ok (.iload_n 3, 1) := by decide +kernel
theorem dL_law_327 : decode cL_law 327 = .ok (.iconst 2, 1) := by decide +kernel
theorem dL_law_328 : decode cL_law 328 = .ok (.iadd, 1) := by decide +kernel
theorem dL_law_329 : decode cL_law 329 = .ok (.iaload, 1) := by decide +kernel
theorem dL_law_330 : decode cL_law 330 = .ok (.ifCond .eq 7, 3) := by decide +kernel
theorem dL_law_333 : decode cL_law 333 = .ok (.iconst 1, 1) := by decide +kernel
theorem dL_law_334 : decode cL_law 334 = .ok (.goto 4, 3) := by decide +kernel
theorem dL_law_337 : decode cL_law 337 = .ok (.iconst 0, 1) := by decide +kernel
theorem dL_law_338 : decode cL_law 338 = .ok (.invokevirtual 32, 3) := by decide +kernel
theorem dL_law_341 : decode cL_law 341 = .ok (.if_icmp .eq 920, 3) := by decide +kernel
theorem dL_law_344 : decode cL_law 344 = .ok (.iconst 0, 1) := by decide +kernel
theorem dL_law_345 : decode cL_law 345 = .ok (.ireturn, 1) := by decide +kernel
theorem dL_law_346 : decode cL_law 346 = .ok (.aload_n 1, 1) := by decide +kernel
theorem dL_law_347 : decode cL_law 347 = .ok (.aload_n 0, 1) := by decide +kernel
theorem dL_law_348 : decode cL_law 348 = .ok (.iload_n 3, 1) := by decide +kernel
theorem dL_law_349 : decode cL_law 349 = .ok (.iconst 1, 1) := by decide +kernel
theorem dL_law_350 : decode cL_law 350 = .ok (.iadd, 1) := by decide +kernel
theorem dL_law_351 : decode cL_law 351 = .ok (.iaload, 1) := by decide +kernel
theorem dL_law_352 : decode cL_law 352 = .ok (.aload_n 0, 1) := by decide +kernel
theorem dL_law_353 : decode cL_law 353 = .ok (.iload_n 3, 1) := by decide +kernel
theorem dL_law_354 : decode cL_law 354 = .ok (.iconst 2, 1) := by decide +kernel
theorem dL_law_355 : decode cL_law 355 = .ok (.iadd, 1) := by decide +kernel
theorem dL_law_356 : decode cL_law 356 = .ok (.iaload, 1) := by decide +kernel
theorem dL_law_357 : decode cL_law 357 = .ok (.aload_n 0, 1) := by decide +kernel
theorem dL_law_358 : decode cL_law 358 = .ok (.iload_n 3, 1) := by decide +kernel
theorem dL_law_359 : decode cL_law 359 = .ok (.iconst 3, 1) := by decide +kernel
theorem dL_law_360 : decode cL_law 360 = .ok (.iadd, 1) := by decide +kernel
theorem dL_law_361 : decode cL_law 361 = .ok (.iaload, 1) := by decide +kernel
theorem dL_law_362 : decode cL_law 362 = .ok (.invokevirtual 33, 3) := by decide +kernel
theorem dL_law_365 : decode cL_law 365 = .ok (.aload_n 2, 1) := by decide +kernel
theorem dL_law_366 : decode cL_law 366 = .ok (.aload_n 0, 1) := by decide +kernel
theorem dL_law_367 : decode cL_law 367 = .ok (.iload_n 3, 1) := by decide +kernel
theorem dL_law_368 : decode cL_law 368 = .ok (.iconst 1, 1) := by decide +kernel
theorem dL_law_369 : decode cL_law 369 = .ok (.iadd, 1) := by decide +kernel
theorem dL_law_370 : decode cL_law 370 = .ok (.iaload, 1) := by decide +kernel
theorem dL_law_371 : decode cL_law 371 = .ok (.aload_n 0, 1) := by decide +kernel
theorem dL_law_372 : decode cL_law 372 = .ok (.iload_n 3, 1) := by decide +kernel
theorem dL_law_373 : decode cL_law 373 = .ok (.iconst 2, 1) := by decide +kernel
theorem dL_law_374 : decode cL_law 374 = .ok (.iadd, 1) := by decide +kernel
theorem dL_law_375 : decode cL_law 375 = .ok (.iaload, 1) := by decide +kernel
theorem dL_law_376 : decode cL_law 376 = .ok (.aload_n 0, 1) := by decide +kernel
theorem dL_law_377 : decode cL_law 377 = .ok (.iload_n 3, 1) := by decide +kernel
theorem dL_law_378 : decode cL_law 378 = .ok (.iconst 3, 1) := by decide +kernel
theorem dL_law_379 : decode cL_law 379 = .ok (.iadd, 1) := by decide +kernel
theorem dL_law_380 : decode cL_law 380 = .ok (.iaload, 1) := by decide +kernel
theorem dL_law_381 : decode cL_law 381 = .ok (.invokevirtual 37, 3) := by decide +kernel
theorem dL_law_384 : decode cL_law 384 = .ok (.if_icmp .eq 877, 3) := by decide +kernel
theorem dL_law_387 : decode cL_law 387 = .ok (.iconst 0, 1) := by decide +kernel
theorem dL_law_388 : decode cL_law 388 = .ok (.ireturn, 1) := by decide +kernel
theorem dL_law_389 : decode cL_law 389 = .ok (.aload_n 1, 1) := by decide +kernel
theorem dL_law_390 : decode cL_law 390 = .ok (.aload_n 0, 1) := by decide +kernel
theorem dL_law_391 : decode cL_law 391 = .ok (.iload_n 3, 1) := by decide +kernel
theorem dL_law_392 : decode cL_law 392 = .ok (.iconst 1, 1) := by decide +kernel
theorem dL_law_393 : decode cL_law 393 = .ok (.iadd, 1) := by decide +kernel
theorem dL_law_394 : decode cL_law 394 = .ok (.iaload, 1) := by decide +kernel
theorem dL_law_395 : decode cL_law 395 = .ok (.invokevirtual 38, 3) := by decide +kernel
theorem dL_law_398 : decode cL_law 398 = .ok (.aload_n 2, 1) := by decide +kernel
theorem dL_law_399 : decode cL_law 399 = .ok (.aload_n 0, 1) := by decide +kernel
theorem dL_law_400 : decode cL_law 400 = .ok (.iload_n 3, 1) := by decide +kernel
theorem dL_law_401 : decode cL_law 401 = .ok (.iconst 1, 1) := by decide +kernel
theorem dL_law_402 : decode cL_law 402 = .ok (.iadd, 1) := by decide +kernel
theorem dL_law_403 : decode cL_law 403 = .ok (.iaload, 1) := by decide +kernel
theorem dL_law_404 : decode cL_law 404 = .ok (.invokevirtual 41, 3) := by decide +kernel
theorem dL_law_407 : decode cL_law 407 = .ok (.if_icmp .eq 854, 3) := by decide +kernel
theorem dL_law_410 : decode cL_law 410 = .ok (.iconst 0, 1) := by decide +kernel
theorem dL_law_411 : decode cL_law 411 = .ok (.ireturn, 1) := by decide +kernel
theorem dL_law_412 : decode cL_law 412 = .ok (.aload_n 1, 1) := by decide +kernel
theorem dL_law_413 : decode cL_law 413 = .ok (.aload_n 0, 1) := by decide +kernel
theorem dL_law_414 : decode cL_law 414 = .ok (.iload_n 3, 1) := by decide +kernel
theorem dL_law_415 : decode cL_law 415 = .ok (.iconst 1, 1) := by decide +kernel
theorem dL_law_416 : decode cL_law 416 = .ok (.iadd, 1) := by decide +kernel
theorem dL_law_417 : decode cL_law 417 = .ok (.iaload, 1) := by decide +kernel
theorem dL_law_418 : decode cL_law 418 = .ok (.aload_n 0, 1) := by decide +kernel
theorem dL_law_419 : decode cL_law 419 = .ok (.iload_n 3, 1) := by decide +kernel
theorem dL_law_420 : decode cL_law 420 = .ok (.iconst 2, 1) := by decide +kernel
theorem dL_law_421 : decode cL_law 421 = .ok (.iadd, 1) := by decide +kernel
theorem dL_law_422 : decode cL_law 422 = .ok (.iaload, 1) := by decide +kernel
theorem dL_law_423 : decode cL_law 423 = .ok (.invokevirtual 42, 3) := by decide +kernel
theorem dL_law_426 : decode cL_law 426 = .ok (.aload_n 2, 1) := by decide +kernel
theorem dL_law_427 : decode cL_law 427 = .ok (.aload_n 0, 1) := by decide +kernel
theorem dL_law_428 : decode cL_law 428 = .ok (.iload_n 3, 1) := by decide +kernel
theorem dL_law_429 : decode cL_law 429 = .ok (.iconst 1, 1) := by decide +kernel
theorem dL_law_430 : decode cL_law 430 = .ok (.iadd, 1) := by decide +kernel
theorem dL_law_431 : decode cL_law 431 = .ok (.iaload, 1) := by decide +kernel
theorem dL_law_432 : decode cL_law 432 = .ok (.aload_n 0, 1) := by decide +kernel
theorem dL_law_433 : decode cL_law 433 = .ok (.iload_n 3, 1) := by decide +kernel
theorem dL_law_434 : decode cL_law 434 = .ok (.iconst 2, 1) := by decide +kernel
theorem dL_law_435 : decode cL_law 435 = .ok (.iadd, 1) := by decide +kernel
theorem dL_law_436 : decode cL_law 436 = .ok (.iaload, 1) := by decide +kernel
theorem dL_law_437 : decode cL_law 437 = .ok (.invokevirtual 45, 3) := by decide +kernel
theorem dL_law_440 : decode cL_law 440 = .ok (.if_icmp .eq 821, 3) := by decide +kernel
theorem dL_law_443 : decode cL_law 443 = .ok (.iconst 0, 1) := by decide +kernel
theorem dL_law_444 : decode cL_law 444 = .ok (.ireturn, 1) := by decide +kernel
theorem dL_law_445 : decode cL_law 445 = .ok (.aload_n 1, 1) := by decide +kernel
theorem dL_law_446 : decode cL_law 446 = .ok (.aload_n 0, 1) := by decide +kernel
theorem dL_law_447 : decode cL_law 447 = .ok (.iload_n 3, 1) := by decide +kernel
theorem dL_law_448 : decode cL_law 448 = .ok (.iconst 1, 1) := by decide +kernel
theorem dL_law_449 : decode cL_law 449 = .ok (.iadd, 1) := by decide +kernel
theorem dL_law_450 : decode cL_law 450 = .ok (.iaload, 1) := by decide +kernel
theorem dL_law_451 : decode cL_law 451 = .ok (.aload_n 0, 1) := by decide +kernel
theorem dL_law_452 : decode cL_law 452 = .ok (.iload_n 3, 1) := by decide +kernel
theorem dL_law_453 : decode cL_law 453 = .ok (.iconst 2, 1) := by decide +kernel
theorem dL_law_454 : decode cL_law 454 = .ok (.iadd, 1) := by decide +kernel
theorem dL_law_455 : decode cL_law 455 = .ok (.iaload, 1) := by decide +kernel
theorem dL_law_456 : decode cL_law 456 = .ok (.invokevirtual 46, 3) := by decide +kernel
theorem dL_law_459 : decode cL_law 459 = .ok (.aload_n 2, 1) := by decide +kernel
theorem dL_law_460 : decode cL_law 460 = .ok (.aload_n 0, 1) := by decide +kernel
theorem dL_law_461 : decode cL_law 461 = .ok (.iload_n 3, 1) := by decide +kernel
theorem dL_law_462 : decode cL_law 462 = .ok (.iconst 1, 1) := by decide +kernel
theorem dL_law_463 : decode cL_law 463 = .ok (.iadd, 1) := by decide +kernel
theorem dL_law_464 : decode cL_law 464 = .ok (.iaload, 1) := by decide +kernel
theorem dL_law_465 : decode cL_law 465 = .ok (.aload_n 0, 1) := by decide +kernel
theorem dL_law_466 : decode cL_law 466 = .ok (.iload_n 3, 1) := by decide +kernel
theorem dL_law_467 : decode cL_law 467 = .ok (.iconst 2, 1) := by decide +kernel
theorem dL_law_468 : decode cL_law 468 = .ok (.iadd, 1) := by decide +kernel
theorem dL_law_469 : decode cL_law 469 = .ok (.iaload, 1) := by decide +kernel
theorem dL_law_470 : decode cL_law 470 = .ok (.invokevirtual 49, 3) := by decide +kernel
theorem dL_law_473 : decode cL_law 473 = .ok (.if_icmp .eq 788, 3) := by decide +kernel
theorem dL_law_476 : decode cL_law 476 = .ok (.iconst 0, 1) := by decide +kernel
theorem dL_law_477 : decode cL_law 477 = .ok (.ireturn, 1) := by decide +kernel
theorem dL_law_478 : decode cL_law 478 = .ok (.aload_n 1, 1) := by decide +kernel
theorem dL_law_479 : decode cL_law 479 = .ok (.aload_n 0, 1) := by decide +kernel
theorem dL_law_480 : decode cL_law 480 = .ok (.iload_n 3, 1) := by decide +kernel
theorem dL_law_481 : decode cL_law 481 = .ok (.iconst 1, 1) := by decide +kernel
theorem dL_law_482 : decode cL_law 482 = .ok (.iadd, 1) := by decide +kernel
theorem dL_law_483 : decode cL_law 483 = .ok (.iaload, 1) := by decide +kernel
theorem dL_law_484 : decode cL_law 484 = .ok (.aload_n 0, 1) := by decide +kernel
theorem dL_law_485 : decode cL_law 485 = .ok (.iload_n 3, 1) := by decide +kernel
theorem dL_law_486 : decode cL_law 486 = .ok (.iconst 2, 1) := by decide +kernel
theorem dL_law_487 : decode cL_law 487 = .ok (.iadd, 1) := by decide +kernel
theorem dL_law_488 : decode cL_law 488 = .ok (.iaload, 1) := by decide +kernel
theorem dL_law_489 : decode cL_law 489 = .ok (.invokevirtual 50, 3) := by decide +kernel
theorem dL_law_492 : decode cL_law 492 = .ok (.aload_n 2, 1) := by decide +kernel
theorem dL_law_493 : decode cL_law 493 = .ok (.aload_n 0, 1) := by decide +kernel
theorem dL_law_494 : decode cL_law 494 = .ok (.iload_n 3, 1) := by decide +kernel
theorem dL_law_495 : decode cL_law 495 = .ok (.iconst 1, 1) := by decide +kernel
theorem dL_law_496 : decode cL_law 496 = .ok (.iadd, 1) := by decide +kernel
theorem dL_law_497 : decode cL_law 497 = .ok (.iaload, 1) := by decide +kernel
theorem dL_law_498 : decode cL_law 498 = .ok (.aload_n 0, 1) := by decide +kernel
theorem dL_law_499 : decode cL_law 499 = .ok (.iload_n 3, 1) := by decide +kernel
theorem dL_law_500 : decode cL_law 500 = .ok (.iconst 2, 1) := by decide +kernel
theorem dL_law_501 : decode cL_law 501 = .ok (.iadd, 1) := by decide +kernel
theorem dL_law_502 : decode cL_law 502 = .ok (.iaload, 1) := by decide +kernel
theorem dL_law_503 : decode cL_law 503 = .ok (.invokevirtual 53, 3) := by decide +kernel
theorem dL_law_506 : decode cL_law 506 = .ok (.if_icmp .eq 755, 3) := by decide +kernel
theorem dL_law_509 : decode cL_law 509 = .ok (.iconst 0, 1) := by decide +kernel
theorem dL_law_510 : decode cL_law 510 = .ok (.ireturn, 1) := by decide +kernel
theorem dL_law_511 : decode cL_law 511 = .ok (.aload_n 1, 1) := by decide +kernel
theorem dL_law_512 : decode cL_law 512 = .ok (.aload_n 0, 1) := by decide +kernel
theorem dL_law_513 : decode cL_law 513 = .ok (.iload_n 3, 1) := by decide +kernel
theorem dL_law_514 : decode cL_law 514 = .ok (.iconst 1, 1) := by decide +kernel
theorem dL_law_515 : decode cL_law 515 = .ok (.iadd, 1) := by decide +kernel
theorem dL_law_516 : decode cL_law 516 = .ok (.iaload, 1) := by decide +kernel
theorem dL_law_517 : decode cL_law 517 = .ok (.aload_n 0, 1) := by decide +kernel
theorem dL_law_518 : decode cL_law 518 = .ok (.iload_n 3, 1) := by decide +kernel
theorem dL_law_519 : decode cL_law 519 = .ok (.iconst 2, 1) := by decide +kernel
theorem dL_law_520 : decode cL_law 520 = .ok (.iadd, 1) := by decide +kernel
theorem dL_law_521 : decode cL_law 521 = .ok (.iaload, 1) := by decide +kernel
theorem dL_law_522 : decode cL_law 522 = .ok (.invokevirtual 54, 3) := by decide +kernel
theorem dL_law_525 : decode cL_law 525 = .ok (.aload_n 2, 1) := by decide +kernel
theorem dL_law_526 : decode cL_law 526 = .ok (.aload_n 0, 1) := by decide +kernel
theorem dL_law_527 : decode cL_law 527 = .ok (.iload_n 3, 1) := by decide +kernel
theorem dL_law_528 : decode cL_law 528 = .ok (.iconst 1, 1) := by decide +kernel
theorem dL_law_529 : decode cL_law 529 = .ok (.iadd, 1) := by decide +kernel
theorem dL_law_530 : decode cL_law 530 = .ok (.iaload, 1) := by decide +kernel
theorem dL_law_531 : decode cL_law 531 = .ok (.aload_n 0, 1) := by decide +kernel
theorem dL_law_532 : decode cL_law 532 = .ok (.iload_n 3, 1) := by decide +kernel
theorem dL_law_533 : decode cL_law 533 = .ok (.iconst 2, 1) := by decide +kernel
theorem dL_law_534 : decode cL_law 534 = .ok (.iadd, 1) := by decide +kernel
theorem dL_law_535 : decode cL_law 535 = .ok (.iaload, 1) := by decide +kernel
theorem dL_law_536 : decode cL_law 536 = .ok (.invokevirtual 57, 3) := by decide +kernel
theorem dL_law_539 : decode cL_law 539 = .ok (.if_icmp .eq 722, 3) := by decide +kernel
theorem dL_law_542 : decode cL_law 542 = .ok (.iconst 0, 1) := by decide +kernel
theorem dL_law_543 : decode cL_law 543 = .ok (.ireturn, 1) := by decide +kernel
theorem dL_law_544 : decode cL_law 544 = .ok (.aload_n 1, 1) := by decide +kernel
theorem dL_law_545 : decode cL_law 545 = .ok (.aload_n 0, 1) := by decide +kernel
theorem dL_law_546 : decode cL_law 546 = .ok (.iload_n 3, 1) := by decide +kernel
theorem dL_law_547 : decode cL_law 547 = .ok (.iconst 1, 1) := by decide +kernel
theorem dL_law_548 : decode cL_law 548 = .ok (.iadd, 1) := by decide +kernel
theorem dL_law_549 : decode cL_law 549 = .ok (.iaload, 1) := by decide +kernel
theorem dL_law_550 : decode cL_law 550 = .ok (.invokevirtual 58, 3) := by decide +kernel
theorem dL_law_553 : decode cL_law 553 = .ok (.aload_n 2, 1) := by decide +kernel
theorem dL_law_554 : decode cL_law 554 = .ok (.aload_n 0, 1) := by decide +kernel
theorem dL_law_555 : decode cL_law 555 = .ok (.iload_n 3, 1) := by decide +kernel
theorem dL_law_556 : decode cL_law 556 = .ok (.iconst 1, 1) := by decide +kernel
theorem dL_law_557 : decode cL_law 557 = .ok (.iadd, 1) := by decide +kernel
theorem dL_law_558 : decode cL_law 558 = .ok (.iaload, 1) := by decide +kernel
theorem dL_law_559 : decode cL_law 559 = .ok (.invokevirtual 61, 3) := by decide +kernel
theorem dL_law_562 : decode cL_law 562 = .ok (.if_icmp .eq 699, 3) := by decide +kernel
theorem dL_law_565 : decode cL_law 565 = .ok (.iconst 0, 1) := by decide +kernel
theorem dL_law_566 : decode cL_law 566 = .ok (.ireturn, 1) := by decide +kernel
theorem dL_law_567 : decode cL_law 567 = .ok (.aload_n 1, 1) := by decide +kernel
theorem dL_law_568 : decode cL_law 568 = .ok (.aload_n 0, 1) := by decide +kernel
theorem dL_law_569 : decode cL_law 569 = .ok (.iload_n 3, 1) := by decide +kernel
theorem dL_law_570 : decode cL_law 570 = .ok (.iconst 1, 1) := by decide +kernel
theorem dL_law_571 : decode cL_law 571 = .ok (.iadd, 1) := by decide +kernel
theorem dL_law_572 : decode cL_law 572 = .ok (.iaload, 1) := by decide +kernel
theorem dL_law_573 : decode cL_law 573 = .ok (.invokevirtual 62, 3) := by decide +kernel
theorem dL_law_576 : decode cL_law 576 = .ok (.aload_n 2, 1) := by decide +kernel
theorem dL_law_577 : decode cL_law 577 = .ok (.aload_n 0, 1) := by decide +kernel
theorem dL_law_578 : decode cL_law 578 = .ok (.iload_n 3, 1) := by decide +kernel
theorem dL_law_579 : decode cL_law 579 = .ok (.iconst 1, 1) := by decide +kernel
theorem dL_law_580 : decode cL_law 580 = .ok (.iadd, 1) := by decide +kernel
theorem dL_law_581 : decode cL_law 581 = .ok (.iaload, 1) := by decide +kernel
theorem dL_law_582 : decode cL_law 582 = .ok (.invokevirtual 65, 3) := by decide +kernel
theorem dL_law_585 : decode cL_law 585 = .ok (.if_icmp .eq 676, 3) := by decide +kernel
theorem dL_law_588 : decode cL_law 588 = .ok (.iconst 0, 1) := by decide +kernel
theorem dL_law_589 : decode cL_law 589 = .ok (.ireturn, 1) := by decide +kernel
theorem dL_law_590 : decode cL_law 590 = .ok (.aload_n 1, 1) := by decide +kernel
theorem dL_law_591 : decode cL_law 591 = .ok (.aload_n 0, 1) := by decide +kernel
theorem dL_law_592 : decode cL_law 592 = .ok (.iload_n 3, 1) := by decide +kernel
theorem dL_law_593 : decode cL_law 593 = .ok (.iconst 1, 1) := by decide +kernel
theorem dL_law_594 : decode cL_law 594 = .ok (.iadd, 1) := by decide +kernel
theorem dL_law_595 : decode cL_law 595 = .ok (.iaload, 1) := by decide +kernel
theorem dL_law_596 : decode cL_law 596 = .ok (.invokevirtual 66, 3) := by decide +kernel
theorem dL_law_599 : decode cL_law 599 = .ok (.aload_n 2, 1) := by decide +kernel
theorem dL_law_600 : decode cL_law 600 = .ok (.aload_n 0, 1) := by decide +kernel
theorem dL_law_601 : decode cL_law 601 = .ok (.iload_n 3, 1) := by decide +kernel
theorem dL_law_602 : decode cL_law 602 = .ok (.iconst 1, 1) := by decide +kernel
theorem dL_law_603 : decode cL_law 603 = .ok (.iadd, 1) := by decide +kernel
theorem dL_law_604 : decode cL_law 604 = .ok (.iaload, 1) := by decide +kernel
theorem dL_law_605 : decode cL_law 605 = .ok (.invokevirtual 69, 3) := by decide +kernel
theorem dL_law_608 : decode cL_law 608 = .ok (.if_icmp .eq 653, 3) := by decide +kernel
theorem dL_law_611 : decode cL_law 611 = .ok (.iconst 0, 1) := by decide +kernel
theorem dL_law_612 : decode cL_law 612 = .ok (.ireturn, 1) := by decide +kernel
theorem dL_law_613 : decode cL_law 613 = .ok (.aload_n 1, 1) := by decide +kernel
theorem dL_law_614 : decode cL_law 614 = .ok (.aload_n 0, 1) := by decide +kernel
theorem dL_law_615 : decode cL_law 615 = .ok (.iload_n 3, 1) := by decide +kernel
theorem dL_law_616 : decode cL_law 616 = .ok (.iconst 1, 1) := by decide +kernel
theorem dL_law_617 : decode cL_law 617 = .ok (.iadd, 1) := by decide +kernel
theorem dL_law_618 : decode cL_law 618 = .ok (.iaload, 1) := by decide +kernel
theorem dL_law_619 : decode cL_law 619 = .ok (.aload_n 0, 1) := by decide +kernel
theorem dL_law_620 : decode cL_law 620 = .ok (.iload_n 3, 1) := by decide +kernel
theorem dL_law_621 : decode cL_law 621 = .ok (.iconst 2, 1) := by decide +kernel
theorem dL_law_622 : decode cL_law 622 = .ok (.iadd, 1) := by decide +kernel
theorem dL_law_623 : decode cL_law 623 = .ok (.iaload, 1) := by decide +kernel
theorem dL_law_624 : decode cL_law 624 = .ok (.invokevirtual 70, 3) := by decide +kernel
theorem dL_law_627 : decode cL_law 627 = .ok (.aload_n 2, 1) := by decide +kernel
theorem dL_law_628 : decode cL_law 628 = .ok (.aload_n 0, 1) := by decide +kernel
theorem dL_law_629 : decode cL_law 629 = .ok (.iload_n 3, 1) := by decide +kernel
theorem dL_law_630 : decode cL_law 630 = .ok (.iconst 1, 1) := by decide +kernel
theorem dL_law_631 : decode cL_law 631 = .ok (.iadd, 1) := by decide +kernel
theorem dL_law_632 : decode cL_law 632 = .ok (.iaload, 1) := by decide +kernel
theorem dL_law_633 : decode cL_law 633 = .ok (.aload_n 0, 1) := by decide +kernel
theorem dL_law_634 : decode cL_law 634 = .ok (.iload_n 3, 1) := by decide +kernel
theorem dL_law_635 : decode cL_law 635 = .ok (.iconst 2, 1) := by decide +kernel
theorem dL_law_636 : decode cL_law 636 = .ok (.iadd, 1) := by decide +kernel
theorem dL_law_637 : decode cL_law 637 = .ok (.iaload, 1) := by decide +kernel
theorem dL_law_638 : decode cL_law 638 = .ok (.invokevirtual 73, 3) := by decide +kernel
theorem dL_law_641 : decode cL_law 641 = .ok (.if_icmp .eq 620, 3) := by decide +kernel
theorem dL_law_644 : decode cL_law 644 = .ok (.iconst 0, 1) := by decide +kernel
theorem dL_law_645 : decode cL_law 645 = .ok (.ireturn, 1) := by decide +kernel
theorem dL_law_646 : decode cL_law 646 = .ok (.aload_n 1, 1) := by decide +kernel
theorem dL_law_647 : decode cL_law 647 = .ok (.aload_n 0, 1) := by decide +kernel
theorem dL_law_648 : decode cL_law 648 = .ok (.iload_n 3, 1) := by decide +kernel
theorem dL_law_649 : decode cL_law 649 = .ok (.iconst 1, 1) := by decide +kernel
theorem dL_law_650 : decode cL_law 650 = .ok (.iadd, 1) := by decide +kernel
theorem dL_law_651 : decode cL_law 651 = .ok (.iaload, 1) := by decide +kernel
theorem dL_law_652 : decode cL_law 652 = .ok (.invokevirtual 74, 3) := by decide +kernel
theorem dL_law_655 : decode cL_law 655 = .ok (.aload_n 2, 1) := by decide +kernel
theorem dL_law_656 : decode cL_law 656 = .ok (.aload_n 0, 1) := by decide +kernel
theorem dL_law_657 : decode cL_law 657 = .ok (.iload_n 3, 1) := by decide +kernel
theorem dL_law_658 : decode cL_law 658 = .ok (.iconst 1, 1) := by decide +kernel
theorem dL_law_659 : decode cL_law 659 = .ok (.iadd, 1) := by decide +kernel
theorem dL_law_660 : decode cL_law 660 = .ok (.iaload, 1) := by decide +kernel
theorem dL_law_661 : decode cL_law 661 = .ok (.invokevirtual 77, 3) := by decide +kernel
theorem dL_law_664 : decode cL_law 664 = .ok (.if_icmp .eq 597, 3) := by decide +kernel
theorem dL_law_667 : decode cL_law 667 = .ok (.iconst 0, 1) := by decide +kernel
theorem dL_law_668 : decode cL_law 668 = .ok (.ireturn, 1) := by decide +kernel
theorem dL_law_669 : decode cL_law 669 = .ok (.aload_n 1, 1) := by decide +kernel
theorem dL_law_670 : decode cL_law 670 = .ok (.aload_n 0, 1) := by decide +kernel
theorem dL_law_671 : decode cL_law 671 = .ok (.iload_n 3, 1) := by decide +kernel
theorem dL_law_672 : decode cL_law 672 = .ok (.iconst 1, 1) := by decide +kernel
theorem dL_law_673 : decode cL_law 673 = .ok (.iadd, 1) := by decide +kernel
theorem dL_law_674 : decode cL_law 674 = .ok (.iaload, 1) := by decide +kernel
theorem dL_law_675 : decode cL_law 675 = .ok (.invokevirtual 78, 3) := by decide +kernel
theorem dL_law_678 : decode cL_law 678 = .ok (.aload_n 2, 1) := by decide +kernel
theorem dL_law_679 : decode cL_law 679 = .ok (.aload_n 0, 1) := by decide +kernel
theorem dL_law_680 : decode cL_law 680 = .ok (.iload_n 3, 1) := by decide +kernel
theorem dL_law_681 : decode cL_law 681 = .ok (.iconst 1, 1) := by decide +kernel
theorem dL_law_682 : decode cL_law 682 = .ok (.iadd, 1) := by decide +kernel
theorem dL_law_683 : decode cL_law 683 = .ok (.iaload, 1) := by decide +kernel
theorem dL_law_684 : decode cL_law 684 = .ok (.invokevirtual 81, 3) := by decide +kernel
theorem dL_law_687 : decode cL_law 687 = .ok (.if_icmp .eq 574, 3) := by decide +kernel
theorem dL_law_690 : decode cL_law 690 = .ok (.iconst 0, 1) := by decide +kernel
theorem dL_law_691 : decode cL_law 691 = .ok (.ireturn, 1) := by decide +kernel
theorem dL_law_692 : decode cL_law 692 = .ok (.aload_n 1, 1) := by decide +kernel
theorem dL_law_693 : decode cL_law 693 = .ok (.aload_n 0, 1) := by decide +kernel
theorem dL_law_694 : decode cL_law 694 = .ok (.iload_n 3, 1) := by decide +kernel
theorem dL_law_695 : decode cL_law 695 = .ok (.iconst 1, 1) := by decide +kernel
theorem dL_law_696 : decode cL_law 696 = .ok (.iadd, 1) := by decide +kernel
theorem dL_law_697 : decode cL_law 697 = .ok (.iaload, 1) := by decide +kernel
theorem dL_law_698 : decode cL_law 698 = .ok (.aload_n 0, 1) := by decide +kernel
theorem dL_law_699 : decode cL_law 699 = .ok (.iload_n 3, 1) := by decide +kernel
theorem dL_law_700 : decode cL_law 700 = .ok (.iconst 2, 1) := by decide +kernel
theorem dL_law_701 : decode cL_law 701 = .ok (.iadd, 1) := by decide +kernel
theorem dL_law_702 : decode cL_law 702 = .ok (.iaload, 1) := by decide +kernel
theorem dL_law_703 : decode cL_law 703 = .ok (.aload_n 0, 1) := by decide +kernel
theorem dL_law_704 : decode cL_law 704 = .ok (.iload_n 3, 1) := by decide +kernel
theorem dL_law_705 : decode cL_law 705 = .ok (.iconst 3, 1) := by decide +kernel
theorem dL_law_706 : decode cL_law 706 = .ok (.iadd, 1) := by decide +kernel
theorem dL_law_707 : decode cL_law 707 = .ok (.iaload, 1) := by decide +kernel
theorem dL_law_708 : decode cL_law 708 = .ok (.aload_n 0, 1) := by decide +kernel
theorem dL_law_709 : decode cL_law 709 = .ok (.iload_n 3, 1) := by decide +kernel
theorem dL_law_710 : decode cL_law 710 = .ok (.iconst 4, 1) := by decide +kernel
theorem dL_law_711 : decode cL_law 711 = .ok (.iadd, 1) := by decide +kernel
theorem dL_law_712 : decode cL_law 712 = .ok (.iaload, 1) := by decide +kernel
theorem dL_law_713 : decode cL_law 713 = .ok (.invokevirtual 82, 3) := by decide +kernel
theorem dL_law_716 : decode cL_law 716 = .ok (.aload_n 2, 1) := by decide +kernel
theorem dL_law_717 : decode cL_law 717 = .ok (.aload_n 0, 1) := by decide +kernel
theorem dL_law_718 : decode cL_law 718 = .ok (.iload_n 3, 1) := by decide +kernel
theorem dL_law_719 : decode cL_law 719 = .ok (.iconst 1, 1) := by decide +kernel
theorem dL_law_720 : decode cL_law 720 = .ok (.iadd, 1) := by decide +kernel
theorem dL_law_721 : decode cL_law 721 = .ok (.iaload, 1) := by decide +kernel
theorem dL_law_722 : decode cL_law 722 = .ok (.aload_n 0, 1) := by decide +kernel
theorem dL_law_723 : decode cL_law 723 = .ok (.iload_n 3, 1) := by decide +kernel
theorem dL_law_724 : decode cL_law 724 = .ok (.iconst 2, 1) := by decide +kernel
theorem dL_law_725 : decode cL_law 725 = .ok (.iadd, 1) := by decide +kernel
theorem dL_law_726 : decode cL_law 726 = .ok (.iaload, 1) := by decide +kernel
theorem dL_law_727 : decode cL_law 727 = .ok (.aload_n 0, 1) := by decide +kernel
theorem dL_law_728 : decode cL_law 728 = .ok (.iload_n 3, 1) := by decide +kernel
theorem dL_law_729 : decode cL_law 729 = .ok (.iconst 3, 1) := by decide +kernel
theorem dL_law_730 : decode cL_law 730 = .ok (.iadd, 1) := by decide +kernel
theorem dL_law_731 : decode cL_law 731 = .ok (.iaload, 1) := by decide +kernel
theorem dL_law_732 : decode cL_law 732 = .ok (.aload_n 0, 1) := by decide +kernel
theorem dL_law_733 : decode cL_law 733 = .ok (.iload_n 3, 1) := by decide +kernel
theorem dL_law_734 : decode cL_law 734 = .ok (.iconst 4, 1) := by decide +kernel
theorem dL_law_735 : decode cL_law 735 = .ok (.iadd, 1) := by decide +kernel
theorem dL_law_736 : decode cL_law 736 = .ok (.iaload, 1) := by decide +kernel
theorem dL_law_737 : decode cL_law 737 = .ok (.invokevirtual 85, 3) := by decide +kernel
theorem dL_law_740 : decode cL_law 740 = .ok (.if_icmp .eq 521, 3) := by decide +kernel
theorem dL_law_743 : decode cL_law 743 = .ok (.iconst 0, 1) := by decide +kernel
theorem dL_law_744 : decode cL_law 744 = .ok (.ireturn, 1) := by decide +kernel
theorem dL_law_745 : decode cL_law 745 = .ok (.aload_n 1, 1) := by decide +kernel
theorem dL_law_746 : decode cL_law 746 = .ok (.aload_n 0, 1) := by decide +kernel
theorem dL_law_747 : decode cL_law 747 = .ok (.iload_n 3, 1) := by decide +kernel
theorem dL_law_748 : decode cL_law 748 = .ok (.iconst 1, 1) := by decide +kernel
theorem dL_law_749 : decode cL_law 749 = .ok (.iadd, 1) := by decide +kernel
theorem dL_law_750 : decode cL_law 750 = .ok (.iaload, 1) := by decide +kernel
theorem dL_law_751 : decode cL_law 751 = .ok (.aload_n 0, 1) := by decide +kernel
theorem dL_law_752 : decode cL_law 752 = .ok (.iload_n 3, 1) := by decide +kernel
theorem dL_law_753 : decode cL_law 753 = .ok (.iconst 2, 1) := by decide +kernel
theorem dL_law_754 : decode cL_law 754 = .ok (.iadd, 1) := by decide +kernel
theorem dL_law_755 : decode cL_law 755 = .ok (.iaload, 1) := by decide +kernel
theorem dL_law_756 : decode cL_law 756 = .ok (.aload_n 0, 1) := by decide +kernel
theorem dL_law_757 : decode cL_law 757 = .ok (.iload_n 3, 1) := by decide +kernel
theorem dL_law_758 : decode cL_law 758 = .ok (.iconst 3, 1) := by decide +kernel
theorem dL_law_759 : decode cL_law 759 = .ok (.iadd, 1) := by decide +kernel
theorem dL_law_760 : decode cL_law 760 = .ok (.iaload, 1) := by decide +kernel
theorem dL_law_761 : decode cL_law 761 = .ok (.invokevirtual 86, 3) := by decide +kernel
theorem dL_law_764 : decode cL_law 764 = .ok (.aload_n 2, 1) := by decide +kernel
theorem dL_law_765 : decode cL_law 765 = .ok (.aload_n 0, 1) := by decide +kernel
theorem dL_law_766 : decode cL_law 766 = .ok (.iload_n 3, 1) := by decide +kernel
theorem dL_law_767 : decode cL_law 767 = .ok (.iconst 1, 1) := by decide +kernel
theorem dL_law_768 : decode cL_law 768 = .ok (.iadd, 1) := by decide +kernel
theorem dL_law_769 : decode cL_law 769 = .ok (.iaload, 1) := by decide +kernel
theorem dL_law_770 : decode cL_law 770 = .ok (.aload_n 0, 1) := by decide +kernel
theorem dL_law_771 : decode cL_law 771 = .ok (.iload_n 3, 1) := by decide +kernel
theorem dL_law_772 : decode cL_law 772 = .ok (.iconst 2, 1) := by decide +kernel
theorem dL_law_773 : decode cL_law 773 = .ok (.iadd, 1) := by decide +kernel
theorem dL_law_774 : decode cL_law 774 = .ok (.iaload, 1) := by decide +kernel
theorem dL_law_775 : decode cL_law 775 = .ok (.aload_n 0, 1) := by decide +kernel
theorem dL_law_776 : decode cL_law 776 = .ok (.iload_n 3, 1) := by decide +kernel
theorem dL_law_777 : decode cL_law 777 = .ok (.iconst 3, 1) := by decide +kernel
theorem dL_law_778 : decode cL_law 778 = .ok (.iadd, 1) := by decide +kernel
theorem dL_law_779 : decode cL_law 779 = .ok (.iaload, 1) := by decide +kernel
theorem dL_law_780 : decode cL_law 780 = .ok (.invokevirtual 89, 3) := by decide +kernel
theorem dL_law_783 : decode cL_law 783 = .ok (.if_icmp .eq 478, 3) := by decide +kernel
theorem dL_law_786 : decode cL_law 786 = .ok (.iconst 0, 1) := by decide +kernel
theorem dL_law_787 : decode cL_law 787 = .ok (.ireturn, 1) := by decide +kernel
theorem dL_law_788 : decode cL_law 788 = .ok (.aload_n 1, 1) := by decide +kernel
theorem dL_law_789 : decode cL_law 789 = .ok (.aload_n 0, 1) := by decide +kernel
theorem dL_law_790 : decode cL_law 790 = .ok (.iload_n 3, 1) := by decide +kernel
theorem dL_law_791 : decode cL_law 791 = .ok (.iconst 1, 1) := by decide +kernel
theorem dL_law_792 : decode cL_law 792 = .ok (.iadd, 1) := by decide +kernel
theorem dL_law_793 : decode cL_law 793 = .ok (.iaload, 1) := by decide +kernel
theorem dL_law_794 : decode cL_law 794 = .ok (.invokevirtual 90, 3) := by decide +kernel
theorem dL_law_797 : decode cL_law 797 = .ok (.aload_n 2, 1) := by decide +kernel
theorem dL_law_798 : decode cL_law 798 = .ok (.aload_n 0, 1) := by decide +kernel
theorem dL_law_799 : decode cL_law 799 = .ok (.iload_n 3, 1) := by decide +kernel
theorem dL_law_800 : decode cL_law 800 = .ok (.iconst 1, 1) := by decide +kernel
theorem dL_law_801 : decode cL_law 801 = .ok (.iadd, 1) := by decide +kernel
theorem dL_law_802 : decode cL_law 802 = .ok (.iaload, 1) := by decide +kernel
theorem dL_law_803 : decode cL_law 803 = .ok (.invokevirtual 93, 3) := by decide +kernel
theorem dL_law_806 : decode cL_law 806 = .ok (.if_icmp .eq 455, 3) := by decide +kernel
theorem dL_law_809 : decode cL_law 809 = .ok (.iconst 0, 1) := by decide +kernel
theorem dL_law_810 : decode cL_law 810 = .ok (.ireturn, 1) := by decide +kernel
theorem dL_law_811 : decode cL_law 811 = .ok (.aload_n 1, 1) := by decide +kernel
theorem dL_law_812 : decode cL_law 812 = .ok (.invokevirtual 94, 3) := by decide +kernel
theorem dL_law_815 : decode cL_law 815 = .ok (.aload_n 2, 1) := by decide +kernel
theorem dL_law_816 : decode cL_law 816 = .ok (.invokevirtual 98, 3) := by decide +kernel
theorem dL_law_819 : decode cL_law 819 = .ok (.if_icmp .eq 442, 3) := by decide +kernel
theorem dL_law_822 : decode cL_law 822 = .ok (.iconst 0, 1) := by decide +kernel
theorem dL_law_823 : decode cL_law 823 = .ok (.ireturn, 1) := by decide +kernel
theorem dL_law_824 : decode cL_law 824 = .ok (.aload_n 1, 1) := by decide +kernel
theorem dL_law_825 : decode cL_law 825 = .ok (.invokevirtual 99, 3) := by decide +kernel
theorem dL_law_828 : decode cL_law 828 = .ok (.aload_n 2, 1) := by decide +kernel
theorem dL_law_829 : decode cL_law 829 = .ok (.invokevirtual 102, 3) := by decide +kernel
theorem dL_law_832 : decode cL_law 832 = .ok (.if_icmp .eq 429, 3) := by decide +kernel
theorem dL_law_835 : decode cL_law 835 = .ok (.iconst 0, 1) := by decide +kernel
theorem dL_law_836 : decode cL_law 836 = .ok (.ireturn, 1) := by decide +kernel
theorem dL_law_837 : decode cL_law 837 = .ok (.aload_n 1, 1) := by decide +kernel
theorem dL_law_838 : decode cL_law 838 = .ok (.aload_n 0, 1) := by decide +kernel
theorem dL_law_839 : decode cL_law 839 = .ok (.iload_n 3, 1) := by decide +kernel
theorem dL_law_840 : decode cL_law 840 = .ok (.iconst 1, 1) := by decide +kernel
theorem dL_law_841 : decode cL_law 841 = .ok (.iadd, 1) := by decide +kernel
theorem dL_law_842 : decode cL_law 842 = .ok (.iaload, 1) := by decide +kernel
theorem dL_law_843 : decode cL_law 843 = .ok (.aload_n 0, 1) := by decide +kernel
theorem dL_law_844 : decode cL_law 844 = .ok (.iload_n 3, 1) := by decide +kernel
theorem dL_law_845 : decode cL_law 845 = .ok (.iconst 2, 1) := by decide +kernel
theorem dL_law_846 : decode cL_law 846 = .ok (.iadd, 1) := by decide +kernel
theorem dL_law_847 : decode cL_law 847 = .ok (.iaload, 1) := by decide +kernel
theorem dL_law_848 : decode cL_law 848 = .ok (.invokevirtual 103, 3) := by decide +kernel
theorem dL_law_851 : decode cL_law 851 = .ok (.aload_n 2, 1) := by decide +kernel
theorem dL_law_852 : decode cL_law 852 = .ok (.aload_n 0, 1) := by decide +kernel
theorem dL_law_853 : decode cL_law 853 = .ok (.iload_n 3, 1) := by decide +kernel
theorem dL_law_854 : decode cL_law 854 = .ok (.iconst 1, 1) := by decide +kernel
theorem dL_law_855 : decode cL_law 855 = .ok (.iadd, 1) := by decide +kernel
theorem dL_law_856 : decode cL_law 856 = .ok (.iaload, 1) := by decide +kernel
theorem dL_law_857 : decode cL_law 857 = .ok (.aload_n 0, 1) := by decide +kernel
theorem dL_law_858 : decode cL_law 858 = .ok (.iload_n 3, 1) := by decide +kernel
theorem dL_law_859 : decode cL_law 859 = .ok (.iconst 2, 1) := by decide +kernel
theorem dL_law_860 : decode cL_law 860 = .ok (.iadd, 1) := by decide +kernel
theorem dL_law_861 : decode cL_law 861 = .ok (.iaload, 1) := by decide +kernel
theorem dL_law_862 : decode cL_law 862 = .ok (.invokevirtual 106, 3) := by decide +kernel
theorem dL_law_865 : decode cL_law 865 = .ok (.if_icmp .eq 396, 3) := by decide +kernel
theorem dL_law_868 : decode cL_law 868 = .ok (.iconst 0, 1) := by decide +kernel
theorem dL_law_869 : decode cL_law 869 = .ok (.ireturn, 1) := by decide +kernel
theorem dL_law_870 : decode cL_law 870 = .ok (.aload_n 1, 1) := by decide +kernel
theorem dL_law_871 : decode cL_law 871 = .ok (.invokevirtual 107, 3) := by decide +kernel
theorem dL_law_874 : decode cL_law 874 = .ok (.aload_n 2, 1) := by decide +kernel
theorem dL_law_875 : decode cL_law 875 = .ok (.invokevirtual 110, 3) := by decide +kernel
theorem dL_law_878 : decode cL_law 878 = .ok (.if_icmp .eq 383, 3) := by decide +kernel
theorem dL_law_881 : decode cL_law 881 = .ok (.iconst 0, 1) := by decide +kernel
theorem dL_law_882 : decode cL_law 882 = .ok (.ireturn, 1) := by decide +kernel
theorem dL_law_883 : decode cL_law 883 = .ok (.aload_n 1, 1) := by decide +kernel
theorem dL_law_884 : decode cL_law 884 = .ok (.aload_n 0, 1) := by decide +kernel
theorem dL_law_885 : decode cL_law 885 = .ok (.iload_n 3, 1) := by decide +kernel
theorem dL_law_886 : decode cL_law 886 = .ok (.iconst 1, 1) := by decide +kernel
theorem dL_law_887 : decode cL_law 887 = .ok (.iadd, 1) := by decide +kernel
theorem dL_law_888 : decode cL_law 888 = .ok (.iaload, 1) := by decide +kernel
theorem dL_law_889 : decode cL_law 889 = .ok (.aload_n 0, 1) := by decide +kernel
theorem dL_law_890 : decode cL_law 890 = .ok (.iload_n 3, 1) := by decide +kernel
theorem dL_law_891 : decode cL_law 891 = .ok (.iconst 2, 1) := by decide +kernel
theorem dL_law_892 : decode cL_law 892 = .ok (.iadd, 1) := by decide +kernel
theorem dL_law_893 : decode cL_law 893 = .ok (.iaload, 1) := by decide +kernel
theorem dL_law_894 : decode cL_law 894 = .ok (.invokevirtual 111, 3) := by decide +kernel
theorem dL_law_897 : decode cL_law 897 = .ok (.aload_n 2, 1) := by decide +kernel
theorem dL_law_898 : decode cL_law 898 = .ok (.aload_n 0, 1) := by decide +kernel
theorem dL_law_899 : decode cL_law 899 = .ok (.iload_n 3, 1) := by decide +kernel
theorem dL_law_900 : decode cL_law 900 = .ok (.iconst 1, 1) := by decide +kernel
theorem dL_law_901 : decode cL_law 901 = .ok (.iadd, 1) := by decide +kernel
theorem dL_law_902 : decode cL_law 902 = .ok (.iaload, 1) := by decide +kernel
theorem dL_law_903 : decode cL_law 903 = .ok (.aload_n 0, 1) := by decide +kernel
theorem dL_law_904 : decode cL_law 904 = .ok (.iload_n 3, 1) := by decide +kernel
theorem dL_law_905 : decode cL_law 905 = .ok (.iconst 2, 1) := by decide +kernel
theorem dL_law_906 : decode cL_law 906 = .ok (.iadd, 1) := by decide +kernel
theorem dL_law_907 : decode cL_law 907 = .ok (.iaload, 1) := by decide +kernel
theorem dL_law_908 : decode cL_law 908 = .ok (.invokevirtual 115, 3) := by decide +kernel
theorem dL_law_911 : decode cL_law 911 = .ok (.lcmp, 1) := by decide +kernel
theorem dL_law_912 : decode cL_law 912 = .ok (.ifCond .eq 349, 3) := by decide +kernel
theorem dL_law_915 : decode cL_law 915 = .ok (.iconst 0, 1) := by decide +kernel
theorem dL_law_916 : decode cL_law 916 = .ok (.ireturn, 1) := by decide +kernel
theorem dL_law_917 : decode cL_law 917 = .ok (.aload_n 1, 1) := by decide +kernel
theorem dL_law_918 : decode cL_law 918 = .ok (.aload_n 0, 1) := by decide +kernel
theorem dL_law_919 : decode cL_law 919 = .ok (.iload_n 3, 1) := by decide +kernel
theorem dL_law_920 : decode cL_law 920 = .ok (.iconst 1, 1) := by decide +kernel
theorem dL_law_921 : decode cL_law 921 = .ok (.iadd, 1) := by decide +kernel
theorem dL_law_922 : decode cL_law 922 = .ok (.iaload, 1) := by decide +kernel
theorem dL_law_923 : decode cL_law 923 = .ok (.aload_n 0, 1) := by decide +kernel
theorem dL_law_924 : decode cL_law 924 = .ok (.iload_n 3, 1) := by decide +kernel
theorem dL_law_925 : decode cL_law 925 = .ok (.iconst 2, 1) := by decide +kernel
theorem dL_law_926 : decode cL_law 926 = .ok (.iadd, 1) := by decide +kernel
theorem dL_law_927 : decode cL_law 927 = .ok (.iaload, 1) := by decide +kernel
theorem dL_law_928 : decode cL_law 928 = .ok (.aload_n 0, 1) := by decide +kernel
theorem dL_law_929 : decode cL_law 929 = .ok (.iload_n 3, 1) := by decide +kernel
theorem dL_law_930 : decode cL_law 930 = .ok (.iconst 3, 1) := by decide +kernel
theorem dL_law_931 : decode cL_law 931 = .ok (.iadd, 1) := by decide +kernel
theorem dL_law_932 : decode cL_law 932 = .ok (.iaload, 1) := by decide +kernel
theorem dL_law_933 : decode cL_law 933 = .ok (.invokevirtual 116, 3) := by decide +kernel
theorem dL_law_936 : decode cL_law 936 = .ok (.aload_n 2, 1) := by decide +kernel
theorem dL_law_937 : decode cL_law 937 = .ok (.aload_n 0, 1) := by decide +kernel
theorem dL_law_938 : decode cL_law 938 = .ok (.iload_n 3, 1) := by decide +kernel
theorem dL_law_939 : decode cL_law 939 = .ok (.iconst 1, 1) := by decide +kernel
theorem dL_law_940 : decode cL_law 940 = .ok (.iadd, 1) := by decide +kernel
theorem dL_law_941 : decode cL_law 941 = .ok (.iaload, 1) := by decide +kernel
theorem dL_law_942 : decode cL_law 942 = .ok (.aload_n 0, 1) := by decide +kernel
theorem dL_law_943 : decode cL_law 943 = .ok (.iload_n 3, 1) := by decide +kernel
theorem dL_law_944 : decode cL_law 944 = .ok (.iconst 2, 1) := by decide +kernel
theorem dL_law_945 : decode cL_law 945 = .ok (.iadd, 1) := by decide +kernel
theorem dL_law_946 : decode cL_law 946 = .ok (.iaload, 1) := by decide +kernel
theorem dL_law_947 : decode cL_law 947 = .ok (.aload_n 0, 1) := by decide +kernel
theorem dL_law_948 : decode cL_law 948 = .ok (.iload_n 3, 1) := by decide +kernel
theorem dL_law_949 : decode cL_law 949 = .ok (.iconst 3, 1) := by decide +kernel
theorem dL_law_950 : decode cL_law 950 = .ok (.iadd, 1) := by decide +kernel
theorem dL_law_951 : decode cL_law 951 = .ok (.iaload, 1) := by decide +kernel
theorem dL_law_952 : decode cL_law 952 = .ok (.invokevirtual 119, 3) := by decide +kernel
theorem dL_law_955 : decode cL_law 955 = .ok (.if_icmp .eq 306, 3) := by decide +kernel
theorem dL_law_958 : decode cL_law 958 = .ok (.iconst 0, 1) := by decide +kernel
theorem dL_law_959 : decode cL_law 959 = .ok (.ireturn, 1) := by decide +kernel
theorem dL_law_960 : decode cL_law 960 = .ok (.aload_n 1, 1) := by decide +kernel
theorem dL_law_961 : decode cL_law 961 = .ok (.aload_n 0, 1) := by decide +kernel
theorem dL_law_962 : decode cL_law 962 = .ok (.iload_n 3, 1) := by decide +kernel
theorem dL_law_963 : decode cL_law 963 = .ok (.iconst 1, 1) := by decide +kernel
theorem dL_law_964 : decode cL_law 964 = .ok (.iadd, 1) := by decide +kernel
theorem dL_law_965 : decode cL_law 965 = .ok (.iaload, 1) := by decide +kernel
theorem dL_law_966 : decode cL_law 966 = .ok (.invokevirtual 120, 3) := by decide +kernel
theorem dL_law_969 : decode cL_law 969 = .ok (.aload_n 2, 1) := by decide +kernel
theorem dL_law_970 : decode cL_law 970 = .ok (.aload_n 0, 1) := by decide +kernel
theorem dL_law_971 : decode cL_law 971 = .ok (.iload_n 3, 1) := by decide +kernel
theorem dL_law_972 : decode cL_law 972 = .ok (.iconst 1, 1) := by decide +kernel
theorem dL_law_973 : decode cL_law 973 = .ok (.iadd, 1) := by decide +kernel
theorem dL_law_974 : decode cL_law 974 = .ok (.iaload, 1) := by decide +kernel
theorem dL_law_975 : decode cL_law 975 = .ok (.invokevirtual 123, 3) := by decide +kernel
theorem dL_law_978 : decode cL_law 978 = .ok (.if_icmp .eq 283, 3) := by decide +kernel
theorem dL_law_981 : decode cL_law 981 = .ok (.iconst 0, 1) := by decide +kernel
theorem dL_law_982 : decode cL_law 982 = .ok (.ireturn, 1) := by decide +kernel
theorem dL_law_983 : decode cL_law 983 = .ok (.aload_n 1, 1) := by decide +kernel
theorem dL_law_984 : decode cL_law 984 = .ok (.aload_n 0, 1) := by decide +kernel
theorem dL_law_985 : decode cL_law 985 = .ok (.iload_n 3, 1) := by decide +kernel
theorem dL_law_986 : decode cL_law 986 = .ok (.iconst 1, 1) := by decide +kernel
theorem dL_law_987 : decode cL_law 987 = .ok (.iadd, 1) := by decide +kernel
theorem dL_law_988 : decode cL_law 988 = .ok (.iaload, 1) := by decide +kernel
theorem dL_law_989 : decode cL_law 989 = .ok (.aload_n 0, 1) := by decide +kernel
theorem dL_law_990 : decode cL_law 990 = .ok (.iload_n 3, 1) := by decide +kernel
theorem dL_law_991 : decode cL_law 991 = .ok (.iconst 2, 1) := by decide +kernel
theorem dL_law_992 : decode cL_law 992 = .ok (.iadd, 1) := by decide +kernel
theorem dL_law_993 : decode cL_law 993 = .ok (.iaload, 1) := by decide +kernel
theorem dL_law_994 : decode cL_law 994 = .ok (.aload_n 0, 1) := by decide +kernel
theorem dL_law_995 : decode cL_law 995 = .ok (.iload_n 3, 1) := by decide +kernel
theorem dL_law_996 : decode cL_law 996 = .ok (.iconst 3, 1) := by decide +kernel
theorem dL_law_997 : decode cL_law 997 = .ok (.iadd, 1) := by decide +kernel
theorem dL_law_998 : decode cL_law 998 = .ok (.iaload, 1) := by decide +kernel
theorem dL_law_999 : decode cL_law 999 = .ok (.invokevirtual 124, 3) := by decide +kernel
theorem dL_law_1002 : decode cL_law 1002 = .ok (.aload_n 2, 1) := by decide +kernel
theorem dL_law_1003 : decode cL_law 1003 = .ok (.aload_n 0, 1) := by decide +kernel
theorem dL_law_1004 : decode cL_law 1004 = .ok (.iload_n 3, 1) := by decide +kernel
theorem dL_law_1005 : decode cL_law 1005 = .ok (.iconst 1, 1) := by decide +kernel
theorem dL_law_1006 : decode cL_law 1006 = .ok (.iadd, 1) := by decide +kernel
theorem dL_law_1007 : decode cL_law 1007 = .ok (.iaload, 1) := by decide +kernel
theorem dL_law_1008 : decode cL_law 1008 = .ok (.aload_n 0, 1) := by decide +kernel
theorem dL_law_1009 : decode cL_law 1009 = .ok (.iload_n 3, 1) := by decide +kernel
theorem dL_law_1010 : decode cL_law 1010 = .ok (.iconst 2, 1) := by decide +kernel
theorem dL_law_1011 : decode cL_law 1011 = .ok (.iadd, 1) := by decide +kernel
theorem dL_law_1012 : decode cL_law 1012 = .ok (.iaload, 1) := by decide +kernel
theorem dL_law_1013 : decode cL_law 1013 = .ok (.aload_n 0, 1) := by decide +kernel
theorem dL_law_1014 : decode cL_law 1014 = .ok (.iload_n 3, 1) := by decide +kernel
theorem dL_law_1015 : decode cL_law 1015 = .ok (.iconst 3, 1) := by decide +kernel
theorem dL_law_1016 : decode cL_law 1016 = .ok (.iadd, 1) := by decide +kernel
theorem dL_law_1017 : decode cL_law 1017 = .ok (.iaload, 1) := by decide +kernel
theorem dL_law_1018 : decode cL_law 1018 = .ok (.invokevirtual 127, 3) := by decide +kernel
theorem dL_law_1021 : decode cL_law 1021 = .ok (.if_icmp .eq 240, 3) := by decide +kernel
theorem dL_law_1024 : decode cL_law 1024 = .ok (.iconst 0, 1) := by decide +kernel
theorem dL_law_1025 : decode cL_law 1025 = .ok (.ireturn, 1) := by decide +kernel
theorem dL_law_1026 : decode cL_law 1026 = .ok (.aload_n 1, 1) := by decide +kernel
theorem dL_law_1027 : decode cL_law 1027 = .ok (.aload_n 0, 1) := by decide +kernel
theorem dL_law_1028 : decode cL_law 1028 = .ok (.iload_n 3, 1) := by decide +kernel
theorem dL_law_1029 : decode cL_law 1029 = .ok (.iconst 1, 1) := by decide +kernel
theorem dL_law_1030 : decode cL_law 1030 = .ok (.iadd, 1) := by decide +kernel
theorem dL_law_1031 : decode cL_law 1031 = .ok (.iaload, 1) := by decide +kernel
theorem dL_law_1032 : decode cL_law 1032 = .ok (.aload_n 0, 1) := by decide +kernel
theorem dL_law_1033 : decode cL_law 1033 = .ok (.iload_n 3, 1) := by decide +kernel
theorem dL_law_1034 : decode cL_law 1034 = .ok (.iconst 2, 1) := by decide +kernel
theorem dL_law_1035 : decode cL_law 1035 = .ok (.iadd, 1) := by decide +kernel
theorem dL_law_1036 : decode cL_law 1036 = .ok (.iaload, 1) := by decide +kernel
theorem dL_law_1037 : decode cL_law 1037 = .ok (.aload_n 0, 1) := by decide +kernel
theorem dL_law_1038 : decode cL_law 1038 = .ok (.iload_n 3, 1) := by decide +kernel
theorem dL_law_1039 : decode cL_law 1039 = .ok (.iconst 3, 1) := by decide +kernel
theorem dL_law_1040 : decode cL_law 1040 = .ok (.iadd, 1) := by decide +kernel
theorem dL_law_1041 : decode cL_law 1041 = .ok (.iaload, 1) := by decide +kernel
theorem dL_law_1042 : decode cL_law 1042 = .ok (.invokevirtual 128, 3) := by decide +kernel
theorem dL_law_1045 : decode cL_law 1045 = .ok (.aload_n 2, 1) := by decide +kernel
theorem dL_law_1046 : decode cL_law 1046 = .ok (.aload_n 0, 1) := by decide +kernel
theorem dL_law_1047 : decode cL_law 1047 = .ok (.iload_n 3, 1) := by decide +kernel
theorem dL_law_1048 : decode cL_law 1048 = .ok (.iconst 1, 1) := by decide +kernel
theorem dL_law_1049 : decode cL_law 1049 = .ok (.iadd, 1) := by decide +kernel
theorem dL_law_1050 : decode cL_law 1050 = .ok (.iaload, 1) := by decide +kernel
theorem dL_law_1051 : decode cL_law 1051 = .ok (.aload_n 0, 1) := by decide +kernel
theorem dL_law_1052 : decode cL_law 1052 = .ok (.iload_n 3, 1) := by decide +kernel
theorem dL_law_1053 : decode cL_law 1053 = .ok (.iconst 2, 1) := by decide +kernel
theorem dL_law_1054 : decode cL_law 1054 = .ok (.iadd, 1) := by decide +kernel
theorem dL_law_1055 : decode cL_law 1055 = .ok (.iaload, 1) := by decide +kernel
theorem dL_law_1056 : decode cL_law 1056 = .ok (.aload_n 0, 1) := by decide +kernel
theorem dL_law_1057 : decode cL_law 1057 = .ok (.iload_n 3, 1) := by decide +kernel
theorem dL_law_1058 : decode cL_law 1058 = .ok (.iconst 3, 1) := by decide +kernel
theorem dL_law_1059 : decode cL_law 1059 = .ok (.iadd, 1) := by decide +kernel
theorem dL_law_1060 : decode cL_law 1060 = .ok (.iaload, 1) := by decide +kernel
theorem dL_law_1061 : decode cL_law 1061 = .ok (.invokevirtual 132, 3) := by decide +kernel
theorem dL_law_1064 : decode cL_law 1064 = .ok (.lcmp, 1) := by decide +kernel
theorem dL_law_1065 : decode cL_law 1065 = .ok (.ifCond .eq 196, 3) := by decide +kernel
theorem dL_law_1068 : decode cL_law 1068 = .ok (.iconst 0, 1) := by decide +kernel
theorem dL_law_1069 : decode cL_law 1069 = .ok (.ireturn, 1) := by decide +kernel
theorem dL_law_1070 : decode cL_law 1070 = .ok (.aload_n 1, 1) := by decide +kernel
theorem dL_law_1071 : decode cL_law 1071 = .ok (.aload_n 0, 1) := by decide +kernel
theorem dL_law_1072 : decode cL_law 1072 = .ok (.iload_n 3, 1) := by decide +kernel
theorem dL_law_1073 : decode cL_law 1073 = .ok (.iconst 1, 1) := by decide +kernel
theorem dL_law_1074 : decode cL_law 1074 = .ok (.iadd, 1) := by decide +kernel
theorem dL_law_1075 : decode cL_law 1075 = .ok (.iaload, 1) := by decide +kernel
theorem dL_law_1076 : decode cL_law 1076 = .ok (.aload_n 0, 1) := by decide +kernel
theorem dL_law_1077 : decode cL_law 1077 = .ok (.iload_n 3, 1) := by decide +kernel
theorem dL_law_1078 : decode cL_law 1078 = .ok (.iconst 2, 1) := by decide +kernel
theorem dL_law_1079 : decode cL_law 1079 = .ok (.iadd, 1) := by decide +kernel
theorem dL_law_1080 : decode cL_law 1080 = .ok (.iaload, 1) := by decide +kernel
theorem dL_law_1081 : decode cL_law 1081 = .ok (.aload_n 0, 1) := by decide +kernel
theorem dL_law_1082 : decode cL_law 1082 = .ok (.iload_n 3, 1) := by decide +kernel
theorem dL_law_1083 : decode cL_law 1083 = .ok (.iconst 3, 1) := by decide +kernel
theorem dL_law_1084 : decode cL_law 1084 = .ok (.iadd, 1) := by decide +kernel
theorem dL_law_1085 : decode cL_law 1085 = .ok (.iaload, 1) := by decide +kernel
theorem dL_law_1086 : decode cL_law 1086 = .ok (.aload_n 0, 1) := by decide +kernel
theorem dL_law_1087 : decode cL_law 1087 = .ok (.iload_n 3, 1) := by decide +kernel
theorem dL_law_1088 : decode cL_law 1088 = .ok (.iconst 4, 1) := by decide +kernel
theorem dL_law_1089 : decode cL_law 1089 = .ok (.iadd, 1) := by decide +kernel
theorem dL_law_1090 : decode cL_law 1090 = .ok (.iaload, 1) := by decide +kernel
theorem dL_law_1091 : decode cL_law 1091 = .ok (.aload_n 0, 1) := by decide +kernel
theorem dL_law_1092 : decode cL_law 1092 = .ok (.iload_n 3, 1) := by decide +kernel
theorem dL_law_1093 : decode cL_law 1093 = .ok (.iconst 5, 1) := by decide +kernel
theorem dL_law_1094 : decode cL_law 1094 = .ok (.iadd, 1) := by decide +kernel
theorem dL_law_1095 : decode cL_law 1095 = .ok (.iaload, 1) := by decide +kernel
theorem dL_law_1096 : decode cL_law 1096 = .ok (.invokevirtual 133, 3) := by decide +kernel
theorem dL_law_1099 : decode cL_law 1099 = .ok (.aload_n 2, 1) := by decide +kernel
theorem dL_law_1100 : decode cL_law 1100 = .ok (.aload_n 0, 1) := by decide +kernel
theorem dL_law_1101 : decode cL_law 1101 = .ok (.iload_n 3, 1) := by decide +kernel
theorem dL_law_1102 : decode cL_law 1102 = .ok (.iconst 1, 1) := by decide +kernel
theorem dL_law_1103 : decode cL_law 1103 = .ok (.iadd, 1) := by decide +kernel
theorem dL_law_1104 : decode cL_law 1104 = .ok (.iaload, 1) := by decide +kernel
theorem dL_law_1105 : decode cL_law 1105 = .ok (.aload_n 0, 1) := by decide +kernel
theorem dL_law_1106 : decode cL_law 1106 = .ok (.iload_n 3, 1) := by decide +kernel
theorem dL_law_1107 : decode cL_law 1107 = .ok (.iconst 2, 1) := by decide +kernel
theorem dL_law_1108 : decode cL_law 1108 = .ok (.iadd, 1) := by decide +kernel
theorem dL_law_1109 : decode cL_law 1109 = .ok (.iaload, 1) := by decide +kernel
theorem dL_law_1110 : decode cL_law 1110 = .ok (.aload_n 0, 1) := by decide +kernel
theorem dL_law_1111 : decode cL_law 1111 = .ok (.iload_n 3, 1) := by decide +kernel
theorem dL_law_1112 : decode cL_law 1112 = .ok (.iconst 3, 1) := by decide +kernel
theorem dL_law_1113 : decode cL_law 1113 = .ok (.iadd, 1) := by decide +kernel
theorem dL_law_1114 : decode cL_law 1114 = .ok (.iaload, 1) := by decide +kernel
theorem dL_law_1115 : decode cL_law 1115 = .ok (.aload_n 0, 1) := by decide +kernel
theorem dL_law_1116 : decode cL_law 1116 = .ok (.iload_n 3, 1) := by decide +kernel
theorem dL_law_1117 : decode cL_law 1117 = .ok (.iconst 4, 1) := by decide +kernel
theorem dL_law_1118 : decode cL_law 1118 = .ok (.iadd, 1) := by decide +kernel
theorem dL_law_1119 : decode cL_law 1119 = .ok (.iaload, 1) := by decide +kernel
theorem dL_law_1120 : decode cL_law 1120 = .ok (.aload_n 0, 1) := by decide +kernel
theorem dL_law_1121 : decode cL_law 1121 = .ok (.iload_n 3, 1) := by decide +kernel
theorem dL_law_1122 : decode cL_law 1122 = .ok (.iconst 5, 1) := by decide +kernel
theorem dL_law_1123 : decode cL_law 1123 = .ok (.iadd, 1) := by decide +kernel
theorem dL_law_1124 : decode cL_law 1124 = .ok (.iaload, 1) := by decide +kernel
theorem dL_law_1125 : decode cL_law 1125 = .ok (.invokevirtual 137, 3) := by decide +kernel
theorem dL_law_1128 : decode cL_law 1128 = .ok (.if_icmp .eq 133, 3) := by decide +kernel
theorem dL_law_1131 : decode cL_law 1131 = .ok (.iconst 0, 1) := by decide +kernel
theorem dL_law_1132 : decode cL_law 1132 = .ok (.ireturn, 1) := by decide +kernel
theorem dL_law_1133 : decode cL_law 1133 = .ok (.aload_n 1, 1) := by decide +kernel
theorem dL_law_1134 : decode cL_law 1134 = .ok (.aload_n 0, 1) := by decide +kernel
theorem dL_law_1135 : decode cL_law 1135 = .ok (.iload_n 3, 1) := by decide +kernel
theorem dL_law_1136 : decode cL_law 1136 = .ok (.iconst 1, 1) := by decide +kernel
theorem dL_law_1137 : decode cL_law 1137 = .ok (.iadd, 1) := by decide +kernel
theorem dL_law_1138 : decode cL_law 1138 = .ok (.iaload, 1) := by decide +kernel
theorem dL_law_1139 : decode cL_law 1139 = .ok (.invokevirtual 138, 3) := by decide +kernel
theorem dL_law_1142 : decode cL_law 1142 = .ok (.aload_n 2, 1) := by decide +kernel
theorem dL_law_1143 : decode cL_law 1143 = .ok (.aload_n 0, 1) := by decide +kernel
theorem dL_law_1144 : decode cL_law 1144 = .ok (.iload_n 3, 1) := by decide +kernel
theorem dL_law_1145 : decode cL_law 1145 = .ok (.iconst 1, 1) := by decide +kernel
theorem dL_law_1146 : decode cL_law 1146 = .ok (.iadd, 1) := by decide +kernel
theorem dL_law_1147 : decode cL_law 1147 = .ok (.iaload, 1) := by decide +kernel
theorem dL_law_1148 : decode cL_law 1148 = .ok (.invokevirtual 141, 3) := by decide +kernel
theorem dL_law_1151 : decode cL_law 1151 = .ok (.if_icmp .eq 110, 3) := by decide +kernel
theorem dL_law_1154 : decode cL_law 1154 = .ok (.iconst 0, 1) := by decide +kernel
theorem dL_law_1155 : decode cL_law 1155 = .ok (.ireturn, 1) := by decide +kernel
theorem dL_law_1156 : decode cL_law 1156 = .ok (.aload_n 1, 1) := by decide +kernel
theorem dL_law_1157 : decode cL_law 1157 = .ok (.aload_n 0, 1) := by decide +kernel
theorem dL_law_1158 : decode cL_law 1158 = .ok (.iload_n 3, 1) := by decide +kernel
theorem dL_law_1159 : decode cL_law 1159 = .ok (.iconst 1, 1) := by decide +kernel
theorem dL_law_1160 : decode cL_law 1160 = .ok (.iadd, 1) := by decide +kernel
theorem dL_law_1161 : decode cL_law 1161 = .ok (.iaload, 1) := by decide +kernel
theorem dL_law_1162 : decode cL_law 1162 = .ok (.invokevirtual 142, 3) := by decide +kernel
theorem dL_law_1165 : decode cL_law 1165 = .ok (.aload_n 2, 1) := by decide +kernel
theorem dL_law_1166 : decode cL_law 1166 = .ok (.aload_n 0, 1) := by decide +kernel
theorem dL_law_1167 : decode cL_law 1167 = .ok (.iload_n 3, 1) := by decide +kernel
theorem dL_law_1168 : decode cL_law 1168 = .ok (.iconst 1, 1) := by decide +kernel
theorem dL_law_1169 : decode cL_law 1169 = .ok (.iadd, 1) := by decide +kernel
theorem dL_law_1170 : decode cL_law 1170 = .ok (.iaload, 1) := by decide +kernel
theorem dL_law_1171 : decode cL_law 1171 = .ok (.invokevirtual 145, 3) := by decide +kernel
theorem dL_law_1174 : decode cL_law 1174 = .ok (.if_icmp .eq 87, 3) := by decide +kernel
theorem dL_law_1177 : decode cL_law 1177 = .ok (.iconst 0, 1) := by decide +kernel
theorem dL_law_1178 : decode cL_law 1178 = .ok (.ireturn, 1) := by decide +kernel
theorem dL_law_1179 : decode cL_law 1179 = .ok (.aload_n 1, 1) := by decide +kernel
theorem dL_law_1180 : decode cL_law 1180 = .ok (.aload_n 0, 1) := by decide +kernel
theorem dL_law_1181 : decode cL_law 1181 = .ok (.iload_n 3, 1) := by decide +kernel
theorem dL_law_1182 : decode cL_law 1182 = .ok (.iconst 1, 1) := by decide +kernel
theorem dL_law_1183 : decode cL_law 1183 = .ok (.iadd, 1) := by decide +kernel
theorem dL_law_1184 : decode cL_law 1184 = .ok (.iaload, 1) := by decide +kernel
theorem dL_law_1185 : decode cL_law 1185 = .ok (.aload_n 0, 1) := by decide +kernel
theorem dL_law_1186 : decode cL_law 1186 = .ok (.iload_n 3, 1) := by decide +kernel
theorem dL_law_1187 : decode cL_law 1187 = .ok (.iconst 2, 1) := by decide +kernel
theorem dL_law_1188 : decode cL_law 1188 = .ok (.iadd, 1) := by decide +kernel
theorem dL_law_1189 : decode cL_law 1189 = .ok (.iaload, 1) := by decide +kernel
theorem dL_law_1190 : decode cL_law 1190 = .ok (.invokevirtual 146, 3) := by decide +kernel
theorem dL_law_1193 : decode cL_law 1193 = .ok (.aload_n 2, 1) := by decide +kernel
theorem dL_law_1194 : decode cL_law 1194 = .ok (.aload_n 0, 1) := by decide +kernel
theorem dL_law_1195 : decode cL_law 1195 = .ok (.iload_n 3, 1) := by decide +kernel
theorem dL_law_1196 : decode cL_law 1196 = .ok (.iconst 1, 1) := by decide +kernel
theorem dL_law_1197 : decode cL_law 1197 = .ok (.iadd, 1) := by decide +kernel
theorem dL_law_1198 : decode cL_law 1198 = .ok (.iaload, 1) := by decide +kernel
theorem dL_law_1199 : decode cL_law 1199 = .ok (.aload_n 0, 1) := by decide +kernel
theorem dL_law_1200 : decode cL_law 1200 = .ok (.iload_n 3, 1) := by decide +kernel
theorem dL_law_1201 : decode cL_law 1201 = .ok (.iconst 2, 1) := by decide +kernel
theorem dL_law_1202 : decode cL_law 1202 = .ok (.iadd, 1) := by decide +kernel
theorem dL_law_1203 : decode cL_law 1203 = .ok (.iaload, 1) := by decide +kernel
theorem dL_law_1204 : decode cL_law 1204 = .ok (.invokevirtual 149, 3) := by decide +kernel
theorem dL_law_1207 : decode cL_law 1207 = .ok (.if_icmp .eq 54, 3) := by decide +kernel
theorem dL_law_1210 : decode cL_law 1210 = .ok (.iconst 0, 1) := by decide +kernel
theorem dL_law_1211 : decode cL_law 1211 = .ok (.ireturn, 1) := by decide +kernel
theorem dL_law_1212 : decode cL_law 1212 = .ok (.aload_n 1, 1) := by decide +kernel
theorem dL_law_1213 : decode cL_law 1213 = .ok (.invokevirtual 150, 3) := by decide +kernel
theorem dL_law_1216 : decode cL_law 1216 = .ok (.aload_n 2, 1) := by decide +kernel
theorem dL_law_1217 : decode cL_law 1217 = .ok (.invokevirtual 153, 3) := by decide +kernel
theorem dL_law_1220 : decode cL_law 1220 = .ok (.if_icmp .eq 41, 3) := by decide +kernel
theorem dL_law_1223 : decode cL_law 1223 = .ok (.iconst 0, 1) := by decide +kernel
theorem dL_law_1224 : decode cL_law 1224 = .ok (.ireturn, 1) := by decide +kernel
theorem dL_law_1225 : decode cL_law 1225 = .ok (.aload_n 1, 1) := by decide +kernel
theorem dL_law_1226 : decode cL_law 1226 = .ok (.invokevirtual 154, 3) := by decide +kernel
theorem dL_law_1229 : decode cL_law 1229 = .ok (.aload_n 2, 1) := by decide +kernel
theorem dL_law_1230 : decode cL_law 1230 = .ok (.invokevirtual 157, 3) := by decide +kernel
theorem dL_law_1233 : decode cL_law 1233 = .ok (.if_icmp .eq 28, 3) := by decide +kernel
theorem dL_law_1236 : decode cL_law 1236 = .ok (.iconst 0, 1) := by decide +kernel
theorem dL_law_1237 : decode cL_law 1237 = .ok (.ireturn, 1) := by decide +kernel
theorem dL_law_1238 : decode cL_law 1238 = .ok (.aload_n 1, 1) := by decide +kernel
theorem dL_law_1239 : decode cL_law 1239 = .ok (.aload_n 0, 1) := by decide +kernel
theorem dL_law_1240 : decode cL_law 1240 = .ok (.iload_n 3, 1) := by decide +kernel
theorem dL_law_1241 : decode cL_law 1241 = .ok (.iconst 1, 1) := by decide +kernel
theorem dL_law_1242 : decode cL_law 1242 = .ok (.iadd, 1) := by decide +kernel
theorem dL_law_1243 : decode cL_law 1243 = .ok (.iaload, 1) := by decide +kernel
theorem dL_law_1244 : decode cL_law 1244 = .ok (.invokevirtual 158, 3) := by decide +kernel
theorem dL_law_1247 : decode cL_law 1247 = .ok (.aload_n 2, 1) := by decide +kernel
theorem dL_law_1248 : decode cL_law 1248 = .ok (.aload_n 0, 1) := by decide +kernel
theorem dL_law_1249 : decode cL_law 1249 = .ok (.iload_n 3, 1) := by decide +kernel
theorem dL_law_1250 : decode cL_law 1250 = .ok (.iconst 1, 1) := by decide +kernel
theorem dL_law_1251 : decode cL_law 1251 = .ok (.iadd, 1) := by decide +kernel
theorem dL_law_1252 : decode cL_law 1252 = .ok (.iaload, 1) := by decide +kernel
theorem dL_law_1253 : decode cL_law 1253 = .ok (.invokevirtual 161, 3) := by decide +kernel
theorem dL_law_1256 : decode cL_law 1256 = .ok (.if_icmp .eq 5, 3) := by decide +kernel
theorem dL_law_1259 : decode cL_law 1259 = .ok (.iconst 0, 1) := by decide +kernel
theorem dL_law_1260 : decode cL_law 1260 = .ok (.ireturn, 1) := by decide +kernel
theorem dL_law_1261 : decode cL_law 1261 = .ok (.iinc 3 6, 3) := by decide +kernel
theorem dL_law_1264 : decode cL_law 1264 = .ok (.goto (-1246), 3) := by decide +kernel
theorem dL_law_1267 : decode cL_law 1267 = .ok (.iconst 1, 1) := by decide +kernel
theorem dL_law_1268 : decode cL_law 1268 = .ok (.ireturn, 1) := by decide +kernel
end
section
def lw_g : List Cond := lw_tbl.filter goodWord
theorem lw_g_of {w : Cond} (i : Nat) (h : lw_tbl[i]? = some w) (hg : goodWord w = true) : w ∈ lw_g := List.mem_filter.mpr ⟨List.mem_of_getElem? h, hg⟩
theorem lw_g_in (ws : List Cond) (ps : List Nat) (hp : ws = ps.filterMap (fun i => lw_tbl[i]?)) (h : ws.all goodWord = true) : ∀ w ∈ ws, w ∈ lw_g := by
  intro w hw
  have h1 := List.all_eq_true.mp h w hw
  rw [hp] at hw
  obtain ⟨i, -, hi⟩ := List.mem_filterMap.mp hw
  exact lw_g_of i hi h1
/-! ===== the memory of the system: objects by number, fields by number, places ===== -/
abbrev jx_M : Type := Nat → Nat → Nat → Int32
def jx_set (M : jx_M) (o k : Nat) (f : Nat → Int32) : jx_M := fun o' k' => if o' = o ∧ k' = k then f else M o' k'
theorem jx_set_s (M : jx_M) (o k : Nat) (f : Nat → Int32) : jx_set M o k f o k = f := by simp [jx_set]
theorem jx_set_n {M : jx_M} {o k o' k' : Nat} {f : Nat → Int32} (h : ¬ (o' = o ∧ k' = k)) : jx_set M o k f o' k' = M o' k' := by simp [jx_set, h]
/-- a place of an array; a place, or a field, written -/
def jx_r (M : jx_M) (o k : Nat) (i : Int32) : Int32 := M o k i.toNatClampNeg
def jx_w (M : jx_M) (o k : Nat) (i v : Int32) : jx_M := jx_set M o k (upd (M o k) i.toNatClampNeg v)
def jx_p (M : jx_M) (o k : Nat) (v : Int32) : jx_M := jx_set M o k (fun _ => v)
def jx_c (o : Nat) : Nat := match o with
  | 0 => 5
  | 1 => 4
  | 2 => 1
  | 3 => 2
  | 4 => 3
  | 5 => 0
  | 6 => 2
  | 7 => 0
  | _ => 6
def jx_n (c : Nat) : Nat := match c with
  | 0 => 14
  | 1 => 7
  | 2 => 7
  | 3 => 4
  | 4 => 3
  | 5 => 15
  | _ => 43
/-- a field: 0 a number, 1 an array, 2 an object -/
def jx_k (c k : Nat) : Nat := match c, k with
  | 0, 0 => 1
  | 0, 3 => 2
  | 0, 4 => 1
  | 0, 5 => 1
  | 0, 6 => 1
  | 0, 7 => 1
  | 0, 8 => 1
  | 0, 9 => 1
  | 0, 10 => 1
  | 1, 2 => 1
  | 1, 3 => 1
  | 1, 4 => 1
  | 1, 5 => 1
  | 1, 6 => 1
  | 2, 3 => 1
  | 2, 4 => 1
  | 2, 5 => 1
  | 2, 6 => 1
  | 3, 1 => 1
  | 3, 2 => 1
  | 3, 3 => 1
  | 4, 0 => 1
  | 4, 1 => 1
  | 4, 2 => 1
  | 5, 0 => 2
  | 5, 1 => 2
  | 5, 2 => 2
  | 5, 3 => 2
  | 5, 4 => 2
  | 5, 5 => 2
  | 5, 6 => 2
  | 5, 7 => 1
  | 6, 3 => 1
  | 6, 4 => 1
  | 6, 5 => 1
  | 6, 6 => 1
  | 6, 7 => 1
  | 6, 10 => 1
  | 6, 14 => 1
  | 6, 15 => 1
  | 6, 16 => 1
  | 6, 17 => 1
  | 6, 18 => 1
  | 6, 20 => 1
  | 6, 21 => 1
  | 6, 22 => 1
  | 6, 23 => 1
  | 6, 24 => 1
  | 6, 25 => 1
  | 6, 26 => 1
  | 6, 27 => 1
  | 6, 31 => 1
  | 6, 32 => 1
  | 6, 33 => 1
  | 6, 35 => 1
  | 6, 36 => 1
  | 6, 37 => 1
  | 6, 38 => 1
  | 6, 39 => 1
  | 6, 40 => 1
  | 6, 41 => 1
  | _, _ => 0
def jx_l (c k : Nat) : Nat := match c, k with
  | 0, 0 => 40
  | 0, 4 => 160
  | 0, 5 => 160
  | 0, 6 => 240
  | 0, 7 => 240
  | 0, 8 => 4
  | 0, 9 => 4
  | 0, 10 => 6
  | 1, 2 => 6
  | 1, 3 => 6
  | 1, 4 => 6
  | 1, 5 => 6
  | 1, 6 => 6
  | 2, 3 => 4
  | 2, 4 => 7
  | 2, 5 => 7
  | 2, 6 => 7
  | 3, 1 => 8
  | 3, 2 => 8
  | 3, 3 => 8
  | 4, 0 => 4
  | 4, 1 => 4
  | 4, 2 => 240
  | 5, 7 => 64
  | 6, 3 => 6
  | 6, 4 => 6
  | 6, 5 => 6
  | 6, 6 => 6
  | 6, 7 => 6
  | 6, 10 => 4
  | 6, 14 => 6
  | 6, 15 => 6
  | 6, 16 => 6
  | 6, 17 => 6
  | 6, 18 => 6
  | 6, 20 => 7
  | 6, 21 => 7
  | 6, 22 => 7
  | 6, 23 => 6
  | 6, 24 => 6
  | 6, 25 => 6
  | 6, 26 => 6
  | 6, 27 => 4
  | 6, 31 => 6
  | 6, 32 => 6
  | 6, 33 => 6
  | 6, 35 => 8
  | 6, 36 => 8
  | 6, 37 => 8
  | 6, 38 => 4
  | 6, 39 => 4
  | 6, 40 => 240
  | 6, 41 => 60
  | _, _ => 0
def jx_s (c k : Nat) : Nat := match c, k with
  | 0, 3 => 2
  | 5, 0 => 1
  | 5, 1 => 2
  | 5, 2 => 3
  | 5, 3 => 4
  | 5, 4 => 5
  | 5, 5 => 6
  | 5, 6 => 7
  | _, _ => 0
/-- the surroundings: launch, class numbers and slots, the number of int[], the addresses, which objects are there, the table of letters -/
abbrev jx_E : Type := Launch × va_G × ClassId × (Nat → Nat → Nat) × (Nat → Prop) × Nat
def ja (E : jx_E) (o j : Nat) : Nat := E.2.2.2.1 o j
def jB (E : jx_E) (o : Nat) : Prop := E.2.2.2.2.1 o
def jt (E : jx_E) : Nat := E.2.2.2.2.2
def jx_v (E : jx_E) (M : jx_M) (c o k : Nat) : Value := match jx_k c k with
  | 0 => .int (M o k 0)
  | 1 => .ref (ja E o (k + 1))
  | _ => .ref (ja E (jx_s c k) 0)
def jx_lt (j : Nat) : Int32 := match j with
  | 0 => 100
  | 1 => 104
  | _ => 101
def jvld (E : jx_E) (o j : Nat) : Prop := jB E o ∧ (j = 0 ∨ ∃ k, j = k + 1 ∧ k < jx_n (jx_c o) ∧ jx_k (jx_c o) k = 1)
def jA (E : jx_E) (q : Nat) : Prop := ∃ o j, jvld E o j ∧ q = ja E o j
def jDis (E : jx_E) : Prop := ∀ o j o' j', jvld E o j → jvld E o' j' → ja E o j = ja E o' j' → o = o' ∧ j = j'
def jH (E : jx_E) (M : jx_M) (H : Heap) : Prop := jDis E ∧ (∀ o, jB E o → t_OB (ja E o 0) (E.2.1.1 (jx_c o)) (jx_n (jx_c o)) (E.2.1.2 (jx_c o)) H (fun k => jx_v E M (jx_c o) o k)) ∧ (∀ o k, jB E o → k < jx_n (jx_c o) → jx_k (jx_c o) k = 1 → H[ja E o (k + 1)]? = some (vp_cell E.2.2.1 (jx_l (jx_c o) k, .inl (M o k))))
def jK (E : jx_E) (U : State) : Prop := va_K E.2.1 vwCl [(E.2.2.1, .int)] U ∧ va_Z "CenturyPosts$Land" "LETTERS" "[I" (.ref (jt E)) (jA E) U U.heap ∧ va_T .int (jt E) 3 (fun j => .int (jx_lt j)) (jA E) U U.heap
theorem jvld0 {E : jx_E} {o : Nat} (h : jB E o) : jvld E o 0 := ⟨h, Or.inl rfl⟩
theorem jvld1 {E : jx_E} {o k : Nat} (h : jB E o) (h1 : k < jx_n (jx_c o)) (h2 : jx_k (jx_c o) k = 1) : jvld E o (k + 1) := ⟨h, Or.inr ⟨k, rfl, h1, h2⟩⟩
theorem jA.of {E : jx_E} {o j : Nat} (h : jvld E o j) : jA E (ja E o j) := ⟨o, j, h, rfl⟩
theorem jK.moved {E : jx_E} {s U : State} (h : jK E s) (hvm : s.vm.Alike U.vm) (hh : U.heap = s.heap) : jK E U :=
  ⟨va_K.moved hvm h.1, by rw [hh]; exact va_Z.moved hvm h.2.1, by rw [hh]; exact va_T.moved hvm h.2.2⟩
theorem jK.go {E : jx_E} {s U : State} {H : Heap} {locs : List Loc} (h : jK E s) (hvm : s.vm.Alike U.vm) (hS : va_S (jA E) s.heap H locs) (hU : U.heap = H) : jK E U :=
  ⟨va_K.moved hvm h.1, by rw [hU]; exact va_Z.moved hvm (h.2.1.kept hS.2.1), by rw [hU]; exact va_T.moved hvm (h.2.2.kept hS.2.1)⟩
def jQ (E : jx_E) (Q : Option Value → jx_M → Prop) : Array Value → State → Outcome → State → Prop := fun _ st oc t => (∃ (r : Option Value) (M' : jx_M), oc = .returned r ∧ Q r M' ∧ jH E M' t.heap ∧ jK E t) ∧ va_F (jA E) st t
/-- a method's contract over the whole world -/
def jC (E : jx_E) (y : MethodName) (cc : ByteArray) (nL : Nat) (ret : Option FieldType) (R : Room) (as : List Value) (M : jx_M) (Q : Option Value → jx_M → Prop) : Prop :=
  Met E.1 y (Cond.code y cc nL ret :: lw_g) R (va_Pc as (fun U => jH E M U.heap ∧ jK E U)) (jQ E Q) 0 0 (jA E)
def jG {σ : Type} (l : Launch) (R : Room) (cells slots : Nat) (cc : ByteArray) (nL : Nat) (own : String) (Ts : List Cond) (ex : State → Method → Prop) (hd : σ → State → Heap → List Loc → Prop) (Z : List Frame → Array Value → State → State → Prop) (pc : Nat) (L : List (Nat × Value)) (st : List Value) (w : σ) : Prop :=
  ∀ (p : Program) (e : Env) (s : State) (m : MethodId) (args : Array Value) (below : List Frame) (meth : Method) (c : Code) (H : Heap) (locs : List Loc) (ls : Array Slot),
    p.tables.exec = Jvm.exec → c.code = cc → c.maxLocals = nL → s.vm.findClass own = some m.cls → (∀ w ∈ Ts, w.before args s = true) → ex s meth → lv_has ls nL L → hd w s H locs →
    W p l e R s m args below meth c H locs cells slots (Z below args s) (F0 m pc ls st)
abbrev jJ (E : jx_E) (y : MethodName) (cc : ByteArray) (nL : Nat) (ret : Option FieldType) (R : Room) (Q : Option Value → jx_M → Prop) (pc : Nat) (L : List (Nat × Value)) (st : List Value) (M : jx_M) : Prop :=
  jG E.1 R 0 0 cc nL y.cls (Cond.code y cc nL ret :: lw_g) (fun s meth => meth.sig.returnType = ret ∧ meth.locks = false ∧ jK E s) (fun M s H locs => jH E M H ∧ va_S (jA E) s.heap H locs) (fun below args s => MQ below (jQ E Q) args s 0 0 (jA E)) pc L st M
/-- a method's entry -/
theorem jC.ofJ {E : jx_E} {y : MethodName} {cc : ByteArray} {nL : Nat} {ret : Option FieldType} {R : Room} {as : List Value} {M : jx_M} {Q : Option Value → jx_M → Prop} {L : List (Nat × Value)} (hy : plainName y.cls = true) (hlen : (lg_sl as).length ≤ nL) (hL : lv_args 0 as = L) (h : jJ E y cc nL ret R Q 0 L [] M) : jC E y cc nL ret R as M Q := by
  refine Met.ofW (cc := cc) (maxL := nL) (ret := ret) hy rfl ?_
  intro p e s m args below meth c s₁ B hml hv
  obtain ⟨rfl, hH, hK⟩ := hv
  have hl := lv_entry as (n := nL) hlen
  rw [lg_entry_eq]
  rw [hL] at hl
  exact h p e s m _ below meth c s.heap [] _ B.exec B.bytes hml (findClass_of_methodNamed B.named) (atoms_spec (ws := Cond.code y cc nL ret :: lw_g) B.pre) ⟨B.returns, B.notSynchronized, hK⟩ hl ⟨hH, va_S.rf⟩
/-! the functional side: a name, a test, a call -/
def jlet {α β : Type} (a : α) (f : α → β) : β := f a
theorem jlet_e {α β : Type} {a : α} {f : α → β} {y : β} (h : jlet a f = y) (x : α) (hx : x = a) : f x = y := by subst hx; exact h
def jck {α : Type} (b : Bool) (x : Option α) : Option α := match b with
  | true => x
  | false => none
theorem jck_e {α : Type} {b : Bool} {x : Option α} {y : α} (h : jck b x = some y) : b = true ∧ x = some y := by
  cases b
  · cases h
  · exact ⟨rfl, h⟩
def jbd {α β : Type} (x : Option (α × jx_M)) (f : α → jx_M → Option β) : Option β := match x with
  | some q => f q.1 q.2
  | none => none
theorem jbd_e {α β : Type} {x : Option (α × jx_M)} {f : α → jx_M → Option β} {y : β} (h : jbd x f = some y) : ∃ r M1, x = some (r, M1) ∧ f r M1 = some y := by
  cases x with
  | none => cases h
  | some q => exact ⟨q.1, q.2, rfl, h⟩
theorem jif_p {α : Type} {c : Prop} [Decidable c] {a b y : α} (h : (if c then a else b) = y) (hc : c) : a = y := by rw [if_pos hc] at h; exact h
theorem jif_n {α : Type} {c : Prop} [Decidable c] {a b y : α} (h : (if c then a else b) = y) (hc : ¬ c) : b = y := by rw [if_neg hc] at h; exact h
def jin (i : Int32) (n : Nat) : Bool := decide (0 ≤ i.toInt) && decide (i.toInt < n)
theorem jin_e {i : Int32} {n : Nat} (h : jin i n = true) : vp_in i n := by
  simp only [jin, Bool.and_eq_true, decide_eq_true_eq] at h
  exact vp_in_iff.mpr h
theorem jin_2 {v : Int32} (h : jin v 2 = true) : v = 0 ∨ v = 1 := by
  obtain ⟨j, hj, rfl⟩ := vp_in_of (jin_e h) (by decide)
  rcases (show j = 0 ∨ j = 1 by omega) with rfl | rfl
  · exact Or.inl rfl
  · exact Or.inr rfl
section JR
variable {σ : Type} {l : Launch} {R : Room} {cells slots : Nat} {cc : ByteArray} {nL : Nat} {own : String} {Ts : List Cond} {ex : State → Method → Prop} {hd : σ → State → Heap → List Loc → Prop} {Z : List Frame → Array Value → State → State → Prop} {pc n : Nat} {L L' : List (Nat × Value)} {st : List Value} {w : σ}

theorem jr_iconst {z : Int} {v : Int32} (d : decode cc pc = .ok (.iconst z, 1)) (hv : Int32.ofInt z = v) (hn : pc + 1 = n) (kk : jG l R cells slots cc nL own Ts ex hd Z n L (.int v :: st) w) : jG l R cells slots cc nL own Ts ex hd Z pc L st w := by
  subst hn
  intro p e s m args below meth c H locs ls hx hb hm ho ht hex hl hh
  exact lv_iconst hx hb d hv (kk p e s m args below meth c H locs ls hx hb hm ho ht hex hl hh)
theorem jr_bipush {z : Int} {v : Int32} (d : decode cc pc = .ok (.bipush z, 2)) (hv : (Int8.ofInt z).toInt32 = v) (hn : pc + 2 = n) (kk : jG l R cells slots cc nL own Ts ex hd Z n L (.int v :: st) w) : jG l R cells slots cc nL own Ts ex hd Z pc L st w := by
  subst hn
  intro p e s m args below meth c H locs ls hx hb hm ho ht hex hl hh
  exact lv_bipush hx hb d hv (kk p e s m args below meth c H locs ls hx hb hm ho ht hex hl hh)
theorem jr_sipush {z : Int} {v : Int32} (d : decode cc pc = .ok (.sipush z, 3)) (hv : (Int16.ofInt z).toInt32 = v) (hn : pc + 3 = n) (kk : jG l R cells slots cc nL own Ts ex hd Z n L (.int v :: st) w) : jG l R cells slots cc nL own Ts ex hd Z pc L st w := by
  subst hn
  intro p e s m args below meth c H locs ls hx hb hm ho ht hex hl hh
  exact lv_sipush hx hb d hv (kk p e s m args below meth c H locs ls hx hb hm ho ht hex hl hh)
theorem jr_lconst {z : Fin 2} {v : Int64} (d : decode cc pc = .ok (.lconst z, 1)) (hv : Int64.ofNat (z : Nat) = v) (hn : pc + 1 = n) (kk : jG l R cells slots cc nL own Ts ex hd Z n L (.long v :: st) w) : jG l R cells slots cc nL own Ts ex hd Z pc L st w := by
  subst hn
  intro p e s m args below meth c H locs ls hx hb hm ho ht hex hl hh
  exact lv_lconst hx hb d hv (kk p e s m args below meth c H locs ls hx hb hm ho ht hex hl hh)
theorem jr_ldc2 {ix : Nat} {v : Int64} (d : decode cc pc = .ok (.ldc2_w ix, 3)) (hw : Cond.constantLong own ix v ∈ Ts) (hn : pc + 3 = n) (kk : jG l R cells slots cc nL own Ts ex hd Z n L (.long v :: st) w) : jG l R cells slots cc nL own Ts ex hd Z pc L st w := by
  subst hn
  intro p e s m args below meth c H locs ls hx hb hm ho ht hex hl hh
  exact lv_ldc2 hx hb ho (ht _ hw) d (kk p e s m args below meth c H locs ls hx hb hm ho ht hex hl hh)
theorem jr_ldcw {ix : Nat} {v : Int32} (d : decode cc pc = .ok (.ldc_w ix, 3)) (hw : Cond.constant own ix v ∈ Ts) (hn : pc + 3 = n) (kk : jG l R cells slots cc nL own Ts ex hd Z n L (.int v :: st) w) : jG l R cells slots cc nL own Ts ex hd Z pc L st w := by
  subst hn
  intro p e s m args below meth c H locs ls hx hb hm ho ht hex hl hh
  exact lv_ldcw hx hb ho (ht _ hw) d (kk p e s m args below meth c H locs ls hx hb hm ho ht hex hl hh)
theorem jr_iload_n {k : Fin 4} {j : Nat} {x : Int32} (i : Nat) (d : decode cc pc = .ok (.iload_n k, 1)) (hk : (k : Nat) = j) (hi : L[i]? = some (j, .int x)) (hn : pc + 1 = n) (kk : jG l R cells slots cc nL own Ts ex hd Z n L (.int x :: st) w) : jG l R cells slots cc nL own Ts ex hd Z pc L st w := by
  subst hn
  intro p e s m args below meth c H locs ls hx hb hm ho ht hex hl hh
  exact lv_iload_n hx hb d hk (lv_at hl i hi) (kk p e s m args below meth c H locs ls hx hb hm ho ht hex hl hh)
theorem jr_iload {j : Nat} {x : Int32} (i : Nat) (d : decode cc pc = .ok (.iload j, 2)) (hi : L[i]? = some (j, .int x)) (hn : pc + 2 = n) (kk : jG l R cells slots cc nL own Ts ex hd Z n L (.int x :: st) w) : jG l R cells slots cc nL own Ts ex hd Z pc L st w := by
  subst hn
  intro p e s m args below meth c H locs ls hx hb hm ho ht hex hl hh
  exact lv_iload hx hb d (lv_at hl i hi) (kk p e s m args below meth c H locs ls hx hb hm ho ht hex hl hh)
theorem jr_istore_n {k : Fin 4} {j : Nat} {x : Int32} (d : decode cc pc = .ok (.istore_n k, 1)) (hk : (k : Nat) = j) (hj : j < nL) (hL : (j, Value.int x) :: L.filter (fun q => !(q.1 == j) && !(q.1 + 1 == j && q.2.category == 2)) = L') (hn : pc + 1 = n) (kk : jG l R cells slots cc nL own Ts ex hd Z n L' st w) : jG l R cells slots cc nL own Ts ex hd Z pc L (.int x :: st) w := by
  subst hn
  intro p e s m args below meth c H locs ls hx hb hm ho ht hex hl hh
  exact lv_istore_n hx hb d hk hl hj hL (fun ls hl => kk p e s m args below meth c H locs ls hx hb hm ho ht hex hl hh)
theorem jr_istore {j : Nat} {x : Int32} (d : decode cc pc = .ok (.istore j, 2)) (hj : j < nL) (hL : (j, Value.int x) :: L.filter (fun q => !(q.1 == j) && !(q.1 + 1 == j && q.2.category == 2)) = L') (hn : pc + 2 = n) (kk : jG l R cells slots cc nL own Ts ex hd Z n L' st w) : jG l R cells slots cc nL own Ts ex hd Z pc L (.int x :: st) w := by
  subst hn
  intro p e s m args below meth c H locs ls hx hb hm ho ht hex hl hh
  exact lv_istore hx hb d hl hj hL (fun ls hl => kk p e s m args below meth c H locs ls hx hb hm ho ht hex hl hh)
theorem jr_lload_n {k : Fin 4} {j : Nat} {x : Int64} (i : Nat) (d : decode cc pc = .ok (.lload_n k, 1)) (hk : (k : Nat) = j) (hi : L[i]? = some (j, .long x)) (hn : pc + 1 = n) (kk : jG l R cells slots cc nL own Ts ex hd Z n L (.long x :: st) w) : jG l R cells slots cc nL own Ts ex hd Z pc L st w := by
  subst hn
  intro p e s m args below meth c H locs ls hx hb hm ho ht hex hl hh
  exact lv_lload_n hx hb d hk (lv_at hl i hi) (kk p e s m args below meth c H locs ls hx hb hm ho ht hex hl hh)
theorem jr_lload {j : Nat} {x : Int64} (i : Nat) (d : decode cc pc = .ok (.lload j, 2)) (hi : L[i]? = some (j, .long x)) (hn : pc + 2 = n) (kk : jG l R cells slots cc nL own Ts ex hd Z n L (.long x :: st) w) : jG l R cells slots cc nL own Ts ex hd Z pc L st w := by
  subst hn
  intro p e s m args below meth c H locs ls hx hb hm ho ht hex hl hh
  exact lv_lload hx hb d (lv_at hl i hi) (kk p e s m args below meth c H locs ls hx hb hm ho ht hex hl hh)
theorem jr_lstore_n {k : Fin 4} {j : Nat} {x : Int64} (d : decode cc pc = .ok (.lstore_n k, 1)) (hk : (k : Nat) = j) (hj : j + 1 < nL) (hL : (j, Value.long x) :: L.filter (fun q => !(q.1 == j) && (!(q.1 == j + 1) && !(q.1 + 1 == j && q.2.category == 2))) = L') (hn : pc + 1 = n) (kk : jG l R cells slots cc nL own Ts ex hd Z n L' st w) : jG l R cells slots cc nL own Ts ex hd Z pc L (.long x :: st) w := by
  subst hn
  intro p e s m args below meth c H locs ls hx hb hm ho ht hex hl hh
  exact lv_lstore_n hx hb d hk hl hj hL (fun ls hl => kk p e s m args below meth c H locs ls hx hb hm ho ht hex hl hh)
theorem jr_lstore {j : Nat} {x : Int64} (d : decode cc pc = .ok (.lstore j, 2)) (hj : j + 1 < nL) (hL : (j, Value.long x) :: L.filter (fun q => !(q.1 == j) && (!(q.1 == j + 1) && !(q.1 + 1 == j && q.2.category == 2))) = L') (hn : pc + 2 = n) (kk : jG l R cells slots cc nL own Ts ex hd Z n L' st w) : jG l R cells slots cc nL own Ts ex hd Z pc L (.long x :: st) w := by
  subst hn
  intro p e s m args below meth c H locs ls hx hb hm ho ht hex hl hh
  exact lv_lstore hx hb d hl hj hL (fun ls hl => kk p e s m args below meth c H locs ls hx hb hm ho ht hex hl hh)
theorem jr_aload_n {k : Fin 4} {j : Nat} {x : Nat} (i : Nat) (d : decode cc pc = .ok (.aload_n k, 1)) (hk : (k : Nat) = j) (hi : L[i]? = some (j, .ref x)) (hn : pc + 1 = n) (kk : jG l R cells slots cc nL own Ts ex hd Z n L (.ref x :: st) w) : jG l R cells slots cc nL own Ts ex hd Z pc L st w := by
  subst hn
  intro p e s m args below meth c H locs ls hx hb hm ho ht hex hl hh
  exact lv_aload_n hx hb d hk (lv_at hl i hi) (kk p e s m args below meth c H locs ls hx hb hm ho ht hex hl hh)
theorem jr_aload {j : Nat} {x : Nat} (i : Nat) (d : decode cc pc = .ok (.aload j, 2)) (hi : L[i]? = some (j, .ref x)) (hn : pc + 2 = n) (kk : jG l R cells slots cc nL own Ts ex hd Z n L (.ref x :: st) w) : jG l R cells slots cc nL own Ts ex hd Z pc L st w := by
  subst hn
  intro p e s m args below meth c H locs ls hx hb hm ho ht hex hl hh
  exact lv_aload hx hb d (lv_at hl i hi) (kk p e s m args below meth c H locs ls hx hb hm ho ht hex hl hh)
theorem jr_astore_n {k : Fin 4} {j : Nat} {x : Nat} (d : decode cc pc = .ok (.astore_n k, 1)) (hk : (k : Nat) = j) (hj : j < nL) (hL : (j, Value.ref x) :: L.filter (fun q => !(q.1 == j) && !(q.1 + 1 == j && q.2.category == 2)) = L') (hn : pc + 1 = n) (kk : jG l R cells slots cc nL own Ts ex hd Z n L' st w) : jG l R cells slots cc nL own Ts ex hd Z pc L (.ref x :: st) w := by
  subst hn
  intro p e s m args below meth c H locs ls hx hb hm ho ht hex hl hh
  exact lv_astore_n hx hb d hk hl hj hL (fun ls hl => kk p e s m args below meth c H locs ls hx hb hm ho ht hex hl hh)
theorem jr_astore {j : Nat} {x : Nat} (d : decode cc pc = .ok (.astore j, 2)) (hj : j < nL) (hL : (j, Value.ref x) :: L.filter (fun q => !(q.1 == j) && !(q.1 + 1 == j && q.2.category == 2)) = L') (hn : pc + 2 = n) (kk : jG l R cells slots cc nL own Ts ex hd Z n L' st w) : jG l R cells slots cc nL own Ts ex hd Z pc L (.ref x :: st) w := by
  subst hn
  intro p e s m args below meth c H locs ls hx hb hm ho ht hex hl hh
  exact lv_astore hx hb d hl hj hL (fun ls hl => kk p e s m args below meth c H locs ls hx hb hm ho ht hex hl hh)
theorem jr_iinc {j : Nat} {z : Int} {x v : Int32} (i : Nat) (d : decode cc pc = .ok (.iinc j z, 3)) (hi : L[i]? = some (j, .int x)) (hv : x + Int32.ofInt z = v) (hj : j < nL) (hL : (j, Value.int v) :: L.filter (fun q => !(q.1 == j) && !(q.1 + 1 == j && q.2.category == 2)) = L') (hn : pc + 3 = n) (kk : jG l R cells slots cc nL own Ts ex hd Z n L' st w) : jG l R cells slots cc nL own Ts ex hd Z pc L st w := by
  subst hn
  intro p e s m args below meth c H locs ls hx hb hm ho ht hex hl hh
  exact lv_iinc hx hb d hl hi hv hj hL (fun ls hl => kk p e s m args below meth c H locs ls hx hb hm ho ht hex hl hh)
theorem jr_iadd {x y : Int32} (d : decode cc pc = .ok (.iadd, 1)) (hn : pc + 1 = n) (kk : jG l R cells slots cc nL own Ts ex hd Z n L (.int (x + y) :: st) w) : jG l R cells slots cc nL own Ts ex hd Z pc L (.int y :: .int x :: st) w := by
  subst hn
  intro p e s m args below meth c H locs ls hx hb hm ho ht hex hl hh
  exact lv_iadd hx hb d (kk p e s m args below meth c H locs ls hx hb hm ho ht hex hl hh)
theorem jr_isub {x y : Int32} (d : decode cc pc = .ok (.isub, 1)) (hn : pc + 1 = n) (kk : jG l R cells slots cc nL own Ts ex hd Z n L (.int (x - y) :: st) w) : jG l R cells slots cc nL own Ts ex hd Z pc L (.int y :: .int x :: st) w := by
  subst hn
  intro p e s m args below meth c H locs ls hx hb hm ho ht hex hl hh
  exact lv_isub hx hb d (kk p e s m args below meth c H locs ls hx hb hm ho ht hex hl hh)
theorem jr_imul {x y : Int32} (d : decode cc pc = .ok (.imul, 1)) (hn : pc + 1 = n) (kk : jG l R cells slots cc nL own Ts ex hd Z n L (.int (x * y) :: st) w) : jG l R cells slots cc nL own Ts ex hd Z pc L (.int y :: .int x :: st) w := by
  subst hn
  intro p e s m args below meth c H locs ls hx hb hm ho ht hex hl hh
  exact lv_imul hx hb d (kk p e s m args below meth c H locs ls hx hb hm ho ht hex hl hh)
theorem jr_iand {x y : Int32} (d : decode cc pc = .ok (.iand, 1)) (hn : pc + 1 = n) (kk : jG l R cells slots cc nL own Ts ex hd Z n L (.int (x &&& y) :: st) w) : jG l R cells slots cc nL own Ts ex hd Z pc L (.int y :: .int x :: st) w := by
  subst hn
  intro p e s m args below meth c H locs ls hx hb hm ho ht hex hl hh
  exact lv_iand hx hb d (kk p e s m args below meth c H locs ls hx hb hm ho ht hex hl hh)
theorem jr_ior {x y : Int32} (d : decode cc pc = .ok (.ior, 1)) (hn : pc + 1 = n) (kk : jG l R cells slots cc nL own Ts ex hd Z n L (.int (x ||| y) :: st) w) : jG l R cells slots cc nL own Ts ex hd Z pc L (.int y :: .int x :: st) w := by
  subst hn
  intro p e s m args below meth c H locs ls hx hb hm ho ht hex hl hh
  exact lv_ior hx hb d (kk p e s m args below meth c H locs ls hx hb hm ho ht hex hl hh)
theorem jr_ixor {x y : Int32} (d : decode cc pc = .ok (.ixor, 1)) (hn : pc + 1 = n) (kk : jG l R cells slots cc nL own Ts ex hd Z n L (.int (x ^^^ y) :: st) w) : jG l R cells slots cc nL own Ts ex hd Z pc L (.int y :: .int x :: st) w := by
  subst hn
  intro p e s m args below meth c H locs ls hx hb hm ho ht hex hl hh
  exact lv_ixor hx hb d (kk p e s m args below meth c H locs ls hx hb hm ho ht hex hl hh)
theorem jr_ishl {x y : Int32} (d : decode cc pc = .ok (.ishl, 1)) (hn : pc + 1 = n) (kk : jG l R cells slots cc nL own Ts ex hd Z n L (.int (x <<< (y &&& 31)) :: st) w) : jG l R cells slots cc nL own Ts ex hd Z pc L (.int y :: .int x :: st) w := by
  subst hn
  intro p e s m args below meth c H locs ls hx hb hm ho ht hex hl hh
  exact lv_ishl hx hb d (kk p e s m args below meth c H locs ls hx hb hm ho ht hex hl hh)
theorem jr_ishr {x y : Int32} (d : decode cc pc = .ok (.ishr, 1)) (hn : pc + 1 = n) (kk : jG l R cells slots cc nL own Ts ex hd Z n L (.int (x >>> (y &&& 31)) :: st) w) : jG l R cells slots cc nL own Ts ex hd Z pc L (.int y :: .int x :: st) w := by
  subst hn
  intro p e s m args below meth c H locs ls hx hb hm ho ht hex hl hh
  exact lv_ishr hx hb d (kk p e s m args below meth c H locs ls hx hb hm ho ht hex hl hh)
theorem jr_iushr {x y : Int32} (d : decode cc pc = .ok (.iushr, 1)) (hn : pc + 1 = n) (kk : jG l R cells slots cc nL own Ts ex hd Z n L (.int ((x.toUInt32 >>> (y.toUInt32 &&& Int32.toUInt32 31)).toInt32) :: st) w) : jG l R cells slots cc nL own Ts ex hd Z pc L (.int y :: .int x :: st) w := by
  subst hn
  intro p e s m args below meth c H locs ls hx hb hm ho ht hex hl hh
  exact lv_iushr hx hb d rfl (kk p e s m args below meth c H locs ls hx hb hm ho ht hex hl hh)
theorem jr_idiv {x y : Int32} (d : decode cc pc = .ok (.idiv, 1)) (hz : ¬ y = 0) (hn : pc + 1 = n) (kk : jG l R cells slots cc nL own Ts ex hd Z n L (.int (x / y) :: st) w) : jG l R cells slots cc nL own Ts ex hd Z pc L (.int y :: .int x :: st) w := by
  subst hn
  intro p e s m args below meth c H locs ls hx hb hm ho ht hex hl hh
  exact lv_idiv hx hb d hz (kk p e s m args below meth c H locs ls hx hb hm ho ht hex hl hh)
theorem jr_irem {x y : Int32} (d : decode cc pc = .ok (.irem, 1)) (hz : ¬ y = 0) (hn : pc + 1 = n) (kk : jG l R cells slots cc nL own Ts ex hd Z n L (.int (x - x / y * y) :: st) w) : jG l R cells slots cc nL own Ts ex hd Z pc L (.int y :: .int x :: st) w := by
  subst hn
  intro p e s m args below meth c H locs ls hx hb hm ho ht hex hl hh
  exact lv_irem hx hb d hz (kk p e s m args below meth c H locs ls hx hb hm ho ht hex hl hh)
theorem jr_ladd {x y : Int64} (d : decode cc pc = .ok (.ladd, 1)) (hn : pc + 1 = n) (kk : jG l R cells slots cc nL own Ts ex hd Z n L (.long (x + y) :: st) w) : jG l R cells slots cc nL own Ts ex hd Z pc L (.long y :: .long x :: st) w := by
  subst hn
  intro p e s m args below meth c H locs ls hx hb hm ho ht hex hl hh
  exact lv_ladd hx hb d (kk p e s m args below meth c H locs ls hx hb hm ho ht hex hl hh)
theorem jr_lsub {x y : Int64} (d : decode cc pc = .ok (.lsub, 1)) (hn : pc + 1 = n) (kk : jG l R cells slots cc nL own Ts ex hd Z n L (.long (x - y) :: st) w) : jG l R cells slots cc nL own Ts ex hd Z pc L (.long y :: .long x :: st) w := by
  subst hn
  intro p e s m args below meth c H locs ls hx hb hm ho ht hex hl hh
  exact lv_lsub hx hb d (kk p e s m args below meth c H locs ls hx hb hm ho ht hex hl hh)
theorem jr_lmul {x y : Int64} (d : decode cc pc = .ok (.lmul, 1)) (hn : pc + 1 = n) (kk : jG l R cells slots cc nL own Ts ex hd Z n L (.long (x * y) :: st) w) : jG l R cells slots cc nL own Ts ex hd Z pc L (.long y :: .long x :: st) w := by
  subst hn
  intro p e s m args below meth c H locs ls hx hb hm ho ht hex hl hh
  exact lv_lmul hx hb d (kk p e s m args below meth c H locs ls hx hb hm ho ht hex hl hh)
theorem jr_ldiv {x y : Int64} (d : decode cc pc = .ok (.ldiv, 1)) (hz : ¬ y = 0) (hn : pc + 1 = n) (kk : jG l R cells slots cc nL own Ts ex hd Z n L (.long (x / y) :: st) w) : jG l R cells slots cc nL own Ts ex hd Z pc L (.long y :: .long x :: st) w := by
  subst hn
  intro p e s m args below meth c H locs ls hx hb hm ho ht hex hl hh
  exact lv_ldiv hx hb d hz (kk p e s m args below meth c H locs ls hx hb hm ho ht hex hl hh)
theorem jr_lrem {x y : Int64} (d : decode cc pc = .ok (.lrem, 1)) (hz : ¬ y = 0) (hn : pc + 1 = n) (kk : jG l R cells slots cc nL own Ts ex hd Z n L (.long (x - x / y * y) :: st) w) : jG l R cells slots cc nL own Ts ex hd Z pc L (.long y :: .long x :: st) w := by
  subst hn
  intro p e s m args below meth c H locs ls hx hb hm ho ht hex hl hh
  exact lv_lrem hx hb d hz (kk p e s m args below meth c H locs ls hx hb hm ho ht hex hl hh)
theorem jr_ineg {x : Int32} (d : decode cc pc = .ok (.ineg, 1)) (hn : pc + 1 = n) (kk : jG l R cells slots cc nL own Ts ex hd Z n L (.int (-x) :: st) w) : jG l R cells slots cc nL own Ts ex hd Z pc L (.int x :: st) w := by
  subst hn
  intro p e s m args below meth c H locs ls hx hb hm ho ht hex hl hh
  exact lv_ineg hx hb d (kk p e s m args below meth c H locs ls hx hb hm ho ht hex hl hh)
theorem jr_i2l {x : Int32} (d : decode cc pc = .ok (.i2l, 1)) (hn : pc + 1 = n) (kk : jG l R cells slots cc nL own Ts ex hd Z n L (.long x.toInt64 :: st) w) : jG l R cells slots cc nL own Ts ex hd Z pc L (.int x :: st) w := by
  subst hn
  intro p e s m args below meth c H locs ls hx hb hm ho ht hex hl hh
  exact lv_i2l hx hb d rfl (kk p e s m args below meth c H locs ls hx hb hm ho ht hex hl hh)
theorem jr_i2b {x : Int32} (d : decode cc pc = .ok (.i2b, 1)) (hn : pc + 1 = n) (kk : jG l R cells slots cc nL own Ts ex hd Z n L (.int x.toInt8.toInt32 :: st) w) : jG l R cells slots cc nL own Ts ex hd Z pc L (.int x :: st) w := by
  subst hn
  intro p e s m args below meth c H locs ls hx hb hm ho ht hex hl hh
  exact lv_i2b hx hb d rfl (kk p e s m args below meth c H locs ls hx hb hm ho ht hex hl hh)
theorem jr_i2s {x : Int32} (d : decode cc pc = .ok (.i2s, 1)) (hn : pc + 1 = n) (kk : jG l R cells slots cc nL own Ts ex hd Z n L (.int x.toInt16.toInt32 :: st) w) : jG l R cells slots cc nL own Ts ex hd Z pc L (.int x :: st) w := by
  subst hn
  intro p e s m args below meth c H locs ls hx hb hm ho ht hex hl hh
  exact lv_i2s hx hb d rfl (kk p e s m args below meth c H locs ls hx hb hm ho ht hex hl hh)
theorem jr_lcmp {x y : Int64} (d : decode cc pc = .ok (.lcmp, 1)) (hn : pc + 1 = n) (kk : jG l R cells slots cc nL own Ts ex hd Z n L (.int (lg_cmp x y) :: st) w) : jG l R cells slots cc nL own Ts ex hd Z pc L (.long y :: .long x :: st) w := by
  subst hn
  intro p e s m args below meth c H locs ls hx hb hm ho ht hex hl hh
  exact W.lcmp hx hb d (kk p e s m args below meth c H locs ls hx hb hm ho ht hex hl hh)
theorem jr_dup {v : Value} (d : decode cc pc = .ok (.dup, 1)) (hc : v.category = 1) (hn : pc + 1 = n) (kk : jG l R cells slots cc nL own Ts ex hd Z n L (v :: v :: st) w) : jG l R cells slots cc nL own Ts ex hd Z pc L (v :: st) w := by
  subst hn
  intro p e s m args below meth c H locs ls hx hb hm ho ht hex hl hh
  exact lv_dup hx hb d hc (kk p e s m args below meth c H locs ls hx hb hm ho ht hex hl hh)
theorem jr_dup2 {u v : Value} (d : decode cc pc = .ok (.dup2, 1)) (hc : u.category = 1) (hc2 : v.category = 1) (hn : pc + 1 = n) (kk : jG l R cells slots cc nL own Ts ex hd Z n L (u :: v :: u :: v :: st) w) : jG l R cells slots cc nL own Ts ex hd Z pc L (u :: v :: st) w := by
  subst hn
  intro p e s m args below meth c H locs ls hx hb hm ho ht hex hl hh
  exact lv_dup2_11 hx hb d hc hc2 (kk p e s m args below meth c H locs ls hx hb hm ho ht hex hl hh)
theorem jr_pop {v : Value} (d : decode cc pc = .ok (.pop, 1)) (hc : v.category = 1) (hn : pc + 1 = n) (kk : jG l R cells slots cc nL own Ts ex hd Z n L st w) : jG l R cells slots cc nL own Ts ex hd Z pc L (v :: st) w := by
  subst hn
  intro p e s m args below meth c H locs ls hx hb hm ho ht hex hl hh
  exact lv_pop hx hb d hc (kk p e s m args below meth c H locs ls hx hb hm ho ht hex hl hh)
theorem jr_if_eq {x : Int32} {off : Int} (tgt : Nat) (d : decode cc pc = .ok (.ifCond .eq off, 3)) (ht : (pc : Int) + off = (tgt : Int)) (hn : pc + 3 = n) (kt : x = 0 → jG l R cells slots cc nL own Ts ex hd Z tgt L st w) (kf : ¬ x = 0 → jG l R cells slots cc nL own Ts ex hd Z n L st w) : jG l R cells slots cc nL own Ts ex hd Z pc L (.int x :: st) w := by
  subst hn
  intro p e s m args below meth c H locs ls hx hb hm ho hw hex hl hh
  exact lv_if_eq hx hb d ht (fun c1 => kt c1 p e s m args below meth c H locs ls hx hb hm ho hw hex hl hh) (fun c1 => kf c1 p e s m args below meth c H locs ls hx hb hm ho hw hex hl hh)
theorem jr_if_ne {x : Int32} {off : Int} (tgt : Nat) (d : decode cc pc = .ok (.ifCond .ne off, 3)) (ht : (pc : Int) + off = (tgt : Int)) (hn : pc + 3 = n) (kt : ¬ x = 0 → jG l R cells slots cc nL own Ts ex hd Z tgt L st w) (kf : x = 0 → jG l R cells slots cc nL own Ts ex hd Z n L st w) : jG l R cells slots cc nL own Ts ex hd Z pc L (.int x :: st) w := by
  subst hn
  intro p e s m args below meth c H locs ls hx hb hm ho hw hex hl hh
  exact lv_if_ne hx hb d ht (fun c1 => kt c1 p e s m args below meth c H locs ls hx hb hm ho hw hex hl hh) (fun c1 => kf c1 p e s m args below meth c H locs ls hx hb hm ho hw hex hl hh)
theorem jr_if_lt {x : Int32} {off : Int} (tgt : Nat) (d : decode cc pc = .ok (.ifCond .lt off, 3)) (ht : (pc : Int) + off = (tgt : Int)) (hn : pc + 3 = n) (kt : x < 0 → jG l R cells slots cc nL own Ts ex hd Z tgt L st w) (kf : ¬ x < 0 → jG l R cells slots cc nL own Ts ex hd Z n L st w) : jG l R cells slots cc nL own Ts ex hd Z pc L (.int x :: st) w := by
  subst hn
  intro p e s m args below meth c H locs ls hx hb hm ho hw hex hl hh
  exact lv_if_lt hx hb d ht (fun c1 => kt c1 p e s m args below meth c H locs ls hx hb hm ho hw hex hl hh) (fun c1 => kf c1 p e s m args below meth c H locs ls hx hb hm ho hw hex hl hh)
theorem jr_if_ge {x : Int32} {off : Int} (tgt : Nat) (d : decode cc pc = .ok (.ifCond .ge off, 3)) (ht : (pc : Int) + off = (tgt : Int)) (hn : pc + 3 = n) (kt : 0 ≤ x → jG l R cells slots cc nL own Ts ex hd Z tgt L st w) (kf : ¬ 0 ≤ x → jG l R cells slots cc nL own Ts ex hd Z n L st w) : jG l R cells slots cc nL own Ts ex hd Z pc L (.int x :: st) w := by
  subst hn
  intro p e s m args below meth c H locs ls hx hb hm ho hw hex hl hh
  exact lv_if_ge hx hb d ht (fun c1 => kt c1 p e s m args below meth c H locs ls hx hb hm ho hw hex hl hh) (fun c1 => kf c1 p e s m args below meth c H locs ls hx hb hm ho hw hex hl hh)
theorem jr_if_gt {x : Int32} {off : Int} (tgt : Nat) (d : decode cc pc = .ok (.ifCond .gt off, 3)) (ht : (pc : Int) + off = (tgt : Int)) (hn : pc + 3 = n) (kt : 0 < x → jG l R cells slots cc nL own Ts ex hd Z tgt L st w) (kf : ¬ 0 < x → jG l R cells slots cc nL own Ts ex hd Z n L st w) : jG l R cells slots cc nL own Ts ex hd Z pc L (.int x :: st) w := by
  subst hn
  intro p e s m args below meth c H locs ls hx hb hm ho hw hex hl hh
  exact lv_if_gt hx hb d ht (fun c1 => kt c1 p e s m args below meth c H locs ls hx hb hm ho hw hex hl hh) (fun c1 => kf c1 p e s m args below meth c H locs ls hx hb hm ho hw hex hl hh)
theorem jr_if_le {x : Int32} {off : Int} (tgt : Nat) (d : decode cc pc = .ok (.ifCond .le off, 3)) (ht : (pc : Int) + off = (tgt : Int)) (hn : pc + 3 = n) (kt : x ≤ 0 → jG l R cells slots cc nL own Ts ex hd Z tgt L st w) (kf : ¬ x ≤ 0 → jG l R cells slots cc nL own Ts ex hd Z n L st w) : jG l R cells slots cc nL own Ts ex hd Z pc L (.int x :: st) w := by
  subst hn
  intro p e s m args below meth c H locs ls hx hb hm ho hw hex hl hh
  exact lv_if_le hx hb d ht (fun c1 => kt c1 p e s m args below meth c H locs ls hx hb hm ho hw hex hl hh) (fun c1 => kf c1 p e s m args below meth c H locs ls hx hb hm ho hw hex hl hh)
theorem jr_icmp_eq {x y : Int32} {off : Int} (tgt : Nat) (d : decode cc pc = .ok (.if_icmp .eq off, 3)) (ht : (pc : Int) + off = (tgt : Int)) (hn : pc + 3 = n) (kt : x = y → jG l R cells slots cc nL own Ts ex hd Z tgt L st w) (kf : ¬ x = y → jG l R cells slots cc nL own Ts ex hd Z n L st w) : jG l R cells slots cc nL own Ts ex hd Z pc L (.int y :: .int x :: st) w := by
  subst hn
  intro p e s m args below meth c H locs ls hx hb hm ho hw hex hl hh
  exact lv_icmp_eq hx hb d ht (fun c1 => kt c1 p e s m args below meth c H locs ls hx hb hm ho hw hex hl hh) (fun c1 => kf c1 p e s m args below meth c H locs ls hx hb hm ho hw hex hl hh)
theorem jr_icmp_ne {x y : Int32} {off : Int} (tgt : Nat) (d : decode cc pc = .ok (.if_icmp .ne off, 3)) (ht : (pc : Int) + off = (tgt : Int)) (hn : pc + 3 = n) (kt : ¬ x = y → jG l R cells slots cc nL own Ts ex hd Z tgt L st w) (kf : x = y → jG l R cells slots cc nL own Ts ex hd Z n L st w) : jG l R cells slots cc nL own Ts ex hd Z pc L (.int y :: .int x :: st) w := by
  subst hn
  intro p e s m args below meth c H locs ls hx hb hm ho hw hex hl hh
  exact lv_icmp_ne hx hb d ht (fun c1 => kt c1 p e s m args below meth c H locs ls hx hb hm ho hw hex hl hh) (fun c1 => kf c1 p e s m args below meth c H locs ls hx hb hm ho hw hex hl hh)
theorem jr_icmp_lt {x y : Int32} {off : Int} (tgt : Nat) (d : decode cc pc = .ok (.if_icmp .lt off, 3)) (ht : (pc : Int) + off = (tgt : Int)) (hn : pc + 3 = n) (kt : x < y → jG l R cells slots cc nL own Ts ex hd Z tgt L st w) (kf : ¬ x < y → jG l R cells slots cc nL own Ts ex hd Z n L st w) : jG l R cells slots cc nL own Ts ex hd Z pc L (.int y :: .int x :: st) w := by
  subst hn
  intro p e s m args below meth c H locs ls hx hb hm ho hw hex hl hh
  exact lv_icmp_lt hx hb d ht (fun c1 => kt c1 p e s m args below meth c H locs ls hx hb hm ho hw hex hl hh) (fun c1 => kf c1 p e s m args below meth c H locs ls hx hb hm ho hw hex hl hh)
theorem jr_icmp_ge {x y : Int32} {off : Int} (tgt : Nat) (d : decode cc pc = .ok (.if_icmp .ge off, 3)) (ht : (pc : Int) + off = (tgt : Int)) (hn : pc + 3 = n) (kt : y ≤ x → jG l R cells slots cc nL own Ts ex hd Z tgt L st w) (kf : ¬ y ≤ x → jG l R cells slots cc nL own Ts ex hd Z n L st w) : jG l R cells slots cc nL own Ts ex hd Z pc L (.int y :: .int x :: st) w := by
  subst hn
  intro p e s m args below meth c H locs ls hx hb hm ho hw hex hl hh
  exact lv_icmp_ge hx hb d ht (fun c1 => kt c1 p e s m args below meth c H locs ls hx hb hm ho hw hex hl hh) (fun c1 => kf c1 p e s m args below meth c H locs ls hx hb hm ho hw hex hl hh)
theorem jr_icmp_gt {x y : Int32} {off : Int} (tgt : Nat) (d : decode cc pc = .ok (.if_icmp .gt off, 3)) (ht : (pc : Int) + off = (tgt : Int)) (hn : pc + 3 = n) (kt : y < x → jG l R cells slots cc nL own Ts ex hd Z tgt L st w) (kf : ¬ y < x → jG l R cells slots cc nL own Ts ex hd Z n L st w) : jG l R cells slots cc nL own Ts ex hd Z pc L (.int y :: .int x :: st) w := by
  subst hn
  intro p e s m args below meth c H locs ls hx hb hm ho hw hex hl hh
  exact lv_icmp_gt hx hb d ht (fun c1 => kt c1 p e s m args below meth c H locs ls hx hb hm ho hw hex hl hh) (fun c1 => kf c1 p e s m args below meth c H locs ls hx hb hm ho hw hex hl hh)
theorem jr_icmp_le {x y : Int32} {off : Int} (tgt : Nat) (d : decode cc pc = .ok (.if_icmp .le off, 3)) (ht : (pc : Int) + off = (tgt : Int)) (hn : pc + 3 = n) (kt : x ≤ y → jG l R cells slots cc nL own Ts ex hd Z tgt L st w) (kf : ¬ x ≤ y → jG l R cells slots cc nL own Ts ex hd Z n L st w) : jG l R cells slots cc nL own Ts ex hd Z pc L (.int y :: .int x :: st) w := by
  subst hn
  intro p e s m args below meth c H locs ls hx hb hm ho hw hex hl hh
  exact lv_icmp_le hx hb d ht (fun c1 => kt c1 p e s m args below meth c H locs ls hx hb hm ho hw hex hl hh) (fun c1 => kf c1 p e s m args below meth c H locs ls hx hb hm ho hw hex hl hh)
theorem jr_goto {off : Int} (tgt : Nat) (d : decode cc pc = .ok (.goto off, 3)) (ht : (pc : Int) + off = (tgt : Int)) (kk : jG l R cells slots cc nL own Ts ex hd Z tgt L st w) : jG l R cells slots cc nL own Ts ex hd Z pc L st w := by
  intro p e s m args below meth c H locs ls hx hb hm ho hw hex hl hh
  exact lv_goto hx hb d ht (kk p e s m args below meth c H locs ls hx hb hm ho hw hex hl hh)
theorem jr_sub (ks : List Nat) (hL : lv_pick L ks = L') (kk : jG l R cells slots cc nL own Ts ex hd Z pc L' st w) : jG l R cells slots cc nL own Ts ex hd Z pc L st w := by
  intro p e s m args below meth c H locs ls hx hb hm ho hw hex hl hh
  exact kk p e s m args below meth c H locs ls hx hb hm ho hw hex (lv_sub hl ks hL) hh
theorem jr_st {st' : List Value} (h : st' = st) (kk : jG l R cells slots cc nL own Ts ex hd Z pc L st' w) : jG l R cells slots cc nL own Ts ex hd Z pc L st w := h ▸ kk
theorem jr_topi {x : Int32} (kk : ∀ z : Int32, z = x → jG l R cells slots cc nL own Ts ex hd Z pc L (.int z :: st) w) : jG l R cells slots cc nL own Ts ex hd Z pc L (.int x :: st) w := kk x rfl
theorem jr_topl {x : Int64} (kk : ∀ z : Int64, z = x → jG l R cells slots cc nL own Ts ex hd Z pc L (.long z :: st) w) : jG l R cells slots cc nL own Ts ex hd Z pc L (.long x :: st) w := kk x rfl
theorem jr_tabIn {dflt hi : Int} {offs : Array Int} {len : Nat} {x v : Int32} {off : Int} (tgt : Nat) (d : decode cc pc = .ok (.tableswitch dflt 0 hi offs, len)) (hv : x = v) (h : ¬ v.toInt < 0 ∧ ¬ hi < v.toInt ∧ offs[(v.toInt - 0).toNat]? = some off) (ht : (pc : Int) + off = (tgt : Int)) (kk : jG l R cells slots cc nL own Ts ex hd Z tgt L st w) : jG l R cells slots cc nL own Ts ex hd Z pc L (.int x :: st) w := by
  subst hv
  intro p e s m args below meth c H locs ls hx hb hm ho hw hex hl hh
  exact lv_tableIn hx hb d h.1 h.2.1 h.2.2 ht (kk p e s m args below meth c H locs ls hx hb hm ho hw hex hl hh)
theorem jr_tabOut {dflt : Int} (hi : Nat) {offs : Array Int} {len : Nat} {x : Int32} (tgt : Nat) (d : decode cc pc = .ok (.tableswitch dflt 0 (hi : Int) offs, len)) (hb31 : hi < 1000) (h : ∀ j : Nat, j ≤ hi → ¬ x = nI j) (ht : (pc : Int) + dflt = (tgt : Int)) (kk : jG l R cells slots cc nL own Ts ex hd Z tgt L st w) : jG l R cells slots cc nL own Ts ex hd Z pc L (.int x :: st) w := by
  intro p e s m args below meth c H locs ls hx hb hm ho hw hex hl hh
  refine lv_tableOut hx hb d ?_ ht (kk p e s m args below meth c H locs ls hx hb hm ho hw hex hl hh)
  by_cases h1 : x < 0
  · left
    simpa using Int32.lt_iff_toInt_lt.mp h1
  · right
    obtain ⟨j, hj, e⟩ := nI_of h1
    rcases Nat.lt_or_ge hi j with q | q
    · rw [e, nI_toInt hj]; omega
    · exact absurd e (h j q)
theorem jr_look {dflt : Int} {ps : Array (Int × Int)} {len : Nat} {x : Int32} {off : Int} (tgt : Nat) (d : decode cc pc = .ok (.lookupswitch dflt ps, len)) (hp : (ps.toList.zip (ps.toList.drop 1)).all (fun (a, next) => a.1 < next.1) = true) (hof : Op.lookupswitch.offset ps.toList dflt x.toInt = off) (ht : (pc : Int) + off = (tgt : Int)) (kk : jG l R cells slots cc nL own Ts ex hd Z tgt L st w) : jG l R cells slots cc nL own Ts ex hd Z pc L (.int x :: st) w := by
  intro p e s m args below meth c H locs ls hx hb hm ho hw hex hl hh
  exact lv_lookup hx hb d hp hof ht (kk p e s m args below meth c H locs ls hx hb hm ho hw hex hl hh)
end JR
end
section
/-! ===== the rules of the heap: fields, arrays, the letters, returns, calls ===== -/
theorem jx_v_set {E : jx_E} {M : jx_M} {o k : Nat} {f : Nat → Int32} {o' k' c : Nat} (h : ¬ (o' = o ∧ k' = k)) : jx_v E (jx_set M o k f) c o' k' = jx_v E M c o' k' := by
  unfold jx_v
  rw [jx_set_n h]
/-- a field is written -/
theorem jH.put {E : jx_E} {M : jx_M} {H H1 : Heap} {o k : Nat} {v : Int32} {iS : Nat} {cell : Cell} (h : jH E M H) (hB : jB E o) (hk : k < jx_n (jx_c o)) (hk0 : jx_k (jx_c o) k = 0) (hc : H[ja E o 0]? = some cell) (hap : ∀ x y, x < jx_n (jx_c o) → y < jx_n (jx_c o) → x ≠ y → (E.2.1.2 (jx_c o)) x ≠ (E.2.1.2 (jx_c o)) y) (hi : iS = E.2.1.2 (jx_c o) k) (e1 : H1[ja E o 0]? = some (cell.setSlot iS (.int v))) (oq : ∀ q : Nat, q ≠ ja E o 0 → H1[q]? = H[q]?) : jH E (jx_p M o k v) H1 := by
  subst hi
  obtain ⟨hD, hO, hR⟩ := h
  refine ⟨hD, fun o' hB' => ?_, fun o' k' hB' hn' hk' => ?_⟩
  · by_cases ho : o' = o
    · subst ho
      obtain ⟨c2, q1, q2, q3, q4⟩ := hO o' hB'
      cases hc.symm.trans q1
      refine ⟨_, e1, q2, q3, fun j hj => ?_⟩
      have hs := t_set q4 hap hk (Value.int v) j hj
      rw [hs]
      by_cases hjk : j = k
      · subst hjk
        have e9 : jx_v E (jx_p M o' j v) (jx_c o') o' j = .int v := by
          unfold jx_v
          rw [hk0]
          simp [jx_p, jx_set]
        show some (updV _ j (.int v) j) = some (jx_v E (jx_p M o' j v) (jx_c o') o' j)
        rw [e9]
        simp [updV]
      · show some (updV (fun k => jx_v E M (jx_c o') o' k) k (.int v) j) = some (jx_v E (jx_p M o' k v) (jx_c o') o' j)
        unfold jx_p
        rw [jx_v_set (by simp [hjk])]
        simp [updV, hjk]
    · have hne : ja E o' 0 ≠ ja E o 0 := fun e => ho (hD o' 0 o 0 (jvld0 hB') (jvld0 hB) e).1
      refine ((hO o' hB').kept (oq _ hne)).to (fun j _ => ?_)
      show jx_v E M (jx_c o') o' j = jx_v E (jx_set M o k _) (jx_c o') o' j
      rw [jx_v_set (by simp [ho])]
  · have hne : ja E o' (k' + 1) ≠ ja E o 0 := fun e => absurd (hD o' (k' + 1) o 0 (jvld1 hB' hn' hk') (jvld0 hB) e).2 (by omega)
    rw [oq _ hne, hR o' k' hB' hn' hk']
    have : ¬ (o' = o ∧ k' = k) := by
      rintro ⟨rfl, rfl⟩
      rw [hk'] at hk0
      exact absurd hk0 (by decide)
    show some (vp_cell E.2.2.1 (jx_l (jx_c o') k', .inl (M o' k'))) = some (vp_cell E.2.2.1 (jx_l (jx_c o') k', .inl (jx_set M o k _ o' k')))
    rw [jx_set_n this]
/-- an array is written -/
theorem jH.arr {E : jx_E} {M : jx_M} {H H1 : Heap} {o k : Nat} {f : Nat → Int32} (h : jH E M H) (hB : jB E o) (hk : k < jx_n (jx_c o)) (hk1 : jx_k (jx_c o) k = 1) (e1 : H1[ja E o (k + 1)]? = some (vp_cell E.2.2.1 (jx_l (jx_c o) k, .inl f))) (oq : ∀ q : Nat, q ≠ ja E o (k + 1) → H1[q]? = H[q]?) : jH E (jx_set M o k f) H1 := by
  obtain ⟨hD, hO, hR⟩ := h
  refine ⟨hD, fun o' hB' => ?_, fun o' k' hB' hn' hk' => ?_⟩
  · have hne : ja E o' 0 ≠ ja E o (k + 1) := fun e => absurd (hD o' 0 o (k + 1) (jvld0 hB') (jvld1 hB hk hk1) e).2 (by omega)
    refine ((hO o' hB').kept (oq _ hne)).to (fun j _ => ?_)
    by_cases hj : o' = o ∧ j = k
    · obtain ⟨rfl, rfl⟩ := hj
      unfold jx_v
      rw [hk1]
      rfl
    · show jx_v E M (jx_c o') o' j = jx_v E (jx_set M o k f) (jx_c o') o' j
      rw [jx_v_set hj]
  · by_cases hj : o' = o ∧ k' = k
    · obtain ⟨rfl, rfl⟩ := hj
      rw [e1, jx_set_s]
    · have hne : ja E o' (k' + 1) ≠ ja E o (k + 1) := fun e => by
        obtain ⟨h1, h2⟩ := hD o' (k' + 1) o (k + 1) (jvld1 hB' hn' hk') (jvld1 hB hk hk1) e
        exact hj ⟨h1, by omega⟩
      rw [oq _ hne, hR o' k' hB' hn' hk', jx_set_n hj]
section JH
variable {E : jx_E} {y : MethodName} {cc : ByteArray} {nL : Nat} {ret : Option FieldType} {R : Room} {Q : Option Value → jx_M → Prop} {pc n : Nat} {L : List (Nat × Value)} {st : List Value} {M : jx_M}
/-- what the tables say of a class of ours -/
def jcl (ci : Nat) (C : String) (T : u_T) (N : Nat) (ty : Nat → FieldType) : Prop := vwCl[ci]? = some (C, T, N) ∧ jx_n ci = N ∧ (∀ w ∈ u_ws C T N, w ∈ lw_g) ∧ (∀ k, k < N → parseFieldDescriptor (T k).2.2.1 = some (ty k)) ∧ (∀ a, a < N → ∀ b, b < N → a ≠ b → (T a).2.1 ≠ (T b).2.1)
theorem jh_get {ci : Nat} {C : String} {T : u_T} {N : Nat} {ty : Nat → FieldType} (hcl : jcl ci C T N ty) {idx k o : Nat} {v : Value} (hk : k < N) (hlink : Cond.fieldLink y.cls idx (T k).1 (T k).2.1 (T k).2.2.1 ∈ lw_g) (hoc : jx_c o = ci) (hB : jB E o) (d : decode cc pc = .ok (.getfield idx, 3)) (hv : jx_v E M ci o k = v) (hn : pc + 3 = n) (kk : jJ E y cc nL ret R Q n L (v :: st) M) : jJ E y cc nL ret R Q pc L (.ref (ja E o 0) :: st) M := by
  subst hn
  intro p e s m args below meth c H locs ls hx hb hm ho ht hex hl hh
  obtain ⟨h1, h2, h3, h4, h5⟩ := hcl
  have hin : ∀ w ∈ u_ws C T N, w ∈ Cond.code y cc nL ret :: lw_g := fun w h => List.mem_cons_of_mem _ (h3 w h)
  obtain ⟨cell, q1, q2, q3, q4⟩ := hh.1.2.1 o hB
  obtain ⟨hS, hfc, kC, hkC, hkind⟩ := hex.2.2.1.1 ci _ h1
  obtain ⟨cf, kf, fi, f, hi, hsl⟩ := hS k hk
  refine W.getf hx hb ho (ht _ (List.mem_cons_of_mem _ hlink)) hi (u_facts hfc hkC (u_lays ht hin hk) hi).1 q1 (by rw [q3]; exact fun h => by cases h) (v := v) ?_ rfl rfl d (kk p e s m args below meth c H locs ls hx hb hm ho ht hex hl hh)
  rw [hsl]
  have := q4 k (by rw [hoc, h2]; exact hk)
  rw [hoc] at this
  rw [this]
  show some (jx_v E M ci o k) = some v
  rw [hv]
theorem jh_put {ci : Nat} {C : String} {T : u_T} {N : Nat} {ty : Nat → FieldType} (hcl : jcl ci C T N ty) {idx k o : Nat} {v : Int32} (hk : k < N) (hlink : Cond.fieldLink y.cls idx (T k).1 (T k).2.1 (T k).2.2.1 ∈ lw_g) (hfin : (T k).2.2.2 = false) (hk0 : jx_k ci k = 0) (hoc : jx_c o = ci) (hB : jB E o) (d : decode cc pc = .ok (.putfield idx, 3)) (hf : narrow (ty k) (.int v) = .int v ∧ fits (ty k) (.int v) = true) (hn : pc + 3 = n) (kk : ∀ M1, M1 = jx_p M o k v → jJ E y cc nL ret R Q n L st M1) : jJ E y cc nL ret R Q pc L (.int v :: .ref (ja E o 0) :: st) M := by
  subst hn
  intro p e s m args below meth c H locs ls hx hb hm ho ht hex hl hh
  obtain ⟨h1, h2, h3, h4, h5⟩ := hcl
  have hin : ∀ w ∈ u_ws C T N, w ∈ Cond.code y cc nL ret :: lw_g := fun w h => List.mem_cons_of_mem _ (h3 w h)
  have hap := va_apart (own := y.cls) ht hin ty h4 h5 hex.2.2.1 h1
  obtain ⟨cell, q1, q2, q3, q4⟩ := hh.1.2.1 o hB
  obtain ⟨hS, hfc, kC, hkC, hkind⟩ := hex.2.2.1.1 ci _ h1
  obtain ⟨cf, kf, fi, f, hi, hsl⟩ := hS k hk
  have hlay := ht _ (hin _ (u_in_lay hk))
  unfold u_lay at hlay
  rw [if_neg (by rw [hfin]; decide)] at hlay
  have hst := (u_facts hfc hkC (u_lays ht hin hk) hi).1
  have h6 := u_store hfc hkC hkind hlay hi (h4 k hk) hf.1 hf.2
  have hkn : k < jx_n (jx_c o) := by rw [hoc, h2]; exact hk
  refine W.putK hx hb (f := f) ⟨ho, ht _ (List.mem_cons_of_mem _ hlink), ⟨_, _, _, hi⟩, hst⟩ (by rw [q2, hoc]; exact h6) q1 q3 (by rw [hsl, ← hoc]; exact k2_hasslot (q4 k hkn)) rfl rfl d fun H' e1 e2 e3 => ?_
  refine kk _ rfl p e s m args below meth c H' _ ls hx hb hm ho ht hex hl ⟨jH.put hh.1 hB hkn (by rw [hoc]; exact hk0) q1 (by rw [hoc, h2]; exact hap) (by rw [hoc]; exact hsl) e1 e3, hh.2.put e2 e3 (jA.of (jvld0 hB))⟩
theorem jh_iald {ci k o N : Nat} {i : Int32} (hoc : jx_c o = ci) (hB : jB E o) (hk : k < jx_n ci) (hk1 : jx_k ci k = 1) (hN : jx_l ci k = N) (hin : jin i N = true) (d : decode cc pc = .ok (.iaload, 1)) (hn : pc + 1 = n) (kk : jJ E y cc nL ret R Q n L (.int (jx_r M o k i) :: st) M) : jJ E y cc nL ret R Q pc L (.int i :: .ref (ja E o (k + 1)) :: st) M := by
  subst hn
  subst hoc
  subst hN
  intro p e s m args below meth c H locs ls hx hb hm ho ht hex hl hh
  have hi := jin_e hin
  have hlt : i.toNatClampNeg < jx_l (jx_c o) k := Nat.not_le.mp fun q => hi (Or.inr q)
  exact W.iald (v := .int (M o k i.toNatClampNeg)) hx hb (hh.1.2.2 o k hB hk hk1) ((hex.2.2.1.2 0 _ rfl).1 _ (fun j => .int (M o k j))) (fun q => by cases q) (by show ¬ (i < 0 ∨ (arrV _ _ _).slots.size ≤ _); rw [arrV_size]; exact hi) (by show (arrV _ _ _).slots[_]? = _; rw [arrV_read _ _ hlt]) rfl rfl d (kk p e s m args below meth c H locs ls hx hb hm ho ht hex hl hh)
theorem jh_iast {ci k o N : Nat} {i x : Int32} (hoc : jx_c o = ci) (hB : jB E o) (hk : k < jx_n ci) (hk1 : jx_k ci k = 1) (hN : jx_l ci k = N) (hin : jin i N = true) (d : decode cc pc = .ok (.iastore, 1)) (hn : pc + 1 = n) (kk : ∀ M1, M1 = jx_w M o k i x → jJ E y cc nL ret R Q n L st M1) : jJ E y cc nL ret R Q pc L (.int x :: .int i :: .ref (ja E o (k + 1)) :: st) M := by
  subst hn
  subst hoc
  subst hN
  intro p e s m args below meth c H locs ls hx hb hm ho ht hex hl hh
  have hi := jin_e hin
  refine W.iast hx hb (hh.1.2.2 o k hB hk hk1) ((hex.2.2.1.2 0 _ rfl).1 _ (fun j => .int (M o k j))) (fun q => by cases q) (by show ¬ (i < 0 ∨ (arrV _ _ _).slots.size ≤ _); rw [arrV_size]; exact hi) rfl rfl d fun H1 e1 z oq => ?_
  refine kk _ rfl p e s m args below meth c H1 _ ls hx hb hm ho ht hex hl ⟨jH.arr hh.1 hB hk hk1 ?_ oq, hh.2.put z oq (jA.of (jvld1 hB hk hk1))⟩
  rw [e1]
  rw [vp_cell_i, vp_cell_i, arrV_store]
  congr 2
  funext q
  by_cases hq : q = i.toNatClampNeg
  · subst hq
    simp [updV, upd]
  · simp [updV, upd, hq]
theorem jh_alen {ci k o N : Nat} {v : Int32} (hoc : jx_c o = ci) (hB : jB E o) (hk : k < jx_n ci) (hk1 : jx_k ci k = 1) (hN : jx_l ci k = N) (hv : Int32.ofNat N = v) (d : decode cc pc = .ok (.arraylength, 1)) (hn : pc + 1 = n) (kk : jJ E y cc nL ret R Q n L (.int v :: st) M) : jJ E y cc nL ret R Q pc L (.ref (ja E o (k + 1)) :: st) M := by
  subst hn
  subst hoc
  subst hN
  subst hv
  intro p e s m args below meth c H locs ls hx hb hm ho ht hex hl hh
  exact W.alen (n := Int32.ofNat (jx_l (jx_c o) k)) hx hb (hh.1.2.2 o k hB hk hk1) ((hex.2.2.1.2 0 _ rfl).1 _ (fun j => .int (M o k j))) (by rw [vp_cell_i, arrV_size] <;> rfl) rfl rfl d (kk p e s m args below meth c H locs ls hx hb hm ho ht hex hl hh)
theorem jh_gets {idx : Nat} (hlink : Cond.fieldLink y.cls idx "CenturyPosts$Land" "LETTERS" "[I" ∈ lw_g) (d : decode cc pc = .ok (.getstatic idx, 3)) (hn : pc + 3 = n) (kk : jJ E y cc nL ret R Q n L (.ref (jt E) :: st) M) : jJ E y cc nL ret R Q pc L st M := by
  subst hn
  intro p e s m args below meth c H locs ls hx hb hm ho ht hex hl hh
  exact va_gets hx hb hex.2.2.2.1 hh.2 ho (ht _ (List.mem_cons_of_mem _ hlink)) (fun _ h => h) d (kk p e s m args below meth c H locs ls hx hb hm ho ht hex hl hh)
theorem jh_lett {i : Int32} (hin : jin i 3 = true) (d : decode cc pc = .ok (.iaload, 1)) (hn : pc + 1 = n) (kk : jJ E y cc nL ret R Q n L (.int (jx_lt i.toNatClampNeg) :: st) M) : jJ E y cc nL ret R Q pc L (.int i :: .ref (jt E) :: st) M := by
  subst hn
  intro p e s m args below meth c H locs ls hx hb hm ho ht hex hl hh
  exact va_ti hx hb hex.2.2.2.2 hh.2 (jin_e hin) rfl d (kk p e s m args below meth c H locs ls hx hb hm ho ht hex hl hh)
/-! returns -/
theorem jh_iret {v r : Int32} {M' : jx_M} (hr : ret = some .int) (d : decode cc pc = .ok (.ireturn, 1)) (hF : (some (v, M) : Option (Int32 × jx_M)) = some (r, M')) : jJ E y cc nL ret R (fun x M'' => x = some (.int r) ∧ M'' = M') pc L [.int v] M := by
  cases hF
  intro p e s m args below meth c H locs ls hx hb hm ho ht hex hl hh
  exact W.iret hx hb (hex.1.trans hr) (fun t ht hW => ⟨⟨_, M, rfl, ⟨rfl, rfl⟩, by rw [ht]; exact hh.1, hex.2.2.go hW.alike hh.2 ht⟩, hh.2.F ht⟩) hh.2.2.2 d hex.2.1
theorem jh_zret {v r : Int32} {M' : jx_M} (hr : ret = some .boolean) (hv : v = 0 ∨ v = 1) (d : decode cc pc = .ok (.ireturn, 1)) (hF : (some (v, M) : Option (Int32 × jx_M)) = some (r, M')) : jJ E y cc nL ret R (fun x M'' => x = some (.int r) ∧ M'' = M') pc L [.int v] M := by
  cases hF
  intro p e s m args below meth c H locs ls hx hb hm ho ht hex hl hh
  exact W.zret hx hb (hex.1.trans hr) (by rcases hv with rfl | rfl <;> rfl) (fun t ht hW => ⟨⟨_, M, rfl, ⟨rfl, rfl⟩, by rw [ht]; exact hh.1, hex.2.2.go hW.alike hh.2 ht⟩, hh.2.F ht⟩) hh.2.2.2 d hex.2.1
theorem jh_lret {v r : Int64} {M' : jx_M} (hr : ret = some .long) (d : decode cc pc = .ok (.lreturn, 1)) (hF : (some (v, M) : Option (Int64 × jx_M)) = some (r, M')) : jJ E y cc nL ret R (fun x M'' => x = some (.long r) ∧ M'' = M') pc L [.long v] M := by
  cases hF
  intro p e s m args below meth c H locs ls hx hb hm ho ht hex hl hh
  exact W.lret hx hb (hex.1.trans hr) (fun t ht hW => ⟨⟨_, M, rfl, ⟨rfl, rfl⟩, by rw [ht]; exact hh.1, hex.2.2.go hW.alike hh.2 ht⟩, hh.2.F ht⟩) hh.2.2.2 d hex.2.1
theorem jh_vret {r : Unit} {M' : jx_M} (hr : ret = none) (d : decode cc pc = .ok (.return_, 1)) (hF : (some ((), M) : Option (Unit × jx_M)) = some (r, M')) : jJ E y cc nL ret R (fun x M'' => x = none ∧ M'' = M') pc L [] M := by
  cases hF
  intro p e s m args below meth c H locs ls hx hb hm ho ht hex hl hh
  exact W.vret hx hb (hex.1.trans hr) (fun t ht hW => ⟨⟨_, M, rfl, ⟨rfl, rfl⟩, by rw [ht]; exact hh.1, hex.2.2.go hW.alike hh.2 ht⟩, hh.2.F ht⟩) hh.2.2.2 d hex.2.1
theorem jh_aret {o r : Nat} {M' : jx_M} {C : String} (hr : ret = some (.object C)) (d : decode cc pc = .ok (.areturn, 1)) (hF : (some (o, M) : Option (Nat × jx_M)) = some (r, M')) : jJ E y cc nL ret R (fun x M'' => x = some (.ref (ja E r 0)) ∧ M'' = M') pc L [.ref (ja E o 0)] M := by
  cases hF
  intro p e s m args below meth c H locs ls hx hb hm ho ht hex hl hh
  exact W.aret hx hb (hex.1.trans hr) (Or.inl ⟨_, rfl⟩) (Or.inr ⟨_, rfl⟩) (fun t ht hW => ⟨⟨_, M, rfl, ⟨rfl, rfl⟩, by rw [ht]; exact hh.1, hex.2.2.go hW.alike hh.2 ht⟩, hh.2.F ht⟩) hh.2.2.2 d hex.2.1
/-! calls -/
theorem jC.blind {as : List Value} {M : jx_M} : FrameBlind (va_Pc as (fun U => jH E M U.heap ∧ jK E U)) := fun a U g mk q => by
  obtain ⟨q0, q1, q2⟩ := q
  exact ⟨q0, q1, jK.moved (U := U.calling g mk a) q2 (Vm.Alike.refl U.vm) rfl⟩
theorem jh_after {p : Program} {e : Env} {s : State} {m : MethodId} {args : Array Value} {below : List Frame} {meth : Method} {c : Code} {H : Heap} {locs : List Loc} {ls : Array Slot} {a : Array Value} {rv : Option Value} {M1 : jx_M} {QQ : State → Prop} {stk : List Value} (hr : va_Run p E.1 e R s m args below meth c H locs 0 0 0 0 (F0 m pc ls stk) st (jQ E (fun v M'' => v = rv ∧ M'' = M1) a) (jA E)) (hS : va_S (jA E) s.heap H locs) (kk : ∀ (H1 : Heap) (locs1 : List Loc), jH E M1 H1 → va_S (jA E) s.heap H1 locs1 → W p E.1 e R s m args below meth c H1 locs1 0 0 QQ (F0 m (pc + 3) ls (rv.toList ++ st))) : W p E.1 e R s m args below meth c H locs 0 0 QQ (F0 m pc ls stk) := by
  intro T hT X
  obtain ⟨v, st₀, t, T', L, h0, X', hL, e1, e2, ⟨⟨r, M2, hv, ⟨hp1, hp2⟩, hb1, hb2⟩, hz, hk⟩, hst⟩ := hr T hT X
  cases hv
  subst hp1
  subst hp2
  rw [h0] at hz hk
  obtain ⟨t2, a1, b1⟩ := kk T'.heap (locs ++ L) (by rw [e1]; exact hb1)
    ⟨Nat.le_trans hS.1 (by rw [e1]; exact hz), fun q h1 h2 => by rw [e1, hk q (Nat.lt_of_lt_of_le h1 hS.1) h2]; exact hS.2.1 q h1 h2, fun q hq => by
      rcases List.mem_append.mp hq with h | h
      · exact hS.2.2 q h
      · exact hL q h⟩ T' rfl X'
  exact ⟨t2, hst t2 a1, b1⟩
theorem lw_good : lw_g.all goodWord = true := List.all_eq_true.mpr fun w h => (List.mem_filter.mp h).2
theorem jgood {x : Cond} {y2 : MethodName} {cc2 : ByteArray} {nL2 : Nat} {ret2 : Option FieldType} (hc : Cond.code y2 cc2 nL2 ret2 ∈ lw_g) : GoodIn (x :: lw_g) (Cond.code y2 cc2 nL2 ret2 :: lw_g) := by
  intro w hw
  have h1 : w ∈ lw_g := by
    rcases List.mem_cons.mp hw with h | h
    · rw [h]; exact hc
    · exact h
  exact ⟨List.mem_cons_of_mem _ h1, good_of_word (List.all_eq_true.mp lw_good w h1)⟩
/-- the words of a call of a method of ours -/
def jwB (own : String) (idx : Nat) (y2 : MethodName) (cc2 : ByteArray) (nL2 : Nat) (ret2 : Option FieldType) (nn : Nat) : Prop := Cond.methodLink own idx y2 ∈ lw_g ∧ Cond.code y2 cc2 nL2 ret2 ∈ lw_g ∧ Cond.initialized y2.cls ∈ lw_g ∧ (y2.cls ≠ "java/lang/invoke/MethodHandle" ∧ y2.cls ≠ "java/lang/invoke/VarHandle" ∧ (parseMethodDescriptor y2.desc).map (fun d => d.parameters.length) = some nn)
def jrm (R R2 : Room) (nL2 : Nat) : Prop := R2.cells = 0 ∧ R2.slots = 0 ∧ R2.frames + 1 ≤ R.frames ∧ 8 + (nL2 + 11) + R2.locals ≤ R.locals
theorem jcallB {s : State} {args : Array Value} {idx : Nat} {y2 : MethodName} {cc2 : ByteArray} {nL2 : Nat} {ret2 : Option FieldType} {nn : Nat} {R2 : Room} (ht : ∀ w ∈ Cond.code y cc nL ret :: lw_g, w.before args s = true) (hw : jwB y.cls idx y2 cc2 nL2 ret2 nn) (hR : jrm R R2 nL2) : CallB R s args y.cls idx y2 cc2 nL2 ret2 (Cond.code y2 cc2 nL2 ret2 :: lw_g) R2 0 0 nn :=
  callB_of nn ht (jgood hw.2.1) rfl hR.1 hR.2.1 (ht _ (List.mem_cons_of_mem _ hw.2.2.1)) (ht _ (List.mem_cons_of_mem _ hw.1)) hw.2.2.2 hR.2.2
theorem jh_callV {idx : Nat} {y2 : MethodName} {cc2 : ByteArray} {nL2 : Nat} {ret2 : Option FieldType} {nn : Nat} {R2 : Room} {rv : Option Value} {M1 : jx_M} {o : Nat} {C : String} {T : u_T} {N : Nat} {as stk : List Value} (hC : jC E y2 cc2 nL2 ret2 R2 (.ref (ja E o 0) :: as) M (fun v M'' => v = rv ∧ M'' = M1)) (hw : jwB y.cls idx y2 cc2 nL2 ret2 nn) (hw2 : Cond.instanceMethod y2 ∈ lw_g ∧ Cond.selects C y2 y2 ∈ lw_g) (hR : jrm R R2 nL2) (hcl : vwCl[jx_c o]? = some (C, T, N)) (hB : jB E o) (hlen : as.length = nn) (hs : as.reverse ++ .ref (ja E o 0) :: st = stk) (hcat : (st.map fun v => v.category).sum ≤ 8) (d : decode cc pc = .ok (.invokevirtual idx, 3)) (hn : pc + 3 = n) (kk : jJ E y cc nL ret R Q n L (rv.toList ++ st) M1) : jJ E y cc nL ret R Q pc L stk M := by
  subst hn
  intro p e s m args below meth c H locs ls hx hb hm ho ht hex hl hh
  have hB0 := jcallB (R := R) (s := s) (args := args) ht hw hR
  refine jh_after (va_runV (C := C) (b := ja E o 0) (As := as) (rest := st) (Ts := Cond.code y cc nL ret :: lw_g) (own := y.cls) ⟨hx, hb, hm, ho, ht⟩ hC ⟨hB0, ht _ (List.mem_cons_of_mem _ hw2.1), ht _ (List.mem_cons_of_mem _ hw2.2)⟩ ⟨jC.blind, ?_, fun U hU hW => ⟨rfl, by rw [hU]; exact hh.1, hex.2.2.go hW.alike hh.2 hU⟩⟩ rfl hlen hl.1 hs.symm (lv_room hcat) d ⟨Nat.zero_le _, Nat.zero_le _⟩) hh.2 (fun H1 locs1 hH1 hS1 => kk p e s m args below meth c H1 locs1 ls hx hb hm ho ht hex hl ⟨hH1, hS1⟩)
  obtain ⟨cell, q1, q2, q3, q4⟩ := hh.1.2.1 o hB
  obtain ⟨hS, hfc, kC, hkC, hkind⟩ := hex.2.2.1.1 _ _ hcl
  exact ⟨cell, q1, by rw [q3]; rfl, by rw [q2]; exact hfc⟩
theorem jh_callS {idx : Nat} {y2 : MethodName} {cc2 : ByteArray} {nL2 : Nat} {ret2 : Option FieldType} {nn : Nat} {R2 : Room} {rv : Option Value} {M1 : jx_M} {as stk : List Value} (hC : jC E y2 cc2 nL2 ret2 R2 as M (fun v M'' => v = rv ∧ M'' = M1)) (hw : jwB y.cls idx y2 cc2 nL2 ret2 nn) (hw2 : Cond.static y2 ∈ lw_g) (hR : jrm R R2 nL2) (hlen : as.length = nn) (hs : as.reverse ++ st = stk) (hcat : (st.map fun v => v.category).sum ≤ 8) (d : decode cc pc = .ok (.invokestatic idx, 3)) (hn : pc + 3 = n) (kk : jJ E y cc nL ret R Q n L (rv.toList ++ st) M1) : jJ E y cc nL ret R Q pc L stk M := by
  subst hn
  intro p e s m args below meth c H locs ls hx hb hm ho ht hex hl hh
  have hB0 := jcallB (R := R) (s := s) (args := args) ht hw hR
  exact jh_after (va_runS (As := as) (rest := st) (Ts := Cond.code y cc nL ret :: lw_g) (own := y.cls) ⟨hx, hb, hm, ho, ht⟩ hC ⟨hB0, ht _ (List.mem_cons_of_mem _ hw2)⟩ ⟨jC.blind, fun U hU hW => ⟨rfl, by rw [hU]; exact hh.1, hex.2.2.go hW.alike hh.2 hU⟩⟩ rfl hlen hl.1 hs.symm (lv_room hcat) d ⟨Nat.zero_le _, Nat.zero_le _⟩) hh.2 (fun H1 locs1 hH1 hS1 => kk p e s m args below meth c H1 locs1 ls hx hb hm ho ht hex hl ⟨hH1, hS1⟩)
/-- System.arraycopy -/
def jcp (sp dp k : Int32) (n0 n1 : Nat) : Bool := decide (0 ≤ sp.toInt) && decide (0 ≤ dp.toInt) && decide (0 ≤ k.toInt) && decide (sp.toInt + k.toInt ≤ n0) && decide (dp.toInt + k.toInt ≤ n1)
def jx_cp (M : jx_M) (o k o1 k1 : Nat) (sp dp len : Int32) : jx_M := jx_set M o1 k1 (va_cpy (M o k) (M o1 k1) sp.toNatClampNeg dp.toNatClampNeg len.toNatClampNeg)
theorem jh_copy {idx : Nat} {ci k o N ci1 k1 o1 N1 : Nat} {sp dp len : Int32} (hlink : Cond.methodLink y.cls idx arraycopyName ∈ lw_g) (hnat : Cond.native arraycopyName ∈ lw_g) (hstat : Cond.static arraycopyName ∈ lw_g) (hini : Cond.initialized "java/lang/System" ∈ lw_g) (hoc : jx_c o = ci) (hB : jB E o) (hk : k < jx_n ci) (hk1 : jx_k ci k = 1) (hN : jx_l ci k = N) (hoc1 : jx_c o1 = ci1) (hB1 : jB E o1) (hk2 : k1 < jx_n ci1) (hk3 : jx_k ci1 k1 = 1) (hN1 : jx_l ci1 k1 = N1) (hin : jcp sp dp len N N1 = true) (hfr : 1 ≤ R.frames) (hlo : (st.map fun v => v.category).sum + (nativeFrameWords "java/lang/System" "arraycopy" 5 + 11) ≤ R.locals) (d : decode cc pc = .ok (.invokestatic idx, 3)) (hn : pc + 3 = n) (kk : ∀ M1, M1 = jx_cp M o k o1 k1 sp dp len → jJ E y cc nL ret R Q n L st M1) : jJ E y cc nL ret R Q pc L (.int len :: .int dp :: .ref (ja E o1 (k1 + 1)) :: .int sp :: .ref (ja E o (k + 1)) :: st) M := by
  subst hn
  subst hoc
  subst hoc1
  subst hN
  subst hN1
  intro p e s m args below meth c H locs ls hx hb hm ho ht hex hl hh
  simp only [jcp, Bool.and_eq_true, decide_eq_true_eq] at hin
  obtain ⟨⟨⟨⟨g1, g2⟩, g3⟩, g4⟩, g5⟩ := hin
  have nn : ∀ z : Int32, 0 ≤ z.toInt → z.toInt = (z.toNatClampNeg : Int) := fun z hz => by
    show z.toInt = ((z.toInt.toNat : Nat) : Int)
    omega
  have ng : ∀ z : Int32, 0 ≤ z.toInt → ¬ z < 0 := fun z hz h => by
    have := Int32.lt_iff_toInt_lt.mp h
    rw [Int32.toInt_zero] at this
    omega
  have e1 := nn sp g1
  have e2 := nn dp g2
  have e3 := nn len g3
  have hc0 := hh.1.2.2 o k hB hk hk1
  have hc1 := hh.1.2.2 o1 k1 hB1 hk2 hk3
  intro T hT X
  have hAr : ArrOfT s E.2.2.1 .int := (hex.2.2.1.2 0 (E.2.2.1, .int) rfl).1
  obtain ⟨-, k0, hk0, cm0, hkk0⟩ := hAr (jx_l (jx_c o) k) (fun j => .int (M o k j))
  obtain ⟨-, k2, hkk, cm1, hkk1⟩ := hAr (jx_l (jx_c o1) k1) (fun j => .int (M o1 k1 j))
  have h4 : sp.toNatClampNeg + len.toNatClampNeg ≤ jx_l (jx_c o) k := by omega
  obtain ⟨vm', X', step⟩ := X.arraycopy hx ho (ht _ (List.mem_cons_of_mem _ hlink)) (ht _ (List.mem_cons_of_mem _ hnat)) (ht _ (List.mem_cons_of_mem _ hstat)) (ht _ (List.mem_cons_of_mem _ hini)) (src := ja E o (k + 1)) (dst := ja E o1 (k1 + 1)) (cs := vp_cell E.2.2.1 (jx_l (jx_c o) k, .inl (M o k))) (cd := vp_cell E.2.2.1 (jx_l (jx_c o1) k1, .inl (M o1 k1))) (srcPos := sp) (destPos := dp) (n := len) (by rw [hT]; exact hc0) (by rw [hT]; exact hc1)
    (fun _ h => by cases h) (fun _ h => by cases h) (fun h => by cases h) (fun h => by cases h) hk0 hkk hkk0 hkk1 (by simp [refKind]) (ng sp g1) (ng dp g2) (ng len g3)
    (by show ¬ _ > ((arrV _ _ (fun j => .int (M o k j))).slots.size : Int); rw [arrV_size]; omega)
    (by show ¬ _ > ((arrV _ _ (fun j => .int (M o1 k1 j))).slots.size : Int); rw [arrV_size]; omega)
    (fun vm₁ _ i hi => by
      have e : (vp_cell E.2.2.1 (jx_l (jx_c o) k, .inl (M o k))).slots.getD (sp.toNatClampNeg + i) .null = .int (M o k (sp.toNatClampNeg + i)) := by
        show (arrV _ _ (fun j => .int (M o k j))).slots.getD _ _ = _
        rw [Array.getD_eq_getD_getElem?, arrV_read _ _ (by omega)]
        rfl
      refine ⟨?_, ?_⟩
      · rw [e]
        rfl
      · rw [e]
        exact trivial)
    (g := F0 m pc ls (.int len :: .int dp :: .ref (ja E o1 (k1 + 1)) :: .int sp :: .ref (ja E o (k + 1)) :: st)) rfl (by rw [hm]; exact hl.1) (rest := st) rfl (by rw [hb]; exact d) hfr (by show 2 * 0 + _ + _ ≤ _; omega)
  have ec : copied (vp_cell E.2.2.1 (jx_l (jx_c o) k, .inl (M o k))) (vp_cell E.2.2.1 (jx_l (jx_c o1) k1, .inl (M o1 k1))) sp dp len = vp_cell E.2.2.1 (jx_l (jx_c o1) k1, .inl (va_cpy (M o k) (M o1 k1) sp.toNatClampNeg dp.toNatClampNeg len.toNatClampNeg)) := va_copied (fun z => .int z) _ _ (M o k) (M o1 k1) h4
  rw [ec] at X' step
  have hlz : ja E o1 (k1 + 1) < H.size := (Array.getElem?_eq_some_iff.mp hc1).1
  have hheap : ((T.setVm vm').setCell (ja E o1 (k1 + 1)) (vp_cell E.2.2.1 (jx_l (jx_c o1) k1, .inl (va_cpy (M o k) (M o1 k1) sp.toNatClampNeg dp.toNatClampNeg len.toNatClampNeg)))).heap = H.setIfInBounds (ja E o1 (k1 + 1)) (vp_cell E.2.2.1 (jx_l (jx_c o1) k1, .inl (va_cpy (M o k) (M o1 k1) sp.toNatClampNeg dp.toNatClampNeg len.toNatClampNeg))) := by rw [← hT]; rfl
  have oq : ∀ q : Nat, q ≠ ja E o1 (k1 + 1) → (H.setIfInBounds (ja E o1 (k1 + 1)) (vp_cell E.2.2.1 (jx_l (jx_c o1) k1, .inl (va_cpy (M o k) (M o1 k1) sp.toNatClampNeg dp.toNatClampNeg len.toNatClampNeg))))[q]? = H[q]? := fun q hq => by simp [Array.getElem?_setIfInBounds, Ne.symm hq]
  obtain ⟨t, a1, b1⟩ := kk _ rfl p e s m args below meth c _ _ ls hx hb hm ho ht hex hl ⟨jH.arr hh.1 hB1 hk2 hk3 (by simp [Array.getElem?_setIfInBounds, hlz]) oq, ⟨by simp; exact hh.2.1, fun q g1 g2 => by
      rw [oq q (fun e => g2 (by rw [e]; exact jA.of (jvld1 hB1 hk2 hk3)))]
      exact hh.2.2.1 q g1 g2, fun q hq => by
      rcases List.mem_append.mp hq with h | h
      · exact hh.2.2.2 q h
      · obtain ⟨z, -, hz⟩ := List.mem_map.mp h
        rw [← hz]
        exact jA.of (jvld1 hB1 hk2 hk3)⟩⟩ _ hheap X'
  exact ⟨t, step t a1, b1⟩
end JH
end
section
theorem zz_last : (1 : Nat) = 1 := rfl
end
