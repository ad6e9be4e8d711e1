-- ===== PART A: goes FIRST, ahead of the names: the tables' words, and 'selects' of the private methods out of them =====
/-- a private method of a class that the tables say can be made, by its rows of tables_1 -/
def lw_okq (q : MethodName × Nat) : Prop := (q.1.cls ≠ "java/lang/invoke/MethodHandle" ∧ q.1.cls ≠ "java/lang/invoke/VarHandle") ∧ Cond.instantiable q.1.cls q.2 ∈ tables_1 ∧ Cond.privateMethod q.1 ∈ tables_1 ∧ Cond.instanceMethod q.1 ∈ tables_1
theorem lw_p0 : lw_okq (⟨"FollowCab$Reader", "skipBlanks", "()V"⟩, 8) := ⟨⟨by decide +kernel, by decide +kernel⟩, List.mem_of_getElem? (i := 40) (by decide +kernel), List.mem_of_getElem? (i := 289) (by decide +kernel), List.mem_of_getElem? (i := 290) (by decide +kernel)⟩
theorem lw_p1 : lw_okq (⟨"FollowCab$Reader", "letter", "()I"⟩, 8) := ⟨⟨by decide +kernel, by decide +kernel⟩, List.mem_of_getElem? (i := 40) (by decide +kernel), List.mem_of_getElem? (i := 293) (by decide +kernel), List.mem_of_getElem? (i := 294) (by decide +kernel)⟩
theorem lw_p2 : lw_okq (⟨"FollowCab$Reader", "readClause", "()V"⟩, 8) := ⟨⟨by decide +kernel, by decide +kernel⟩, List.mem_of_getElem? (i := 40) (by decide +kernel), List.mem_of_getElem? (i := 301) (by decide +kernel), List.mem_of_getElem? (i := 302) (by decide +kernel)⟩
theorem lw_p3 : lw_okq (⟨"FollowCab$Reader", "blame", "(II)V"⟩, 8) := ⟨⟨by decide +kernel, by decide +kernel⟩, List.mem_of_getElem? (i := 40) (by decide +kernel), List.mem_of_getElem? (i := 305) (by decide +kernel), List.mem_of_getElem? (i := 306) (by decide +kernel)⟩
theorem lw_p4 : lw_okq (⟨"FollowCab$Reader", "readTown", "()V"⟩, 8) := ⟨⟨by decide +kernel, by decide +kernel⟩, List.mem_of_getElem? (i := 40) (by decide +kernel), List.mem_of_getElem? (i := 309) (by decide +kernel), List.mem_of_getElem? (i := 310) (by decide +kernel)⟩
theorem lw_p5 : lw_okq (⟨"FollowCab$Reader", "readNumber", "(II)I"⟩, 8) := ⟨⟨by decide +kernel, by decide +kernel⟩, List.mem_of_getElem? (i := 40) (by decide +kernel), List.mem_of_getElem? (i := 313) (by decide +kernel), List.mem_of_getElem? (i := 314) (by decide +kernel)⟩
theorem lw_p6 : lw_okq (⟨"FollowCab$Reader", "isFigure", "()Z"⟩, 8) := ⟨⟨by decide +kernel, by decide +kernel⟩, List.mem_of_getElem? (i := 40) (by decide +kernel), List.mem_of_getElem? (i := 317) (by decide +kernel), List.mem_of_getElem? (i := 318) (by decide +kernel)⟩
theorem lw_p7 : lw_okq (⟨"FollowCab$Reader", "readCar", "()V"⟩, 8) := ⟨⟨by decide +kernel, by decide +kernel⟩, List.mem_of_getElem? (i := 40) (by decide +kernel), List.mem_of_getElem? (i := 325) (by decide +kernel), List.mem_of_getElem? (i := 326) (by decide +kernel)⟩
theorem lw_p8 : lw_okq (⟨"FollowCab$Reader", "isRound", "(I)Z"⟩, 8) := ⟨⟨by decide +kernel, by decide +kernel⟩, List.mem_of_getElem? (i := 40) (by decide +kernel), List.mem_of_getElem? (i := 330) (by decide +kernel), List.mem_of_getElem? (i := 331) (by decide +kernel)⟩
theorem lw_p9 : lw_okq (⟨"FollowCab$Reader", "readFollowing", "()V"⟩, 8) := ⟨⟨by decide +kernel, by decide +kernel⟩, List.mem_of_getElem? (i := 40) (by decide +kernel), List.mem_of_getElem? (i := 349) (by decide +kernel), List.mem_of_getElem? (i := 350) (by decide +kernel)⟩
theorem lw_p10 : lw_okq (⟨"FollowCab$Reader", "readSemicolon", "()V"⟩, 8) := ⟨⟨by decide +kernel, by decide +kernel⟩, List.mem_of_getElem? (i := 40) (by decide +kernel), List.mem_of_getElem? (i := 353) (by decide +kernel), List.mem_of_getElem? (i := 354) (by decide +kernel)⟩
theorem lw_p11 : lw_okq (⟨"FollowCab$Scene", "ringOf", "(I)I"⟩, 8) := ⟨⟨by decide +kernel, by decide +kernel⟩, List.mem_of_getElem? (i := 46) (by decide +kernel), List.mem_of_getElem? (i := 396) (by decide +kernel), List.mem_of_getElem? (i := 397) (by decide +kernel)⟩
theorem lw_p12 : lw_okq (⟨"FollowCab$Scene", "leadersOf", "(I)I"⟩, 8) := ⟨⟨by decide +kernel, by decide +kernel⟩, List.mem_of_getElem? (i := 46) (by decide +kernel), List.mem_of_getElem? (i := 400) (by decide +kernel), List.mem_of_getElem? (i := 401) (by decide +kernel)⟩
theorem lw_p13 : lw_okq (⟨"FollowCab", "isCar", "(I)Z"⟩, 13) := ⟨⟨by decide +kernel, by decide +kernel⟩, List.mem_of_getElem? (i := 16) (by decide +kernel), List.mem_of_getElem? (i := 429) (by decide +kernel), List.mem_of_getElem? (i := 430) (by decide +kernel)⟩
theorem lw_p14 : lw_okq (⟨"FollowCab", "refusalOfSteps", "(I)I"⟩, 13) := ⟨⟨by decide +kernel, by decide +kernel⟩, List.mem_of_getElem? (i := 16) (by decide +kernel), List.mem_of_getElem? (i := 438) (by decide +kernel), List.mem_of_getElem? (i := 439) (by decide +kernel)⟩
theorem lw_p15 : lw_okq (⟨"FollowCab$Scene", "goRound", "(I)I"⟩, 8) := ⟨⟨by decide +kernel, by decide +kernel⟩, List.mem_of_getElem? (i := 46) (by decide +kernel), List.mem_of_getElem? (i := 457) (by decide +kernel), List.mem_of_getElem? (i := 458) (by decide +kernel)⟩
def lw_privs_1 : List (MethodName × Nat) := [(⟨"FollowCab$Reader", "skipBlanks", "()V"⟩, 8), (⟨"FollowCab$Reader", "letter", "()I"⟩, 8), (⟨"FollowCab$Reader", "readClause", "()V"⟩, 8), (⟨"FollowCab$Reader", "blame", "(II)V"⟩, 8), (⟨"FollowCab$Reader", "readTown", "()V"⟩, 8), (⟨"FollowCab$Reader", "readNumber", "(II)I"⟩, 8), (⟨"FollowCab$Reader", "isFigure", "()Z"⟩, 8), (⟨"FollowCab$Reader", "readCar", "()V"⟩, 8), (⟨"FollowCab$Reader", "isRound", "(I)Z"⟩, 8), (⟨"FollowCab$Reader", "readFollowing", "()V"⟩, 8), (⟨"FollowCab$Reader", "readSemicolon", "()V"⟩, 8), (⟨"FollowCab$Scene", "ringOf", "(I)I"⟩, 8), (⟨"FollowCab$Scene", "leadersOf", "(I)I"⟩, 8), (⟨"FollowCab", "isCar", "(I)Z"⟩, 13), (⟨"FollowCab", "refusalOfSteps", "(I)I"⟩, 13), (⟨"FollowCab$Scene", "goRound", "(I)I"⟩, 8)]
theorem lw_r1 : ∀ q ∈ lw_privs_1, lw_okq q := List.forall_mem_cons.mpr ⟨lw_p0, List.forall_mem_cons.mpr ⟨lw_p1, List.forall_mem_cons.mpr ⟨lw_p2, List.forall_mem_cons.mpr ⟨lw_p3, List.forall_mem_cons.mpr ⟨lw_p4, List.forall_mem_cons.mpr ⟨lw_p5, List.forall_mem_cons.mpr ⟨lw_p6, List.forall_mem_cons.mpr ⟨lw_p7, List.forall_mem_cons.mpr ⟨lw_p8, List.forall_mem_cons.mpr ⟨lw_p9, List.forall_mem_cons.mpr ⟨lw_p10, List.forall_mem_cons.mpr ⟨lw_p11, List.forall_mem_cons.mpr ⟨lw_p12, List.forall_mem_cons.mpr ⟨lw_p13, List.forall_mem_cons.mpr ⟨lw_p14, List.forall_mem_cons.mpr ⟨lw_p15, fun _ h => absurd h List.not_mem_nil⟩⟩⟩⟩⟩⟩⟩⟩⟩⟩⟩⟩⟩⟩⟩⟩
theorem lw_p16 : lw_okq (⟨"FollowCab", "areTwoCars", "(II)Z"⟩, 13) := ⟨⟨by decide +kernel, by decide +kernel⟩, List.mem_of_getElem? (i := 16) (by decide +kernel), List.mem_of_getElem? (i := 467) (by decide +kernel), List.mem_of_getElem? (i := 468) (by decide +kernel)⟩
theorem lw_p17 : lw_okq (⟨"FollowCab", "askByDraws", "()V"⟩, 13) := ⟨⟨by decide +kernel, by decide +kernel⟩, List.mem_of_getElem? (i := 16) (by decide +kernel), List.mem_of_getElem? (i := 490) (by decide +kernel), List.mem_of_getElem? (i := 491) (by decide +kernel)⟩
theorem lw_p18 : lw_okq (⟨"FollowCab$Scene", "isAnEnd", "(I)Z"⟩, 8) := ⟨⟨by decide +kernel, by decide +kernel⟩, List.mem_of_getElem? (i := 46) (by decide +kernel), List.mem_of_getElem? (i := 538) (by decide +kernel), List.mem_of_getElem? (i := 539) (by decide +kernel)⟩
theorem lw_p19 : lw_okq (⟨"FollowCab", "isCorner", "(I)Z"⟩, 13) := ⟨⟨by decide +kernel, by decide +kernel⟩, List.mem_of_getElem? (i := 16) (by decide +kernel), List.mem_of_getElem? (i := 561) (by decide +kernel), List.mem_of_getElem? (i := 562) (by decide +kernel)⟩
theorem lw_p20 : lw_okq (⟨"FollowCab$Guess", "recordTrack", "(II)V"⟩, 3) := ⟨⟨by decide +kernel, by decide +kernel⟩, List.mem_of_getElem? (i := 195) (by decide +kernel), List.mem_of_getElem? (i := 603) (by decide +kernel), List.mem_of_getElem? (i := 604) (by decide +kernel)⟩
theorem lw_p21 : lw_okq (⟨"FollowCab$Guess", "fits", "(IILFollowCab$Entries;)Z"⟩, 3) := ⟨⟨by decide +kernel, by decide +kernel⟩, List.mem_of_getElem? (i := 195) (by decide +kernel), List.mem_of_getElem? (i := 608) (by decide +kernel), List.mem_of_getElem? (i := 609) (by decide +kernel)⟩
theorem lw_p22 : lw_okq (⟨"FollowCab$Guess", "greatestPart", "(I)I"⟩, 3) := ⟨⟨by decide +kernel, by decide +kernel⟩, List.mem_of_getElem? (i := 195) (by decide +kernel), List.mem_of_getElem? (i := 621) (by decide +kernel), List.mem_of_getElem? (i := 622) (by decide +kernel)⟩
theorem lw_p23 : lw_okq (⟨"FollowCab$Guess", "partAlike", "(II)I"⟩, 3) := ⟨⟨by decide +kernel, by decide +kernel⟩, List.mem_of_getElem? (i := 195) (by decide +kernel), List.mem_of_getElem? (i := 626) (by decide +kernel), List.mem_of_getElem? (i := 627) (by decide +kernel)⟩
theorem lw_p24 : lw_okq (⟨"FollowCabModel", "here", "()I"⟩, 34) := ⟨⟨by decide +kernel, by decide +kernel⟩, List.mem_of_getElem? (i := 663) (by decide +kernel), List.mem_of_getElem? (i := 786) (by decide +kernel), List.mem_of_getElem? (i := 787) (by decide +kernel)⟩
theorem lw_p25 : lw_okq (⟨"FollowCabModel", "takeClause", "()I"⟩, 34) := ⟨⟨by decide +kernel, by decide +kernel⟩, List.mem_of_getElem? (i := 663) (by decide +kernel), List.mem_of_getElem? (i := 790) (by decide +kernel), List.mem_of_getElem? (i := 791) (by decide +kernel)⟩
theorem lw_p26 : lw_okq (⟨"FollowCabModel", "fails", "(II)I"⟩, 34) := ⟨⟨by decide +kernel, by decide +kernel⟩, List.mem_of_getElem? (i := 663) (by decide +kernel), List.mem_of_getElem? (i := 794) (by decide +kernel), List.mem_of_getElem? (i := 795) (by decide +kernel)⟩
theorem lw_p27 : lw_okq (⟨"FollowCabModel", "takeTown", "()I"⟩, 34) := ⟨⟨by decide +kernel, by decide +kernel⟩, List.mem_of_getElem? (i := 663) (by decide +kernel), List.mem_of_getElem? (i := 798) (by decide +kernel), List.mem_of_getElem? (i := 799) (by decide +kernel)⟩
theorem lw_p28 : lw_okq (⟨"FollowCabModel", "into", "([IIII)I"⟩, 34) := ⟨⟨by decide +kernel, by decide +kernel⟩, List.mem_of_getElem? (i := 663) (by decide +kernel), List.mem_of_getElem? (i := 802) (by decide +kernel), List.mem_of_getElem? (i := 803) (by decide +kernel)⟩
theorem lw_p29 : lw_okq (⟨"FollowCabModel", "takeNumber", "(II)I"⟩, 34) := ⟨⟨by decide +kernel, by decide +kernel⟩, List.mem_of_getElem? (i := 663) (by decide +kernel), List.mem_of_getElem? (i := 806) (by decide +kernel), List.mem_of_getElem? (i := 807) (by decide +kernel)⟩
theorem lw_p30 : lw_okq (⟨"FollowCabModel", "takeCar", "()I"⟩, 34) := ⟨⟨by decide +kernel, by decide +kernel⟩, List.mem_of_getElem? (i := 663) (by decide +kernel), List.mem_of_getElem? (i := 813) (by decide +kernel), List.mem_of_getElem? (i := 814) (by decide +kernel)⟩
theorem lw_p31 : lw_okq (⟨"FollowCabModel", "takeFollows", "()I"⟩, 34) := ⟨⟨by decide +kernel, by decide +kernel⟩, List.mem_of_getElem? (i := 663) (by decide +kernel), List.mem_of_getElem? (i := 818) (by decide +kernel), List.mem_of_getElem? (i := 819) (by decide +kernel)⟩
def lw_privs_2 : List (MethodName × Nat) := [(⟨"FollowCab", "areTwoCars", "(II)Z"⟩, 13), (⟨"FollowCab", "askByDraws", "()V"⟩, 13), (⟨"FollowCab$Scene", "isAnEnd", "(I)Z"⟩, 8), (⟨"FollowCab", "isCorner", "(I)Z"⟩, 13), (⟨"FollowCab$Guess", "recordTrack", "(II)V"⟩, 3), (⟨"FollowCab$Guess", "fits", "(IILFollowCab$Entries;)Z"⟩, 3), (⟨"FollowCab$Guess", "greatestPart", "(I)I"⟩, 3), (⟨"FollowCab$Guess", "partAlike", "(II)I"⟩, 3), (⟨"FollowCabModel", "here", "()I"⟩, 34), (⟨"FollowCabModel", "takeClause", "()I"⟩, 34), (⟨"FollowCabModel", "fails", "(II)I"⟩, 34), (⟨"FollowCabModel", "takeTown", "()I"⟩, 34), (⟨"FollowCabModel", "into", "([IIII)I"⟩, 34), (⟨"FollowCabModel", "takeNumber", "(II)I"⟩, 34), (⟨"FollowCabModel", "takeCar", "()I"⟩, 34), (⟨"FollowCabModel", "takeFollows", "()I"⟩, 34)]
theorem lw_r2 : ∀ q ∈ lw_privs_2, lw_okq q := List.forall_mem_cons.mpr ⟨lw_p16, List.forall_mem_cons.mpr ⟨lw_p17, List.forall_mem_cons.mpr ⟨lw_p18, List.forall_mem_cons.mpr ⟨lw_p19, List.forall_mem_cons.mpr ⟨lw_p20, List.forall_mem_cons.mpr ⟨lw_p21, List.forall_mem_cons.mpr ⟨lw_p22, List.forall_mem_cons.mpr ⟨lw_p23, List.forall_mem_cons.mpr ⟨lw_p24, List.forall_mem_cons.mpr ⟨lw_p25, List.forall_mem_cons.mpr ⟨lw_p26, List.forall_mem_cons.mpr ⟨lw_p27, List.forall_mem_cons.mpr ⟨lw_p28, List.forall_mem_cons.mpr ⟨lw_p29, List.forall_mem_cons.mpr ⟨lw_p30, List.forall_mem_cons.mpr ⟨lw_p31, fun _ h => absurd h List.not_mem_nil⟩⟩⟩⟩⟩⟩⟩⟩⟩⟩⟩⟩⟩⟩⟩⟩
theorem lw_p32 : lw_okq (⟨"FollowCabModel", "takeRead", "()V"⟩, 34) := ⟨⟨by decide +kernel, by decide +kernel⟩, List.mem_of_getElem? (i := 663) (by decide +kernel), List.mem_of_getElem? (i := 822) (by decide +kernel), List.mem_of_getElem? (i := 823) (by decide +kernel)⟩
theorem lw_p33 : lw_okq (⟨"FollowCabModel", "taken", "()I"⟩, 34) := ⟨⟨by decide +kernel, by decide +kernel⟩, List.mem_of_getElem? (i := 663) (by decide +kernel), List.mem_of_getElem? (i := 834) (by decide +kernel), List.mem_of_getElem? (i := 835) (by decide +kernel)⟩
theorem lw_p34 : lw_okq (⟨"FollowCabModel", "followers", "()I"⟩, 34) := ⟨⟨by decide +kernel, by decide +kernel⟩, List.mem_of_getElem? (i := 663) (by decide +kernel), List.mem_of_getElem? (i := 838) (by decide +kernel), List.mem_of_getElem? (i := 839) (by decide +kernel)⟩
theorem lw_p35 : lw_okq (⟨"FollowCabModel", "ringsNow", "(I)I"⟩, 34) := ⟨⟨by decide +kernel, by decide +kernel⟩, List.mem_of_getElem? (i := 663) (by decide +kernel), List.mem_of_getElem? (i := 842) (by decide +kernel), List.mem_of_getElem? (i := 843) (by decide +kernel)⟩
theorem lw_p36 : lw_okq (⟨"FollowCabModel", "ringOf", "(I)I"⟩, 34) := ⟨⟨by decide +kernel, by decide +kernel⟩, List.mem_of_getElem? (i := 663) (by decide +kernel), List.mem_of_getElem? (i := 846) (by decide +kernel), List.mem_of_getElem? (i := 847) (by decide +kernel)⟩
theorem lw_p37 : lw_okq (⟨"FollowCabModel", "heads", "()I"⟩, 34) := ⟨⟨by decide +kernel, by decide +kernel⟩, List.mem_of_getElem? (i := 663) (by decide +kernel), List.mem_of_getElem? (i := 856) (by decide +kernel), List.mem_of_getElem? (i := 857) (by decide +kernel)⟩
theorem lw_p38 : lw_okq (⟨"FollowCabModel", "behindOf", "(I)I"⟩, 34) := ⟨⟨by decide +kernel, by decide +kernel⟩, List.mem_of_getElem? (i := 663) (by decide +kernel), List.mem_of_getElem? (i := 860) (by decide +kernel), List.mem_of_getElem? (i := 861) (by decide +kernel)⟩
theorem lw_p39 : lw_okq (⟨"FollowCabModel", "isCar", "(I)Z"⟩, 34) := ⟨⟨by decide +kernel, by decide +kernel⟩, List.mem_of_getElem? (i := 663) (by decide +kernel), List.mem_of_getElem? (i := 868) (by decide +kernel), List.mem_of_getElem? (i := 869) (by decide +kernel)⟩
theorem lw_p40 : lw_okq (⟨"FollowCabModel", "roundOf", "(I)I"⟩, 34) := ⟨⟨by decide +kernel, by decide +kernel⟩, List.mem_of_getElem? (i := 663) (by decide +kernel), List.mem_of_getElem? (i := 873) (by decide +kernel), List.mem_of_getElem? (i := 874) (by decide +kernel)⟩
theorem lw_p41 : lw_okq (⟨"FollowCabModel", "cornerOf", "(II)I"⟩, 34) := ⟨⟨by decide +kernel, by decide +kernel⟩, List.mem_of_getElem? (i := 663) (by decide +kernel), List.mem_of_getElem? (i := 877) (by decide +kernel), List.mem_of_getElem? (i := 878) (by decide +kernel)⟩
theorem lw_p42 : lw_okq (⟨"FollowCabModel", "stepsRefused", "(I)I"⟩, 34) := ⟨⟨by decide +kernel, by decide +kernel⟩, List.mem_of_getElem? (i := 663) (by decide +kernel), List.mem_of_getElem? (i := 885) (by decide +kernel), List.mem_of_getElem? (i := 886) (by decide +kernel)⟩
theorem lw_p43 : lw_okq (⟨"FollowCabModel", "remember", "()V"⟩, 34) := ⟨⟨by decide +kernel, by decide +kernel⟩, List.mem_of_getElem? (i := 663) (by decide +kernel), List.mem_of_getElem? (i := 891) (by decide +kernel), List.mem_of_getElem? (i := 892) (by decide +kernel)⟩
theorem lw_p44 : lw_okq (⟨"FollowCabModel", "stepAll", "()V"⟩, 34) := ⟨⟨by decide +kernel, by decide +kernel⟩, List.mem_of_getElem? (i := 663) (by decide +kernel), List.mem_of_getElem? (i := 895) (by decide +kernel), List.mem_of_getElem? (i := 896) (by decide +kernel)⟩
theorem lw_p45 : lw_okq (⟨"FollowCabModel", "areTwo", "(II)Z"⟩, 34) := ⟨⟨by decide +kernel, by decide +kernel⟩, List.mem_of_getElem? (i := 663) (by decide +kernel), List.mem_of_getElem? (i := 903) (by decide +kernel), List.mem_of_getElem? (i := 904) (by decide +kernel)⟩
theorem lw_p46 : lw_okq (⟨"FollowCabModel", "chance", "()V"⟩, 34) := ⟨⟨by decide +kernel, by decide +kernel⟩, List.mem_of_getElem? (i := 663) (by decide +kernel), List.mem_of_getElem? (i := 919) (by decide +kernel), List.mem_of_getElem? (i := 920) (by decide +kernel)⟩
theorem lw_p47 : lw_okq (⟨"FollowCabModel", "draw", "(I)I"⟩, 34) := ⟨⟨by decide +kernel, by decide +kernel⟩, List.mem_of_getElem? (i := 663) (by decide +kernel), List.mem_of_getElem? (i := 923) (by decide +kernel), List.mem_of_getElem? (i := 924) (by decide +kernel)⟩
def lw_privs_3 : List (MethodName × Nat) := [(⟨"FollowCabModel", "takeRead", "()V"⟩, 34), (⟨"FollowCabModel", "taken", "()I"⟩, 34), (⟨"FollowCabModel", "followers", "()I"⟩, 34), (⟨"FollowCabModel", "ringsNow", "(I)I"⟩, 34), (⟨"FollowCabModel", "ringOf", "(I)I"⟩, 34), (⟨"FollowCabModel", "heads", "()I"⟩, 34), (⟨"FollowCabModel", "behindOf", "(I)I"⟩, 34), (⟨"FollowCabModel", "isCar", "(I)Z"⟩, 34), (⟨"FollowCabModel", "roundOf", "(I)I"⟩, 34), (⟨"FollowCabModel", "cornerOf", "(II)I"⟩, 34), (⟨"FollowCabModel", "stepsRefused", "(I)I"⟩, 34), (⟨"FollowCabModel", "remember", "()V"⟩, 34), (⟨"FollowCabModel", "stepAll", "()V"⟩, 34), (⟨"FollowCabModel", "areTwo", "(II)Z"⟩, 34), (⟨"FollowCabModel", "chance", "()V"⟩, 34), (⟨"FollowCabModel", "draw", "(I)I"⟩, 34)]
theorem lw_r3 : ∀ q ∈ lw_privs_3, lw_okq q := List.forall_mem_cons.mpr ⟨lw_p32, List.forall_mem_cons.mpr ⟨lw_p33, List.forall_mem_cons.mpr ⟨lw_p34, List.forall_mem_cons.mpr ⟨lw_p35, List.forall_mem_cons.mpr ⟨lw_p36, List.forall_mem_cons.mpr ⟨lw_p37, List.forall_mem_cons.mpr ⟨lw_p38, List.forall_mem_cons.mpr ⟨lw_p39, List.forall_mem_cons.mpr ⟨lw_p40, List.forall_mem_cons.mpr ⟨lw_p41, List.forall_mem_cons.mpr ⟨lw_p42, List.forall_mem_cons.mpr ⟨lw_p43, List.forall_mem_cons.mpr ⟨lw_p44, List.forall_mem_cons.mpr ⟨lw_p45, List.forall_mem_cons.mpr ⟨lw_p46, List.forall_mem_cons.mpr ⟨lw_p47, fun _ h => absurd h List.not_mem_nil⟩⟩⟩⟩⟩⟩⟩⟩⟩⟩⟩⟩⟩⟩⟩⟩
theorem lw_p48 : lw_okq (⟨"FollowCabModel", "save", "()V"⟩, 34) := ⟨⟨by decide +kernel, by decide +kernel⟩, List.mem_of_getElem? (i := 663) (by decide +kernel), List.mem_of_getElem? (i := 940) (by decide +kernel), List.mem_of_getElem? (i := 941) (by decide +kernel)⟩
theorem lw_p49 : lw_okq (⟨"FollowCabModel", "stepTo", "(I)V"⟩, 34) := ⟨⟨by decide +kernel, by decide +kernel⟩, List.mem_of_getElem? (i := 663) (by decide +kernel), List.mem_of_getElem? (i := 944) (by decide +kernel), List.mem_of_getElem? (i := 945) (by decide +kernel)⟩
theorem lw_p50 : lw_okq (⟨"FollowCabModel", "putBack", "()V"⟩, 34) := ⟨⟨by decide +kernel, by decide +kernel⟩, List.mem_of_getElem? (i := 663) (by decide +kernel), List.mem_of_getElem? (i := 948) (by decide +kernel), List.mem_of_getElem? (i := 949) (by decide +kernel)⟩
theorem lw_p51 : lw_okq (⟨"FollowCabModel", "isCorner", "(I)Z"⟩, 34) := ⟨⟨by decide +kernel, by decide +kernel⟩, List.mem_of_getElem? (i := 663) (by decide +kernel), List.mem_of_getElem? (i := 976) (by decide +kernel), List.mem_of_getElem? (i := 977) (by decide +kernel)⟩
theorem lw_p52 : lw_okq (⟨"FollowCabModel", "handedOn", "(I)I"⟩, 34) := ⟨⟨by decide +kernel, by decide +kernel⟩, List.mem_of_getElem? (i := 663) (by decide +kernel), List.mem_of_getElem? (i := 985) (by decide +kernel), List.mem_of_getElem? (i := 986) (by decide +kernel)⟩
theorem lw_p53 : lw_okq (⟨"FollowCabModel", "couldFollow", "(II)Z"⟩, 34) := ⟨⟨by decide +kernel, by decide +kernel⟩, List.mem_of_getElem? (i := 663) (by decide +kernel), List.mem_of_getElem? (i := 1008) (by decide +kernel), List.mem_of_getElem? (i := 1009) (by decide +kernel)⟩
theorem lw_p54 : lw_okq (⟨"FollowCabModel", "findWay", "(II)V"⟩, 34) := ⟨⟨by decide +kernel, by decide +kernel⟩, List.mem_of_getElem? (i := 663) (by decide +kernel), List.mem_of_getElem? (i := 1012) (by decide +kernel), List.mem_of_getElem? (i := 1013) (by decide +kernel)⟩
def lw_privs_4 : List (MethodName × Nat) := [(⟨"FollowCabModel", "save", "()V"⟩, 34), (⟨"FollowCabModel", "stepTo", "(I)V"⟩, 34), (⟨"FollowCabModel", "putBack", "()V"⟩, 34), (⟨"FollowCabModel", "isCorner", "(I)Z"⟩, 34), (⟨"FollowCabModel", "handedOn", "(I)I"⟩, 34), (⟨"FollowCabModel", "couldFollow", "(II)Z"⟩, 34), (⟨"FollowCabModel", "findWay", "(II)V"⟩, 34)]
theorem lw_r4 : ∀ q ∈ lw_privs_4, lw_okq q := List.forall_mem_cons.mpr ⟨lw_p48, List.forall_mem_cons.mpr ⟨lw_p49, List.forall_mem_cons.mpr ⟨lw_p50, List.forall_mem_cons.mpr ⟨lw_p51, List.forall_mem_cons.mpr ⟨lw_p52, List.forall_mem_cons.mpr ⟨lw_p53, List.forall_mem_cons.mpr ⟨lw_p54, fun _ h => absurd h List.not_mem_nil⟩⟩⟩⟩⟩⟩⟩
def lw_privs : List (MethodName × Nat) := lw_privs_1 ++ (lw_privs_2 ++ (lw_privs_3 ++ (lw_privs_4)))
def lw_tbl : List Cond := k2_sels lw_privs ++ tables_1
theorem lw_privs_ok : ∀ q ∈ lw_privs, lw_okq q := by
  show ∀ q ∈ lw_privs_1 ++ (lw_privs_2 ++ (lw_privs_3 ++ (lw_privs_4))), lw_okq q
  exact List.forall_mem_append.mpr ⟨lw_r1, List.forall_mem_append.mpr ⟨lw_r2, List.forall_mem_append.mpr ⟨lw_r3, lw_r4⟩⟩⟩
def RX0 : String := "FollowCab$Draws"
def TX0 : u_T := fun k => match k with
  | _ => ("FollowCab$Draws", "value", "I", false)
def tyX0 : Nat → FieldType := fun k => match k with
  | _ => .int
abbrev wsX00 : List Cond := u_ws RX0 TX0 1
theorem nmX0 : ∀ a, a < 1 → ∀ b, b < 1 → a ≠ b → (TX0 a).2.1 ≠ (TX0 b).2.1 := by decide +kernel
theorem tyX0_ok : ∀ k, k < 1 → parseFieldDescriptor (TX0 k).2.2.1 = some (tyX0 k) := by decide +kernel
abbrev cX0_init : ByteArray := prog_2_method_1_code
def yX0_init : MethodName := ⟨RX0, "<init>", "()V"⟩
abbrev cX0_drawOf : ByteArray := prog_2_method_2_code
def yX0_drawOf : MethodName := ⟨RX0, "drawOf", "(I)I"⟩
def RX1 : String := "FollowCab$Entries"
def TX1 : u_T := fun k => match k with
  | 0 => ("FollowCab$Entries", "most", "I", true)
  | 1 => ("FollowCab$Entries", "car", "[I", true)
  | 2 => ("FollowCab$Entries", "steps", "[I", true)
  | 3 => ("FollowCab$Entries", "corner", "[I", true)
  | _ => ("FollowCab$Entries", "count", "I", false)
def tyX1 : Nat → FieldType := fun k => match k with
  | 0 => .int
  | 1 => .array .int
  | 2 => .array .int
  | 3 => .array .int
  | _ => .int
abbrev wsX10 : List Cond := u_ws RX1 TX1 5
theorem nmX1 : ∀ a, a < 5 → ∀ b, b < 5 → a ≠ b → (TX1 a).2.1 ≠ (TX1 b).2.1 := by decide +kernel
theorem tyX1_ok : ∀ k, k < 5 → parseFieldDescriptor (TX1 k).2.2.1 = some (tyX1 k) := by decide +kernel
abbrev cX1_init : ByteArray := prog_3_method_1_code
def yX1_init : MethodName := ⟨RX1, "<init>", "(I)V"⟩
abbrev cX1_add : ByteArray := prog_3_method_2_code
def yX1_add : MethodName := ⟨RX1, "add", "(III)I"⟩
def RX2 : String := "FollowCab$Figures"
def TX2 : u_T := fun k => match k with
  | _ => ("", "", "", false)
def tyX2 : Nat → FieldType := fun k => match k with
  | _ => .int
abbrev wsX20 : List Cond := u_ws RX2 TX2 0
theorem nmX2 : ∀ a, a < 0 → ∀ b, b < 0 → a ≠ b → (TX2 a).2.1 ≠ (TX2 b).2.1 := by decide +kernel
theorem tyX2_ok : ∀ k, k < 0 → parseFieldDescriptor (TX2 k).2.2.1 = some (tyX2 k) := by decide +kernel
abbrev cX2_count : ByteArray := prog_4_method_2_code
def yX2_count : MethodName := ⟨RX2, "count", "(I)I"⟩
abbrev cX2_at : ByteArray := prog_4_method_3_code
def yX2_at : MethodName := ⟨RX2, "at", "(II)I"⟩
abbrev cX2_reversed : ByteArray := prog_4_method_4_code
def yX2_reversed : MethodName := ⟨RX2, "reversed", "(I)I"⟩
abbrev cX2_areAllUpTo : ByteArray := prog_4_method_5_code
def yX2_areAllUpTo : MethodName := ⟨RX2, "areAllUpTo", "(II)Z"⟩
def RX3 : String := "FollowCab$Guess"
def TX3 : u_T := fun k => match k with
  | 0 => ("FollowCab$Guess", "track", "[[I", true)
  | 1 => ("FollowCab$Guess", "tried", "LFollowCab$Scene;", true)
  | _ => ("FollowCab$Guess", "fitting", "I", false)
def tyX3 : Nat → FieldType := fun k => match k with
  | 0 => .array (.array .int)
  | 1 => .object "FollowCab$Scene"
  | _ => .int
abbrev wsX30 : List Cond := u_ws RX3 TX3 3
theorem nmX3 : ∀ a, a < 3 → ∀ b, b < 3 → a ≠ b → (TX3 a).2.1 ≠ (TX3 b).2.1 := by decide +kernel
theorem tyX3_ok : ∀ k, k < 3 → parseFieldDescriptor (TX3 k).2.2.1 = some (tyX3 k) := by decide +kernel
abbrev cX3_init : ByteArray := prog_5_method_1_code
def yX3_init : MethodName := ⟨RX3, "<init>", "()V"⟩
abbrev cX3_weigh : ByteArray := prog_5_method_2_code
def yX3_weigh : MethodName := ⟨RX3, "weigh", "(LFollowCab$Scene;ILFollowCab$Entries;)V"⟩
abbrev cX3_recordTrack : ByteArray := prog_5_method_3_code
def yX3_recordTrack : MethodName := ⟨RX3, "recordTrack", "(II)V"⟩
abbrev cX3_fits : ByteArray := prog_5_method_4_code
def yX3_fits : MethodName := ⟨RX3, "fits", "(IILFollowCab$Entries;)Z"⟩
abbrev cX3_bestLook : ByteArray := prog_5_method_5_code
def yX3_bestLook : MethodName := ⟨RX3, "bestLook", "()I"⟩
abbrev cX3_greatestPart : ByteArray := prog_5_method_6_code
def yX3_greatestPart : MethodName := ⟨RX3, "greatestPart", "(I)I"⟩
abbrev cX3_partAlike : ByteArray := prog_5_method_7_code
def yX3_partAlike : MethodName := ⟨RX3, "partAlike", "(II)I"⟩
def RX4 : String := "FollowCab$History"
def TX4 : u_T := fun k => match k with
  | 0 => ("FollowCab$History", "kept", "[LFollowCab$Scene;", true)
  | 1 => ("FollowCab$History", "top", "I", false)
  | _ => ("FollowCab$History", "count", "I", false)
def tyX4 : Nat → FieldType := fun k => match k with
  | 0 => .array (.object "FollowCab$Scene")
  | 1 => .int
  | _ => .int
abbrev wsX40 : List Cond := u_ws RX4 TX4 3
theorem nmX4 : ∀ a, a < 3 → ∀ b, b < 3 → a ≠ b → (TX4 a).2.1 ≠ (TX4 b).2.1 := by decide +kernel
theorem tyX4_ok : ∀ k, k < 3 → parseFieldDescriptor (TX4 k).2.2.1 = some (tyX4 k) := by decide +kernel
abbrev cX4_init : ByteArray := prog_6_method_1_code
def yX4_init : MethodName := ⟨RX4, "<init>", "()V"⟩
abbrev cX4_push : ByteArray := prog_6_method_2_code
def yX4_push : MethodName := ⟨RX4, "push", "(LFollowCab$Scene;)V"⟩
abbrev cX4_pop : ByteArray := prog_6_method_3_code
def yX4_pop : MethodName := ⟨RX4, "pop", "(LFollowCab$Scene;)V"⟩
abbrev cX4_forget : ByteArray := prog_6_method_4_code
def yX4_forget : MethodName := ⟨RX4, "forget", "()V"⟩
def RX5 : String := "FollowCab$Images"
def TX5 : u_T := fun k => match k with
  | 0 => ("FollowCab$Images", "scene", "[LFollowCab$Scene;", true)
  | 1 => ("FollowCab$Images", "drawValue", "[I", true)
  | _ => ("FollowCab$Images", "kept", "[Z", true)
def tyX5 : Nat → FieldType := fun k => match k with
  | 0 => .array (.object "FollowCab$Scene")
  | 1 => .array .int
  | _ => .array .boolean
abbrev wsX50 : List Cond := u_ws RX5 TX5 3
theorem nmX5 : ∀ a, a < 3 → ∀ b, b < 3 → a ≠ b → (TX5 a).2.1 ≠ (TX5 b).2.1 := by decide +kernel
theorem tyX5_ok : ∀ k, k < 3 → parseFieldDescriptor (TX5 k).2.2.1 = some (tyX5 k) := by decide +kernel
abbrev cX5_init : ByteArray := prog_7_method_1_code
def yX5_init : MethodName := ⟨RX5, "<init>", "()V"⟩
abbrev cX5_put : ByteArray := prog_7_method_2_code
def yX5_put : MethodName := ⟨RX5, "put", "(ILFollowCab$Scene;I)V"⟩
abbrev cX5_forget : ByteArray := prog_7_method_3_code
def yX5_forget : MethodName := ⟨RX5, "forget", "()V"⟩
def RX6 : String := "FollowCab$Reader"
def TX6 : u_T := fun k => match k with
  | 0 => ("FollowCab$Reader", "scene", "LFollowCab$Scene;", true)
  | 1 => ("FollowCab$Reader", "corners", "I", false)
  | 2 => ("FollowCab$Reader", "odds", "I", false)
  | 3 => ("FollowCab$Reader", "faultNumber", "I", false)
  | 4 => ("FollowCab$Reader", "faultPlace", "I", false)
  | 5 => ("FollowCab$Reader", "text", "LFollowCab$Text;", true)
  | 6 => ("FollowCab$Reader", "place", "I", false)
  | _ => ("FollowCab$Reader", "numberPlace", "I", false)
def tyX6 : Nat → FieldType := fun k => match k with
  | 0 => .object "FollowCab$Scene"
  | 1 => .int
  | 2 => .int
  | 3 => .int
  | 4 => .int
  | 5 => .object "FollowCab$Text"
  | 6 => .int
  | _ => .int
abbrev wsX60 : List Cond := u_ws RX6 TX6 8
theorem nmX6 : ∀ a, a < 8 → ∀ b, b < 8 → a ≠ b → (TX6 a).2.1 ≠ (TX6 b).2.1 := by decide +kernel
theorem tyX6_ok : ∀ k, k < 8 → parseFieldDescriptor (TX6 k).2.2.1 = some (tyX6 k) := by decide +kernel
abbrev cX6_init : ByteArray := prog_8_method_1_code
def yX6_init : MethodName := ⟨RX6, "<init>", "(LFollowCab$Text;)V"⟩
abbrev cX6_readAll : ByteArray := prog_8_method_2_code
def yX6_readAll : MethodName := ⟨RX6, "readAll", "()V"⟩
abbrev cX6_letter : ByteArray := prog_8_method_3_code
def yX6_letter : MethodName := ⟨RX6, "letter", "()I"⟩
abbrev cX6_isFigure : ByteArray := prog_8_method_4_code
def yX6_isFigure : MethodName := ⟨RX6, "isFigure", "()Z"⟩
abbrev cX6_skipBlanks : ByteArray := prog_8_method_5_code
def yX6_skipBlanks : MethodName := ⟨RX6, "skipBlanks", "()V"⟩
abbrev cX6_blame : ByteArray := prog_8_method_6_code
def yX6_blame : MethodName := ⟨RX6, "blame", "(II)V"⟩
abbrev cX6_readClause : ByteArray := prog_8_method_7_code
def yX6_readClause : MethodName := ⟨RX6, "readClause", "()V"⟩
abbrev cX6_readTown : ByteArray := prog_8_method_8_code
def yX6_readTown : MethodName := ⟨RX6, "readTown", "()V"⟩
abbrev cX6_readCar : ByteArray := prog_8_method_9_code
def yX6_readCar : MethodName := ⟨RX6, "readCar", "()V"⟩
abbrev cX6_isRound : ByteArray := prog_8_method_10_code
def yX6_isRound : MethodName := ⟨RX6, "isRound", "(I)Z"⟩
abbrev cX6_readFollowing : ByteArray := prog_8_method_11_code
def yX6_readFollowing : MethodName := ⟨RX6, "readFollowing", "()V"⟩
abbrev cX6_readSemicolon : ByteArray := prog_8_method_12_code
def yX6_readSemicolon : MethodName := ⟨RX6, "readSemicolon", "()V"⟩
abbrev cX6_readNumber : ByteArray := prog_8_method_13_code
def yX6_readNumber : MethodName := ⟨RX6, "readNumber", "(II)I"⟩
def RX7 : String := "FollowCab$Scene"
def TX7 : u_T := fun k => match k with
  | 0 => ("FollowCab$Scene", "cars", "I", false)
  | 1 => ("FollowCab$Scene", "steps", "I", false)
  | 2 => ("FollowCab$Scene", "corner", "[I", true)
  | 3 => ("FollowCab$Scene", "leader", "[I", true)
  | 4 => ("FollowCab$Scene", "round", "[I", true)
  | 5 => ("FollowCab$Scene", "next", "[I", true)
  | 6 => ("FollowCab$Scene", "went", "[I", true)
  | _ => ("FollowCab$Scene", "ahead", "[I", true)
def tyX7 : Nat → FieldType := fun k => match k with
  | 0 => .int
  | 1 => .int
  | 2 => .array .int
  | 3 => .array .int
  | 4 => .array .int
  | 5 => .array .int
  | 6 => .array .int
  | _ => .array .int
abbrev wsX70 : List Cond := u_ws RX7 TX7 8
theorem nmX7 : ∀ a, a < 8 → ∀ b, b < 8 → a ≠ b → (TX7 a).2.1 ≠ (TX7 b).2.1 := by decide +kernel
theorem tyX7_ok : ∀ k, k < 8 → parseFieldDescriptor (TX7 k).2.2.1 = some (tyX7 k) := by decide +kernel
abbrev cX7_init : ByteArray := prog_9_method_1_code
def yX7_init : MethodName := ⟨RX7, "<init>", "()V"⟩
abbrev cX7_copyFrom : ByteArray := prog_9_method_2_code
def yX7_copyFrom : MethodName := ⟨RX7, "copyFrom", "(LFollowCab$Scene;)V"⟩
abbrev cX7_clear : ByteArray := prog_9_method_3_code
def yX7_clear : MethodName := ⟨RX7, "clear", "()V"⟩
abbrev cX7_addCar : ByteArray := prog_9_method_4_code
def yX7_addCar : MethodName := ⟨RX7, "addCar", "(II)V"⟩
abbrev cX7_moveTimes : ByteArray := prog_9_method_5_code
def yX7_moveTimes : MethodName := ⟨RX7, "moveTimes", "(I)V"⟩
abbrev cX7_move : ByteArray := prog_9_method_6_code
def yX7_move : MethodName := ⟨RX7, "move", "()V"⟩
abbrev cX7_goRound : ByteArray := prog_9_method_7_code
def yX7_goRound : MethodName := ⟨RX7, "goRound", "(I)I"⟩
abbrev cX7_reverseRound : ByteArray := prog_9_method_8_code
def yX7_reverseRound : MethodName := ⟨RX7, "reverseRound", "(I)V"⟩
abbrev cX7_carsAt : ByteArray := prog_9_method_9_code
def yX7_carsAt : MethodName := ⟨RX7, "carsAt", "(I)I"⟩
abbrev cX7_takenCorners : ByteArray := prog_9_method_10_code
def yX7_takenCorners : MethodName := ⟨RX7, "takenCorners", "()I"⟩
abbrev cX7_allBeside : ByteArray := prog_9_method_11_code
def yX7_allBeside : MethodName := ⟨RX7, "allBeside", "(I)I"⟩
abbrev cX7_allFollowers : ByteArray := prog_9_method_12_code
def yX7_allFollowers : MethodName := ⟨RX7, "allFollowers", "()I"⟩
abbrev cX7_leadersOf : ByteArray := prog_9_method_13_code
def yX7_leadersOf : MethodName := ⟨RX7, "leadersOf", "(I)I"⟩
abbrev cX7_trailOf : ByteArray := prog_9_method_14_code
def yX7_trailOf : MethodName := ⟨RX7, "trailOf", "(I)I"⟩
abbrev cX7_ringOf : ByteArray := prog_9_method_15_code
def yX7_ringOf : MethodName := ⟨RX7, "ringOf", "(I)I"⟩
abbrev cX7_leastOfRings : ByteArray := prog_9_method_16_code
def yX7_leastOfRings : MethodName := ⟨RX7, "leastOfRings", "()I"⟩
abbrev cX7_ringCount : ByteArray := prog_9_method_17_code
def yX7_ringCount : MethodName := ⟨RX7, "ringCount", "()I"⟩
abbrev cX7_ringNumber : ByteArray := prog_9_method_18_code
def yX7_ringNumber : MethodName := ⟨RX7, "ringNumber", "(I)I"⟩
abbrev cX7_isAnEnd : ByteArray := prog_9_method_19_code
def yX7_isAnEnd : MethodName := ⟨RX7, "isAnEnd", "(I)Z"⟩
abbrev cX7_timesToEnd : ByteArray := prog_9_method_20_code
def yX7_timesToEnd : MethodName := ⟨RX7, "timesToEnd", "(I)I"⟩
abbrev cX7_endOf : ByteArray := prog_9_method_21_code
def yX7_endOf : MethodName := ⟨RX7, "endOf", "(I)I"⟩
abbrev cX7_heads : ByteArray := prog_9_method_22_code
def yX7_heads : MethodName := ⟨RX7, "heads", "()I"⟩
def RX8 : String := "FollowCab$Text"
def TX8 : u_T := fun k => match k with
  | 0 => ("FollowCab$Text", "letter", "[I", true)
  | _ => ("FollowCab$Text", "length", "I", false)
def tyX8 : Nat → FieldType := fun k => match k with
  | 0 => .array .int
  | _ => .int
abbrev wsX80 : List Cond := u_ws RX8 TX8 2
theorem nmX8 : ∀ a, a < 2 → ∀ b, b < 2 → a ≠ b → (TX8 a).2.1 ≠ (TX8 b).2.1 := by decide +kernel
theorem tyX8_ok : ∀ k, k < 2 → parseFieldDescriptor (TX8 k).2.2.1 = some (tyX8 k) := by decide +kernel
abbrev cX8_init : ByteArray := prog_10_method_1_code
def yX8_init : MethodName := ⟨RX8, "<init>", "()V"⟩
abbrev cX8_add : ByteArray := prog_10_method_2_code
def yX8_add : MethodName := ⟨RX8, "add", "(I)V"⟩
abbrev cX8_at : ByteArray := prog_10_method_3_code
def yX8_at : MethodName := ⟨RX8, "at", "(I)I"⟩
def RX9 : String := "FollowCab"
def TX9 : u_T := fun k => match k with
  | 0 => ("FollowCab", "text", "LFollowCab$Text;", true)
  | 1 => ("FollowCab", "reader", "LFollowCab$Reader;", true)
  | 2 => ("FollowCab", "now", "LFollowCab$Scene;", true)
  | 3 => ("FollowCab", "tried", "LFollowCab$Scene;", true)
  | 4 => ("FollowCab", "history", "LFollowCab$History;", true)
  | 5 => ("FollowCab", "images", "LFollowCab$Images;", true)
  | 6 => ("FollowCab", "sightings", "LFollowCab$Entries;", true)
  | 7 => ("FollowCab", "book", "LFollowCab$Entries;", true)
  | 8 => ("FollowCab", "guess", "LFollowCab$Guess;", true)
  | 9 => ("FollowCab", "draws", "LFollowCab$Draws;", true)
  | 10 => ("FollowCab", "corners", "I", false)
  | 11 => ("FollowCab", "odds", "I", false)
  | _ => ("FollowCab", "faultPlace", "I", false)
def tyX9 : Nat → FieldType := fun k => match k with
  | 0 => .object "FollowCab$Text"
  | 1 => .object "FollowCab$Reader"
  | 2 => .object "FollowCab$Scene"
  | 3 => .object "FollowCab$Scene"
  | 4 => .object "FollowCab$History"
  | 5 => .object "FollowCab$Images"
  | 6 => .object "FollowCab$Entries"
  | 7 => .object "FollowCab$Entries"
  | 8 => .object "FollowCab$Guess"
  | 9 => .object "FollowCab$Draws"
  | 10 => .int
  | 11 => .int
  | _ => .int
abbrev wsX90 : List Cond := u_ws RX9 TX9 13
theorem nmX9 : ∀ a, a < 13 → ∀ b, b < 13 → a ≠ b → (TX9 a).2.1 ≠ (TX9 b).2.1 := by decide +kernel
theorem tyX9_ok : ∀ k, k < 13 → parseFieldDescriptor (TX9 k).2.2.1 = some (tyX9 k) := by decide +kernel
abbrev cX9_init : ByteArray := prog_1_method_1_code
def yX9_init : MethodName := ⟨RX9, "<init>", "()V"⟩
abbrev cX9_feed : ByteArray := prog_1_method_2_code
def yX9_feed : MethodName := ⟨RX9, "feed", "(I)I"⟩
abbrev cX9_town : ByteArray := prog_1_method_3_code
def yX9_town : MethodName := ⟨RX9, "town", "()I"⟩
abbrev cX9_fault : ByteArray := prog_1_method_4_code
def yX9_fault : MethodName := ⟨RX9, "fault", "()I"⟩
abbrev cX9_told : ByteArray := prog_1_method_5_code
def yX9_told : MethodName := ⟨RX9, "told", "(I)I"⟩
abbrev cX9_car : ByteArray := prog_1_method_6_code
def yX9_car : MethodName := ⟨RX9, "car", "(II)I"⟩
abbrev cX9_step : ByteArray := prog_1_method_7_code
def yX9_step : MethodName := ⟨RX9, "step", "(I)I"⟩
abbrev cX9_follow : ByteArray := prog_1_method_8_code
def yX9_follow : MethodName := ⟨RX9, "follow", "(II)I"⟩
abbrev cX9_letOff : ByteArray := prog_1_method_9_code
def yX9_letOff : MethodName := ⟨RX9, "letOff", "(I)I"⟩
abbrev cX9_turn : ByteArray := prog_1_method_10_code
def yX9_turn : MethodName := ⟨RX9, "turn", "(I)I"⟩
abbrev cX9_drift : ByteArray := prog_1_method_11_code
def yX9_drift : MethodName := ⟨RX9, "drift", "(I)I"⟩
abbrev cX9_undo : ByteArray := prog_1_method_12_code
def yX9_undo : MethodName := ⟨RX9, "undo", "()I"⟩
abbrev cX9_where : ByteArray := prog_1_method_13_code
def yX9_where : MethodName := ⟨RX9, "where", "(II)I"⟩
abbrev cX9_sees : ByteArray := prog_1_method_14_code
def yX9_sees : MethodName := ⟨RX9, "sees", "(II)I"⟩
abbrev cX9_rings : ByteArray := prog_1_method_15_code
def yX9_rings : MethodName := ⟨RX9, "rings", "(I)I"⟩
abbrev cX9_end : ByteArray := prog_1_method_16_code
def yX9_end : MethodName := ⟨RX9, "end", "(II)I"⟩
abbrev cX9_behind : ByteArray := prog_1_method_17_code
def yX9_behind : MethodName := ⟨RX9, "behind", "(I)I"⟩
abbrev cX9_stop : ByteArray := prog_1_method_18_code
def yX9_stop : MethodName := ⟨RX9, "stop", "()I"⟩
abbrev cX9_cross : ByteArray := prog_1_method_19_code
def yX9_cross : MethodName := ⟨RX9, "cross", "(II)I"⟩
abbrev cX9_handed : ByteArray := prog_1_method_20_code
def yX9_handed : MethodName := ⟨RX9, "handed", "(II)I"⟩
abbrev cX9_meets : ByteArray := prog_1_method_21_code
def yX9_meets : MethodName := ⟨RX9, "meets", "(I)I"⟩
abbrev cX9_asked : ByteArray := prog_1_method_22_code
def yX9_asked : MethodName := ⟨RX9, "asked", "(I)I"⟩
abbrev cX9_see : ByteArray := prog_1_method_23_code
def yX9_see : MethodName := ⟨RX9, "see", "(III)I"⟩
abbrev cX9_whom : ByteArray := prog_1_method_24_code
def yX9_whom : MethodName := ⟨RX9, "whom", "(I)I"⟩
abbrev cX9_look : ByteArray := prog_1_method_25_code
def yX9_look : MethodName := ⟨RX9, "look", "(I)I"⟩
abbrev cX9_write : ByteArray := prog_1_method_26_code
def yX9_write : MethodName := ⟨RX9, "write", "(II)I"⟩
abbrev cX9_tear : ByteArray := prog_1_method_27_code
def yX9_tear : MethodName := ⟨RX9, "tear", "()I"⟩
abbrev cX9_judge : ByteArray := prog_1_method_28_code
def yX9_judge : MethodName := ⟨RX9, "judge", "()I"⟩
abbrev cX9_seed : ByteArray := prog_1_method_29_code
def yX9_seed : MethodName := ⟨RX9, "seed", "(I)I"⟩
abbrev cX9_keep : ByteArray := prog_1_method_30_code
def yX9_keep : MethodName := ⟨RX9, "keep", "(I)I"⟩
abbrev cX9_goBack : ByteArray := prog_1_method_31_code
def yX9_goBack : MethodName := ⟨RX9, "goBack", "(I)I"⟩
abbrev cX9_isCar : ByteArray := prog_1_method_32_code
def yX9_isCar : MethodName := ⟨RX9, "isCar", "(I)Z"⟩
abbrev cX9_areTwoCars : ByteArray := prog_1_method_33_code
def yX9_areTwoCars : MethodName := ⟨RX9, "areTwoCars", "(II)Z"⟩
abbrev cX9_isCorner : ByteArray := prog_1_method_34_code
def yX9_isCorner : MethodName := ⟨RX9, "isCorner", "(I)Z"⟩
abbrev cX9_isImage : ByteArray := prog_1_method_35_code
def yX9_isImage : MethodName := ⟨RX9, "isImage", "(I)Z"⟩
abbrev cX9_isIn : ByteArray := prog_1_method_36_code
def yX9_isIn : MethodName := ⟨RX9, "isIn", "(II)Z"⟩
abbrev cX9_leastOf : ByteArray := prog_1_method_37_code
def yX9_leastOf : MethodName := ⟨RX9, "leastOf", "(I)I"⟩
abbrev cX9_refusalOfSteps : ByteArray := prog_1_method_38_code
def yX9_refusalOfSteps : MethodName := ⟨RX9, "refusalOfSteps", "(I)I"⟩
abbrev cX9_askByDraws : ByteArray := prog_1_method_39_code
def yX9_askByDraws : MethodName := ⟨RX9, "askByDraws", "()V"⟩
def RX10 : String := "FollowCabModel"
def TX10 : u_T := fun k => match k with
  | 0 => ("FollowCabModel", "corners", "I", false)
  | 1 => ("FollowCabModel", "odds", "I", false)
  | 2 => ("FollowCabModel", "cars", "I", false)
  | 3 => ("FollowCabModel", "rounds", "[I", true)
  | 4 => ("FollowCabModel", "longs", "[I", true)
  | 5 => ("FollowCabModel", "now", "[I", true)
  | 6 => ("FollowCabModel", "seed", "I", false)
  | 7 => ("FollowCabModel", "text", "[I", true)
  | 8 => ("FollowCabModel", "texted", "I", false)
  | 9 => ("FollowCabModel", "faultPlace", "I", false)
  | 10 => ("FollowCabModel", "at0", "I", false)
  | 11 => ("FollowCabModel", "number", "I", false)
  | 12 => ("FollowCabModel", "numberAt", "I", false)
  | 13 => ("FollowCabModel", "readTown", "[I", true)
  | 14 => ("FollowCabModel", "readCars", "I", false)
  | 15 => ("FollowCabModel", "readAt", "[I", true)
  | 16 => ("FollowCabModel", "readRounds", "[I", true)
  | 17 => ("FollowCabModel", "readLongs", "[I", true)
  | 18 => ("FollowCabModel", "readFollows", "[I", true)
  | 19 => ("FollowCabModel", "ahead", "[I", true)
  | 20 => ("FollowCabModel", "undos", "I", false)
  | 21 => ("FollowCabModel", "past", "[I", true)
  | 22 => ("FollowCabModel", "was", "[I", true)
  | 23 => ("FollowCabModel", "seen", "I", false)
  | 24 => ("FollowCabModel", "seenOf", "[I", true)
  | 25 => ("FollowCabModel", "seenBehind", "[I", true)
  | 26 => ("FollowCabModel", "seenAt", "[I", true)
  | 27 => ("FollowCabModel", "way", "[I", true)
  | 28 => ("FollowCabModel", "brings", "[I", true)
  | 29 => ("FollowCabModel", "booked", "I", false)
  | 30 => ("FollowCabModel", "bookOf", "[I", true)
  | 31 => ("FollowCabModel", "bookAt", "[I", true)
  | 32 => ("FollowCabModel", "images", "[I", true)
  | _ => ("FollowCabModel", "isKept", "[Z", true)
def tyX10 : Nat → FieldType := fun k => match k with
  | 0 => .int
  | 1 => .int
  | 2 => .int
  | 3 => .array .int
  | 4 => .array .int
  | 5 => .array .int
  | 6 => .int
  | 7 => .array .int
  | 8 => .int
  | 9 => .int
  | 10 => .int
  | 11 => .int
  | 12 => .int
  | 13 => .array .int
  | 14 => .int
  | 15 => .array .int
  | 16 => .array .int
  | 17 => .array .int
  | 18 => .array .int
  | 19 => .array .int
  | 20 => .int
  | 21 => .array .int
  | 22 => .array .int
  | 23 => .int
  | 24 => .array .int
  | 25 => .array .int
  | 26 => .array .int
  | 27 => .array .int
  | 28 => .array .int
  | 29 => .int
  | 30 => .array .int
  | 31 => .array .int
  | 32 => .array .int
  | _ => .array .boolean
abbrev wsX100 : List Cond := u_ws RX10 TX10 34
theorem nmX10 : ∀ a, a < 34 → ∀ b, b < 34 → a ≠ b → (TX10 a).2.1 ≠ (TX10 b).2.1 := by decide +kernel
theorem tyX10_ok : ∀ k, k < 34 → parseFieldDescriptor (TX10 k).2.2.1 = some (tyX10 k) := by decide +kernel
abbrev cX10_init : ByteArray := prog_12_method_1_code
def yX10_init : MethodName := ⟨RX10, "<init>", "()V"⟩
abbrev cX10_in : ByteArray := prog_12_method_3_code
def yX10_in : MethodName := ⟨RX10, "in", "(JJJ)Z"⟩
abbrev cX10_has : ByteArray := prog_12_method_4_code
def yX10_has : MethodName := ⟨RX10, "has", "(II)Z"⟩
abbrev cX10_isCorner : ByteArray := prog_12_method_5_code
def yX10_isCorner : MethodName := ⟨RX10, "isCorner", "(I)Z"⟩
abbrev cX10_isCar : ByteArray := prog_12_method_6_code
def yX10_isCar : MethodName := ⟨RX10, "isCar", "(I)Z"⟩
abbrev cX10_areTwo : ByteArray := prog_12_method_7_code
def yX10_areTwo : MethodName := ⟨RX10, "areTwo", "(II)Z"⟩
abbrev cX10_feed : ByteArray := prog_12_method_8_code
def yX10_feed : MethodName := ⟨RX10, "feed", "(I)I"⟩
abbrev cX10_here : ByteArray := prog_12_method_9_code
def yX10_here : MethodName := ⟨RX10, "here", "()I"⟩
abbrev cX10_fails : ByteArray := prog_12_method_10_code
def yX10_fails : MethodName := ⟨RX10, "fails", "(II)I"⟩
abbrev cX10_takeNumber : ByteArray := prog_12_method_11_code
def yX10_takeNumber : MethodName := ⟨RX10, "takeNumber", "(II)I"⟩
abbrev cX10_into : ByteArray := prog_12_method_12_code
def yX10_into : MethodName := ⟨RX10, "into", "([IIII)I"⟩
abbrev cX10_takeTown : ByteArray := prog_12_method_13_code
def yX10_takeTown : MethodName := ⟨RX10, "takeTown", "()I"⟩
abbrev cX10_takeCar : ByteArray := prog_12_method_14_code
def yX10_takeCar : MethodName := ⟨RX10, "takeCar", "()I"⟩
abbrev cX10_takeFollows : ByteArray := prog_12_method_15_code
def yX10_takeFollows : MethodName := ⟨RX10, "takeFollows", "()I"⟩
abbrev cX10_takeClause : ByteArray := prog_12_method_16_code
def yX10_takeClause : MethodName := ⟨RX10, "takeClause", "()I"⟩
abbrev cX10_takeRead : ByteArray := prog_12_method_17_code
def yX10_takeRead : MethodName := ⟨RX10, "takeRead", "()V"⟩
abbrev cX10_town : ByteArray := prog_12_method_18_code
def yX10_town : MethodName := ⟨RX10, "town", "()I"⟩
abbrev cX10_fault : ByteArray := prog_12_method_19_code
def yX10_fault : MethodName := ⟨RX10, "fault", "()I"⟩
abbrev cX10_cornerOf : ByteArray := prog_12_method_20_code
def yX10_cornerOf : MethodName := ⟨RX10, "cornerOf", "(II)I"⟩
abbrev cX10_stepAll : ByteArray := prog_12_method_21_code
def yX10_stepAll : MethodName := ⟨RX10, "stepAll", "()V"⟩
abbrev cX10_roundOf : ByteArray := prog_12_method_22_code
def yX10_roundOf : MethodName := ⟨RX10, "roundOf", "(I)I"⟩
abbrev cX10_behindOf : ByteArray := prog_12_method_23_code
def yX10_behindOf : MethodName := ⟨RX10, "behindOf", "(I)I"⟩
abbrev cX10_ringOf : ByteArray := prog_12_method_24_code
def yX10_ringOf : MethodName := ⟨RX10, "ringOf", "(I)I"⟩
abbrev cX10_least : ByteArray := prog_12_method_25_code
def yX10_least : MethodName := ⟨RX10, "least", "(I)I"⟩
abbrev cX10_ringsNow : ByteArray := prog_12_method_26_code
def yX10_ringsNow : MethodName := ⟨RX10, "ringsNow", "(I)I"⟩
abbrev cX10_taken : ByteArray := prog_12_method_27_code
def yX10_taken : MethodName := ⟨RX10, "taken", "()I"⟩
abbrev cX10_followers : ByteArray := prog_12_method_28_code
def yX10_followers : MethodName := ⟨RX10, "followers", "()I"⟩
abbrev cX10_heads : ByteArray := prog_12_method_29_code
def yX10_heads : MethodName := ⟨RX10, "heads", "()I"⟩
abbrev cX10_told : ByteArray := prog_12_method_30_code
def yX10_told : MethodName := ⟨RX10, "told", "(I)I"⟩
abbrev cX10_car : ByteArray := prog_12_method_31_code
def yX10_car : MethodName := ⟨RX10, "car", "(II)I"⟩
abbrev cX10_remember : ByteArray := prog_12_method_32_code
def yX10_remember : MethodName := ⟨RX10, "remember", "()V"⟩
abbrev cX10_stepsRefused : ByteArray := prog_12_method_33_code
def yX10_stepsRefused : MethodName := ⟨RX10, "stepsRefused", "(I)I"⟩
abbrev cX10_step : ByteArray := prog_12_method_34_code
def yX10_step : MethodName := ⟨RX10, "step", "(I)I"⟩
abbrev cX10_follow : ByteArray := prog_12_method_35_code
def yX10_follow : MethodName := ⟨RX10, "follow", "(II)I"⟩
abbrev cX10_letOff : ByteArray := prog_12_method_36_code
def yX10_letOff : MethodName := ⟨RX10, "letOff", "(I)I"⟩
abbrev cX10_turn : ByteArray := prog_12_method_37_code
def yX10_turn : MethodName := ⟨RX10, "turn", "(I)I"⟩
abbrev cX10_draw : ByteArray := prog_12_method_38_code
def yX10_draw : MethodName := ⟨RX10, "draw", "(I)I"⟩
abbrev cX10_chance : ByteArray := prog_12_method_39_code
def yX10_chance : MethodName := ⟨RX10, "chance", "()V"⟩
abbrev cX10_drift : ByteArray := prog_12_method_40_code
def yX10_drift : MethodName := ⟨RX10, "drift", "(I)I"⟩
abbrev cX10_undo : ByteArray := prog_12_method_41_code
def yX10_undo : MethodName := ⟨RX10, "undo", "()I"⟩
abbrev cX10_save : ByteArray := prog_12_method_42_code
def yX10_save : MethodName := ⟨RX10, "save", "()V"⟩
abbrev cX10_putBack : ByteArray := prog_12_method_43_code
def yX10_putBack : MethodName := ⟨RX10, "putBack", "()V"⟩
abbrev cX10_stepTo : ByteArray := prog_12_method_44_code
def yX10_stepTo : MethodName := ⟨RX10, "stepTo", "(I)V"⟩
abbrev cX10_where : ByteArray := prog_12_method_45_code
def yX10_where : MethodName := ⟨RX10, "where", "(II)I"⟩
abbrev cX10_sees : ByteArray := prog_12_method_46_code
def yX10_sees : MethodName := ⟨RX10, "sees", "(II)I"⟩
abbrev cX10_rings : ByteArray := prog_12_method_47_code
def yX10_rings : MethodName := ⟨RX10, "rings", "(I)I"⟩
abbrev cX10_end : ByteArray := prog_12_method_48_code
def yX10_end : MethodName := ⟨RX10, "end", "(II)I"⟩
abbrev cX10_behind : ByteArray := prog_12_method_49_code
def yX10_behind : MethodName := ⟨RX10, "behind", "(I)I"⟩
abbrev cX10_stop : ByteArray := prog_12_method_50_code
def yX10_stop : MethodName := ⟨RX10, "stop", "()I"⟩
abbrev cX10_cross : ByteArray := prog_12_method_51_code
def yX10_cross : MethodName := ⟨RX10, "cross", "(II)I"⟩
abbrev cX10_handedOn : ByteArray := prog_12_method_52_code
def yX10_handedOn : MethodName := ⟨RX10, "handedOn", "(I)I"⟩
abbrev cX10_handed : ByteArray := prog_12_method_53_code
def yX10_handed : MethodName := ⟨RX10, "handed", "(II)I"⟩
abbrev cX10_meets : ByteArray := prog_12_method_54_code
def yX10_meets : MethodName := ⟨RX10, "meets", "(I)I"⟩
abbrev cX10_asked : ByteArray := prog_12_method_55_code
def yX10_asked : MethodName := ⟨RX10, "asked", "(I)I"⟩
abbrev cX10_see : ByteArray := prog_12_method_56_code
def yX10_see : MethodName := ⟨RX10, "see", "(III)I"⟩
abbrev cX10_findWay : ByteArray := prog_12_method_57_code
def yX10_findWay : MethodName := ⟨RX10, "findWay", "(II)V"⟩
abbrev cX10_couldFollow : ByteArray := prog_12_method_58_code
def yX10_couldFollow : MethodName := ⟨RX10, "couldFollow", "(II)Z"⟩
abbrev cX10_whom : ByteArray := prog_12_method_59_code
def yX10_whom : MethodName := ⟨RX10, "whom", "(I)I"⟩
abbrev cX10_look : ByteArray := prog_12_method_60_code
def yX10_look : MethodName := ⟨RX10, "look", "(I)I"⟩
abbrev cX10_write : ByteArray := prog_12_method_61_code
def yX10_write : MethodName := ⟨RX10, "write", "(II)I"⟩
abbrev cX10_tear : ByteArray := prog_12_method_62_code
def yX10_tear : MethodName := ⟨RX10, "tear", "()I"⟩
abbrev cX10_judge : ByteArray := prog_12_method_63_code
def yX10_judge : MethodName := ⟨RX10, "judge", "()I"⟩
abbrev cX10_seed : ByteArray := prog_12_method_64_code
def yX10_seed : MethodName := ⟨RX10, "seed", "(I)I"⟩
abbrev cX10_keep : ByteArray := prog_12_method_65_code
def yX10_keep : MethodName := ⟨RX10, "keep", "(I)I"⟩
abbrev cX10_goBack : ByteArray := prog_12_method_66_code
def yX10_goBack : MethodName := ⟨RX10, "goBack", "(I)I"⟩
def RJ6 : String := "java/lang/Integer"
def TJ6 : u_T := fun k => match k with
  | _ => ("", "", "", false)
def tyJ6 : Nat → FieldType := fun k => match k with
  | _ => .int
abbrev wsJ60 : List Cond := u_ws RJ6 TJ6 0
theorem nmJ6 : ∀ a, a < 0 → ∀ b, b < 0 → a ≠ b → (TJ6 a).2.1 ≠ (TJ6 b).2.1 := by decide +kernel
theorem tyJ6_ok : ∀ k, k < 0 → parseFieldDescriptor (TJ6 k).2.2.1 = some (tyJ6 k) := by decide +kernel
abbrev cJ6_bitCount_0f7a4 : ByteArray := prog_13_method_49_code
def yJ6_bitCount_0f7a4 : MethodName := ⟨RJ6, "bitCount", "(I)I"⟩
def RJ9 : String := "java/lang/Math"
def TJ9 : u_T := fun k => match k with
  | _ => ("", "", "", false)
def tyJ9 : Nat → FieldType := fun k => match k with
  | _ => .int
abbrev wsJ90 : List Cond := u_ws RJ9 TJ9 0
theorem nmJ9 : ∀ a, a < 0 → ∀ b, b < 0 → a ≠ b → (TJ9 a).2.1 ≠ (TJ9 b).2.1 := by decide +kernel
theorem tyJ9_ok : ∀ k, k < 0 → parseFieldDescriptor (TJ9 k).2.2.1 = some (tyJ9 k) := by decide +kernel
abbrev cJ9_max_7cf53 : ByteArray := prog_14_method_65_code
def yJ9_max_7cf53 : MethodName := ⟨RJ9, "max", "(II)I"⟩
abbrev cJ9_min_7cf53 : ByteArray := prog_14_method_69_code
def yJ9_min_7cf53 : MethodName := ⟨RJ9, "min", "(II)I"⟩
def RJ10 : String := "java/lang/System"
def TJ10 : u_T := fun k => match k with
  | _ => ("", "", "", false)
def tyJ10 : Nat → FieldType := fun k => match k with
  | _ => .int
abbrev wsJ100 : List Cond := u_ws RJ10 TJ10 0
theorem nmJ10 : ∀ a, a < 0 → ∀ b, b < 0 → a ≠ b → (TJ10 a).2.1 ≠ (TJ10 b).2.1 := by decide +kernel
theorem tyJ10_ok : ∀ k, k < 0 → parseFieldDescriptor (TJ10 k).2.2.1 = some (tyJ10 k) := by decide +kernel
def RL : String := "FollowCabLaw"
abbrev cL_law : ByteArray := code
def yL_law : MethodName := ⟨RL, "law", "([I)Z"⟩
abbrev vwCl : List vw_C := [(RX0, TX0, 1), (RX1, TX1, 5), (RX3, TX3, 3), (RX4, TX4, 3), (RX5, TX5, 3), (RX6, TX6, 8), (RX7, TX7, 8), (RX8, TX8, 2), (RX9, TX9, 13), (RX10, TX10, 34)]
