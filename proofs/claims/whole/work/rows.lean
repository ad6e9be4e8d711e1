section
-- ===== PART A: goes FIRST, ahead of the names: the tables' words, and 'selects' of the private methods out of them =====
/-- a private method of a class that the tables say can be made, by its rows of tables_1 -/
def lw_okq (q : MethodName × Nat) : Prop := (q.1.cls ≠ "java/lang/invoke/MethodHandle" ∧ q.1.cls ≠ "java/lang/invoke/VarHandle") ∧ Cond.instantiable q.1.cls q.2 ∈ tables_1 ∧ Cond.privateMethod q.1 ∈ tables_1 ∧ Cond.instanceMethod q.1 ∈ tables_1
theorem lw_p0 : lw_okq (⟨"FollowCab$Reader", "skipBlanks", "()V"⟩, 8) := ⟨⟨by decide +kernel, by decide +kernel⟩, List.mem_of_getElem? (i := 40) (by decide +kernel), List.mem_of_getElem? (i := 289) (by decide +kernel), List.mem_of_getElem? (i := 290) (by decide +kernel)⟩
theorem lw_p1 : lw_okq (⟨"FollowCab$Reader", "letter", "()I"⟩, 8) := ⟨⟨by decide +kernel, by decide +kernel⟩, List.mem_of_getElem? (i := 40) (by decide +kernel), List.mem_of_getElem? (i := 293) (by decide +kernel), List.mem_of_getElem? (i := 294) (by decide +kernel)⟩
theorem lw_p2 : lw_okq (⟨"FollowCab$Reader", "readClause", "()V"⟩, 8) := ⟨⟨by decide +kernel, by decide +kernel⟩, List.mem_of_getElem? (i := 40) (by decide +kernel), List.mem_of_getElem? (i := 301) (by decide +kernel), List.mem_of_getElem? (i := 302) (by decide +kernel)⟩
theorem lw_p3 : lw_okq (⟨"FollowCab$Reader", "blame", "(II)V"⟩, 8) := ⟨⟨by decide +kernel, by decide +kernel⟩, List.mem_of_getElem? (i := 40) (by decide +kernel), List.mem_of_getElem? (i := 305) (by decide +kernel), List.mem_of_getElem? (i := 306) (by decide +kernel)⟩
theorem lw_p4 : lw_okq (⟨"FollowCab$Reader", "readTown", "()V"⟩, 8) := ⟨⟨by decide +kernel, by decide +kernel⟩, List.mem_of_getElem? (i := 40) (by decide +kernel), List.mem_of_getElem? (i := 309) (by decide +kernel), List.mem_of_getElem? (i := 310) (by decide +kernel)⟩
theorem lw_p5 : lw_okq (⟨"FollowCab$Reader", "readNumber", "(II)I"⟩, 8) := ⟨⟨by decide +kernel, by decide +kernel⟩, List.mem_of_getElem? (i := 40) (by decide +kernel), List.mem_of_getElem? (i := 313) (by decide +kernel), List.mem_of_getElem? (i := 314) (by decide +kernel)⟩
theorem lw_p6 : lw_okq (⟨"FollowCab$Reader", "isFigure", "()Z"⟩, 8) := ⟨⟨by decide +kernel, by decide +kernel⟩, List.mem_of_getElem? (i := 40) (by decide +kernel), List.mem_of_getElem? (i := 317) (by decide +kernel), List.mem_of_getElem? (i := 318) (by decide +kernel)⟩
theorem lw_p7 : lw_okq (⟨"FollowCab$Reader", "readCar", "()V"⟩, 8) := ⟨⟨by decide +kernel, by decide +kernel⟩, List.mem_of_getElem? (i := 40) (by decide +kernel), List.mem_of_getElem? (i := 325) (by decide +kernel), List.mem_of_getElem? (i := 326) (by decide +kernel)⟩
theorem lw_p8 : lw_okq (⟨"FollowCab$Reader", "isRound", "(I)Z"⟩, 8) := ⟨⟨by decide +kernel, by decide +kernel⟩, List.mem_of_getElem? (i := 40) (by decide +kernel), List.mem_of_getElem? (i := 330) (by decide +kernel), List.mem_of_getElem? (i := 331) (by decide +kernel)⟩
theorem lw_p9 : lw_okq (⟨"FollowCab$Reader", "readFollowing", "()V"⟩, 8) := ⟨⟨by decide +kernel, by decide +kernel⟩, List.mem_of_getElem? (i := 40) (by decide +kernel), List.mem_of_getElem? (i := 349) (by decide +kernel), List.mem_of_getElem? (i := 350) (by decide +kernel)⟩
theorem lw_p10 : lw_okq (⟨"FollowCab$Reader", "readSemicolon", "()V"⟩, 8) := ⟨⟨by decide +kernel, by decide +kernel⟩, List.mem_of_getElem? (i := 40) (by decide +kernel), List.mem_of_getElem? (i := 353) (by decide +kernel), List.mem_of_getElem? (i := 354) (by decide +kernel)⟩
theorem lw_p11 : lw_okq (⟨"FollowCab$Scene", "ringOf", "(I)I"⟩, 8) := ⟨⟨by decide +kernel, by decide +kernel⟩, List.mem_of_getElem? (i := 46) (by decide +kernel), List.mem_of_getElem? (i := 396) (by decide +kernel), List.mem_of_getElem? (i := 397) (by decide +kernel)⟩
theorem lw_p12 : lw_okq (⟨"FollowCab$Scene", "leadersOf", "(I)I"⟩, 8) := ⟨⟨by decide +kernel, by decide +kernel⟩, List.mem_of_getElem? (i := 46) (by decide +kernel), List.mem_of_getElem? (i := 400) (by decide +kernel), List.mem_of_getElem? (i := 401) (by decide +kernel)⟩
theorem lw_p13 : lw_okq (⟨"FollowCab", "isCar", "(I)Z"⟩, 13) := ⟨⟨by decide +kernel, by decide +kernel⟩, List.mem_of_getElem? (i := 16) (by decide +kernel), List.mem_of_getElem? (i := 429) (by decide +kernel), List.mem_of_getElem? (i := 430) (by decide +kernel)⟩
theorem lw_p14 : lw_okq (⟨"FollowCab", "refusalOfSteps", "(I)I"⟩, 13) := ⟨⟨by decide +kernel, by decide +kernel⟩, List.mem_of_getElem? (i := 16) (by decide +kernel), List.mem_of_getElem? (i := 438) (by decide +kernel), List.mem_of_getElem? (i := 439) (by decide +kernel)⟩
theorem lw_p15 : lw_okq (⟨"FollowCab$Scene", "goRound", "(I)I"⟩, 8) := ⟨⟨by decide +kernel, by decide +kernel⟩, List.mem_of_getElem? (i := 46) (by decide +kernel), List.mem_of_getElem? (i := 457) (by decide +kernel), List.mem_of_getElem? (i := 458) (by decide +kernel)⟩
def lw_privs_1 : List (MethodName × Nat) := [(⟨"FollowCab$Reader", "skipBlanks", "()V"⟩, 8), (⟨"FollowCab$Reader", "letter", "()I"⟩, 8), (⟨"FollowCab$Reader", "readClause", "()V"⟩, 8), (⟨"FollowCab$Reader", "blame", "(II)V"⟩, 8), (⟨"FollowCab$Reader", "readTown", "()V"⟩, 8), (⟨"FollowCab$Reader", "readNumber", "(II)I"⟩, 8), (⟨"FollowCab$Reader", "isFigure", "()Z"⟩, 8), (⟨"FollowCab$Reader", "readCar", "()V"⟩, 8), (⟨"FollowCab$Reader", "isRound", "(I)Z"⟩, 8), (⟨"FollowCab$Reader", "readFollowing", "()V"⟩, 8), (⟨"FollowCab$Reader", "readSemicolon", "()V"⟩, 8), (⟨"FollowCab$Scene", "ringOf", "(I)I"⟩, 8), (⟨"FollowCab$Scene", "leadersOf", "(I)I"⟩, 8), (⟨"FollowCab", "isCar", "(I)Z"⟩, 13), (⟨"FollowCab", "refusalOfSteps", "(I)I"⟩, 13), (⟨"FollowCab$Scene", "goRound", "(I)I"⟩, 8)]
theorem lw_r1 : ∀ q ∈ lw_privs_1, lw_okq q := List.forall_mem_cons.mpr ⟨lw_p0, List.forall_mem_cons.mpr ⟨lw_p1, List.forall_mem_cons.mpr ⟨lw_p2, List.forall_mem_cons.mpr ⟨lw_p3, List.forall_mem_cons.mpr ⟨lw_p4, List.forall_mem_cons.mpr ⟨lw_p5, List.forall_mem_cons.mpr ⟨lw_p6, List.forall_mem_cons.mpr ⟨lw_p7, List.forall_mem_cons.mpr ⟨lw_p8, List.forall_mem_cons.mpr ⟨lw_p9, List.forall_mem_cons.mpr ⟨lw_p10, List.forall_mem_cons.mpr ⟨lw_p11, List.forall_mem_cons.mpr ⟨lw_p12, List.forall_mem_cons.mpr ⟨lw_p13, List.forall_mem_cons.mpr ⟨lw_p14, List.forall_mem_cons.mpr ⟨lw_p15, fun _ h => absurd h List.not_mem_nil⟩⟩⟩⟩⟩⟩⟩⟩⟩⟩⟩⟩⟩⟩⟩⟩
theorem lw_p16 : lw_okq (⟨"FollowCab", "areTwoCars", "(II)Z"⟩, 13) := ⟨⟨by decide +kernel, by decide +kernel⟩, List.mem_of_getElem? (i := 16) (by decide +kernel), List.mem_of_getElem? (i := 467) (by decide +kernel), List.mem_of_getElem? (i := 468) (by decide +kernel)⟩
theorem lw_p17 : lw_okq (⟨"FollowCab", "askByDraws", "()V"⟩, 13) := ⟨⟨by decide +kernel, by decide +kernel⟩, List.mem_of_getElem? (i := 16) (by decide +kernel), List.mem_of_getElem? (i := 490) (by decide +kernel), List.mem_of_getElem? (i := 491) (by decide +kernel)⟩
theorem lw_p18 : lw_okq (⟨"FollowCab$Scene", "isAnEnd", "(I)Z"⟩, 8) := ⟨⟨by decide +kernel, by decide +kernel⟩, List.mem_of_getElem? (i := 46) (by decide +kernel), List.mem_of_getElem? (i := 538) (by decide +kernel), List.mem_of_getElem? (i := 539) (by decide +kernel)⟩
theorem lw_p19 : lw_okq (⟨"FollowCab", "isCorner", "(I)Z"⟩, 13) := ⟨⟨by decide +kernel, by decide +kernel⟩, List.mem_of_getElem? (i := 16) (by decide +kernel), List.mem_of_getElem? (i := 561) (by decide +kernel), List.mem_of_getElem? (i := 562) (by decide +kernel)⟩
theorem lw_p20 : lw_okq (⟨"FollowCab$Guess", "recordTrack", "(II)V"⟩, 3) := ⟨⟨by decide +kernel, by decide +kernel⟩, List.mem_of_getElem? (i := 195) (by decide +kernel), List.mem_of_getElem? (i := 603) (by decide +kernel), List.mem_of_getElem? (i := 604) (by decide +kernel)⟩
theorem lw_p21 : lw_okq (⟨"FollowCab$Guess", "fits", "(IILFollowCab$Entries;)Z"⟩, 3) := ⟨⟨by decide +kernel, by decide +kernel⟩, List.mem_of_getElem? (i := 195) (by decide +kernel), List.mem_of_getElem? (i := 608) (by decide +kernel), List.mem_of_getElem? (i := 609) (by decide +kernel)⟩
theorem lw_p22 : lw_okq (⟨"FollowCab$Guess", "greatestPart", "(I)I"⟩, 3) := ⟨⟨by decide +kernel, by decide +kernel⟩, List.mem_of_getElem? (i := 195) (by decide +kernel), List.mem_of_getElem? (i := 621) (by decide +kernel), List.mem_of_getElem? (i := 622) (by decide +kernel)⟩
theorem lw_p23 : lw_okq (⟨"FollowCab$Guess", "partAlike", "(II)I"⟩, 3) := ⟨⟨by decide +kernel, by decide +kernel⟩, List.mem_of_getElem? (i := 195) (by decide +kernel), List.mem_of_getElem? (i := 626) (by decide +kernel), List.mem_of_getElem? (i := 627) (by decide +kernel)⟩
theorem lw_p24 : lw_okq (⟨"FollowCabModel", "here", "()I"⟩, 34) := ⟨⟨by decide +kernel, by decide +kernel⟩, List.mem_of_getElem? (i := 663) (by decide +kernel), List.mem_of_getElem? (i := 786) (by decide +kernel), List.mem_of_getElem? (i := 787) (by decide +kernel)⟩
theorem lw_p25 : lw_okq (⟨"FollowCabModel", "takeClause", "()I"⟩, 34) := ⟨⟨by decide +kernel, by decide +kernel⟩, List.mem_of_getElem? (i := 663) (by decide +kernel), List.mem_of_getElem? (i := 790) (by decide +kernel), List.mem_of_getElem? (i := 791) (by decide +kernel)⟩
theorem lw_p26 : lw_okq (⟨"FollowCabModel", "fails", "(II)I"⟩, 34) := ⟨⟨by decide +kernel, by decide +kernel⟩, List.mem_of_getElem? (i := 663) (by decide +kernel), List.mem_of_getElem? (i := 794) (by decide +kernel), List.mem_of_getElem? (i := 795) (by decide +kernel)⟩
theorem lw_p27 : lw_okq (⟨"FollowCabModel", "takeTown", "()I"⟩, 34) := ⟨⟨by decide +kernel, by decide +kernel⟩, List.mem_of_getElem? (i := 663) (by decide +kernel), List.mem_of_getElem? (i := 798) (by decide +kernel), List.mem_of_getElem? (i := 799) (by decide +kernel)⟩
theorem lw_p28 : lw_okq (⟨"FollowCabModel", "into", "([IIII)I"⟩, 34) := ⟨⟨by decide +kernel, by decide +kernel⟩, List.mem_of_getElem? (i := 663) (by decide +kernel), List.mem_of_getElem? (i := 802) (by decide +kernel), List.mem_of_getElem? (i := 803) (by decide +kernel)⟩
theorem lw_p29 : lw_okq (⟨"FollowCabModel", "takeNumber", "(II)I"⟩, 34) := ⟨⟨by decide +kernel, by decide +kernel⟩, List.mem_of_getElem? (i := 663) (by decide +kernel), List.mem_of_getElem? (i := 806) (by decide +kernel), List.mem_of_getElem? (i := 807) (by decide +kernel)⟩
theorem lw_p30 : lw_okq (⟨"FollowCabModel", "takeCar", "()I"⟩, 34) := ⟨⟨by decide +kernel, by decide +kernel⟩, List.mem_of_getElem? (i := 663) (by decide +kernel), List.mem_of_getElem? (i := 813) (by decide +kernel), List.mem_of_getElem? (i := 814) (by decide +kernel)⟩
theorem lw_p31 : lw_okq (⟨"FollowCabModel", "takeFollows", "()I"⟩, 34) := ⟨⟨by decide +kernel, by decide +kernel⟩, List.mem_of_getElem? (i := 663) (by decide +kernel), List.mem_of_getElem? (i := 818) (by decide +kernel), List.mem_of_getElem? (i := 819) (by decide +kernel)⟩
def lw_privs_2 : List (MethodName × Nat) := [(⟨"FollowCab", "areTwoCars", "(II)Z"⟩, 13), (⟨"FollowCab", "askByDraws", "()V"⟩, 13), (⟨"FollowCab$Scene", "isAnEnd", "(I)Z"⟩, 8), (⟨"FollowCab", "isCorner", "(I)Z"⟩, 13), (⟨"FollowCab$Guess", "recordTrack", "(II)V"⟩, 3), (⟨"FollowCab$Guess", "fits", "(IILFollowCab$Entries;)Z"⟩, 3), (⟨"FollowCab$Guess", "greatestPart", "(I)I"⟩, 3), (⟨"FollowCab$Guess", "partAlike", "(II)I"⟩, 3), (⟨"FollowCabModel", "here", "()I"⟩, 34), (⟨"FollowCabModel", "takeClause", "()I"⟩, 34), (⟨"FollowCabModel", "fails", "(II)I"⟩, 34), (⟨"FollowCabModel", "takeTown", "()I"⟩, 34), (⟨"FollowCabModel", "into", "([IIII)I"⟩, 34), (⟨"FollowCabModel", "takeNumber", "(II)I"⟩, 34), (⟨"FollowCabModel", "takeCar", "()I"⟩, 34), (⟨"FollowCabModel", "takeFollows", "()I"⟩, 34)]
theorem lw_r2 : ∀ q ∈ lw_privs_2, lw_okq q := List.forall_mem_cons.mpr ⟨lw_p16, List.forall_mem_cons.mpr ⟨lw_p17, List.forall_mem_cons.mpr ⟨lw_p18, List.forall_mem_cons.mpr ⟨lw_p19, List.forall_mem_cons.mpr ⟨lw_p20, List.forall_mem_cons.mpr ⟨lw_p21, List.forall_mem_cons.mpr ⟨lw_p22, List.forall_mem_cons.mpr ⟨lw_p23, List.forall_mem_cons.mpr ⟨lw_p24, List.forall_mem_cons.mpr ⟨lw_p25, List.forall_mem_cons.mpr ⟨lw_p26, List.forall_mem_cons.mpr ⟨lw_p27, List.forall_mem_cons.mpr ⟨lw_p28, List.forall_mem_cons.mpr ⟨lw_p29, List.forall_mem_cons.mpr ⟨lw_p30, List.forall_mem_cons.mpr ⟨lw_p31, fun _ h => absurd h List.not_mem_nil⟩⟩⟩⟩⟩⟩⟩⟩⟩⟩⟩⟩⟩⟩⟩⟩
theorem lw_p32 : lw_okq (⟨"FollowCabModel", "takeRead", "()V"⟩, 34) := ⟨⟨by decide +kernel, by decide +kernel⟩, List.mem_of_getElem? (i := 663) (by decide +kernel), List.mem_of_getElem? (i := 822) (by decide +kernel), List.mem_of_getElem? (i := 823) (by decide +kernel)⟩
theorem lw_p33 : lw_okq (⟨"FollowCabModel", "taken", "()I"⟩, 34) := ⟨⟨by decide +kernel, by decide +kernel⟩, List.mem_of_getElem? (i := 663) (by decide +kernel), List.mem_of_getElem? (i := 834) (by decide +kernel), List.mem_of_getElem? (i := 835) (by decide +kernel)⟩
theorem lw_p34 : lw_okq (⟨"FollowCabModel", "followers", "()I"⟩, 34) := ⟨⟨by decide +kernel, by decide +kernel⟩, List.mem_of_getElem? (i := 663) (by decide +kernel), List.mem_of_getElem? (i := 838) (by decide +kernel), List.mem_of_getElem? (i := 839) (by decide +kernel)⟩
theorem lw_p35 : lw_okq (⟨"FollowCabModel", "ringsNow", "(I)I"⟩, 34) := ⟨⟨by decide +kernel, by decide +kernel⟩, List.mem_of_getElem? (i := 663) (by decide +kernel), List.mem_of_getElem? (i := 842) (by decide +kernel), List.mem_of_getElem? (i := 843) (by decide +kernel)⟩
theorem lw_p36 : lw_okq (⟨"FollowCabModel", "ringOf", "(I)I"⟩, 34) := ⟨⟨by decide +kernel, by decide +kernel⟩, List.mem_of_getElem? (i := 663) (by decide +kernel), List.mem_of_getElem? (i := 846) (by decide +kernel), List.mem_of_getElem? (i := 847) (by decide +kernel)⟩
theorem lw_p37 : lw_okq (⟨"FollowCabModel", "heads", "()I"⟩, 34) := ⟨⟨by decide +kernel, by decide +kernel⟩, List.mem_of_getElem? (i := 663) (by decide +kernel), List.mem_of_getElem? (i := 856) (by decide +kernel), List.mem_of_getElem? (i := 857) (by decide +kernel)⟩
theorem lw_p38 : lw_okq (⟨"FollowCabModel", "behindOf", "(I)I"⟩, 34) := ⟨⟨by decide +kernel, by decide +kernel⟩, List.mem_of_getElem? (i := 663) (by decide +kernel), List.mem_of_getElem? (i := 860) (by decide +kernel), List.mem_of_getElem? (i := 861) (by decide +kernel)⟩
theorem lw_p39 : lw_okq (⟨"FollowCabModel", "isCar", "(I)Z"⟩, 34) := ⟨⟨by decide +kernel, by decide +kernel⟩, List.mem_of_getElem? (i := 663) (by decide +kernel), List.mem_of_getElem? (i := 868) (by decide +kernel), List.mem_of_getElem? (i := 869) (by decide +kernel)⟩
theorem lw_p40 : lw_okq (⟨"FollowCabModel", "roundOf", "(I)I"⟩, 34) := ⟨⟨by decide +kernel, by decide +kernel⟩, List.mem_of_getElem? (i := 663) (by decide +kernel), List.mem_of_getElem? (i := 873) (by decide +kernel), List.mem_of_getElem? (i := 874) (by decide +kernel)⟩
theorem lw_p41 : lw_okq (⟨"FollowCabModel", "cornerOf", "(II)I"⟩, 34) := ⟨⟨by decide +kernel, by decide +kernel⟩, List.mem_of_getElem? (i := 663) (by decide +kernel), List.mem_of_getElem? (i := 877) (by decide +kernel), List.mem_of_getElem? (i := 878) (by decide +kernel)⟩
theorem lw_p42 : lw_okq (⟨"FollowCabModel", "stepsRefused", "(I)I"⟩, 34) := ⟨⟨by decide +kernel, by decide +kernel⟩, List.mem_of_getElem? (i := 663) (by decide +kernel), List.mem_of_getElem? (i := 885) (by decide +kernel), List.mem_of_getElem? (i := 886) (by decide +kernel)⟩
theorem lw_p43 : lw_okq (⟨"FollowCabModel", "remember", "()V"⟩, 34) := ⟨⟨by decide +kernel, by decide +kernel⟩, List.mem_of_getElem? (i := 663) (by decide +kernel), List.mem_of_getElem? (i := 891) (by decide +kernel), List.mem_of_getElem? (i := 892) (by decide +kernel)⟩
theorem lw_p44 : lw_okq (⟨"FollowCabModel", "stepAll", "()V"⟩, 34) := ⟨⟨by decide +kernel, by decide +kernel⟩, List.mem_of_getElem? (i := 663) (by decide +kernel), List.mem_of_getElem? (i := 895) (by decide +kernel), List.mem_of_getElem? (i := 896) (by decide +kernel)⟩
theorem lw_p45 : lw_okq (⟨"FollowCabModel", "areTwo", "(II)Z"⟩, 34) := ⟨⟨by decide +kernel, by decide +kernel⟩, List.mem_of_getElem? (i := 663) (by decide +kernel), List.mem_of_getElem? (i := 903) (by decide +kernel), List.mem_of_getElem? (i := 904) (by decide +kernel)⟩
theorem lw_p46 : lw_okq (⟨"FollowCabModel", "chance", "()V"⟩, 34) := ⟨⟨by decide +kernel, by decide +kernel⟩, List.mem_of_getElem? (i := 663) (by decide +kernel), List.mem_of_getElem? (i := 919) (by decide +kernel), List.mem_of_getElem? (i := 920) (by decide +kernel)⟩
theorem lw_p47 : lw_okq (⟨"FollowCabModel", "draw", "(I)I"⟩, 34) := ⟨⟨by decide +kernel, by decide +kernel⟩, List.mem_of_getElem? (i := 663) (by decide +kernel), List.mem_of_getElem? (i := 923) (by decide +kernel), List.mem_of_getElem? (i := 924) (by decide +kernel)⟩
def lw_privs_3 : List (MethodName × Nat) := [(⟨"FollowCabModel", "takeRead", "()V"⟩, 34), (⟨"FollowCabModel", "taken", "()I"⟩, 34), (⟨"FollowCabModel", "followers", "()I"⟩, 34), (⟨"FollowCabModel", "ringsNow", "(I)I"⟩, 34), (⟨"FollowCabModel", "ringOf", "(I)I"⟩, 34), (⟨"FollowCabModel", "heads", "()I"⟩, 34), (⟨"FollowCabModel", "behindOf", "(I)I"⟩, 34), (⟨"FollowCabModel", "isCar", "(I)Z"⟩, 34), (⟨"FollowCabModel", "roundOf", "(I)I"⟩, 34), (⟨"FollowCabModel", "cornerOf", "(II)I"⟩, 34), (⟨"FollowCabModel", "stepsRefused", "(I)I"⟩, 34), (⟨"FollowCabModel", "remember", "()V"⟩, 34), (⟨"FollowCabModel", "stepAll", "()V"⟩, 34), (⟨"FollowCabModel", "areTwo", "(II)Z"⟩, 34), (⟨"FollowCabModel", "chance", "()V"⟩, 34), (⟨"FollowCabModel", "draw", "(I)I"⟩, 34)]
theorem lw_r3 : ∀ q ∈ lw_privs_3, lw_okq q := List.forall_mem_cons.mpr ⟨lw_p32, List.forall_mem_cons.mpr ⟨lw_p33, List.forall_mem_cons.mpr ⟨lw_p34, List.forall_mem_cons.mpr ⟨lw_p35, List.forall_mem_cons.mpr ⟨lw_p36, List.forall_mem_cons.mpr ⟨lw_p37, List.forall_mem_cons.mpr ⟨lw_p38, List.forall_mem_cons.mpr ⟨lw_p39, List.forall_mem_cons.mpr ⟨lw_p40, List.forall_mem_cons.mpr ⟨lw_p41, List.forall_mem_cons.mpr ⟨lw_p42, List.forall_mem_cons.mpr ⟨lw_p43, List.forall_mem_cons.mpr ⟨lw_p44, List.forall_mem_cons.mpr ⟨lw_p45, List.forall_mem_cons.mpr ⟨lw_p46, List.forall_mem_cons.mpr ⟨lw_p47, fun _ h => absurd h List.not_mem_nil⟩⟩⟩⟩⟩⟩⟩⟩⟩⟩⟩⟩⟩⟩⟩⟩
theorem lw_p48 : lw_okq (⟨"FollowCabModel", "save", "()V"⟩, 34) := ⟨⟨by decide +kernel, by decide +kernel⟩, List.mem_of_getElem? (i := 663) (by decide +kernel), List.mem_of_getElem? (i := 940) (by decide +kernel), List.mem_of_getElem? (i := 941) (by decide +kernel)⟩
theorem lw_p49 : lw_okq (⟨"FollowCabModel", "stepTo", "(I)V"⟩, 34) := ⟨⟨by decide +kernel, by decide +kernel⟩, List.mem_of_getElem? (i := 663) (by decide +kernel), List.mem_of_getElem? (i := 944) (by decide +kernel), List.mem_of_getElem? (i := 945) (by decide +kernel)⟩
theorem lw_p50 : lw_okq (⟨"FollowCabModel", "putBack", "()V"⟩, 34) := ⟨⟨by decide +kernel, by decide +kernel⟩, List.mem_of_getElem? (i := 663) (by decide +kernel), List.mem_of_getElem? (i := 948) (by decide +kernel), List.mem_of_getElem? (i := 949) (by decide +kernel)⟩
theorem lw_p51 : lw_okq (⟨"FollowCabModel", "isCorner", "(I)Z"⟩, 34) := ⟨⟨by decide +kernel, by decide +kernel⟩, List.mem_of_getElem? (i := 663) (by decide +kernel), List.mem_of_getElem? (i := 976) (by decide +kernel), List.mem_of_getElem? (i := 977) (by decide +kernel)⟩
theorem lw_p52 : lw_okq (⟨"FollowCabModel", "handedOn", "(I)I"⟩, 34) := ⟨⟨by decide +kernel, by decide +kernel⟩, List.mem_of_getElem? (i := 663) (by decide +kernel), List.mem_of_getElem? (i := 985) (by decide +kernel), List.mem_of_getElem? (i := 986) (by decide +kernel)⟩
theorem lw_p53 : lw_okq (⟨"FollowCabModel", "couldFollow", "(II)Z"⟩, 34) := ⟨⟨by decide +kernel, by decide +kernel⟩, List.mem_of_getElem? (i := 663) (by decide +kernel), List.mem_of_getElem? (i := 1008) (by decide +kernel), List.mem_of_getElem? (i := 1009) (by decide +kernel)⟩
theorem lw_p54 : lw_okq (⟨"FollowCabModel", "findWay", "(II)V"⟩, 34) := ⟨⟨by decide +kernel, by decide +kernel⟩, List.mem_of_getElem? (i := 663) (by decide +kernel), List.mem_of_getElem? (i := 1012) (by decide +kernel), List.mem_of_getElem? (i := 1013) (by decide +kernel)⟩
def lw_privs_4 : List (MethodName × Nat) := [(⟨"FollowCabModel", "save", "()V"⟩, 34), (⟨"FollowCabModel", "stepTo", "(I)V"⟩, 34), (⟨"FollowCabModel", "putBack", "()V"⟩, 34), (⟨"FollowCabModel", "isCorner", "(I)Z"⟩, 34), (⟨"FollowCabModel", "handedOn", "(I)I"⟩, 34), (⟨"FollowCabModel", "couldFollow", "(II)Z"⟩, 34), (⟨"FollowCabModel", "findWay", "(II)V"⟩, 34)]
theorem lw_r4 : ∀ q ∈ lw_privs_4, lw_okq q := List.forall_mem_cons.mpr ⟨lw_p48, List.forall_mem_cons.mpr ⟨lw_p49, List.forall_mem_cons.mpr ⟨lw_p50, List.forall_mem_cons.mpr ⟨lw_p51, List.forall_mem_cons.mpr ⟨lw_p52, List.forall_mem_cons.mpr ⟨lw_p53, List.forall_mem_cons.mpr ⟨lw_p54, fun _ h => absurd h List.not_mem_nil⟩⟩⟩⟩⟩⟩⟩
def lw_privs : List (MethodName × Nat) := lw_privs_1 ++ (lw_privs_2 ++ (lw_privs_3 ++ (lw_privs_4)))
def lw_tbl : List Cond := k2_sels lw_privs ++ tables_1
theorem lw_privs_ok : ∀ q ∈ lw_privs, lw_okq q := by
  show ∀ q ∈ lw_privs_1 ++ (lw_privs_2 ++ (lw_privs_3 ++ (lw_privs_4))), lw_okq q
  exact List.forall_mem_append.mpr ⟨lw_r1, List.forall_mem_append.mpr ⟨lw_r2, List.forall_mem_append.mpr ⟨lw_r3, lw_r4⟩⟩⟩
def RX0 : String := "FollowCab$Draws"
def TX0 : u_T := fun k => match k with
  | _ => ("FollowCab$Draws", "value", "I", false)
def tyX0 : Nat → FieldType := fun k => match k with
  | _ => .int
abbrev wsX00 : List Cond := u_ws RX0 TX0 1
theorem nmX0 : ∀ a, a < 1 → ∀ b, b < 1 → a ≠ b → (TX0 a).2.1 ≠ (TX0 b).2.1 := by decide +kernel
theorem tyX0_ok : ∀ k, k < 1 → parseFieldDescriptor (TX0 k).2.2.1 = some (tyX0 k) := by decide +kernel
abbrev cX0_init : ByteArray := prog_2_method_1_code
def yX0_init : MethodName := ⟨RX0, "<init>", "()V"⟩
abbrev cX0_drawOf : ByteArray := prog_2_method_2_code
def yX0_drawOf : MethodName := ⟨RX0, "drawOf", "(I)I"⟩
def RX1 : String := "FollowCab$Entries"
def TX1 : u_T := fun k => match k with
  | 0 => ("FollowCab$Entries", "most", "I", true)
  | 1 => ("FollowCab$Entries", "car", "[I", true)
  | 2 => ("FollowCab$Entries", "steps", "[I", true)
  | 3 => ("FollowCab$Entries", "corner", "[I", true)
  | _ => ("FollowCab$Entries", "count", "I", false)
def tyX1 : Nat → FieldType := fun k => match k with
  | 0 => .int
  | 1 => .array .int
  | 2 => .array .int
  | 3 => .array .int
  | _ => .int
abbrev wsX10 : List Cond := u_ws RX1 TX1 5
theorem nmX1 : ∀ a, a < 5 → ∀ b, b < 5 → a ≠ b → (TX1 a).2.1 ≠ (TX1 b).2.1 := by decide +kernel
theorem tyX1_ok : ∀ k, k < 5 → parseFieldDescriptor (TX1 k).2.2.1 = some (tyX1 k) := by decide +kernel
abbrev cX1_init : ByteArray := prog_3_method_1_code
def yX1_init : MethodName := ⟨RX1, "<init>", "(I)V"⟩
abbrev cX1_add : ByteArray := prog_3_method_2_code
def yX1_add : MethodName := ⟨RX1, "add", "(III)I"⟩
def RX2 : String := "FollowCab$Figures"
def TX2 : u_T := fun k => match k with
  | _ => ("", "", "", false)
def tyX2 : Nat → FieldType := fun k => match k with
  | _ => .int
abbrev wsX20 : List Cond := u_ws RX2 TX2 0
theorem nmX2 : ∀ a, a < 0 → ∀ b, b < 0 → a ≠ b → (TX2 a).2.1 ≠ (TX2 b).2.1 := by decide +kernel
theorem tyX2_ok : ∀ k, k < 0 → parseFieldDescriptor (TX2 k).2.2.1 = some (tyX2 k) := by decide +kernel
abbrev cX2_count : ByteArray := prog_4_method_2_code
def yX2_count : MethodName := ⟨RX2, "count", "(I)I"⟩
abbrev cX2_at : ByteArray := prog_4_method_3_code
def yX2_at : MethodName := ⟨RX2, "at", "(II)I"⟩
abbrev cX2_reversed : ByteArray := prog_4_method_4_code
def yX2_reversed : MethodName := ⟨RX2, "reversed", "(I)I"⟩
abbrev cX2_areAllUpTo : ByteArray := prog_4_method_5_code
def yX2_areAllUpTo : MethodName := ⟨RX2, "areAllUpTo", "(II)Z"⟩
def RX3 : String := "FollowCab$Guess"
def TX3 : u_T := fun k => match k with
  | 0 => ("FollowCab$Guess", "track", "[[I", true)
  | 1 => ("FollowCab$Guess", "tried", "LFollowCab$Scene;", true)
  | _ => ("FollowCab$Guess", "fitting", "I", false)
def tyX3 : Nat → FieldType := fun k => match k with
  | 0 => .array (.array .int)
  | 1 => .object "FollowCab$Scene"
  | _ => .int
abbrev wsX30 : List Cond := u_ws RX3 TX3 3
theorem nmX3 : ∀ a, a < 3 → ∀ b, b < 3 → a ≠ b → (TX3 a).2.1 ≠ (TX3 b).2.1 := by decide +kernel
theorem tyX3_ok : ∀ k, k < 3 → parseFieldDescriptor (TX3 k).2.2.1 = some (tyX3 k) := by decide +kernel
abbrev cX3_init : ByteArray := prog_5_method_1_code
def yX3_init : MethodName := ⟨RX3, "<init>", "()V"⟩
abbrev cX3_weigh : ByteArray := prog_5_method_2_code
def yX3_weigh : MethodName := ⟨RX3, "weigh", "(LFollowCab$Scene;ILFollowCab$Entries;)V"⟩
abbrev cX3_recordTrack : ByteArray := prog_5_method_3_code
def yX3_recordTrack : MethodName := ⟨RX3, "recordTrack", "(II)V"⟩
abbrev cX3_fits : ByteArray := prog_5_method_4_code
def yX3_fits : MethodName := ⟨RX3, "fits", "(IILFollowCab$Entries;)Z"⟩
abbrev cX3_bestLook : ByteArray := prog_5_method_5_code
def yX3_bestLook : MethodName := ⟨RX3, "bestLook", "()I"⟩
abbrev cX3_greatestPart : ByteArray := prog_5_method_6_code
def yX3_greatestPart : MethodName := ⟨RX3, "greatestPart", "(I)I"⟩
abbrev cX3_partAlike : ByteArray := prog_5_method_7_code
def yX3_partAlike : MethodName := ⟨RX3, "partAlike", "(II)I"⟩
def RX4 : String := "FollowCab$History"
def TX4 : u_T := fun k => match k with
  | 0 => ("FollowCab$History", "kept", "[LFollowCab$Scene;", true)
  | 1 => ("FollowCab$History", "top", "I", false)
  | _ => ("FollowCab$History", "count", "I", false)
def tyX4 : Nat → FieldType := fun k => match k with
  | 0 => .array (.object "FollowCab$Scene")
  | 1 => .int
  | _ => .int
abbrev wsX40 : List Cond := u_ws RX4 TX4 3
theorem nmX4 : ∀ a, a < 3 → ∀ b, b < 3 → a ≠ b → (TX4 a).2.1 ≠ (TX4 b).2.1 := by decide +kernel
theorem tyX4_ok : ∀ k, k < 3 → parseFieldDescriptor (TX4 k).2.2.1 = some (tyX4 k) := by decide +kernel
abbrev cX4_init : ByteArray := prog_6_method_1_code
def yX4_init : MethodName := ⟨RX4, "<init>", "()V"⟩
abbrev cX4_push : ByteArray := prog_6_method_2_code
def yX4_push : MethodName := ⟨RX4, "push", "(LFollowCab$Scene;)V"⟩
abbrev cX4_pop : ByteArray := prog_6_method_3_code
def yX4_pop : MethodName := ⟨RX4, "pop", "(LFollowCab$Scene;)V"⟩
abbrev cX4_forget : ByteArray := prog_6_method_4_code
def yX4_forget : MethodName := ⟨RX4, "forget", "()V"⟩
def RX5 : String := "FollowCab$Images"
def TX5 : u_T := fun k => match k with
  | 0 => ("FollowCab$Images", "scene", "[LFollowCab$Scene;", true)
  | 1 => ("FollowCab$Images", "drawValue", "[I", true)
  | _ => ("FollowCab$Images", "kept", "[Z", true)
def tyX5 : Nat → FieldType := fun k => match k with
  | 0 => .array (.object "FollowCab$Scene")
  | 1 => .array .int
  | _ => .array .boolean
abbrev wsX50 : List Cond := u_ws RX5 TX5 3
theorem nmX5 : ∀ a, a < 3 → ∀ b, b < 3 → a ≠ b → (TX5 a).2.1 ≠ (TX5 b).2.1 := by decide +kernel
theorem tyX5_ok : ∀ k, k < 3 → parseFieldDescriptor (TX5 k).2.2.1 = some (tyX5 k) := by decide +kernel
abbrev cX5_init : ByteArray := prog_7_method_1_code
def yX5_init : MethodName := ⟨RX5, "<init>", "()V"⟩
abbrev cX5_put : ByteArray := prog_7_method_2_code
def yX5_put : MethodName := ⟨RX5, "put", "(ILFollowCab$Scene;I)V"⟩
abbrev cX5_forget : ByteArray := prog_7_method_3_code
def yX5_forget : MethodName := ⟨RX5, "forget", "()V"⟩
def RX6 : String := "FollowCab$Reader"
def TX6 : u_T := fun k => match k with
  | 0 => ("FollowCab$Reader", "scene", "LFollowCab$Scene;", true)
  | 1 => ("FollowCab$Reader", "corners", "I", false)
  | 2 => ("FollowCab$Reader", "odds", "I", false)
  | 3 => ("FollowCab$Reader", "faultNumber", "I", false)
  | 4 => ("FollowCab$Reader", "faultPlace", "I", false)
  | 5 => ("FollowCab$Reader", "text", "LFollowCab$Text;", true)
  | 6 => ("FollowCab$Reader", "place", "I", false)
  | _ => ("FollowCab$Reader", "numberPlace", "I", false)
def tyX6 : Nat → FieldType := fun k => match k with
  | 0 => .object "FollowCab$Scene"
  | 1 => .int
  | 2 => .int
  | 3 => .int
  | 4 => .int
  | 5 => .object "FollowCab$Text"
  | 6 => .int
  | _ => .int
abbrev wsX60 : List Cond := u_ws RX6 TX6 8
theorem nmX6 : ∀ a, a < 8 → ∀ b, b < 8 → a ≠ b → (TX6 a).2.1 ≠ (TX6 b).2.1 := by decide +kernel
theorem tyX6_ok : ∀ k, k < 8 → parseFieldDescriptor (TX6 k).2.2.1 = some (tyX6 k) := by decide +kernel
abbrev cX6_init : ByteArray := prog_8_method_1_code
def yX6_init : MethodName := ⟨RX6, "<init>", "(LFollowCab$Text;)V"⟩
abbrev cX6_readAll : ByteArray := prog_8_method_2_code
def yX6_readAll : MethodName := ⟨RX6, "readAll", "()V"⟩
abbrev cX6_letter : ByteArray := prog_8_method_3_code
def yX6_letter : MethodName := ⟨RX6, "letter", "()I"⟩
abbrev cX6_isFigure : ByteArray := prog_8_method_4_code
def yX6_isFigure : MethodName := ⟨RX6, "isFigure", "()Z"⟩
abbrev cX6_skipBlanks : ByteArray := prog_8_method_5_code
def yX6_skipBlanks : MethodName := ⟨RX6, "skipBlanks", "()V"⟩
abbrev cX6_blame : ByteArray := prog_8_method_6_code
def yX6_blame : MethodName := ⟨RX6, "blame", "(II)V"⟩
abbrev cX6_readClause : ByteArray := prog_8_method_7_code
def yX6_readClause : MethodName := ⟨RX6, "readClause", "()V"⟩
abbrev cX6_readTown : ByteArray := prog_8_method_8_code
def yX6_readTown : MethodName := ⟨RX6, "readTown", "()V"⟩
abbrev cX6_readCar : ByteArray := prog_8_method_9_code
def yX6_readCar : MethodName := ⟨RX6, "readCar", "()V"⟩
abbrev cX6_isRound : ByteArray := prog_8_method_10_code
def yX6_isRound : MethodName := ⟨RX6, "isRound", "(I)Z"⟩
abbrev cX6_readFollowing : ByteArray := prog_8_method_11_code
def yX6_readFollowing : MethodName := ⟨RX6, "readFollowing", "()V"⟩
abbrev cX6_readSemicolon : ByteArray := prog_8_method_12_code
def yX6_readSemicolon : MethodName := ⟨RX6, "readSemicolon", "()V"⟩
abbrev cX6_readNumber : ByteArray := prog_8_method_13_code
def yX6_readNumber : MethodName := ⟨RX6, "readNumber", "(II)I"⟩
def RX7 : String := "FollowCab$Scene"
def TX7 : u_T := fun k => match k with
  | 0 => ("FollowCab$Scene", "cars", "I", false)
  | 1 => ("FollowCab$Scene", "steps", "I", false)
  | 2 => ("FollowCab$Scene", "corner", "[I", true)
  | 3 => ("FollowCab$Scene", "leader", "[I", true)
  | 4 => ("FollowCab$Scene", "round", "[I", true)
  | 5 => ("FollowCab$Scene", "next", "[I", true)
  | 6 => ("FollowCab$Scene", "went", "[I", true)
  | _ => ("FollowCab$Scene", "ahead", "[I", true)
def tyX7 : Nat → FieldType := fun k => match k with
  | 0 => .int
  | 1 => .int
  | 2 => .array .int
  | 3 => .array .int
  | 4 => .array .int
  | 5 => .array .int
  | 6 => .array .int
  | _ => .array .int
abbrev wsX70 : List Cond := u_ws RX7 TX7 8
theorem nmX7 : ∀ a, a < 8 → ∀ b, b < 8 → a ≠ b → (TX7 a).2.1 ≠ (TX7 b).2.1 := by decide +kernel
theorem tyX7_ok : ∀ k, k < 8 → parseFieldDescriptor (TX7 k).2.2.1 = some (tyX7 k) := by decide +kernel
abbrev cX7_init : ByteArray := prog_9_method_1_code
def yX7_init : MethodName := ⟨RX7, "<init>", "()V"⟩
abbrev cX7_copyFrom : ByteArray := prog_9_method_2_code
def yX7_copyFrom : MethodName := ⟨RX7, "copyFrom", "(LFollowCab$Scene;)V"⟩
abbrev cX7_clear : ByteArray := prog_9_method_3_code
def yX7_clear : MethodName := ⟨RX7, "clear", "()V"⟩
abbrev cX7_addCar : ByteArray := prog_9_method_4_code
def yX7_addCar : MethodName := ⟨RX7, "addCar", "(II)V"⟩
abbrev cX7_moveTimes : ByteArray := prog_9_method_5_code
def yX7_moveTimes : MethodName := ⟨RX7, "moveTimes", "(I)V"⟩
abbrev cX7_move : ByteArray := prog_9_method_6_code
def yX7_move : MethodName := ⟨RX7, "move", "()V"⟩
abbrev cX7_goRound : ByteArray := prog_9_method_7_code
def yX7_goRound : MethodName := ⟨RX7, "goRound", "(I)I"⟩
abbrev cX7_reverseRound : ByteArray := prog_9_method_8_code
def yX7_reverseRound : MethodName := ⟨RX7, "reverseRound", "(I)V"⟩
abbrev cX7_carsAt : ByteArray := prog_9_method_9_code
def yX7_carsAt : MethodName := ⟨RX7, "carsAt", "(I)I"⟩
abbrev cX7_takenCorners : ByteArray := prog_9_method_10_code
def yX7_takenCorners : MethodName := ⟨RX7, "takenCorners", "()I"⟩
abbrev cX7_allBeside : ByteArray := prog_9_method_11_code
def yX7_allBeside : MethodName := ⟨RX7, "allBeside", "(I)I"⟩
abbrev cX7_allFollowers : ByteArray := prog_9_method_12_code
def yX7_allFollowers : MethodName := ⟨RX7, "allFollowers", "()I"⟩
abbrev cX7_leadersOf : ByteArray := prog_9_method_13_code
def yX7_leadersOf : MethodName := ⟨RX7, "leadersOf", "(I)I"⟩
abbrev cX7_trailOf : ByteArray := prog_9_method_14_code
def yX7_trailOf : MethodName := ⟨RX7, "trailOf", "(I)I"⟩
abbrev cX7_ringOf : ByteArray := prog_9_method_15_code
def yX7_ringOf : MethodName := ⟨RX7, "ringOf", "(I)I"⟩
abbrev cX7_leastOfRings : ByteArray := prog_9_method_16_code
def yX7_leastOfRings : MethodName := ⟨RX7, "leastOfRings", "()I"⟩
abbrev cX7_ringCount : ByteArray := prog_9_method_17_code
def yX7_ringCount : MethodName := ⟨RX7, "ringCount", "()I"⟩
abbrev cX7_ringNumber : ByteArray := prog_9_method_18_code
def yX7_ringNumber : MethodName := ⟨RX7, "ringNumber", "(I)I"⟩
abbrev cX7_isAnEnd : ByteArray := prog_9_method_19_code
def yX7_isAnEnd : MethodName := ⟨RX7, "isAnEnd", "(I)Z"⟩
abbrev cX7_timesToEnd : ByteArray := prog_9_method_20_code
def yX7_timesToEnd : MethodName := ⟨RX7, "timesToEnd", "(I)I"⟩
abbrev cX7_endOf : ByteArray := prog_9_method_21_code
def yX7_endOf : MethodName := ⟨RX7, "endOf", "(I)I"⟩
abbrev cX7_heads : ByteArray := prog_9_method_22_code
def yX7_heads : MethodName := ⟨RX7, "heads", "()I"⟩
def RX8 : String := "FollowCab$Text"
def TX8 : u_T := fun k => match k with
  | 0 => ("FollowCab$Text", "letter", "[I", true)
  | _ => ("FollowCab$Text", "length", "I", false)
def tyX8 : Nat → FieldType := fun k => match k with
  | 0 => .array .int
  | _ => .int
abbrev wsX80 : List Cond := u_ws RX8 TX8 2
theorem nmX8 : ∀ a, a < 2 → ∀ b, b < 2 → a ≠ b → (TX8 a).2.1 ≠ (TX8 b).2.1 := by decide +kernel
theorem tyX8_ok : ∀ k, k < 2 → parseFieldDescriptor (TX8 k).2.2.1 = some (tyX8 k) := by decide +kernel
abbrev cX8_init : ByteArray := prog_10_method_1_code
def yX8_init : MethodName := ⟨RX8, "<init>", "()V"⟩
abbrev cX8_add : ByteArray := prog_10_method_2_code
def yX8_add : MethodName := ⟨RX8, "add", "(I)V"⟩
abbrev cX8_at : ByteArray := prog_10_method_3_code
def yX8_at : MethodName := ⟨RX8, "at", "(I)I"⟩
def RX9 : String := "FollowCab"
def TX9 : u_T := fun k => match k with
  | 0 => ("FollowCab", "text", "LFollowCab$Text;", true)
  | 1 => ("FollowCab", "reader", "LFollowCab$Reader;", true)
  | 2 => ("FollowCab", "now", "LFollowCab$Scene;", true)
  | 3 => ("FollowCab", "tried", "LFollowCab$Scene;", true)
  | 4 => ("FollowCab", "history", "LFollowCab$History;", true)
  | 5 => ("FollowCab", "images", "LFollowCab$Images;", true)
  | 6 => ("FollowCab", "sightings", "LFollowCab$Entries;", true)
  | 7 => ("FollowCab", "book", "LFollowCab$Entries;", true)
  | 8 => ("FollowCab", "guess", "LFollowCab$Guess;", true)
  | 9 => ("FollowCab", "draws", "LFollowCab$Draws;", true)
  | 10 => ("FollowCab", "corners", "I", false)
  | 11 => ("FollowCab", "odds", "I", false)
  | _ => ("FollowCab", "faultPlace", "I", false)
def tyX9 : Nat → FieldType := fun k => match k with
  | 0 => .object "FollowCab$Text"
  | 1 => .object "FollowCab$Reader"
  | 2 => .object "FollowCab$Scene"
  | 3 => .object "FollowCab$Scene"
  | 4 => .object "FollowCab$History"
  | 5 => .object "FollowCab$Images"
  | 6 => .object "FollowCab$Entries"
  | 7 => .object "FollowCab$Entries"
  | 8 => .object "FollowCab$Guess"
  | 9 => .object "FollowCab$Draws"
  | 10 => .int
  | 11 => .int
  | _ => .int
abbrev wsX90 : List Cond := u_ws RX9 TX9 13
theorem nmX9 : ∀ a, a < 13 → ∀ b, b < 13 → a ≠ b → (TX9 a).2.1 ≠ (TX9 b).2.1 := by decide +kernel
theorem tyX9_ok : ∀ k, k < 13 → parseFieldDescriptor (TX9 k).2.2.1 = some (tyX9 k) := by decide +kernel
abbrev cX9_init : ByteArray := prog_1_method_1_code
def yX9_init : MethodName := ⟨RX9, "<init>", "()V"⟩
abbrev cX9_feed : ByteArray := prog_1_method_2_code
def yX9_feed : MethodName := ⟨RX9, "feed", "(I)I"⟩
abbrev cX9_town : ByteArray := prog_1_method_3_code
def yX9_town : MethodName := ⟨RX9, "town", "()I"⟩
abbrev cX9_fault : ByteArray := prog_1_method_4_code
def yX9_fault : MethodName := ⟨RX9, "fault", "()I"⟩
abbrev cX9_told : ByteArray := prog_1_method_5_code
def yX9_told : MethodName := ⟨RX9, "told", "(I)I"⟩
abbrev cX9_car : ByteArray := prog_1_method_6_code
def yX9_car : MethodName := ⟨RX9, "car", "(II)I"⟩
abbrev cX9_step : ByteArray := prog_1_method_7_code
def yX9_step : MethodName := ⟨RX9, "step", "(I)I"⟩
abbrev cX9_follow : ByteArray := prog_1_method_8_code
def yX9_follow : MethodName := ⟨RX9, "follow", "(II)I"⟩
abbrev cX9_letOff : ByteArray := prog_1_method_9_code
def yX9_letOff : MethodName := ⟨RX9, "letOff", "(I)I"⟩
abbrev cX9_turn : ByteArray := prog_1_method_10_code
def yX9_turn : MethodName := ⟨RX9, "turn", "(I)I"⟩
abbrev cX9_drift : ByteArray := prog_1_method_11_code
def yX9_drift : MethodName := ⟨RX9, "drift", "(I)I"⟩
abbrev cX9_undo : ByteArray := prog_1_method_12_code
def yX9_undo : MethodName := ⟨RX9, "undo", "()I"⟩
abbrev cX9_where : ByteArray := prog_1_method_13_code
def yX9_where : MethodName := ⟨RX9, "where", "(II)I"⟩
abbrev cX9_sees : ByteArray := prog_1_method_14_code
def yX9_sees : MethodName := ⟨RX9, "sees", "(II)I"⟩
abbrev cX9_rings : ByteArray := prog_1_method_15_code
def yX9_rings : MethodName := ⟨RX9, "rings", "(I)I"⟩
abbrev cX9_end : ByteArray := prog_1_method_16_code
def yX9_end : MethodName := ⟨RX9, "end", "(II)I"⟩
abbrev cX9_behind : ByteArray := prog_1_method_17_code
def yX9_behind : MethodName := ⟨RX9, "behind", "(I)I"⟩
abbrev cX9_stop : ByteArray := prog_1_method_18_code
def yX9_stop : MethodName := ⟨RX9, "stop", "()I"⟩
abbrev cX9_cross : ByteArray := prog_1_method_19_code
def yX9_cross : MethodName := ⟨RX9, "cross", "(II)I"⟩
abbrev cX9_handed : ByteArray := prog_1_method_20_code
def yX9_handed : MethodName := ⟨RX9, "handed", "(II)I"⟩
abbrev cX9_meets : ByteArray := prog_1_method_21_code
def yX9_meets : MethodName := ⟨RX9, "meets", "(I)I"⟩
abbrev cX9_asked : ByteArray := prog_1_method_22_code
def yX9_asked : MethodName := ⟨RX9, "asked", "(I)I"⟩
abbrev cX9_see : ByteArray := prog_1_method_23_code
def yX9_see : MethodName := ⟨RX9, "see", "(III)I"⟩
abbrev cX9_whom : ByteArray := prog_1_method_24_code
def yX9_whom : MethodName := ⟨RX9, "whom", "(I)I"⟩
abbrev cX9_look : ByteArray := prog_1_method_25_code
def yX9_look : MethodName := ⟨RX9, "look", "(I)I"⟩
abbrev cX9_write : ByteArray := prog_1_method_26_code
def yX9_write : MethodName := ⟨RX9, "write", "(II)I"⟩
abbrev cX9_tear : ByteArray := prog_1_method_27_code
def yX9_tear : MethodName := ⟨RX9, "tear", "()I"⟩
abbrev cX9_judge : ByteArray := prog_1_method_28_code
def yX9_judge : MethodName := ⟨RX9, "judge", "()I"⟩
abbrev cX9_seed : ByteArray := prog_1_method_29_code
def yX9_seed : MethodName := ⟨RX9, "seed", "(I)I"⟩
abbrev cX9_keep : ByteArray := prog_1_method_30_code
def yX9_keep : MethodName := ⟨RX9, "keep", "(I)I"⟩
abbrev cX9_goBack : ByteArray := prog_1_method_31_code
def yX9_goBack : MethodName := ⟨RX9, "goBack", "(I)I"⟩
abbrev cX9_isCar : ByteArray := prog_1_method_32_code
def yX9_isCar : MethodName := ⟨RX9, "isCar", "(I)Z"⟩
abbrev cX9_areTwoCars : ByteArray := prog_1_method_33_code
def yX9_areTwoCars : MethodName := ⟨RX9, "areTwoCars", "(II)Z"⟩
abbrev cX9_isCorner : ByteArray := prog_1_method_34_code
def yX9_isCorner : MethodName := ⟨RX9, "isCorner", "(I)Z"⟩
abbrev cX9_isImage : ByteArray := prog_1_method_35_code
def yX9_isImage : MethodName := ⟨RX9, "isImage", "(I)Z"⟩
abbrev cX9_isIn : ByteArray := prog_1_method_36_code
def yX9_isIn : MethodName := ⟨RX9, "isIn", "(II)Z"⟩
abbrev cX9_leastOf : ByteArray := prog_1_method_37_code
def yX9_leastOf : MethodName := ⟨RX9, "leastOf", "(I)I"⟩
abbrev cX9_refusalOfSteps : ByteArray := prog_1_method_38_code
def yX9_refusalOfSteps : MethodName := ⟨RX9, "refusalOfSteps", "(I)I"⟩
abbrev cX9_askByDraws : ByteArray := prog_1_method_39_code
def yX9_askByDraws : MethodName := ⟨RX9, "askByDraws", "()V"⟩
def RX10 : String := "FollowCabModel"
def TX10 : u_T := fun k => match k with
  | 0 => ("FollowCabModel", "corners", "I", false)
  | 1 => ("FollowCabModel", "odds", "I", false)
  | 2 => ("FollowCabModel", "cars", "I", false)
  | 3 => ("FollowCabModel", "rounds", "[I", true)
  | 4 => ("FollowCabModel", "longs", "[I", true)
  | 5 => ("FollowCabModel", "now", "[I", true)
  | 6 => ("FollowCabModel", "seed", "I", false)
  | 7 => ("FollowCabModel", "text", "[I", true)
  | 8 => ("FollowCabModel", "texted", "I", false)
  | 9 => ("FollowCabModel", "faultPlace", "I", false)
  | 10 => ("FollowCabModel", "at0", "I", false)
  | 11 => ("FollowCabModel", "number", "I", false)
  | 12 => ("FollowCabModel", "numberAt", "I", false)
  | 13 => ("FollowCabModel", "readTown", "[I", true)
  | 14 => ("FollowCabModel", "readCars", "I", false)
  | 15 => ("FollowCabModel", "readAt", "[I", true)
  | 16 => ("FollowCabModel", "readRounds", "[I", true)
  | 17 => ("FollowCabModel", "readLongs", "[I", true)
  | 18 => ("FollowCabModel", "readFollows", "[I", true)
  | 19 => ("FollowCabModel", "ahead", "[I", true)
  | 20 => ("FollowCabModel", "undos", "I", false)
  | 21 => ("FollowCabModel", "past", "[I", true)
  | 22 => ("FollowCabModel", "was", "[I", true)
  | 23 => ("FollowCabModel", "seen", "I", false)
  | 24 => ("FollowCabModel", "seenOf", "[I", true)
  | 25 => ("FollowCabModel", "seenBehind", "[I", true)
  | 26 => ("FollowCabModel", "seenAt", "[I", true)
  | 27 => ("FollowCabModel", "way", "[I", true)
  | 28 => ("FollowCabModel", "brings", "[I", true)
  | 29 => ("FollowCabModel", "booked", "I", false)
  | 30 => ("FollowCabModel", "bookOf", "[I", true)
  | 31 => ("FollowCabModel", "bookAt", "[I", true)
  | 32 => ("FollowCabModel", "images", "[I", true)
  | _ => ("FollowCabModel", "isKept", "[Z", true)
def tyX10 : Nat → FieldType := fun k => match k with
  | 0 => .int
  | 1 => .int
  | 2 => .int
  | 3 => .array .int
  | 4 => .array .int
  | 5 => .array .int
  | 6 => .int
  | 7 => .array .int
  | 8 => .int
  | 9 => .int
  | 10 => .int
  | 11 => .int
  | 12 => .int
  | 13 => .array .int
  | 14 => .int
  | 15 => .array .int
  | 16 => .array .int
  | 17 => .array .int
  | 18 => .array .int
  | 19 => .array .int
  | 20 => .int
  | 21 => .array .int
  | 22 => .array .int
  | 23 => .int
  | 24 => .array .int
  | 25 => .array .int
  | 26 => .array .int
  | 27 => .array .int
  | 28 => .array .int
  | 29 => .int
  | 30 => .array .int
  | 31 => .array .int
  | 32 => .array .int
  | _ => .array .boolean
abbrev wsX100 : List Cond := u_ws RX10 TX10 34
theorem nmX10 : ∀ a, a < 34 → ∀ b, b < 34 → a ≠ b → (TX10 a).2.1 ≠ (TX10 b).2.1 := by decide +kernel
theorem tyX10_ok : ∀ k, k < 34 → parseFieldDescriptor (TX10 k).2.2.1 = some (tyX10 k) := by decide +kernel
abbrev cX10_init : ByteArray := prog_12_method_1_code
def yX10_init : MethodName := ⟨RX10, "<init>", "()V"⟩
abbrev cX10_in : ByteArray := prog_12_method_3_code
def yX10_in : MethodName := ⟨RX10, "in", "(JJJ)Z"⟩
abbrev cX10_has : ByteArray := prog_12_method_4_code
def yX10_has : MethodName := ⟨RX10, "has", "(II)Z"⟩
abbrev cX10_isCorner : ByteArray := prog_12_method_5_code
def yX10_isCorner : MethodName := ⟨RX10, "isCorner", "(I)Z"⟩
abbrev cX10_isCar : ByteArray := prog_12_method_6_code
def yX10_isCar : MethodName := ⟨RX10, "isCar", "(I)Z"⟩
abbrev cX10_areTwo : ByteArray := prog_12_method_7_code
def yX10_areTwo : MethodName := ⟨RX10, "areTwo", "(II)Z"⟩
abbrev cX10_feed : ByteArray := prog_12_method_8_code
def yX10_feed : MethodName := ⟨RX10, "feed", "(I)I"⟩
abbrev cX10_here : ByteArray := prog_12_method_9_code
def yX10_here : MethodName := ⟨RX10, "here", "()I"⟩
abbrev cX10_fails : ByteArray := prog_12_method_10_code
def yX10_fails : MethodName := ⟨RX10, "fails", "(II)I"⟩
abbrev cX10_takeNumber : ByteArray := prog_12_method_11_code
def yX10_takeNumber : MethodName := ⟨RX10, "takeNumber", "(II)I"⟩
abbrev cX10_into : ByteArray := prog_12_method_12_code
def yX10_into : MethodName := ⟨RX10, "into", "([IIII)I"⟩
abbrev cX10_takeTown : ByteArray := prog_12_method_13_code
def yX10_takeTown : MethodName := ⟨RX10, "takeTown", "()I"⟩
abbrev cX10_takeCar : ByteArray := prog_12_method_14_code
def yX10_takeCar : MethodName := ⟨RX10, "takeCar", "()I"⟩
abbrev cX10_takeFollows : ByteArray := prog_12_method_15_code
def yX10_takeFollows : MethodName := ⟨RX10, "takeFollows", "()I"⟩
abbrev cX10_takeClause : ByteArray := prog_12_method_16_code
def yX10_takeClause : MethodName := ⟨RX10, "takeClause", "()I"⟩
abbrev cX10_takeRead : ByteArray := prog_12_method_17_code
def yX10_takeRead : MethodName := ⟨RX10, "takeRead", "()V"⟩
abbrev cX10_town : ByteArray := prog_12_method_18_code
def yX10_town : MethodName := ⟨RX10, "town", "()I"⟩
abbrev cX10_fault : ByteArray := prog_12_method_19_code
def yX10_fault : MethodName := ⟨RX10, "fault", "()I"⟩
abbrev cX10_cornerOf : ByteArray := prog_12_method_20_code
def yX10_cornerOf : MethodName := ⟨RX10, "cornerOf", "(II)I"⟩
abbrev cX10_stepAll : ByteArray := prog_12_method_21_code
def yX10_stepAll : MethodName := ⟨RX10, "stepAll", "()V"⟩
abbrev cX10_roundOf : ByteArray := prog_12_method_22_code
def yX10_roundOf : MethodName := ⟨RX10, "roundOf", "(I)I"⟩
abbrev cX10_behindOf : ByteArray := prog_12_method_23_code
def yX10_behindOf : MethodName := ⟨RX10, "behindOf", "(I)I"⟩
abbrev cX10_ringOf : ByteArray := prog_12_method_24_code
def yX10_ringOf : MethodName := ⟨RX10, "ringOf", "(I)I"⟩
abbrev cX10_least : ByteArray := prog_12_method_25_code
def yX10_least : MethodName := ⟨RX10, "least", "(I)I"⟩
abbrev cX10_ringsNow : ByteArray := prog_12_method_26_code
def yX10_ringsNow : MethodName := ⟨RX10, "ringsNow", "(I)I"⟩
abbrev cX10_taken : ByteArray := prog_12_method_27_code
def yX10_taken : MethodName := ⟨RX10, "taken", "()I"⟩
abbrev cX10_followers : ByteArray := prog_12_method_28_code
def yX10_followers : MethodName := ⟨RX10, "followers", "()I"⟩
abbrev cX10_heads : ByteArray := prog_12_method_29_code
def yX10_heads : MethodName := ⟨RX10, "heads", "()I"⟩
abbrev cX10_told : ByteArray := prog_12_method_30_code
def yX10_told : MethodName := ⟨RX10, "told", "(I)I"⟩
abbrev cX10_car : ByteArray := prog_12_method_31_code
def yX10_car : MethodName := ⟨RX10, "car", "(II)I"⟩
abbrev cX10_remember : ByteArray := prog_12_method_32_code
def yX10_remember : MethodName := ⟨RX10, "remember", "()V"⟩
abbrev cX10_stepsRefused : ByteArray := prog_12_method_33_code
def yX10_stepsRefused : MethodName := ⟨RX10, "stepsRefused", "(I)I"⟩
abbrev cX10_step : ByteArray := prog_12_method_34_code
def yX10_step : MethodName := ⟨RX10, "step", "(I)I"⟩
abbrev cX10_follow : ByteArray := prog_12_method_35_code
def yX10_follow : MethodName := ⟨RX10, "follow", "(II)I"⟩
abbrev cX10_letOff : ByteArray := prog_12_method_36_code
def yX10_letOff : MethodName := ⟨RX10, "letOff", "(I)I"⟩
abbrev cX10_turn : ByteArray := prog_12_method_37_code
def yX10_turn : MethodName := ⟨RX10, "turn", "(I)I"⟩
abbrev cX10_draw : ByteArray := prog_12_method_38_code
def yX10_draw : MethodName := ⟨RX10, "draw", "(I)I"⟩
abbrev cX10_chance : ByteArray := prog_12_method_39_code
def yX10_chance : MethodName := ⟨RX10, "chance", "()V"⟩
abbrev cX10_drift : ByteArray := prog_12_method_40_code
def yX10_drift : MethodName := ⟨RX10, "drift", "(I)I"⟩
abbrev cX10_undo : ByteArray := prog_12_method_41_code
def yX10_undo : MethodName := ⟨RX10, "undo", "()I"⟩
abbrev cX10_save : ByteArray := prog_12_method_42_code
def yX10_save : MethodName := ⟨RX10, "save", "()V"⟩
abbrev cX10_putBack : ByteArray := prog_12_method_43_code
def yX10_putBack : MethodName := ⟨RX10, "putBack", "()V"⟩
abbrev cX10_stepTo : ByteArray := prog_12_method_44_code
def yX10_stepTo : MethodName := ⟨RX10, "stepTo", "(I)V"⟩
abbrev cX10_where : ByteArray := prog_12_method_45_code
def yX10_where : MethodName := ⟨RX10, "where", "(II)I"⟩
abbrev cX10_sees : ByteArray := prog_12_method_46_code
def yX10_sees : MethodName := ⟨RX10, "sees", "(II)I"⟩
abbrev cX10_rings : ByteArray := prog_12_method_47_code
def yX10_rings : MethodName := ⟨RX10, "rings", "(I)I"⟩
abbrev cX10_end : ByteArray := prog_12_method_48_code
def yX10_end : MethodName := ⟨RX10, "end", "(II)I"⟩
abbrev cX10_behind : ByteArray := prog_12_method_49_code
def yX10_behind : MethodName := ⟨RX10, "behind", "(I)I"⟩
abbrev cX10_stop : ByteArray := prog_12_method_50_code
def yX10_stop : MethodName := ⟨RX10, "stop", "()I"⟩
abbrev cX10_cross : ByteArray := prog_12_method_51_code
def yX10_cross : MethodName := ⟨RX10, "cross", "(II)I"⟩
abbrev cX10_handedOn : ByteArray := prog_12_method_52_code
def yX10_handedOn : MethodName := ⟨RX10, "handedOn", "(I)I"⟩
abbrev cX10_handed : ByteArray := prog_12_method_53_code
def yX10_handed : MethodName := ⟨RX10, "handed", "(II)I"⟩
abbrev cX10_meets : ByteArray := prog_12_method_54_code
def yX10_meets : MethodName := ⟨RX10, "meets", "(I)I"⟩
abbrev cX10_asked : ByteArray := prog_12_method_55_code
def yX10_asked : MethodName := ⟨RX10, "asked", "(I)I"⟩
abbrev cX10_see : ByteArray := prog_12_method_56_code
def yX10_see : MethodName := ⟨RX10, "see", "(III)I"⟩
abbrev cX10_findWay : ByteArray := prog_12_method_57_code
def yX10_findWay : MethodName := ⟨RX10, "findWay", "(II)V"⟩
abbrev cX10_couldFollow : ByteArray := prog_12_method_58_code
def yX10_couldFollow : MethodName := ⟨RX10, "couldFollow", "(II)Z"⟩
abbrev cX10_whom : ByteArray := prog_12_method_59_code
def yX10_whom : MethodName := ⟨RX10, "whom", "(I)I"⟩
abbrev cX10_look : ByteArray := prog_12_method_60_code
def yX10_look : MethodName := ⟨RX10, "look", "(I)I"⟩
abbrev cX10_write : ByteArray := prog_12_method_61_code
def yX10_write : MethodName := ⟨RX10, "write", "(II)I"⟩
abbrev cX10_tear : ByteArray := prog_12_method_62_code
def yX10_tear : MethodName := ⟨RX10, "tear", "()I"⟩
abbrev cX10_judge : ByteArray := prog_12_method_63_code
def yX10_judge : MethodName := ⟨RX10, "judge", "()I"⟩
abbrev cX10_seed : ByteArray := prog_12_method_64_code
def yX10_seed : MethodName := ⟨RX10, "seed", "(I)I"⟩
abbrev cX10_keep : ByteArray := prog_12_method_65_code
def yX10_keep : MethodName := ⟨RX10, "keep", "(I)I"⟩
abbrev cX10_goBack : ByteArray := prog_12_method_66_code
def yX10_goBack : MethodName := ⟨RX10, "goBack", "(I)I"⟩
def RJ6 : String := "java/lang/Integer"
def TJ6 : u_T := fun k => match k with
  | _ => ("", "", "", false)
def tyJ6 : Nat → FieldType := fun k => match k with
  | _ => .int
abbrev wsJ60 : List Cond := u_ws RJ6 TJ6 0
theorem nmJ6 : ∀ a, a < 0 → ∀ b, b < 0 → a ≠ b → (TJ6 a).2.1 ≠ (TJ6 b).2.1 := by decide +kernel
theorem tyJ6_ok : ∀ k, k < 0 → parseFieldDescriptor (TJ6 k).2.2.1 = some (tyJ6 k) := by decide +kernel
abbrev cJ6_bitCount_0f7a4 : ByteArray := prog_13_method_49_code
def yJ6_bitCount_0f7a4 : MethodName := ⟨RJ6, "bitCount", "(I)I"⟩
def RJ9 : String := "java/lang/Math"
def TJ9 : u_T := fun k => match k with
  | _ => ("", "", "", false)
def tyJ9 : Nat → FieldType := fun k => match k with
  | _ => .int
abbrev wsJ90 : List Cond := u_ws RJ9 TJ9 0
theorem nmJ9 : ∀ a, a < 0 → ∀ b, b < 0 → a ≠ b → (TJ9 a).2.1 ≠ (TJ9 b).2.1 := by decide +kernel
theorem tyJ9_ok : ∀ k, k < 0 → parseFieldDescriptor (TJ9 k).2.2.1 = some (tyJ9 k) := by decide +kernel
abbrev cJ9_max_7cf53 : ByteArray := prog_14_method_65_code
def yJ9_max_7cf53 : MethodName := ⟨RJ9, "max", "(II)I"⟩
abbrev cJ9_min_7cf53 : ByteArray := prog_14_method_69_code
def yJ9_min_7cf53 : MethodName := ⟨RJ9, "min", "(II)I"⟩
def RJ10 : String := "java/lang/System"
def TJ10 : u_T := fun k => match k with
  | _ => ("", "", "", false)
def tyJ10 : Nat → FieldType := fun k => match k with
  | _ => .int
abbrev wsJ100 : List Cond := u_ws RJ10 TJ10 0
theorem nmJ10 : ∀ a, a < 0 → ∀ b, b < 0 → a ≠ b → (TJ10 a).2.1 ≠ (TJ10 b).2.1 := by decide +kernel
theorem tyJ10_ok : ∀ k, k < 0 → parseFieldDescriptor (TJ10 k).2.2.1 = some (tyJ10 k) := by decide +kernel
def RL : String := "FollowCabLaw"
abbrev cL_law : ByteArray := code
def yL_law : MethodName := ⟨RL, "law", "([I)Z"⟩
abbrev vwCl : List vw_C := [(RX0, TX0, 1), (RX1, TX1, 5), (RX3, TX3, 3), (RX4, TX4, 3), (RX5, TX5, 3), (RX6, TX6, 8), (RX7, TX7, 8), (RX8, TX8, 2), (RX9, TX9, 13), (RX10, TX10, 34)]
end
section
def lwg : List Cond := lw_tbl.filter goodWord
theorem lwgm (i : Nat) {x : Cond} (h : lw_tbl[i]? = some x) (hg : goodWord x = true) : x ∈ lwg := List.mem_filter.mpr ⟨List.mem_of_getElem? h, hg⟩
theorem gl : GoodIn lwg lwg := fun x hx => ⟨hx, good_of_word (List.mem_filter.mp hx).2⟩
def nws : List Cond := tables_1.filter (fun x => match x with | .methodLinkNest _ _ _ _ => true | .fieldLinkNest _ _ _ _ _ _ => true | _ => false)
theorem ii_L : Cond.initialized RL ∈ lwg := lwgm 55 (by decide +kernel) (by decide +kernel)
theorem ii_X9 : Cond.initialized RX9 ∈ lwg := lwgm 56 (by decide +kernel) (by decide +kernel)
theorem ii_X8 : Cond.initialized RX8 ∈ lwg := lwgm 57 (by decide +kernel) (by decide +kernel)
theorem ii_X6 : Cond.initialized RX6 ∈ lwg := lwgm 58 (by decide +kernel) (by decide +kernel)
theorem ii_X7 : Cond.initialized RX7 ∈ lwg := lwgm 59 (by decide +kernel) (by decide +kernel)
theorem ii_X4 : Cond.initialized RX4 ∈ lwg := lwgm 60 (by decide +kernel) (by decide +kernel)
theorem ii_X5 : Cond.initialized RX5 ∈ lwg := lwgm 61 (by decide +kernel) (by decide +kernel)
theorem ii_X1 : Cond.initialized RX1 ∈ lwg := lwgm 62 (by decide +kernel) (by decide +kernel)
theorem ii_J9 : Cond.initialized RJ9 ∈ lwg := lwgm 63 (by decide +kernel) (by decide +kernel)
theorem ii_X3 : Cond.initialized RX3 ∈ lwg := lwgm 64 (by decide +kernel) (by decide +kernel)
theorem ii_X0 : Cond.initialized RX0 ∈ lwg := lwgm 65 (by decide +kernel) (by decide +kernel)
theorem ii_X10 : Cond.initialized RX10 ∈ lwg := lwgm 66 (by decide +kernel) (by decide +kernel)
theorem ii_X2 : Cond.initialized RX2 ∈ lwg := lwgm 67 (by decide +kernel) (by decide +kernel)
theorem ii_J10 : Cond.initialized RJ10 ∈ lwg := lwgm 68 (by decide +kernel) (by decide +kernel)
theorem ii_J6 : Cond.initialized RJ6 ∈ lwg := lwgm 69 (by decide +kernel) (by decide +kernel)
theorem cl_L_7 : Cond.classLink RL 7 RX9 ∈ lwg := lwgm 70 (by decide +kernel) (by decide +kernel)
theorem it_X9 : Cond.instantiable RX9 13 ∈ lwg := lwgm 71 (by decide +kernel) (by decide +kernel)
theorem ml_L_9 : Cond.methodLink RL 9 yX9_init ∈ lwg := lwgm 72 (by decide +kernel) (by decide +kernel)
theorem ml_X9_1 : Cond.methodLink RX9 1 objectInit ∈ lwg := lwgm 75 (by decide +kernel) (by decide +kernel)
theorem cl_X9_7 : Cond.classLink RX9 7 RX8 ∈ lwg := lwgm 78 (by decide +kernel) (by decide +kernel)
theorem it_X8 : Cond.instantiable RX8 2 ∈ lwg := lwgm 79 (by decide +kernel) (by decide +kernel)
theorem ml_X8_3 : Cond.methodLink RX8 3 objectInit ∈ lwg := lwgm 83 (by decide +kernel) (by decide +kernel)
theorem fl_X8_9 : Cond.fieldLink RX8 9 "FollowCab$Text" "letter" "[I" ∈ lwg := lwgm 84 (by decide +kernel) (by decide +kernel)
theorem fl_X8_15 : Cond.fieldLink RX8 15 "FollowCab$Text" "length" "I" ∈ lwg := lwgm 85 (by decide +kernel) (by decide +kernel)
theorem fl_X9_86 : Cond.fieldLink RX9 86 "FollowCab$Text" "length" "I" ∈ lwg := lwgm 86 (by decide +kernel) (by decide +kernel)
theorem fl_X6_47 : Cond.fieldLink RX6 47 "FollowCab$Text" "length" "I" ∈ lwg := lwgm 87 (by decide +kernel) (by decide +kernel)
theorem ac_int : Cond.arrayClass .int ∈ lwg := lwgm 93 (by decide +kernel) (by decide +kernel)
theorem cl_X9_16 : Cond.classLink RX9 16 RX6 ∈ lwg := lwgm 94 (by decide +kernel) (by decide +kernel)
theorem it_X6 : Cond.instantiable RX6 8 ∈ lwg := lwgm 95 (by decide +kernel) (by decide +kernel)
theorem ml_X9_18 : Cond.methodLink RX9 18 yX6_init ∈ lwg := lwgm 96 (by decide +kernel) (by decide +kernel)
theorem ml_X6_3 : Cond.methodLink RX6 3 objectInit ∈ lwg := lwgm 99 (by decide +kernel) (by decide +kernel)
theorem cl_X6_9 : Cond.classLink RX6 9 RX7 ∈ lwg := lwgm 100 (by decide +kernel) (by decide +kernel)
theorem it_X7 : Cond.instantiable RX7 8 ∈ lwg := lwgm 101 (by decide +kernel) (by decide +kernel)
theorem ml_X7_3 : Cond.methodLink RX7 3 objectInit ∈ lwg := lwgm 105 (by decide +kernel) (by decide +kernel)
theorem fl_X7_9 : Cond.fieldLink RX7 9 "FollowCab$Scene" "cars" "I" ∈ lwg := lwgm 106 (by decide +kernel) (by decide +kernel)
theorem fl_X3_27 : Cond.fieldLink RX3 27 "FollowCab$Scene" "cars" "I" ∈ lwg := lwgm 107 (by decide +kernel) (by decide +kernel)
theorem fl_X9_116 : Cond.fieldLink RX9 116 "FollowCab$Scene" "cars" "I" ∈ lwg := lwgm 108 (by decide +kernel) (by decide +kernel)
theorem fl_X6_67 : Cond.fieldLink RX6 67 "FollowCab$Scene" "cars" "I" ∈ lwg := lwgm 109 (by decide +kernel) (by decide +kernel)
theorem fl_X7_15 : Cond.fieldLink RX7 15 "FollowCab$Scene" "steps" "I" ∈ lwg := lwgm 110 (by decide +kernel) (by decide +kernel)
theorem fl_X9_119 : Cond.fieldLink RX9 119 "FollowCab$Scene" "steps" "I" ∈ lwg := lwgm 111 (by decide +kernel) (by decide +kernel)
theorem fl_X7_18 : Cond.fieldLink RX7 18 "FollowCab$Scene" "corner" "[I" ∈ lwg := lwgm 112 (by decide +kernel) (by decide +kernel)
theorem fl_X3_49 : Cond.fieldLink RX3 49 "FollowCab$Scene" "corner" "[I" ∈ lwg := lwgm 113 (by decide +kernel) (by decide +kernel)
theorem fl_X9_141 : Cond.fieldLink RX9 141 "FollowCab$Scene" "corner" "[I" ∈ lwg := lwgm 114 (by decide +kernel) (by decide +kernel)
theorem fl_X7_22 : Cond.fieldLink RX7 22 "FollowCab$Scene" "leader" "[I" ∈ lwg := lwgm 115 (by decide +kernel) (by decide +kernel)
theorem fl_X3_34 : Cond.fieldLink RX3 34 "FollowCab$Scene" "leader" "[I" ∈ lwg := lwgm 116 (by decide +kernel) (by decide +kernel)
theorem fl_X9_145 : Cond.fieldLink RX9 145 "FollowCab$Scene" "leader" "[I" ∈ lwg := lwgm 117 (by decide +kernel) (by decide +kernel)
theorem fl_X6_100 : Cond.fieldLink RX6 100 "FollowCab$Scene" "leader" "[I" ∈ lwg := lwgm 118 (by decide +kernel) (by decide +kernel)
theorem fl_X7_25 : Cond.fieldLink RX7 25 "FollowCab$Scene" "round" "[I" ∈ lwg := lwgm 119 (by decide +kernel) (by decide +kernel)
theorem fl_X9_148 : Cond.fieldLink RX9 148 "FollowCab$Scene" "round" "[I" ∈ lwg := lwgm 120 (by decide +kernel) (by decide +kernel)
theorem fl_X7_28 : Cond.fieldLink RX7 28 "FollowCab$Scene" "next" "[I" ∈ lwg := lwgm 121 (by decide +kernel) (by decide +kernel)
theorem fl_X9_151 : Cond.fieldLink RX9 151 "FollowCab$Scene" "next" "[I" ∈ lwg := lwgm 122 (by decide +kernel) (by decide +kernel)
theorem fl_X7_31 : Cond.fieldLink RX7 31 "FollowCab$Scene" "went" "[I" ∈ lwg := lwgm 123 (by decide +kernel) (by decide +kernel)
theorem fl_X9_154 : Cond.fieldLink RX9 154 "FollowCab$Scene" "went" "[I" ∈ lwg := lwgm 124 (by decide +kernel) (by decide +kernel)
theorem fl_X7_34 : Cond.fieldLink RX7 34 "FollowCab$Scene" "ahead" "[I" ∈ lwg := lwgm 125 (by decide +kernel) (by decide +kernel)
theorem fl_X6_12 : Cond.fieldLink RX6 12 "FollowCab$Reader" "scene" "LFollowCab$Scene;" ∈ lwg := lwgm 143 (by decide +kernel) (by decide +kernel)
theorem fl_X9_102 : Cond.fieldLink RX9 102 "FollowCab$Reader" "scene" "LFollowCab$Scene;" ∈ lwg := lwgm 144 (by decide +kernel) (by decide +kernel)
theorem fl_X6_18 : Cond.fieldLink RX6 18 "FollowCab$Reader" "corners" "I" ∈ lwg := lwgm 145 (by decide +kernel) (by decide +kernel)
theorem fl_X9_100 : Cond.fieldLink RX9 100 "FollowCab$Reader" "corners" "I" ∈ lwg := lwgm 146 (by decide +kernel) (by decide +kernel)
theorem fl_X6_22 : Cond.fieldLink RX6 22 "FollowCab$Reader" "odds" "I" ∈ lwg := lwgm 147 (by decide +kernel) (by decide +kernel)
theorem fl_X9_101 : Cond.fieldLink RX9 101 "FollowCab$Reader" "odds" "I" ∈ lwg := lwgm 148 (by decide +kernel) (by decide +kernel)
theorem fl_X6_25 : Cond.fieldLink RX6 25 "FollowCab$Reader" "faultNumber" "I" ∈ lwg := lwgm 149 (by decide +kernel) (by decide +kernel)
theorem fl_X9_97 : Cond.fieldLink RX9 97 "FollowCab$Reader" "faultNumber" "I" ∈ lwg := lwgm 150 (by decide +kernel) (by decide +kernel)
theorem fl_X6_28 : Cond.fieldLink RX6 28 "FollowCab$Reader" "faultPlace" "I" ∈ lwg := lwgm 151 (by decide +kernel) (by decide +kernel)
theorem fl_X9_96 : Cond.fieldLink RX9 96 "FollowCab$Reader" "faultPlace" "I" ∈ lwg := lwgm 152 (by decide +kernel) (by decide +kernel)
theorem fl_X6_37 : Cond.fieldLink RX6 37 "FollowCab$Reader" "text" "LFollowCab$Text;" ∈ lwg := lwgm 153 (by decide +kernel) (by decide +kernel)
theorem fl_X6_31 : Cond.fieldLink RX6 31 "FollowCab$Reader" "place" "I" ∈ lwg := lwgm 154 (by decide +kernel) (by decide +kernel)
theorem fl_X6_34 : Cond.fieldLink RX6 34 "FollowCab$Reader" "numberPlace" "I" ∈ lwg := lwgm 155 (by decide +kernel) (by decide +kernel)
theorem cl_X9_25 : Cond.classLink RX9 25 RX7 ∈ lwg := lwgm 173 (by decide +kernel) (by decide +kernel)
theorem cl_X9_35 : Cond.classLink RX9 35 RX4 ∈ lwg := lwgm 175 (by decide +kernel) (by decide +kernel)
theorem it_X4 : Cond.instantiable RX4 3 ∈ lwg := lwgm 176 (by decide +kernel) (by decide +kernel)
theorem ml_X9_37 : Cond.methodLink RX9 37 yX4_init ∈ lwg := lwgm 177 (by decide +kernel) (by decide +kernel)
theorem ml_X4_3 : Cond.methodLink RX4 3 objectInit ∈ lwg := lwgm 180 (by decide +kernel) (by decide +kernel)
theorem cl_X4_9 : Cond.classLink RX4 9 RX7 ∈ lwg := lwgm 181 (by decide +kernel) (by decide +kernel)
theorem fl_X4_11 : Cond.fieldLink RX4 11 "FollowCab$History" "kept" "[LFollowCab$Scene;" ∈ lwg := lwgm 184 (by decide +kernel) (by decide +kernel)
theorem fl_X4_17 : Cond.fieldLink RX4 17 "FollowCab$History" "top" "I" ∈ lwg := lwgm 185 (by decide +kernel) (by decide +kernel)
theorem fl_X4_21 : Cond.fieldLink RX4 21 "FollowCab$History" "count" "I" ∈ lwg := lwgm 186 (by decide +kernel) (by decide +kernel)
theorem fl_X9_135 : Cond.fieldLink RX9 135 "FollowCab$History" "count" "I" ∈ lwg := lwgm 187 (by decide +kernel) (by decide +kernel)
theorem cl_X9_42 : Cond.classLink RX9 42 RX5 ∈ lwg := lwgm 195 (by decide +kernel) (by decide +kernel)
theorem it_X5 : Cond.instantiable RX5 3 ∈ lwg := lwgm 196 (by decide +kernel) (by decide +kernel)
theorem ml_X9_44 : Cond.methodLink RX9 44 yX5_init ∈ lwg := lwgm 197 (by decide +kernel) (by decide +kernel)
theorem ml_X5_3 : Cond.methodLink RX5 3 objectInit ∈ lwg := lwgm 200 (by decide +kernel) (by decide +kernel)
theorem cl_X5_9 : Cond.classLink RX5 9 RX7 ∈ lwg := lwgm 201 (by decide +kernel) (by decide +kernel)
theorem fl_X5_11 : Cond.fieldLink RX5 11 "FollowCab$Images" "scene" "[LFollowCab$Scene;" ∈ lwg := lwgm 203 (by decide +kernel) (by decide +kernel)
theorem fl_X9_252 : Cond.fieldLink RX9 252 "FollowCab$Images" "scene" "[LFollowCab$Scene;" ∈ lwg := lwgm 204 (by decide +kernel) (by decide +kernel)
theorem fl_X5_17 : Cond.fieldLink RX5 17 "FollowCab$Images" "drawValue" "[I" ∈ lwg := lwgm 205 (by decide +kernel) (by decide +kernel)
theorem fl_X9_255 : Cond.fieldLink RX9 255 "FollowCab$Images" "drawValue" "[I" ∈ lwg := lwgm 206 (by decide +kernel) (by decide +kernel)
theorem fl_X5_21 : Cond.fieldLink RX5 21 "FollowCab$Images" "kept" "[Z" ∈ lwg := lwgm 207 (by decide +kernel) (by decide +kernel)
theorem fl_X9_248 : Cond.fieldLink RX9 248 "FollowCab$Images" "kept" "[Z" ∈ lwg := lwgm 208 (by decide +kernel) (by decide +kernel)
theorem ac_boolean : Cond.arrayClass .boolean ∈ lwg := lwgm 216 (by decide +kernel) (by decide +kernel)
theorem cl_X9_49 : Cond.classLink RX9 49 RX1 ∈ lwg := lwgm 217 (by decide +kernel) (by decide +kernel)
theorem it_X1 : Cond.instantiable RX1 5 ∈ lwg := lwgm 218 (by decide +kernel) (by decide +kernel)
theorem ml_X9_51 : Cond.methodLink RX9 51 yX1_init ∈ lwg := lwgm 219 (by decide +kernel) (by decide +kernel)
theorem ml_X1_3 : Cond.methodLink RX1 3 objectInit ∈ lwg := lwgm 222 (by decide +kernel) (by decide +kernel)
theorem ml_X1_15 : Cond.methodLink RX1 15 Lib.Math.max.name ∈ lwg := lwgm 223 (by decide +kernel) (by decide +kernel)
theorem fl_X1_21 : Cond.fieldLink RX1 21 "FollowCab$Entries" "most" "I" ∈ lwg := lwgm 226 (by decide +kernel) (by decide +kernel)
theorem fl_X1_24 : Cond.fieldLink RX1 24 "FollowCab$Entries" "car" "[I" ∈ lwg := lwgm 227 (by decide +kernel) (by decide +kernel)
theorem fl_X3_57 : Cond.fieldLink RX3 57 "FollowCab$Entries" "car" "[I" ∈ lwg := lwgm 228 (by decide +kernel) (by decide +kernel)
theorem fl_X9_234 : Cond.fieldLink RX9 234 "FollowCab$Entries" "car" "[I" ∈ lwg := lwgm 229 (by decide +kernel) (by decide +kernel)
theorem fl_X1_28 : Cond.fieldLink RX1 28 "FollowCab$Entries" "steps" "[I" ∈ lwg := lwgm 230 (by decide +kernel) (by decide +kernel)
theorem fl_X3_60 : Cond.fieldLink RX3 60 "FollowCab$Entries" "steps" "[I" ∈ lwg := lwgm 231 (by decide +kernel) (by decide +kernel)
theorem fl_X1_31 : Cond.fieldLink RX1 31 "FollowCab$Entries" "corner" "[I" ∈ lwg := lwgm 232 (by decide +kernel) (by decide +kernel)
theorem fl_X3_63 : Cond.fieldLink RX3 63 "FollowCab$Entries" "corner" "[I" ∈ lwg := lwgm 233 (by decide +kernel) (by decide +kernel)
theorem fl_X9_237 : Cond.fieldLink RX9 237 "FollowCab$Entries" "corner" "[I" ∈ lwg := lwgm 234 (by decide +kernel) (by decide +kernel)
theorem fl_X1_9 : Cond.fieldLink RX1 9 "FollowCab$Entries" "count" "I" ∈ lwg := lwgm 235 (by decide +kernel) (by decide +kernel)
theorem fl_X9_109 : Cond.fieldLink RX9 109 "FollowCab$Entries" "count" "I" ∈ lwg := lwgm 236 (by decide +kernel) (by decide +kernel)
theorem fl_X3_52 : Cond.fieldLink RX3 52 "FollowCab$Entries" "count" "I" ∈ lwg := lwgm 237 (by decide +kernel) (by decide +kernel)
theorem cl_X9_61 : Cond.classLink RX9 61 RX3 ∈ lwg := lwgm 249 (by decide +kernel) (by decide +kernel)
theorem it_X3 : Cond.instantiable RX3 3 ∈ lwg := lwgm 250 (by decide +kernel) (by decide +kernel)
theorem ml_X3_3 : Cond.methodLink RX3 3 objectInit ∈ lwg := lwgm 254 (by decide +kernel) (by decide +kernel)
theorem cl_X3_9 : Cond.classLink RX3 9 "[[I" ∈ lwg := lwgm 255 (by decide +kernel) (by decide +kernel)
theorem cl_X3_16 : Cond.classLink RX3 16 RX7 ∈ lwg := lwgm 257 (by decide +kernel) (by decide +kernel)
theorem fl_X3_11 : Cond.fieldLink RX3 11 "FollowCab$Guess" "track" "[[I" ∈ lwg := lwgm 259 (by decide +kernel) (by decide +kernel)
theorem fl_X3_19 : Cond.fieldLink RX3 19 "FollowCab$Guess" "tried" "LFollowCab$Scene;" ∈ lwg := lwgm 260 (by decide +kernel) (by decide +kernel)
theorem fl_X3_23 : Cond.fieldLink RX3 23 "FollowCab$Guess" "fitting" "I" ∈ lwg := lwgm 261 (by decide +kernel) (by decide +kernel)
theorem fl_X9_228 : Cond.fieldLink RX9 228 "FollowCab$Guess" "fitting" "I" ∈ lwg := lwgm 262 (by decide +kernel) (by decide +kernel)
theorem cl_X9_68 : Cond.classLink RX9 68 RX0 ∈ lwg := lwgm 270 (by decide +kernel) (by decide +kernel)
theorem it_X0 : Cond.instantiable RX0 1 ∈ lwg := lwgm 271 (by decide +kernel) (by decide +kernel)
theorem ml_X0_3 : Cond.methodLink RX0 3 objectInit ∈ lwg := lwgm 275 (by decide +kernel) (by decide +kernel)
theorem fl_X0_9 : Cond.fieldLink RX0 9 "FollowCab$Draws" "value" "I" ∈ lwg := lwgm 276 (by decide +kernel) (by decide +kernel)
theorem fl_X9_238 : Cond.fieldLink RX9 238 "FollowCab$Draws" "value" "I" ∈ lwg := lwgm 277 (by decide +kernel) (by decide +kernel)
theorem fl_X9_10 : Cond.fieldLink RX9 10 "FollowCab" "text" "LFollowCab$Text;" ∈ lwg := lwgm 281 (by decide +kernel) (by decide +kernel)
theorem fl_X9_21 : Cond.fieldLink RX9 21 "FollowCab" "reader" "LFollowCab$Reader;" ∈ lwg := lwgm 282 (by decide +kernel) (by decide +kernel)
theorem fl_X9_28 : Cond.fieldLink RX9 28 "FollowCab" "now" "LFollowCab$Scene;" ∈ lwg := lwgm 283 (by decide +kernel) (by decide +kernel)
theorem fl_X9_32 : Cond.fieldLink RX9 32 "FollowCab" "tried" "LFollowCab$Scene;" ∈ lwg := lwgm 284 (by decide +kernel) (by decide +kernel)
theorem fl_X9_38 : Cond.fieldLink RX9 38 "FollowCab" "history" "LFollowCab$History;" ∈ lwg := lwgm 285 (by decide +kernel) (by decide +kernel)
theorem fl_X9_45 : Cond.fieldLink RX9 45 "FollowCab" "images" "LFollowCab$Images;" ∈ lwg := lwgm 286 (by decide +kernel) (by decide +kernel)
theorem fl_X9_54 : Cond.fieldLink RX9 54 "FollowCab" "sightings" "LFollowCab$Entries;" ∈ lwg := lwgm 287 (by decide +kernel) (by decide +kernel)
theorem fl_X9_58 : Cond.fieldLink RX9 58 "FollowCab" "book" "LFollowCab$Entries;" ∈ lwg := lwgm 288 (by decide +kernel) (by decide +kernel)
theorem fl_X9_64 : Cond.fieldLink RX9 64 "FollowCab" "guess" "LFollowCab$Guess;" ∈ lwg := lwgm 289 (by decide +kernel) (by decide +kernel)
theorem fl_X9_71 : Cond.fieldLink RX9 71 "FollowCab" "draws" "LFollowCab$Draws;" ∈ lwg := lwgm 290 (by decide +kernel) (by decide +kernel)
theorem fl_X9_75 : Cond.fieldLink RX9 75 "FollowCab" "corners" "I" ∈ lwg := lwgm 291 (by decide +kernel) (by decide +kernel)
theorem fl_X9_79 : Cond.fieldLink RX9 79 "FollowCab" "odds" "I" ∈ lwg := lwgm 292 (by decide +kernel) (by decide +kernel)
theorem fl_X9_82 : Cond.fieldLink RX9 82 "FollowCab" "faultPlace" "I" ∈ lwg := lwgm 293 (by decide +kernel) (by decide +kernel)
theorem ml_L_13 : Cond.methodLink RL 13 yX9_feed ∈ lwg := lwgm 321 (by decide +kernel) (by decide +kernel)
theorem kc_X9_85 : Cond.constant RX9 85 (-1000000002) ∈ lwg := lwgm 325 (by decide +kernel) (by decide +kernel)
theorem kc_X9_89 : Cond.constant RX9 89 (-1000000004) ∈ lwg := lwgm 326 (by decide +kernel) (by decide +kernel)
theorem ml_X9_90 : Cond.methodLink RX9 90 yX8_add ∈ lwg := lwgm 327 (by decide +kernel) (by decide +kernel)
theorem ml_L_18 : Cond.methodLink RL 18 yX9_town ∈ lwg := lwgm 331 (by decide +kernel) (by decide +kernel)
theorem ml_X9_93 : Cond.methodLink RX9 93 yX6_readAll ∈ lwg := lwgm 335 (by decide +kernel) (by decide +kernel)
theorem ml_X6_41 : Cond.methodLink RX6 41 yX7_clear ∈ lwg := lwgm 339 (by decide +kernel) (by decide +kernel)
theorem ml_X6_44 : Cond.methodLink RX6 44 yX6_skipBlanks ∈ lwg := lwgm 343 (by decide +kernel) (by decide +kernel)
theorem ml_X6_59 : Cond.methodLink RX6 59 yX6_letter ∈ lwg := lwgm 347 (by decide +kernel) (by decide +kernel)
theorem ml_X6_55 : Cond.methodLink RX6 55 yX8_at ∈ lwg := lwgm 351 (by decide +kernel) (by decide +kernel)
theorem ml_X6_52 : Cond.methodLink RX6 52 yX6_readClause ∈ lwg := lwgm 355 (by decide +kernel) (by decide +kernel)
theorem ml_X6_63 : Cond.methodLink RX6 63 yX6_blame ∈ lwg := lwgm 359 (by decide +kernel) (by decide +kernel)
theorem ml_X6_70 : Cond.methodLink RX6 70 yX6_readTown ∈ lwg := lwgm 363 (by decide +kernel) (by decide +kernel)
theorem ml_X6_82 : Cond.methodLink RX6 82 yX6_readNumber ∈ lwg := lwgm 367 (by decide +kernel) (by decide +kernel)
theorem ml_X6_104 : Cond.methodLink RX6 104 yX6_isFigure ∈ lwg := lwgm 371 (by decide +kernel) (by decide +kernel)
theorem kc_X6_108 : Cond.constant RX6 108 (1000000) ∈ lwg := lwgm 375 (by decide +kernel) (by decide +kernel)
theorem ml_X6_109 : Cond.methodLink RX6 109 Lib.Math.min.name ∈ lwg := lwgm 376 (by decide +kernel) (by decide +kernel)
theorem ml_X6_73 : Cond.methodLink RX6 73 yX6_readCar ∈ lwg := lwgm 379 (by decide +kernel) (by decide +kernel)
theorem kc_X6_86 : Cond.constant RX6 86 (999999) ∈ lwg := lwgm 383 (by decide +kernel) (by decide +kernel)
theorem ml_X6_87 : Cond.methodLink RX6 87 yX6_isRound ∈ lwg := lwgm 384 (by decide +kernel) (by decide +kernel)
theorem ml_X6_94 : Cond.methodLink RX6 94 yX2_areAllUpTo ∈ lwg := lwgm 388 (by decide +kernel) (by decide +kernel)
theorem ml_X2_13 : Cond.methodLink RX2 13 yX2_count ∈ lwg := lwgm 391 (by decide +kernel) (by decide +kernel)
theorem ml_X2_19 : Cond.methodLink RX2 19 yX2_at ∈ lwg := lwgm 396 (by decide +kernel) (by decide +kernel)
theorem ml_X6_91 : Cond.methodLink RX6 91 yX7_addCar ∈ lwg := lwgm 399 (by decide +kernel) (by decide +kernel)
theorem ml_X6_76 : Cond.methodLink RX6 76 yX6_readFollowing ∈ lwg := lwgm 403 (by decide +kernel) (by decide +kernel)
theorem ml_X6_79 : Cond.methodLink RX6 79 yX6_readSemicolon ∈ lwg := lwgm 407 (by decide +kernel) (by decide +kernel)
theorem ml_X9_105 : Cond.methodLink RX9 105 yX7_copyFrom ∈ lwg := lwgm 411 (by decide +kernel) (by decide +kernel)
theorem ml_X7_37 : Cond.methodLink RX7 37 arraycopyName ∈ lwg := lwgm 415 (by decide +kernel) (by decide +kernel)
theorem nat_copy : Cond.native arraycopyName ∈ lwg := lwgm 417 (by decide +kernel) (by decide +kernel)
theorem ml_X9_112 : Cond.methodLink RX9 112 yX5_forget ∈ lwg := lwgm 418 (by decide +kernel) (by decide +kernel)
theorem ml_X9_115 : Cond.methodLink RX9 115 yX4_forget ∈ lwg := lwgm 422 (by decide +kernel) (by decide +kernel)
theorem ml_L_23 : Cond.methodLink RL 23 yX9_fault ∈ lwg := lwgm 426 (by decide +kernel) (by decide +kernel)
theorem ml_L_27 : Cond.methodLink RL 27 yX9_told ∈ lwg := lwgm 430 (by decide +kernel) (by decide +kernel)
theorem ml_X9_122 : Cond.methodLink RX9 122 yX7_takenCorners ∈ lwg := lwgm 434 (by decide +kernel) (by decide +kernel)
theorem ml_X9_126 : Cond.methodLink RX9 126 yX7_allFollowers ∈ lwg := lwgm 438 (by decide +kernel) (by decide +kernel)
theorem ml_X9_129 : Cond.methodLink RX9 129 yX7_ringCount ∈ lwg := lwgm 442 (by decide +kernel) (by decide +kernel)
theorem ml_X7_72 : Cond.methodLink RX7 72 yX7_leastOfRings ∈ lwg := lwgm 446 (by decide +kernel) (by decide +kernel)
theorem ml_X7_69 : Cond.methodLink RX7 69 yX7_ringOf ∈ lwg := lwgm 450 (by decide +kernel) (by decide +kernel)
theorem ml_X7_66 : Cond.methodLink RX7 66 yX7_leadersOf ∈ lwg := lwgm 454 (by decide +kernel) (by decide +kernel)
theorem ml_X7_76 : Cond.methodLink RX7 76 yJ6_bitCount_0f7a4 ∈ lwg := lwgm 461 (by decide +kernel) (by decide +kernel)
theorem kc_J6_265 : Cond.constant RJ6 265 (1431655765) ∈ lwg := lwgm 464 (by decide +kernel) (by decide +kernel)
theorem kc_J6_266 : Cond.constant RJ6 266 (858993459) ∈ lwg := lwgm 465 (by decide +kernel) (by decide +kernel)
theorem kc_J6_267 : Cond.constant RJ6 267 (252645135) ∈ lwg := lwgm 466 (by decide +kernel) (by decide +kernel)
theorem ml_X9_132 : Cond.methodLink RX9 132 yX7_heads ∈ lwg := lwgm 467 (by decide +kernel) (by decide +kernel)
theorem ml_X7_91 : Cond.methodLink RX7 91 yX7_allBeside ∈ lwg := lwgm 471 (by decide +kernel) (by decide +kernel)
theorem ml_X7_94 : Cond.methodLink RX7 94 yX7_trailOf ∈ lwg := lwgm 475 (by decide +kernel) (by decide +kernel)
theorem ml_L_31 : Cond.methodLink RL 31 yX9_car ∈ lwg := lwgm 479 (by decide +kernel) (by decide +kernel)
theorem ml_X9_136 : Cond.methodLink RX9 136 yX9_isCar ∈ lwg := lwgm 483 (by decide +kernel) (by decide +kernel)
theorem kc_X9_140 : Cond.constant RX9 140 (-1000000001) ∈ lwg := lwgm 487 (by decide +kernel) (by decide +kernel)
theorem ml_L_36 : Cond.methodLink RL 36 yX9_step ∈ lwg := lwgm 488 (by decide +kernel) (by decide +kernel)
theorem ml_X9_157 : Cond.methodLink RX9 157 yX9_refusalOfSteps ∈ lwg := lwgm 492 (by decide +kernel) (by decide +kernel)
theorem kc_X9_171 : Cond.constant RX9 171 (-1000000003) ∈ lwg := lwgm 496 (by decide +kernel) (by decide +kernel)
theorem ml_X9_161 : Cond.methodLink RX9 161 yX4_push ∈ lwg := lwgm 497 (by decide +kernel) (by decide +kernel)
theorem ml_X4_25 : Cond.methodLink RX4 25 yX7_copyFrom ∈ lwg := lwgm 501 (by decide +kernel) (by decide +kernel)
theorem ml_X4_29 : Cond.methodLink RX4 29 Lib.Math.min.name ∈ lwg := lwgm 502 (by decide +kernel) (by decide +kernel)
theorem ml_X9_164 : Cond.methodLink RX9 164 yX7_moveTimes ∈ lwg := lwgm 503 (by decide +kernel) (by decide +kernel)
theorem ml_X7_43 : Cond.methodLink RX7 43 yX7_move ∈ lwg := lwgm 507 (by decide +kernel) (by decide +kernel)
theorem ml_X7_46 : Cond.methodLink RX7 46 yX7_goRound ∈ lwg := lwgm 511 (by decide +kernel) (by decide +kernel)
theorem ml_X7_50 : Cond.methodLink RX7 50 yX2_count ∈ lwg := lwgm 515 (by decide +kernel) (by decide +kernel)
theorem ml_X7_55 : Cond.methodLink RX7 55 yX2_at ∈ lwg := lwgm 516 (by decide +kernel) (by decide +kernel)
theorem ml_L_40 : Cond.methodLink RL 40 yX9_follow ∈ lwg := lwgm 517 (by decide +kernel) (by decide +kernel)
theorem ml_X9_167 : Cond.methodLink RX9 167 yX9_areTwoCars ∈ lwg := lwgm 521 (by decide +kernel) (by decide +kernel)
theorem ml_L_44 : Cond.methodLink RL 44 yX9_letOff ∈ lwg := lwgm 525 (by decide +kernel) (by decide +kernel)
theorem ml_L_48 : Cond.methodLink RL 48 yX9_turn ∈ lwg := lwgm 529 (by decide +kernel) (by decide +kernel)
theorem ml_X9_172 : Cond.methodLink RX9 172 yX7_reverseRound ∈ lwg := lwgm 533 (by decide +kernel) (by decide +kernel)
theorem ml_X7_59 : Cond.methodLink RX7 59 yX2_reversed ∈ lwg := lwgm 537 (by decide +kernel) (by decide +kernel)
theorem ml_L_52 : Cond.methodLink RL 52 yX9_drift ∈ lwg := lwgm 540 (by decide +kernel) (by decide +kernel)
theorem ml_X9_175 : Cond.methodLink RX9 175 yX9_askByDraws ∈ lwg := lwgm 544 (by decide +kernel) (by decide +kernel)
theorem ml_X9_258 : Cond.methodLink RX9 258 yX0_drawOf ∈ lwg := lwgm 548 (by decide +kernel) (by decide +kernel)
theorem kc_X0_15 : Cond.constant RX0 15 (1103515245) ∈ lwg := lwgm 552 (by decide +kernel) (by decide +kernel)
theorem kc_X0_16 : Cond.constant RX0 16 (2147483647) ∈ lwg := lwgm 553 (by decide +kernel) (by decide +kernel)
theorem kc_X0_17 : Cond.constant RX0 17 (65536) ∈ lwg := lwgm 554 (by decide +kernel) (by decide +kernel)
theorem ml_X9_178 : Cond.methodLink RX9 178 yX7_move ∈ lwg := lwgm 555 (by decide +kernel) (by decide +kernel)
theorem ml_L_56 : Cond.methodLink RL 56 yX9_undo ∈ lwg := lwgm 556 (by decide +kernel) (by decide +kernel)
theorem ml_X9_181 : Cond.methodLink RX9 181 yX4_pop ∈ lwg := lwgm 560 (by decide +kernel) (by decide +kernel)
theorem ml_L_60 : Cond.methodLink RL 60 yX9_where ∈ lwg := lwgm 564 (by decide +kernel) (by decide +kernel)
theorem ml_L_64 : Cond.methodLink RL 64 yX9_sees ∈ lwg := lwgm 568 (by decide +kernel) (by decide +kernel)
theorem ml_L_68 : Cond.methodLink RL 68 yX9_rings ∈ lwg := lwgm 572 (by decide +kernel) (by decide +kernel)
theorem ml_X9_184 : Cond.methodLink RX9 184 yX7_ringNumber ∈ lwg := lwgm 576 (by decide +kernel) (by decide +kernel)
theorem ml_L_72 : Cond.methodLink RL 72 yX9_end ∈ lwg := lwgm 580 (by decide +kernel) (by decide +kernel)
theorem ml_X9_187 : Cond.methodLink RX9 187 yX7_endOf ∈ lwg := lwgm 584 (by decide +kernel) (by decide +kernel)
theorem ml_X7_85 : Cond.methodLink RX7 85 yX7_timesToEnd ∈ lwg := lwgm 588 (by decide +kernel) (by decide +kernel)
theorem ml_X7_81 : Cond.methodLink RX7 81 yX7_isAnEnd ∈ lwg := lwgm 592 (by decide +kernel) (by decide +kernel)
theorem ml_X9_208 : Cond.methodLink RX9 208 yX9_isIn ∈ lwg := lwgm 599 (by decide +kernel) (by decide +kernel)
theorem ml_X9_190 : Cond.methodLink RX9 190 yX7_timesToEnd ∈ lwg := lwgm 600 (by decide +kernel) (by decide +kernel)
theorem ml_L_76 : Cond.methodLink RL 76 yX9_behind ∈ lwg := lwgm 601 (by decide +kernel) (by decide +kernel)
theorem ml_X9_193 : Cond.methodLink RX9 193 yX7_trailOf ∈ lwg := lwgm 605 (by decide +kernel) (by decide +kernel)
theorem ml_L_80 : Cond.methodLink RL 80 yX9_stop ∈ lwg := lwgm 606 (by decide +kernel) (by decide +kernel)
theorem ml_X9_196 : Cond.methodLink RX9 196 yX7_leastOfRings ∈ lwg := lwgm 610 (by decide +kernel) (by decide +kernel)
theorem ml_L_84 : Cond.methodLink RL 84 yX9_cross ∈ lwg := lwgm 611 (by decide +kernel) (by decide +kernel)
theorem ml_X9_199 : Cond.methodLink RX9 199 yX9_isCorner ∈ lwg := lwgm 615 (by decide +kernel) (by decide +kernel)
theorem ml_X9_202 : Cond.methodLink RX9 202 yX7_carsAt ∈ lwg := lwgm 619 (by decide +kernel) (by decide +kernel)
theorem ml_L_88 : Cond.methodLink RL 88 yX9_handed ∈ lwg := lwgm 623 (by decide +kernel) (by decide +kernel)
theorem ml_X9_205 : Cond.methodLink RX9 205 yX7_allBeside ∈ lwg := lwgm 627 (by decide +kernel) (by decide +kernel)
theorem ml_L_92 : Cond.methodLink RL 92 yX9_meets ∈ lwg := lwgm 628 (by decide +kernel) (by decide +kernel)
theorem ml_X9_211 : Cond.methodLink RX9 211 Lib.Math.max.name ∈ lwg := lwgm 632 (by decide +kernel) (by decide +kernel)
theorem ml_L_96 : Cond.methodLink RL 96 yX9_asked ∈ lwg := lwgm 633 (by decide +kernel) (by decide +kernel)
theorem kl_X9_217 : Cond.constantLong RX9 217 (1000000000) ∈ lwg := lwgm 637 (by decide +kernel) (by decide +kernel)
theorem kl_X9_219 : Cond.constantLong RX9 219 (100) ∈ lwg := lwgm 638 (by decide +kernel) (by decide +kernel)
theorem ml_L_100 : Cond.methodLink RL 100 yX9_see ∈ lwg := lwgm 639 (by decide +kernel) (by decide +kernel)
theorem ml_X9_221 : Cond.methodLink RX9 221 yX1_add ∈ lwg := lwgm 643 (by decide +kernel) (by decide +kernel)
theorem kc_X1_34 : Cond.constant RX1 34 (-1000000004) ∈ lwg := lwgm 647 (by decide +kernel) (by decide +kernel)
theorem ml_L_105 : Cond.methodLink RL 105 yX9_whom ∈ lwg := lwgm 648 (by decide +kernel) (by decide +kernel)
theorem ml_X9_224 : Cond.methodLink RX9 224 yX3_weigh ∈ lwg := lwgm 652 (by decide +kernel) (by decide +kernel)
theorem ml_X3_30 : Cond.methodLink RX3 30 yX7_copyFrom ∈ lwg := lwgm 656 (by decide +kernel) (by decide +kernel)
theorem ml_X3_38 : Cond.methodLink RX3 38 yX3_recordTrack ∈ lwg := lwgm 657 (by decide +kernel) (by decide +kernel)
theorem ml_X3_46 : Cond.methodLink RX3 46 yX7_move ∈ lwg := lwgm 661 (by decide +kernel) (by decide +kernel)
theorem ml_X3_42 : Cond.methodLink RX3 42 yX3_fits ∈ lwg := lwgm 662 (by decide +kernel) (by decide +kernel)
theorem ml_L_109 : Cond.methodLink RL 109 yX9_look ∈ lwg := lwgm 666 (by decide +kernel) (by decide +kernel)
theorem ml_X9_231 : Cond.methodLink RX9 231 yX3_bestLook ∈ lwg := lwgm 670 (by decide +kernel) (by decide +kernel)
theorem ml_X3_64 : Cond.methodLink RX3 64 yJ6_bitCount_0f7a4 ∈ lwg := lwgm 674 (by decide +kernel) (by decide +kernel)
theorem ml_X3_70 : Cond.methodLink RX3 70 yX3_greatestPart ∈ lwg := lwgm 675 (by decide +kernel) (by decide +kernel)
theorem ml_X3_77 : Cond.methodLink RX3 77 yX3_partAlike ∈ lwg := lwgm 680 (by decide +kernel) (by decide +kernel)
theorem ml_X3_81 : Cond.methodLink RX3 81 Lib.Math.max.name ∈ lwg := lwgm 684 (by decide +kernel) (by decide +kernel)
theorem ml_L_113 : Cond.methodLink RL 113 yX9_write ∈ lwg := lwgm 685 (by decide +kernel) (by decide +kernel)
theorem ml_L_117 : Cond.methodLink RL 117 yX9_tear ∈ lwg := lwgm 689 (by decide +kernel) (by decide +kernel)
theorem ml_L_121 : Cond.methodLink RL 121 yX9_judge ∈ lwg := lwgm 693 (by decide +kernel) (by decide +kernel)
theorem ml_L_125 : Cond.methodLink RL 125 yX9_seed ∈ lwg := lwgm 697 (by decide +kernel) (by decide +kernel)
theorem ml_L_129 : Cond.methodLink RL 129 yX9_keep ∈ lwg := lwgm 701 (by decide +kernel) (by decide +kernel)
theorem ml_X9_241 : Cond.methodLink RX9 241 yX9_isImage ∈ lwg := lwgm 705 (by decide +kernel) (by decide +kernel)
theorem ml_X9_244 : Cond.methodLink RX9 244 yX5_put ∈ lwg := lwgm 708 (by decide +kernel) (by decide +kernel)
theorem ml_X5_26 : Cond.methodLink RX5 26 yX7_copyFrom ∈ lwg := lwgm 712 (by decide +kernel) (by decide +kernel)
theorem ml_L_133 : Cond.methodLink RL 133 yX9_goBack ∈ lwg := lwgm 713 (by decide +kernel) (by decide +kernel)
theorem cl_L_10 : Cond.classLink RL 10 RX10 ∈ lwg := lwgm 717 (by decide +kernel) (by decide +kernel)
theorem it_X10 : Cond.instantiable RX10 34 ∈ lwg := lwgm 718 (by decide +kernel) (by decide +kernel)
theorem ml_L_12 : Cond.methodLink RL 12 yX10_init ∈ lwg := lwgm 719 (by decide +kernel) (by decide +kernel)
theorem ml_X10_1 : Cond.methodLink RX10 1 objectInit ∈ lwg := lwgm 722 (by decide +kernel) (by decide +kernel)
theorem fl_X10_78 : Cond.fieldLink RX10 78 "FollowCabModel" "corners" "I" ∈ lwg := lwgm 723 (by decide +kernel) (by decide +kernel)
theorem fl_X10_141 : Cond.fieldLink RX10 141 "FollowCabModel" "odds" "I" ∈ lwg := lwgm 724 (by decide +kernel) (by decide +kernel)
theorem fl_X10_85 : Cond.fieldLink RX10 85 "FollowCabModel" "cars" "I" ∈ lwg := lwgm 725 (by decide +kernel) (by decide +kernel)
theorem fl_X10_7 : Cond.fieldLink RX10 7 "FollowCabModel" "rounds" "[I" ∈ lwg := lwgm 726 (by decide +kernel) (by decide +kernel)
theorem fl_X10_13 : Cond.fieldLink RX10 13 "FollowCabModel" "longs" "[I" ∈ lwg := lwgm 727 (by decide +kernel) (by decide +kernel)
theorem fl_X10_16 : Cond.fieldLink RX10 16 "FollowCabModel" "now" "[I" ∈ lwg := lwgm 728 (by decide +kernel) (by decide +kernel)
theorem fl_X10_207 : Cond.fieldLink RX10 207 "FollowCabModel" "seed" "I" ∈ lwg := lwgm 729 (by decide +kernel) (by decide +kernel)
theorem fl_X10_19 : Cond.fieldLink RX10 19 "FollowCabModel" "text" "[I" ∈ lwg := lwgm 730 (by decide +kernel) (by decide +kernel)
theorem fl_X10_95 : Cond.fieldLink RX10 95 "FollowCabModel" "texted" "I" ∈ lwg := lwgm 731 (by decide +kernel) (by decide +kernel)
theorem fl_X10_22 : Cond.fieldLink RX10 22 "FollowCabModel" "faultPlace" "I" ∈ lwg := lwgm 732 (by decide +kernel) (by decide +kernel)
theorem fl_X10_99 : Cond.fieldLink RX10 99 "FollowCabModel" "at0" "I" ∈ lwg := lwgm 733 (by decide +kernel) (by decide +kernel)
theorem fl_X10_117 : Cond.fieldLink RX10 117 "FollowCabModel" "number" "I" ∈ lwg := lwgm 734 (by decide +kernel) (by decide +kernel)
theorem fl_X10_114 : Cond.fieldLink RX10 114 "FollowCabModel" "numberAt" "I" ∈ lwg := lwgm 735 (by decide +kernel) (by decide +kernel)
theorem fl_X10_26 : Cond.fieldLink RX10 26 "FollowCabModel" "readTown" "[I" ∈ lwg := lwgm 736 (by decide +kernel) (by decide +kernel)
theorem fl_X10_128 : Cond.fieldLink RX10 128 "FollowCabModel" "readCars" "I" ∈ lwg := lwgm 737 (by decide +kernel) (by decide +kernel)
theorem fl_X10_29 : Cond.fieldLink RX10 29 "FollowCabModel" "readAt" "[I" ∈ lwg := lwgm 738 (by decide +kernel) (by decide +kernel)
theorem fl_X10_32 : Cond.fieldLink RX10 32 "FollowCabModel" "readRounds" "[I" ∈ lwg := lwgm 739 (by decide +kernel) (by decide +kernel)
theorem fl_X10_35 : Cond.fieldLink RX10 35 "FollowCabModel" "readLongs" "[I" ∈ lwg := lwgm 740 (by decide +kernel) (by decide +kernel)
theorem fl_X10_38 : Cond.fieldLink RX10 38 "FollowCabModel" "readFollows" "[I" ∈ lwg := lwgm 741 (by decide +kernel) (by decide +kernel)
theorem fl_X10_41 : Cond.fieldLink RX10 41 "FollowCabModel" "ahead" "[I" ∈ lwg := lwgm 742 (by decide +kernel) (by decide +kernel)
theorem fl_X10_156 : Cond.fieldLink RX10 156 "FollowCabModel" "undos" "I" ∈ lwg := lwgm 743 (by decide +kernel) (by decide +kernel)
theorem fl_X10_44 : Cond.fieldLink RX10 44 "FollowCabModel" "past" "[I" ∈ lwg := lwgm 744 (by decide +kernel) (by decide +kernel)
theorem fl_X10_47 : Cond.fieldLink RX10 47 "FollowCabModel" "was" "[I" ∈ lwg := lwgm 745 (by decide +kernel) (by decide +kernel)
theorem fl_X10_150 : Cond.fieldLink RX10 150 "FollowCabModel" "seen" "I" ∈ lwg := lwgm 746 (by decide +kernel) (by decide +kernel)
theorem fl_X10_50 : Cond.fieldLink RX10 50 "FollowCabModel" "seenOf" "[I" ∈ lwg := lwgm 747 (by decide +kernel) (by decide +kernel)
theorem fl_X10_53 : Cond.fieldLink RX10 53 "FollowCabModel" "seenBehind" "[I" ∈ lwg := lwgm 748 (by decide +kernel) (by decide +kernel)
theorem fl_X10_56 : Cond.fieldLink RX10 56 "FollowCabModel" "seenAt" "[I" ∈ lwg := lwgm 749 (by decide +kernel) (by decide +kernel)
theorem fl_X10_59 : Cond.fieldLink RX10 59 "FollowCabModel" "way" "[I" ∈ lwg := lwgm 750 (by decide +kernel) (by decide +kernel)
theorem fl_X10_62 : Cond.fieldLink RX10 62 "FollowCabModel" "brings" "[I" ∈ lwg := lwgm 751 (by decide +kernel) (by decide +kernel)
theorem fl_X10_153 : Cond.fieldLink RX10 153 "FollowCabModel" "booked" "I" ∈ lwg := lwgm 752 (by decide +kernel) (by decide +kernel)
theorem fl_X10_65 : Cond.fieldLink RX10 65 "FollowCabModel" "bookOf" "[I" ∈ lwg := lwgm 753 (by decide +kernel) (by decide +kernel)
theorem fl_X10_68 : Cond.fieldLink RX10 68 "FollowCabModel" "bookAt" "[I" ∈ lwg := lwgm 754 (by decide +kernel) (by decide +kernel)
theorem fl_X10_71 : Cond.fieldLink RX10 71 "FollowCabModel" "images" "[I" ∈ lwg := lwgm 755 (by decide +kernel) (by decide +kernel)
theorem fl_X10_74 : Cond.fieldLink RX10 74 "FollowCabModel" "isKept" "[Z" ∈ lwg := lwgm 756 (by decide +kernel) (by decide +kernel)
theorem ml_L_17 : Cond.methodLink RL 17 yX10_feed ∈ lwg := lwgm 826 (by decide +kernel) (by decide +kernel)
theorem kl_X10_92 : Cond.constantLong RX10 92 (255) ∈ lwg := lwgm 830 (by decide +kernel) (by decide +kernel)
theorem ml_X10_81 : Cond.methodLink RX10 81 yX10_in ∈ lwg := lwgm 831 (by decide +kernel) (by decide +kernel)
theorem kc_X10_94 : Cond.constant RX10 94 (-1000000002) ∈ lwg := lwgm 834 (by decide +kernel) (by decide +kernel)
theorem kc_X10_98 : Cond.constant RX10 98 (-1000000004) ∈ lwg := lwgm 835 (by decide +kernel) (by decide +kernel)
theorem ml_L_22 : Cond.methodLink RL 22 yX10_town ∈ lwg := lwgm 836 (by decide +kernel) (by decide +kernel)
theorem ml_X10_102 : Cond.methodLink RX10 102 yX10_here ∈ lwg := lwgm 840 (by decide +kernel) (by decide +kernel)
theorem ml_X10_144 : Cond.methodLink RX10 144 yX10_takeClause ∈ lwg := lwgm 844 (by decide +kernel) (by decide +kernel)
theorem ml_X10_110 : Cond.methodLink RX10 110 yX10_fails ∈ lwg := lwgm 848 (by decide +kernel) (by decide +kernel)
theorem ml_X10_132 : Cond.methodLink RX10 132 yX10_takeTown ∈ lwg := lwgm 852 (by decide +kernel) (by decide +kernel)
theorem ml_X10_124 : Cond.methodLink RX10 124 yX10_into ∈ lwg := lwgm 856 (by decide +kernel) (by decide +kernel)
theorem ml_X10_121 : Cond.methodLink RX10 121 yX10_takeNumber ∈ lwg := lwgm 860 (by decide +kernel) (by decide +kernel)
theorem kl_X10_106 : Cond.constantLong RX10 106 (48) ∈ lwg := lwgm 864 (by decide +kernel) (by decide +kernel)
theorem kl_X10_108 : Cond.constantLong RX10 108 (57) ∈ lwg := lwgm 865 (by decide +kernel) (by decide +kernel)
theorem kc_X10_120 : Cond.constant RX10 120 (10000000) ∈ lwg := lwgm 866 (by decide +kernel) (by decide +kernel)
theorem ml_X10_135 : Cond.methodLink RX10 135 yX10_takeCar ∈ lwg := lwgm 867 (by decide +kernel) (by decide +kernel)
theorem kc_X10_131 : Cond.constant RX10 131 (999999) ∈ lwg := lwgm 871 (by decide +kernel) (by decide +kernel)
theorem ml_X10_138 : Cond.methodLink RX10 138 yX10_takeFollows ∈ lwg := lwgm 872 (by decide +kernel) (by decide +kernel)
theorem ml_X10_147 : Cond.methodLink RX10 147 yX10_takeRead ∈ lwg := lwgm 876 (by decide +kernel) (by decide +kernel)
theorem ml_L_26 : Cond.methodLink RL 26 yX10_fault ∈ lwg := lwgm 880 (by decide +kernel) (by decide +kernel)
theorem ml_L_30 : Cond.methodLink RL 30 yX10_told ∈ lwg := lwgm 884 (by decide +kernel) (by decide +kernel)
theorem ml_X10_176 : Cond.methodLink RX10 176 yX10_taken ∈ lwg := lwgm 888 (by decide +kernel) (by decide +kernel)
theorem ml_X10_179 : Cond.methodLink RX10 179 yX10_followers ∈ lwg := lwgm 892 (by decide +kernel) (by decide +kernel)
theorem ml_X10_182 : Cond.methodLink RX10 182 yX10_ringsNow ∈ lwg := lwgm 896 (by decide +kernel) (by decide +kernel)
theorem ml_X10_166 : Cond.methodLink RX10 166 yX10_ringOf ∈ lwg := lwgm 900 (by decide +kernel) (by decide +kernel)
theorem ml_X10_170 : Cond.methodLink RX10 170 yX10_least ∈ lwg := lwgm 904 (by decide +kernel) (by decide +kernel)
theorem ml_X10_162 : Cond.methodLink RX10 162 yX10_has ∈ lwg := lwgm 907 (by decide +kernel) (by decide +kernel)
theorem ml_X10_185 : Cond.methodLink RX10 185 yX10_heads ∈ lwg := lwgm 910 (by decide +kernel) (by decide +kernel)
theorem ml_X10_173 : Cond.methodLink RX10 173 yX10_behindOf ∈ lwg := lwgm 914 (by decide +kernel) (by decide +kernel)
theorem ml_L_35 : Cond.methodLink RL 35 yX10_car ∈ lwg := lwgm 918 (by decide +kernel) (by decide +kernel)
theorem ml_X10_88 : Cond.methodLink RX10 88 yX10_isCar ∈ lwg := lwgm 922 (by decide +kernel) (by decide +kernel)
theorem kc_X10_188 : Cond.constant RX10 188 (-1000000001) ∈ lwg := lwgm 926 (by decide +kernel) (by decide +kernel)
theorem ml_X10_189 : Cond.methodLink RX10 189 yX10_roundOf ∈ lwg := lwgm 927 (by decide +kernel) (by decide +kernel)
theorem ml_X10_159 : Cond.methodLink RX10 159 yX10_cornerOf ∈ lwg := lwgm 931 (by decide +kernel) (by decide +kernel)
theorem ml_L_39 : Cond.methodLink RL 39 yX10_step ∈ lwg := lwgm 935 (by decide +kernel) (by decide +kernel)
theorem ml_X10_195 : Cond.methodLink RX10 195 yX10_stepsRefused ∈ lwg := lwgm 939 (by decide +kernel) (by decide +kernel)
theorem kl_X10_192 : Cond.constantLong RX10 192 (60) ∈ lwg := lwgm 943 (by decide +kernel) (by decide +kernel)
theorem kc_X10_194 : Cond.constant RX10 194 (-1000000003) ∈ lwg := lwgm 944 (by decide +kernel) (by decide +kernel)
theorem ml_X10_198 : Cond.methodLink RX10 198 yX10_remember ∈ lwg := lwgm 945 (by decide +kernel) (by decide +kernel)
theorem ml_X10_201 : Cond.methodLink RX10 201 yX10_stepAll ∈ lwg := lwgm 949 (by decide +kernel) (by decide +kernel)
theorem ml_L_43 : Cond.methodLink RL 43 yX10_follow ∈ lwg := lwgm 953 (by decide +kernel) (by decide +kernel)
theorem ml_X10_204 : Cond.methodLink RX10 204 yX10_areTwo ∈ lwg := lwgm 957 (by decide +kernel) (by decide +kernel)
theorem ml_L_47 : Cond.methodLink RL 47 yX10_letOff ∈ lwg := lwgm 961 (by decide +kernel) (by decide +kernel)
theorem ml_L_51 : Cond.methodLink RL 51 yX10_turn ∈ lwg := lwgm 965 (by decide +kernel) (by decide +kernel)
theorem ml_L_55 : Cond.methodLink RL 55 yX10_drift ∈ lwg := lwgm 969 (by decide +kernel) (by decide +kernel)
theorem ml_X10_220 : Cond.methodLink RX10 220 yX10_chance ∈ lwg := lwgm 973 (by decide +kernel) (by decide +kernel)
theorem ml_X10_217 : Cond.methodLink RX10 217 yX10_draw ∈ lwg := lwgm 977 (by decide +kernel) (by decide +kernel)
theorem kl_X10_210 : Cond.constantLong RX10 210 (1103515245) ∈ lwg := lwgm 981 (by decide +kernel) (by decide +kernel)
theorem kl_X10_212 : Cond.constantLong RX10 212 (12345) ∈ lwg := lwgm 982 (by decide +kernel) (by decide +kernel)
theorem kl_X10_214 : Cond.constantLong RX10 214 (2147483648) ∈ lwg := lwgm 983 (by decide +kernel) (by decide +kernel)
theorem kc_X10_216 : Cond.constant RX10 216 (65536) ∈ lwg := lwgm 984 (by decide +kernel) (by decide +kernel)
theorem ml_L_59 : Cond.methodLink RL 59 yX10_undo ∈ lwg := lwgm 985 (by decide +kernel) (by decide +kernel)
theorem ml_L_63 : Cond.methodLink RL 63 yX10_where ∈ lwg := lwgm 989 (by decide +kernel) (by decide +kernel)
theorem kl_X10_223 : Cond.constantLong RX10 223 (200) ∈ lwg := lwgm 993 (by decide +kernel) (by decide +kernel)
theorem ml_X10_225 : Cond.methodLink RX10 225 yX10_save ∈ lwg := lwgm 994 (by decide +kernel) (by decide +kernel)
theorem ml_X10_228 : Cond.methodLink RX10 228 yX10_stepTo ∈ lwg := lwgm 998 (by decide +kernel) (by decide +kernel)
theorem ml_X10_232 : Cond.methodLink RX10 232 yX10_putBack ∈ lwg := lwgm 1002 (by decide +kernel) (by decide +kernel)
theorem ml_L_67 : Cond.methodLink RL 67 yX10_sees ∈ lwg := lwgm 1006 (by decide +kernel) (by decide +kernel)
theorem ml_L_71 : Cond.methodLink RL 71 yX10_rings ∈ lwg := lwgm 1010 (by decide +kernel) (by decide +kernel)
theorem ml_L_75 : Cond.methodLink RL 75 yX10_end ∈ lwg := lwgm 1014 (by decide +kernel) (by decide +kernel)
theorem ml_L_79 : Cond.methodLink RL 79 yX10_behind ∈ lwg := lwgm 1018 (by decide +kernel) (by decide +kernel)
theorem ml_L_83 : Cond.methodLink RL 83 yX10_stop ∈ lwg := lwgm 1022 (by decide +kernel) (by decide +kernel)
theorem ml_L_87 : Cond.methodLink RL 87 yX10_cross ∈ lwg := lwgm 1026 (by decide +kernel) (by decide +kernel)
theorem ml_X10_235 : Cond.methodLink RX10 235 yX10_isCorner ∈ lwg := lwgm 1030 (by decide +kernel) (by decide +kernel)
theorem kl_X10_238 : Cond.constantLong RX10 238 (9) ∈ lwg := lwgm 1034 (by decide +kernel) (by decide +kernel)
theorem ml_L_91 : Cond.methodLink RL 91 yX10_handed ∈ lwg := lwgm 1035 (by decide +kernel) (by decide +kernel)
theorem ml_X10_240 : Cond.methodLink RX10 240 yX10_handedOn ∈ lwg := lwgm 1039 (by decide +kernel) (by decide +kernel)
theorem ml_L_95 : Cond.methodLink RL 95 yX10_meets ∈ lwg := lwgm 1043 (by decide +kernel) (by decide +kernel)
theorem ml_L_99 : Cond.methodLink RL 99 yX10_asked ∈ lwg := lwgm 1047 (by decide +kernel) (by decide +kernel)
theorem kl_X10_243 : Cond.constantLong RX10 243 (1000000000) ∈ lwg := lwgm 1051 (by decide +kernel) (by decide +kernel)
theorem kl_X10_245 : Cond.constantLong RX10 245 (100) ∈ lwg := lwgm 1052 (by decide +kernel) (by decide +kernel)
theorem ml_L_104 : Cond.methodLink RL 104 yX10_see ∈ lwg := lwgm 1053 (by decide +kernel) (by decide +kernel)
theorem kl_X10_247 : Cond.constantLong RX10 247 (30) ∈ lwg := lwgm 1057 (by decide +kernel) (by decide +kernel)
theorem ml_L_108 : Cond.methodLink RL 108 yX10_whom ∈ lwg := lwgm 1058 (by decide +kernel) (by decide +kernel)
theorem ml_X10_253 : Cond.methodLink RX10 253 yX10_couldFollow ∈ lwg := lwgm 1062 (by decide +kernel) (by decide +kernel)
theorem ml_X10_249 : Cond.methodLink RX10 249 yX10_findWay ∈ lwg := lwgm 1066 (by decide +kernel) (by decide +kernel)
theorem ml_L_112 : Cond.methodLink RL 112 yX10_look ∈ lwg := lwgm 1070 (by decide +kernel) (by decide +kernel)
theorem ml_L_116 : Cond.methodLink RL 116 yX10_write ∈ lwg := lwgm 1074 (by decide +kernel) (by decide +kernel)
theorem ml_L_120 : Cond.methodLink RL 120 yX10_tear ∈ lwg := lwgm 1078 (by decide +kernel) (by decide +kernel)
theorem ml_L_124 : Cond.methodLink RL 124 yX10_judge ∈ lwg := lwgm 1082 (by decide +kernel) (by decide +kernel)
theorem ml_L_128 : Cond.methodLink RL 128 yX10_seed ∈ lwg := lwgm 1086 (by decide +kernel) (by decide +kernel)
theorem ml_L_132 : Cond.methodLink RL 132 yX10_keep ∈ lwg := lwgm 1090 (by decide +kernel) (by decide +kernel)
theorem ml_L_136 : Cond.methodLink RL 136 yX10_goBack ∈ lwg := lwgm 1094 (by decide +kernel) (by decide +kernel)
theorem m_mathi : Cond.initialized "java/lang/Math" ∈ lwg := lwgm 63 (by decide +kernel) (by decide +kernel)
theorem m_sysi : Cond.initialized "java/lang/System" ∈ lwg := lwgm 68 (by decide +kernel) (by decide +kernel)
/-- what the tables say of a method that is called: its row of words, its descriptor -/
def Yk (y : MethodName) (yc : ByteArray) (mL n : Nat) (ret : Option FieldType) : Prop := (Cond.instanceMethod y ∈ lwg ∧ Cond.selects y.cls y y ∈ lwg) ∧ Cond.initialized y.cls ∈ lwg ∧ Cond.code y yc mL ret ∈ lwg ∧ (y.cls ≠ "java/lang/invoke/MethodHandle" ∧ y.cls ≠ "java/lang/invoke/VarHandle" ∧ (parseMethodDescriptor y.desc).map (fun d => d.parameters.length) = some n)
def Ys (y : MethodName) (yc : ByteArray) (mL n : Nat) (ret : Option FieldType) : Prop := Cond.static y ∈ lwg ∧ Cond.initialized y.cls ∈ lwg ∧ Cond.code y yc mL ret ∈ lwg ∧ (y.cls ≠ "java/lang/invoke/MethodHandle" ∧ y.cls ≠ "java/lang/invoke/VarHandle" ∧ (parseMethodDescriptor y.desc).map (fun d => d.parameters.length) = some n)
theorem yX9_init_k : (Cond.instanceMethod yX9_init ∈ lwg ∧ Cond.initialized yX9_init.cls ∈ lwg) ∧ Cond.code yX9_init cX9_init 1 none ∈ lwg := ⟨⟨(lwgm 73 (by decide +kernel) (by decide +kernel)), (lwgm 56 (by decide +kernel) (by decide +kernel))⟩, (lwgm 74 (by decide +kernel) (by decide +kernel))⟩
theorem oi_code : Cond.code objectInit ⟨#[0xb1]⟩ 1 none ∈ lwg := lwgm 77 (by decide +kernel) (by decide +kernel)
theorem oi_inst : Cond.instanceMethod objectInit ∈ lwg := lwgm 76 (by decide +kernel) (by decide +kernel)
theorem yX8_init_k : (Cond.instanceMethod yX8_init ∈ lwg ∧ Cond.initialized yX8_init.cls ∈ lwg) ∧ Cond.code yX8_init cX8_init 1 none ∈ lwg := ⟨⟨(lwgm 81 (by decide +kernel) (by decide +kernel)), (lwgm 57 (by decide +kernel) (by decide +kernel))⟩, (lwgm 82 (by decide +kernel) (by decide +kernel))⟩
theorem yX6_init_k : (Cond.instanceMethod yX6_init ∈ lwg ∧ Cond.initialized yX6_init.cls ∈ lwg) ∧ Cond.code yX6_init cX6_init 2 none ∈ lwg := ⟨⟨(lwgm 97 (by decide +kernel) (by decide +kernel)), (lwgm 58 (by decide +kernel) (by decide +kernel))⟩, (lwgm 98 (by decide +kernel) (by decide +kernel))⟩
theorem yX7_init_k : (Cond.instanceMethod yX7_init ∈ lwg ∧ Cond.initialized yX7_init.cls ∈ lwg) ∧ Cond.code yX7_init cX7_init 1 none ∈ lwg := ⟨⟨(lwgm 103 (by decide +kernel) (by decide +kernel)), (lwgm 59 (by decide +kernel) (by decide +kernel))⟩, (lwgm 104 (by decide +kernel) (by decide +kernel))⟩
theorem yX4_init_k : (Cond.instanceMethod yX4_init ∈ lwg ∧ Cond.initialized yX4_init.cls ∈ lwg) ∧ Cond.code yX4_init cX4_init 2 none ∈ lwg := ⟨⟨(lwgm 178 (by decide +kernel) (by decide +kernel)), (lwgm 60 (by decide +kernel) (by decide +kernel))⟩, (lwgm 179 (by decide +kernel) (by decide +kernel))⟩
theorem yX5_init_k : (Cond.instanceMethod yX5_init ∈ lwg ∧ Cond.initialized yX5_init.cls ∈ lwg) ∧ Cond.code yX5_init cX5_init 2 none ∈ lwg := ⟨⟨(lwgm 198 (by decide +kernel) (by decide +kernel)), (lwgm 61 (by decide +kernel) (by decide +kernel))⟩, (lwgm 199 (by decide +kernel) (by decide +kernel))⟩
theorem yX1_init_k : (Cond.instanceMethod yX1_init ∈ lwg ∧ Cond.initialized yX1_init.cls ∈ lwg) ∧ Cond.code yX1_init cX1_init 2 none ∈ lwg := ⟨⟨(lwgm 220 (by decide +kernel) (by decide +kernel)), (lwgm 62 (by decide +kernel) (by decide +kernel))⟩, (lwgm 221 (by decide +kernel) (by decide +kernel))⟩
theorem mc_max : Cond.code Lib.Math.max.name Lib.Math.max.code 2 (some .int) ∈ lwg := lwgm 225 (by decide +kernel) (by decide +kernel)
theorem ms_max : Cond.static Lib.Math.max.name ∈ lwg := lwgm 224 (by decide +kernel) (by decide +kernel)
theorem yX3_init_k : (Cond.instanceMethod yX3_init ∈ lwg ∧ Cond.initialized yX3_init.cls ∈ lwg) ∧ Cond.code yX3_init cX3_init 1 none ∈ lwg := ⟨⟨(lwgm 252 (by decide +kernel) (by decide +kernel)), (lwgm 64 (by decide +kernel) (by decide +kernel))⟩, (lwgm 253 (by decide +kernel) (by decide +kernel))⟩
theorem yX0_init_k : (Cond.instanceMethod yX0_init ∈ lwg ∧ Cond.initialized yX0_init.cls ∈ lwg) ∧ Cond.code yX0_init cX0_init 1 none ∈ lwg := ⟨⟨(lwgm 273 (by decide +kernel) (by decide +kernel)), (lwgm 65 (by decide +kernel) (by decide +kernel))⟩, (lwgm 274 (by decide +kernel) (by decide +kernel))⟩
theorem yX9_feed_k : Yk yX9_feed cX9_feed 2 1 (some .int) := ⟨⟨(lwgm 322 (by decide +kernel) (by decide +kernel)), (lwgm 323 (by decide +kernel) (by decide +kernel))⟩, (lwgm 56 (by decide +kernel) (by decide +kernel)), (lwgm 324 (by decide +kernel) (by decide +kernel)), ⟨by decide +kernel, by decide +kernel, by decide +kernel⟩⟩
theorem yX8_add_k : Yk yX8_add cX8_add 2 1 none := ⟨⟨(lwgm 328 (by decide +kernel) (by decide +kernel)), (lwgm 329 (by decide +kernel) (by decide +kernel))⟩, (lwgm 57 (by decide +kernel) (by decide +kernel)), (lwgm 330 (by decide +kernel) (by decide +kernel)), ⟨by decide +kernel, by decide +kernel, by decide +kernel⟩⟩
theorem yX9_town_k : Yk yX9_town cX9_town 1 0 (some .int) := ⟨⟨(lwgm 332 (by decide +kernel) (by decide +kernel)), (lwgm 333 (by decide +kernel) (by decide +kernel))⟩, (lwgm 56 (by decide +kernel) (by decide +kernel)), (lwgm 334 (by decide +kernel) (by decide +kernel)), ⟨by decide +kernel, by decide +kernel, by decide +kernel⟩⟩
theorem yX6_readAll_k : Yk yX6_readAll cX6_readAll 2 0 none := ⟨⟨(lwgm 336 (by decide +kernel) (by decide +kernel)), (lwgm 337 (by decide +kernel) (by decide +kernel))⟩, (lwgm 58 (by decide +kernel) (by decide +kernel)), (lwgm 338 (by decide +kernel) (by decide +kernel)), ⟨by decide +kernel, by decide +kernel, by decide +kernel⟩⟩
theorem yX7_clear_k : Yk yX7_clear cX7_clear 1 0 none := ⟨⟨(lwgm 340 (by decide +kernel) (by decide +kernel)), (lwgm 341 (by decide +kernel) (by decide +kernel))⟩, (lwgm 59 (by decide +kernel) (by decide +kernel)), (lwgm 342 (by decide +kernel) (by decide +kernel)), ⟨by decide +kernel, by decide +kernel, by decide +kernel⟩⟩
theorem yX6_skipBlanks_k : Yk yX6_skipBlanks cX6_skipBlanks 2 0 none := ⟨⟨(lwgm 345 (by decide +kernel) (by decide +kernel)), (lwgm 0 (by decide +kernel) (by decide +kernel))⟩, (lwgm 58 (by decide +kernel) (by decide +kernel)), (lwgm 346 (by decide +kernel) (by decide +kernel)), ⟨by decide +kernel, by decide +kernel, by decide +kernel⟩⟩
theorem yX6_letter_k : Yk yX6_letter cX6_letter 1 0 (some .int) := ⟨⟨(lwgm 349 (by decide +kernel) (by decide +kernel)), (lwgm 1 (by decide +kernel) (by decide +kernel))⟩, (lwgm 58 (by decide +kernel) (by decide +kernel)), (lwgm 350 (by decide +kernel) (by decide +kernel)), ⟨by decide +kernel, by decide +kernel, by decide +kernel⟩⟩
theorem yX8_at_k : Yk yX8_at cX8_at 2 1 (some .int) := ⟨⟨(lwgm 352 (by decide +kernel) (by decide +kernel)), (lwgm 353 (by decide +kernel) (by decide +kernel))⟩, (lwgm 57 (by decide +kernel) (by decide +kernel)), (lwgm 354 (by decide +kernel) (by decide +kernel)), ⟨by decide +kernel, by decide +kernel, by decide +kernel⟩⟩
theorem yX6_readClause_k : Yk yX6_readClause cX6_readClause 2 0 none := ⟨⟨(lwgm 357 (by decide +kernel) (by decide +kernel)), (lwgm 2 (by decide +kernel) (by decide +kernel))⟩, (lwgm 58 (by decide +kernel) (by decide +kernel)), (lwgm 358 (by decide +kernel) (by decide +kernel)), ⟨by decide +kernel, by decide +kernel, by decide +kernel⟩⟩
theorem yX6_blame_k : Yk yX6_blame cX6_blame 3 2 none := ⟨⟨(lwgm 361 (by decide +kernel) (by decide +kernel)), (lwgm 3 (by decide +kernel) (by decide +kernel))⟩, (lwgm 58 (by decide +kernel) (by decide +kernel)), (lwgm 362 (by decide +kernel) (by decide +kernel)), ⟨by decide +kernel, by decide +kernel, by decide +kernel⟩⟩
theorem yX6_readTown_k : Yk yX6_readTown cX6_readTown 3 0 none := ⟨⟨(lwgm 365 (by decide +kernel) (by decide +kernel)), (lwgm 4 (by decide +kernel) (by decide +kernel))⟩, (lwgm 58 (by decide +kernel) (by decide +kernel)), (lwgm 366 (by decide +kernel) (by decide +kernel)), ⟨by decide +kernel, by decide +kernel, by decide +kernel⟩⟩
theorem yX6_readNumber_k : Yk yX6_readNumber cX6_readNumber 5 2 (some .int) := ⟨⟨(lwgm 369 (by decide +kernel) (by decide +kernel)), (lwgm 5 (by decide +kernel) (by decide +kernel))⟩, (lwgm 58 (by decide +kernel) (by decide +kernel)), (lwgm 370 (by decide +kernel) (by decide +kernel)), ⟨by decide +kernel, by decide +kernel, by decide +kernel⟩⟩
theorem yX6_isFigure_k : Yk yX6_isFigure cX6_isFigure 2 0 (some .boolean) := ⟨⟨(lwgm 373 (by decide +kernel) (by decide +kernel)), (lwgm 6 (by decide +kernel) (by decide +kernel))⟩, (lwgm 58 (by decide +kernel) (by decide +kernel)), (lwgm 374 (by decide +kernel) (by decide +kernel)), ⟨by decide +kernel, by decide +kernel, by decide +kernel⟩⟩
theorem mc_min : Cond.code Lib.Math.min.name Lib.Math.min.code 2 (some .int) ∈ lwg := lwgm 378 (by decide +kernel) (by decide +kernel)
theorem ms_min : Cond.static Lib.Math.min.name ∈ lwg := lwgm 377 (by decide +kernel) (by decide +kernel)
theorem yX6_readCar_k : Yk yX6_readCar cX6_readCar 3 0 none := ⟨⟨(lwgm 381 (by decide +kernel) (by decide +kernel)), (lwgm 7 (by decide +kernel) (by decide +kernel))⟩, (lwgm 58 (by decide +kernel) (by decide +kernel)), (lwgm 382 (by decide +kernel) (by decide +kernel)), ⟨by decide +kernel, by decide +kernel, by decide +kernel⟩⟩
theorem yX6_isRound_k : Yk yX6_isRound cX6_isRound 2 1 (some .boolean) := ⟨⟨(lwgm 386 (by decide +kernel) (by decide +kernel)), (lwgm 8 (by decide +kernel) (by decide +kernel))⟩, (lwgm 58 (by decide +kernel) (by decide +kernel)), (lwgm 387 (by decide +kernel) (by decide +kernel)), ⟨by decide +kernel, by decide +kernel, by decide +kernel⟩⟩
theorem yX2_areAllUpTo_k : Ys yX2_areAllUpTo cX2_areAllUpTo 4 2 (some .boolean) := ⟨(lwgm 389 (by decide +kernel) (by decide +kernel)), (lwgm 67 (by decide +kernel) (by decide +kernel)), (lwgm 390 (by decide +kernel) (by decide +kernel)), ⟨by decide +kernel, by decide +kernel, by decide +kernel⟩⟩
theorem yX2_count_k : Ys yX2_count cX2_count 2 1 (some .int) := ⟨(lwgm 392 (by decide +kernel) (by decide +kernel)), (lwgm 67 (by decide +kernel) (by decide +kernel)), (lwgm 393 (by decide +kernel) (by decide +kernel)), ⟨by decide +kernel, by decide +kernel, by decide +kernel⟩⟩
theorem yX2_at_k : Ys yX2_at cX2_at 3 2 (some .int) := ⟨(lwgm 397 (by decide +kernel) (by decide +kernel)), (lwgm 67 (by decide +kernel) (by decide +kernel)), (lwgm 398 (by decide +kernel) (by decide +kernel)), ⟨by decide +kernel, by decide +kernel, by decide +kernel⟩⟩
theorem yX7_addCar_k : Yk yX7_addCar cX7_addCar 3 2 none := ⟨⟨(lwgm 400 (by decide +kernel) (by decide +kernel)), (lwgm 401 (by decide +kernel) (by decide +kernel))⟩, (lwgm 59 (by decide +kernel) (by decide +kernel)), (lwgm 402 (by decide +kernel) (by decide +kernel)), ⟨by decide +kernel, by decide +kernel, by decide +kernel⟩⟩
theorem yX6_readFollowing_k : Yk yX6_readFollowing cX6_readFollowing 3 0 none := ⟨⟨(lwgm 405 (by decide +kernel) (by decide +kernel)), (lwgm 9 (by decide +kernel) (by decide +kernel))⟩, (lwgm 58 (by decide +kernel) (by decide +kernel)), (lwgm 406 (by decide +kernel) (by decide +kernel)), ⟨by decide +kernel, by decide +kernel, by decide +kernel⟩⟩
theorem yX6_readSemicolon_k : Yk yX6_readSemicolon cX6_readSemicolon 1 0 none := ⟨⟨(lwgm 409 (by decide +kernel) (by decide +kernel)), (lwgm 10 (by decide +kernel) (by decide +kernel))⟩, (lwgm 58 (by decide +kernel) (by decide +kernel)), (lwgm 410 (by decide +kernel) (by decide +kernel)), ⟨by decide +kernel, by decide +kernel, by decide +kernel⟩⟩
theorem yX7_copyFrom_k : Yk yX7_copyFrom cX7_copyFrom 2 1 none := ⟨⟨(lwgm 412 (by decide +kernel) (by decide +kernel)), (lwgm 413 (by decide +kernel) (by decide +kernel))⟩, (lwgm 59 (by decide +kernel) (by decide +kernel)), (lwgm 414 (by decide +kernel) (by decide +kernel)), ⟨by decide +kernel, by decide +kernel, by decide +kernel⟩⟩
theorem yX5_forget_k : Yk yX5_forget cX5_forget 2 0 none := ⟨⟨(lwgm 419 (by decide +kernel) (by decide +kernel)), (lwgm 420 (by decide +kernel) (by decide +kernel))⟩, (lwgm 61 (by decide +kernel) (by decide +kernel)), (lwgm 421 (by decide +kernel) (by decide +kernel)), ⟨by decide +kernel, by decide +kernel, by decide +kernel⟩⟩
theorem yX4_forget_k : Yk yX4_forget cX4_forget 1 0 none := ⟨⟨(lwgm 423 (by decide +kernel) (by decide +kernel)), (lwgm 424 (by decide +kernel) (by decide +kernel))⟩, (lwgm 60 (by decide +kernel) (by decide +kernel)), (lwgm 425 (by decide +kernel) (by decide +kernel)), ⟨by decide +kernel, by decide +kernel, by decide +kernel⟩⟩
theorem yX9_fault_k : Yk yX9_fault cX9_fault 1 0 (some .int) := ⟨⟨(lwgm 427 (by decide +kernel) (by decide +kernel)), (lwgm 428 (by decide +kernel) (by decide +kernel))⟩, (lwgm 56 (by decide +kernel) (by decide +kernel)), (lwgm 429 (by decide +kernel) (by decide +kernel)), ⟨by decide +kernel, by decide +kernel, by decide +kernel⟩⟩
theorem yX9_told_k : Yk yX9_told cX9_told 2 1 (some .int) := ⟨⟨(lwgm 431 (by decide +kernel) (by decide +kernel)), (lwgm 432 (by decide +kernel) (by decide +kernel))⟩, (lwgm 56 (by decide +kernel) (by decide +kernel)), (lwgm 433 (by decide +kernel) (by decide +kernel)), ⟨by decide +kernel, by decide +kernel, by decide +kernel⟩⟩
theorem yX7_takenCorners_k : Yk yX7_takenCorners cX7_takenCorners 3 0 (some .int) := ⟨⟨(lwgm 435 (by decide +kernel) (by decide +kernel)), (lwgm 436 (by decide +kernel) (by decide +kernel))⟩, (lwgm 59 (by decide +kernel) (by decide +kernel)), (lwgm 437 (by decide +kernel) (by decide +kernel)), ⟨by decide +kernel, by decide +kernel, by decide +kernel⟩⟩
theorem yX7_allFollowers_k : Yk yX7_allFollowers cX7_allFollowers 3 0 (some .int) := ⟨⟨(lwgm 439 (by decide +kernel) (by decide +kernel)), (lwgm 440 (by decide +kernel) (by decide +kernel))⟩, (lwgm 59 (by decide +kernel) (by decide +kernel)), (lwgm 441 (by decide +kernel) (by decide +kernel)), ⟨by decide +kernel, by decide +kernel, by decide +kernel⟩⟩
theorem yX7_ringCount_k : Yk yX7_ringCount cX7_ringCount 1 0 (some .int) := ⟨⟨(lwgm 443 (by decide +kernel) (by decide +kernel)), (lwgm 444 (by decide +kernel) (by decide +kernel))⟩, (lwgm 59 (by decide +kernel) (by decide +kernel)), (lwgm 445 (by decide +kernel) (by decide +kernel)), ⟨by decide +kernel, by decide +kernel, by decide +kernel⟩⟩
theorem yX7_leastOfRings_k : Yk yX7_leastOfRings cX7_leastOfRings 4 0 (some .int) := ⟨⟨(lwgm 447 (by decide +kernel) (by decide +kernel)), (lwgm 448 (by decide +kernel) (by decide +kernel))⟩, (lwgm 59 (by decide +kernel) (by decide +kernel)), (lwgm 449 (by decide +kernel) (by decide +kernel)), ⟨by decide +kernel, by decide +kernel, by decide +kernel⟩⟩
theorem yX7_ringOf_k : Yk yX7_ringOf cX7_ringOf 3 1 (some .int) := ⟨⟨(lwgm 452 (by decide +kernel) (by decide +kernel)), (lwgm 11 (by decide +kernel) (by decide +kernel))⟩, (lwgm 59 (by decide +kernel) (by decide +kernel)), (lwgm 453 (by decide +kernel) (by decide +kernel)), ⟨by decide +kernel, by decide +kernel, by decide +kernel⟩⟩
theorem yX7_leadersOf_k : Yk yX7_leadersOf cX7_leadersOf 5 1 (some .int) := ⟨⟨(lwgm 456 (by decide +kernel) (by decide +kernel)), (lwgm 12 (by decide +kernel) (by decide +kernel))⟩, (lwgm 59 (by decide +kernel) (by decide +kernel)), (lwgm 457 (by decide +kernel) (by decide +kernel)), ⟨by decide +kernel, by decide +kernel, by decide +kernel⟩⟩
theorem yX9_isIn_k : Ys yX9_isIn cX9_isIn 2 2 (some .boolean) := ⟨(lwgm 459 (by decide +kernel) (by decide +kernel)), (lwgm 56 (by decide +kernel) (by decide +kernel)), (lwgm 460 (by decide +kernel) (by decide +kernel)), ⟨by decide +kernel, by decide +kernel, by decide +kernel⟩⟩
theorem yJ6_bitCount_0f7a4_k : Ys yJ6_bitCount_0f7a4 cJ6_bitCount_0f7a4 1 1 (some .int) := ⟨(lwgm 462 (by decide +kernel) (by decide +kernel)), (lwgm 69 (by decide +kernel) (by decide +kernel)), (lwgm 463 (by decide +kernel) (by decide +kernel)), ⟨by decide +kernel, by decide +kernel, by decide +kernel⟩⟩
theorem yX7_heads_k : Yk yX7_heads cX7_heads 4 0 (some .int) := ⟨⟨(lwgm 468 (by decide +kernel) (by decide +kernel)), (lwgm 469 (by decide +kernel) (by decide +kernel))⟩, (lwgm 59 (by decide +kernel) (by decide +kernel)), (lwgm 470 (by decide +kernel) (by decide +kernel)), ⟨by decide +kernel, by decide +kernel, by decide +kernel⟩⟩
theorem yX7_allBeside_k : Yk yX7_allBeside cX7_allBeside 5 1 (some .int) := ⟨⟨(lwgm 472 (by decide +kernel) (by decide +kernel)), (lwgm 473 (by decide +kernel) (by decide +kernel))⟩, (lwgm 59 (by decide +kernel) (by decide +kernel)), (lwgm 474 (by decide +kernel) (by decide +kernel)), ⟨by decide +kernel, by decide +kernel, by decide +kernel⟩⟩
theorem yX7_trailOf_k : Yk yX7_trailOf cX7_trailOf 4 1 (some .int) := ⟨⟨(lwgm 476 (by decide +kernel) (by decide +kernel)), (lwgm 477 (by decide +kernel) (by decide +kernel))⟩, (lwgm 59 (by decide +kernel) (by decide +kernel)), (lwgm 478 (by decide +kernel) (by decide +kernel)), ⟨by decide +kernel, by decide +kernel, by decide +kernel⟩⟩
theorem yX9_car_k : Yk yX9_car cX9_car 3 2 (some .int) := ⟨⟨(lwgm 480 (by decide +kernel) (by decide +kernel)), (lwgm 481 (by decide +kernel) (by decide +kernel))⟩, (lwgm 56 (by decide +kernel) (by decide +kernel)), (lwgm 482 (by decide +kernel) (by decide +kernel)), ⟨by decide +kernel, by decide +kernel, by decide +kernel⟩⟩
theorem yX9_isCar_k : Yk yX9_isCar cX9_isCar 2 1 (some .boolean) := ⟨⟨(lwgm 485 (by decide +kernel) (by decide +kernel)), (lwgm 13 (by decide +kernel) (by decide +kernel))⟩, (lwgm 56 (by decide +kernel) (by decide +kernel)), (lwgm 486 (by decide +kernel) (by decide +kernel)), ⟨by decide +kernel, by decide +kernel, by decide +kernel⟩⟩
theorem yX9_step_k : Yk yX9_step cX9_step 3 1 (some .int) := ⟨⟨(lwgm 489 (by decide +kernel) (by decide +kernel)), (lwgm 490 (by decide +kernel) (by decide +kernel))⟩, (lwgm 56 (by decide +kernel) (by decide +kernel)), (lwgm 491 (by decide +kernel) (by decide +kernel)), ⟨by decide +kernel, by decide +kernel, by decide +kernel⟩⟩
theorem yX9_refusalOfSteps_k : Yk yX9_refusalOfSteps cX9_refusalOfSteps 2 1 (some .int) := ⟨⟨(lwgm 494 (by decide +kernel) (by decide +kernel)), (lwgm 14 (by decide +kernel) (by decide +kernel))⟩, (lwgm 56 (by decide +kernel) (by decide +kernel)), (lwgm 495 (by decide +kernel) (by decide +kernel)), ⟨by decide +kernel, by decide +kernel, by decide +kernel⟩⟩
theorem yX4_push_k : Yk yX4_push cX4_push 2 1 none := ⟨⟨(lwgm 498 (by decide +kernel) (by decide +kernel)), (lwgm 499 (by decide +kernel) (by decide +kernel))⟩, (lwgm 60 (by decide +kernel) (by decide +kernel)), (lwgm 500 (by decide +kernel) (by decide +kernel)), ⟨by decide +kernel, by decide +kernel, by decide +kernel⟩⟩
theorem yX7_moveTimes_k : Yk yX7_moveTimes cX7_moveTimes 3 1 none := ⟨⟨(lwgm 504 (by decide +kernel) (by decide +kernel)), (lwgm 505 (by decide +kernel) (by decide +kernel))⟩, (lwgm 59 (by decide +kernel) (by decide +kernel)), (lwgm 506 (by decide +kernel) (by decide +kernel)), ⟨by decide +kernel, by decide +kernel, by decide +kernel⟩⟩
theorem yX7_move_k : Yk yX7_move cX7_move 2 0 none := ⟨⟨(lwgm 508 (by decide +kernel) (by decide +kernel)), (lwgm 509 (by decide +kernel) (by decide +kernel))⟩, (lwgm 59 (by decide +kernel) (by decide +kernel)), (lwgm 510 (by decide +kernel) (by decide +kernel)), ⟨by decide +kernel, by decide +kernel, by decide +kernel⟩⟩
theorem yX7_goRound_k : Yk yX7_goRound cX7_goRound 4 1 (some .int) := ⟨⟨(lwgm 513 (by decide +kernel) (by decide +kernel)), (lwgm 15 (by decide +kernel) (by decide +kernel))⟩, (lwgm 59 (by decide +kernel) (by decide +kernel)), (lwgm 514 (by decide +kernel) (by decide +kernel)), ⟨by decide +kernel, by decide +kernel, by decide +kernel⟩⟩
theorem yX9_follow_k : Yk yX9_follow cX9_follow 4 2 (some .int) := ⟨⟨(lwgm 518 (by decide +kernel) (by decide +kernel)), (lwgm 519 (by decide +kernel) (by decide +kernel))⟩, (lwgm 56 (by decide +kernel) (by decide +kernel)), (lwgm 520 (by decide +kernel) (by decide +kernel)), ⟨by decide +kernel, by decide +kernel, by decide +kernel⟩⟩
theorem yX9_areTwoCars_k : Yk yX9_areTwoCars cX9_areTwoCars 3 2 (some .boolean) := ⟨⟨(lwgm 523 (by decide +kernel) (by decide +kernel)), (lwgm 16 (by decide +kernel) (by decide +kernel))⟩, (lwgm 56 (by decide +kernel) (by decide +kernel)), (lwgm 524 (by decide +kernel) (by decide +kernel)), ⟨by decide +kernel, by decide +kernel, by decide +kernel⟩⟩
theorem yX9_letOff_k : Yk yX9_letOff cX9_letOff 3 1 (some .int) := ⟨⟨(lwgm 526 (by decide +kernel) (by decide +kernel)), (lwgm 527 (by decide +kernel) (by decide +kernel))⟩, (lwgm 56 (by decide +kernel) (by decide +kernel)), (lwgm 528 (by decide +kernel) (by decide +kernel)), ⟨by decide +kernel, by decide +kernel, by decide +kernel⟩⟩
theorem yX9_turn_k : Yk yX9_turn cX9_turn 2 1 (some .int) := ⟨⟨(lwgm 530 (by decide +kernel) (by decide +kernel)), (lwgm 531 (by decide +kernel) (by decide +kernel))⟩, (lwgm 56 (by decide +kernel) (by decide +kernel)), (lwgm 532 (by decide +kernel) (by decide +kernel)), ⟨by decide +kernel, by decide +kernel, by decide +kernel⟩⟩
theorem yX7_reverseRound_k : Yk yX7_reverseRound cX7_reverseRound 2 1 none := ⟨⟨(lwgm 534 (by decide +kernel) (by decide +kernel)), (lwgm 535 (by decide +kernel) (by decide +kernel))⟩, (lwgm 59 (by decide +kernel) (by decide +kernel)), (lwgm 536 (by decide +kernel) (by decide +kernel)), ⟨by decide +kernel, by decide +kernel, by decide +kernel⟩⟩
theorem yX2_reversed_k : Ys yX2_reversed cX2_reversed 3 1 (some .int) := ⟨(lwgm 538 (by decide +kernel) (by decide +kernel)), (lwgm 67 (by decide +kernel) (by decide +kernel)), (lwgm 539 (by decide +kernel) (by decide +kernel)), ⟨by decide +kernel, by decide +kernel, by decide +kernel⟩⟩
theorem yX9_drift_k : Yk yX9_drift cX9_drift 4 1 (some .int) := ⟨⟨(lwgm 541 (by decide +kernel) (by decide +kernel)), (lwgm 542 (by decide +kernel) (by decide +kernel))⟩, (lwgm 56 (by decide +kernel) (by decide +kernel)), (lwgm 543 (by decide +kernel) (by decide +kernel)), ⟨by decide +kernel, by decide +kernel, by decide +kernel⟩⟩
theorem yX9_askByDraws_k : Yk yX9_askByDraws cX9_askByDraws 3 0 none := ⟨⟨(lwgm 546 (by decide +kernel) (by decide +kernel)), (lwgm 17 (by decide +kernel) (by decide +kernel))⟩, (lwgm 56 (by decide +kernel) (by decide +kernel)), (lwgm 547 (by decide +kernel) (by decide +kernel)), ⟨by decide +kernel, by decide +kernel, by decide +kernel⟩⟩
theorem yX0_drawOf_k : Yk yX0_drawOf cX0_drawOf 2 1 (some .int) := ⟨⟨(lwgm 549 (by decide +kernel) (by decide +kernel)), (lwgm 550 (by decide +kernel) (by decide +kernel))⟩, (lwgm 65 (by decide +kernel) (by decide +kernel)), (lwgm 551 (by decide +kernel) (by decide +kernel)), ⟨by decide +kernel, by decide +kernel, by decide +kernel⟩⟩
theorem yX9_undo_k : Yk yX9_undo cX9_undo 1 0 (some .int) := ⟨⟨(lwgm 557 (by decide +kernel) (by decide +kernel)), (lwgm 558 (by decide +kernel) (by decide +kernel))⟩, (lwgm 56 (by decide +kernel) (by decide +kernel)), (lwgm 559 (by decide +kernel) (by decide +kernel)), ⟨by decide +kernel, by decide +kernel, by decide +kernel⟩⟩
theorem yX4_pop_k : Yk yX4_pop cX4_pop 2 1 none := ⟨⟨(lwgm 561 (by decide +kernel) (by decide +kernel)), (lwgm 562 (by decide +kernel) (by decide +kernel))⟩, (lwgm 60 (by decide +kernel) (by decide +kernel)), (lwgm 563 (by decide +kernel) (by decide +kernel)), ⟨by decide +kernel, by decide +kernel, by decide +kernel⟩⟩
theorem yX9_where_k : Yk yX9_where cX9_where 3 2 (some .int) := ⟨⟨(lwgm 565 (by decide +kernel) (by decide +kernel)), (lwgm 566 (by decide +kernel) (by decide +kernel))⟩, (lwgm 56 (by decide +kernel) (by decide +kernel)), (lwgm 567 (by decide +kernel) (by decide +kernel)), ⟨by decide +kernel, by decide +kernel, by decide +kernel⟩⟩
theorem yX9_sees_k : Yk yX9_sees cX9_sees 4 2 (some .int) := ⟨⟨(lwgm 569 (by decide +kernel) (by decide +kernel)), (lwgm 570 (by decide +kernel) (by decide +kernel))⟩, (lwgm 56 (by decide +kernel) (by decide +kernel)), (lwgm 571 (by decide +kernel) (by decide +kernel)), ⟨by decide +kernel, by decide +kernel, by decide +kernel⟩⟩
theorem yX9_rings_k : Yk yX9_rings cX9_rings 2 1 (some .int) := ⟨⟨(lwgm 573 (by decide +kernel) (by decide +kernel)), (lwgm 574 (by decide +kernel) (by decide +kernel))⟩, (lwgm 56 (by decide +kernel) (by decide +kernel)), (lwgm 575 (by decide +kernel) (by decide +kernel)), ⟨by decide +kernel, by decide +kernel, by decide +kernel⟩⟩
theorem yX7_ringNumber_k : Yk yX7_ringNumber cX7_ringNumber 5 1 (some .int) := ⟨⟨(lwgm 577 (by decide +kernel) (by decide +kernel)), (lwgm 578 (by decide +kernel) (by decide +kernel))⟩, (lwgm 59 (by decide +kernel) (by decide +kernel)), (lwgm 579 (by decide +kernel) (by decide +kernel)), ⟨by decide +kernel, by decide +kernel, by decide +kernel⟩⟩
theorem yX9_end_k : Yk yX9_end cX9_end 3 2 (some .int) := ⟨⟨(lwgm 581 (by decide +kernel) (by decide +kernel)), (lwgm 582 (by decide +kernel) (by decide +kernel))⟩, (lwgm 56 (by decide +kernel) (by decide +kernel)), (lwgm 583 (by decide +kernel) (by decide +kernel)), ⟨by decide +kernel, by decide +kernel, by decide +kernel⟩⟩
theorem yX7_endOf_k : Yk yX7_endOf cX7_endOf 4 1 (some .int) := ⟨⟨(lwgm 585 (by decide +kernel) (by decide +kernel)), (lwgm 586 (by decide +kernel) (by decide +kernel))⟩, (lwgm 59 (by decide +kernel) (by decide +kernel)), (lwgm 587 (by decide +kernel) (by decide +kernel)), ⟨by decide +kernel, by decide +kernel, by decide +kernel⟩⟩
theorem yX7_timesToEnd_k : Yk yX7_timesToEnd cX7_timesToEnd 4 1 (some .int) := ⟨⟨(lwgm 589 (by decide +kernel) (by decide +kernel)), (lwgm 590 (by decide +kernel) (by decide +kernel))⟩, (lwgm 59 (by decide +kernel) (by decide +kernel)), (lwgm 591 (by decide +kernel) (by decide +kernel)), ⟨by decide +kernel, by decide +kernel, by decide +kernel⟩⟩
theorem yX7_isAnEnd_k : Yk yX7_isAnEnd cX7_isAnEnd 2 1 (some .boolean) := ⟨⟨(lwgm 594 (by decide +kernel) (by decide +kernel)), (lwgm 18 (by decide +kernel) (by decide +kernel))⟩, (lwgm 59 (by decide +kernel) (by decide +kernel)), (lwgm 595 (by decide +kernel) (by decide +kernel)), ⟨by decide +kernel, by decide +kernel, by decide +kernel⟩⟩
theorem yX9_leastOf_k : Ys yX9_leastOf cX9_leastOf 2 1 (some .int) := ⟨(lwgm 597 (by decide +kernel) (by decide +kernel)), (lwgm 56 (by decide +kernel) (by decide +kernel)), (lwgm 598 (by decide +kernel) (by decide +kernel)), ⟨by decide +kernel, by decide +kernel, by decide +kernel⟩⟩
theorem yX9_behind_k : Yk yX9_behind cX9_behind 2 1 (some .int) := ⟨⟨(lwgm 602 (by decide +kernel) (by decide +kernel)), (lwgm 603 (by decide +kernel) (by decide +kernel))⟩, (lwgm 56 (by decide +kernel) (by decide +kernel)), (lwgm 604 (by decide +kernel) (by decide +kernel)), ⟨by decide +kernel, by decide +kernel, by decide +kernel⟩⟩
theorem yX9_stop_k : Yk yX9_stop cX9_stop 1 0 (some .int) := ⟨⟨(lwgm 607 (by decide +kernel) (by decide +kernel)), (lwgm 608 (by decide +kernel) (by decide +kernel))⟩, (lwgm 56 (by decide +kernel) (by decide +kernel)), (lwgm 609 (by decide +kernel) (by decide +kernel)), ⟨by decide +kernel, by decide +kernel, by decide +kernel⟩⟩
theorem yX9_cross_k : Yk yX9_cross cX9_cross 5 2 (some .int) := ⟨⟨(lwgm 612 (by decide +kernel) (by decide +kernel)), (lwgm 613 (by decide +kernel) (by decide +kernel))⟩, (lwgm 56 (by decide +kernel) (by decide +kernel)), (lwgm 614 (by decide +kernel) (by decide +kernel)), ⟨by decide +kernel, by decide +kernel, by decide +kernel⟩⟩
theorem yX9_isCorner_k : Yk yX9_isCorner cX9_isCorner 2 1 (some .boolean) := ⟨⟨(lwgm 617 (by decide +kernel) (by decide +kernel)), (lwgm 19 (by decide +kernel) (by decide +kernel))⟩, (lwgm 56 (by decide +kernel) (by decide +kernel)), (lwgm 618 (by decide +kernel) (by decide +kernel)), ⟨by decide +kernel, by decide +kernel, by decide +kernel⟩⟩
theorem yX7_carsAt_k : Yk yX7_carsAt cX7_carsAt 4 1 (some .int) := ⟨⟨(lwgm 620 (by decide +kernel) (by decide +kernel)), (lwgm 621 (by decide +kernel) (by decide +kernel))⟩, (lwgm 59 (by decide +kernel) (by decide +kernel)), (lwgm 622 (by decide +kernel) (by decide +kernel)), ⟨by decide +kernel, by decide +kernel, by decide +kernel⟩⟩
theorem yX9_handed_k : Yk yX9_handed cX9_handed 5 2 (some .int) := ⟨⟨(lwgm 624 (by decide +kernel) (by decide +kernel)), (lwgm 625 (by decide +kernel) (by decide +kernel))⟩, (lwgm 56 (by decide +kernel) (by decide +kernel)), (lwgm 626 (by decide +kernel) (by decide +kernel)), ⟨by decide +kernel, by decide +kernel, by decide +kernel⟩⟩
theorem yX9_meets_k : Yk yX9_meets cX9_meets 4 1 (some .int) := ⟨⟨(lwgm 629 (by decide +kernel) (by decide +kernel)), (lwgm 630 (by decide +kernel) (by decide +kernel))⟩, (lwgm 56 (by decide +kernel) (by decide +kernel)), (lwgm 631 (by decide +kernel) (by decide +kernel)), ⟨by decide +kernel, by decide +kernel, by decide +kernel⟩⟩
theorem yX9_asked_k : Yk yX9_asked cX9_asked 5 1 (some .int) := ⟨⟨(lwgm 634 (by decide +kernel) (by decide +kernel)), (lwgm 635 (by decide +kernel) (by decide +kernel))⟩, (lwgm 56 (by decide +kernel) (by decide +kernel)), (lwgm 636 (by decide +kernel) (by decide +kernel)), ⟨by decide +kernel, by decide +kernel, by decide +kernel⟩⟩
theorem yX9_see_k : Yk yX9_see cX9_see 4 3 (some .int) := ⟨⟨(lwgm 640 (by decide +kernel) (by decide +kernel)), (lwgm 641 (by decide +kernel) (by decide +kernel))⟩, (lwgm 56 (by decide +kernel) (by decide +kernel)), (lwgm 642 (by decide +kernel) (by decide +kernel)), ⟨by decide +kernel, by decide +kernel, by decide +kernel⟩⟩
theorem yX1_add_k : Yk yX1_add cX1_add 4 3 (some .int) := ⟨⟨(lwgm 644 (by decide +kernel) (by decide +kernel)), (lwgm 645 (by decide +kernel) (by decide +kernel))⟩, (lwgm 62 (by decide +kernel) (by decide +kernel)), (lwgm 646 (by decide +kernel) (by decide +kernel)), ⟨by decide +kernel, by decide +kernel, by decide +kernel⟩⟩
theorem yX9_whom_k : Yk yX9_whom cX9_whom 2 1 (some .int) := ⟨⟨(lwgm 649 (by decide +kernel) (by decide +kernel)), (lwgm 650 (by decide +kernel) (by decide +kernel))⟩, (lwgm 56 (by decide +kernel) (by decide +kernel)), (lwgm 651 (by decide +kernel) (by decide +kernel)), ⟨by decide +kernel, by decide +kernel, by decide +kernel⟩⟩
theorem yX3_weigh_k : Yk yX3_weigh cX3_weigh 5 3 none := ⟨⟨(lwgm 653 (by decide +kernel) (by decide +kernel)), (lwgm 654 (by decide +kernel) (by decide +kernel))⟩, (lwgm 64 (by decide +kernel) (by decide +kernel)), (lwgm 655 (by decide +kernel) (by decide +kernel)), ⟨by decide +kernel, by decide +kernel, by decide +kernel⟩⟩
theorem yX3_recordTrack_k : Yk yX3_recordTrack cX3_recordTrack 4 2 none := ⟨⟨(lwgm 659 (by decide +kernel) (by decide +kernel)), (lwgm 20 (by decide +kernel) (by decide +kernel))⟩, (lwgm 64 (by decide +kernel) (by decide +kernel)), (lwgm 660 (by decide +kernel) (by decide +kernel)), ⟨by decide +kernel, by decide +kernel, by decide +kernel⟩⟩
theorem yX3_fits_k : Yk yX3_fits cX3_fits 5 3 (some .boolean) := ⟨⟨(lwgm 664 (by decide +kernel) (by decide +kernel)), (lwgm 21 (by decide +kernel) (by decide +kernel))⟩, (lwgm 64 (by decide +kernel) (by decide +kernel)), (lwgm 665 (by decide +kernel) (by decide +kernel)), ⟨by decide +kernel, by decide +kernel, by decide +kernel⟩⟩
theorem yX9_look_k : Yk yX9_look cX9_look 2 1 (some .int) := ⟨⟨(lwgm 667 (by decide +kernel) (by decide +kernel)), (lwgm 668 (by decide +kernel) (by decide +kernel))⟩, (lwgm 56 (by decide +kernel) (by decide +kernel)), (lwgm 669 (by decide +kernel) (by decide +kernel)), ⟨by decide +kernel, by decide +kernel, by decide +kernel⟩⟩
theorem yX3_bestLook_k : Yk yX3_bestLook cX3_bestLook 5 0 (some .int) := ⟨⟨(lwgm 671 (by decide +kernel) (by decide +kernel)), (lwgm 672 (by decide +kernel) (by decide +kernel))⟩, (lwgm 64 (by decide +kernel) (by decide +kernel)), (lwgm 673 (by decide +kernel) (by decide +kernel)), ⟨by decide +kernel, by decide +kernel, by decide +kernel⟩⟩
theorem yX3_greatestPart_k : Yk yX3_greatestPart cX3_greatestPart 4 1 (some .int) := ⟨⟨(lwgm 677 (by decide +kernel) (by decide +kernel)), (lwgm 22 (by decide +kernel) (by decide +kernel))⟩, (lwgm 64 (by decide +kernel) (by decide +kernel)), (lwgm 678 (by decide +kernel) (by decide +kernel)), ⟨by decide +kernel, by decide +kernel, by decide +kernel⟩⟩
theorem yX3_partAlike_k : Yk yX3_partAlike cX3_partAlike 5 2 (some .int) := ⟨⟨(lwgm 682 (by decide +kernel) (by decide +kernel)), (lwgm 23 (by decide +kernel) (by decide +kernel))⟩, (lwgm 64 (by decide +kernel) (by decide +kernel)), (lwgm 683 (by decide +kernel) (by decide +kernel)), ⟨by decide +kernel, by decide +kernel, by decide +kernel⟩⟩
theorem yX9_write_k : Yk yX9_write cX9_write 3 2 (some .int) := ⟨⟨(lwgm 686 (by decide +kernel) (by decide +kernel)), (lwgm 687 (by decide +kernel) (by decide +kernel))⟩, (lwgm 56 (by decide +kernel) (by decide +kernel)), (lwgm 688 (by decide +kernel) (by decide +kernel)), ⟨by decide +kernel, by decide +kernel, by decide +kernel⟩⟩
theorem yX9_tear_k : Yk yX9_tear cX9_tear 2 0 (some .int) := ⟨⟨(lwgm 690 (by decide +kernel) (by decide +kernel)), (lwgm 691 (by decide +kernel) (by decide +kernel))⟩, (lwgm 56 (by decide +kernel) (by decide +kernel)), (lwgm 692 (by decide +kernel) (by decide +kernel)), ⟨by decide +kernel, by decide +kernel, by decide +kernel⟩⟩
theorem yX9_judge_k : Yk yX9_judge cX9_judge 2 0 (some .int) := ⟨⟨(lwgm 694 (by decide +kernel) (by decide +kernel)), (lwgm 695 (by decide +kernel) (by decide +kernel))⟩, (lwgm 56 (by decide +kernel) (by decide +kernel)), (lwgm 696 (by decide +kernel) (by decide +kernel)), ⟨by decide +kernel, by decide +kernel, by decide +kernel⟩⟩
theorem yX9_seed_k : Yk yX9_seed cX9_seed 3 1 (some .int) := ⟨⟨(lwgm 698 (by decide +kernel) (by decide +kernel)), (lwgm 699 (by decide +kernel) (by decide +kernel))⟩, (lwgm 56 (by decide +kernel) (by decide +kernel)), (lwgm 700 (by decide +kernel) (by decide +kernel)), ⟨by decide +kernel, by decide +kernel, by decide +kernel⟩⟩
theorem yX9_keep_k : Yk yX9_keep cX9_keep 2 1 (some .int) := ⟨⟨(lwgm 702 (by decide +kernel) (by decide +kernel)), (lwgm 703 (by decide +kernel) (by decide +kernel))⟩, (lwgm 56 (by decide +kernel) (by decide +kernel)), (lwgm 704 (by decide +kernel) (by decide +kernel)), ⟨by decide +kernel, by decide +kernel, by decide +kernel⟩⟩
theorem yX9_isImage_k : Ys yX9_isImage cX9_isImage 1 1 (some .boolean) := ⟨(lwgm 706 (by decide +kernel) (by decide +kernel)), (lwgm 56 (by decide +kernel) (by decide +kernel)), (lwgm 707 (by decide +kernel) (by decide +kernel)), ⟨by decide +kernel, by decide +kernel, by decide +kernel⟩⟩
theorem yX5_put_k : Yk yX5_put cX5_put 4 3 none := ⟨⟨(lwgm 709 (by decide +kernel) (by decide +kernel)), (lwgm 710 (by decide +kernel) (by decide +kernel))⟩, (lwgm 61 (by decide +kernel) (by decide +kernel)), (lwgm 711 (by decide +kernel) (by decide +kernel)), ⟨by decide +kernel, by decide +kernel, by decide +kernel⟩⟩
theorem yX9_goBack_k : Yk yX9_goBack cX9_goBack 2 1 (some .int) := ⟨⟨(lwgm 714 (by decide +kernel) (by decide +kernel)), (lwgm 715 (by decide +kernel) (by decide +kernel))⟩, (lwgm 56 (by decide +kernel) (by decide +kernel)), (lwgm 716 (by decide +kernel) (by decide +kernel)), ⟨by decide +kernel, by decide +kernel, by decide +kernel⟩⟩
theorem yX10_init_k : (Cond.instanceMethod yX10_init ∈ lwg ∧ Cond.initialized yX10_init.cls ∈ lwg) ∧ Cond.code yX10_init cX10_init 1 none ∈ lwg := ⟨⟨(lwgm 720 (by decide +kernel) (by decide +kernel)), (lwgm 66 (by decide +kernel) (by decide +kernel))⟩, (lwgm 721 (by decide +kernel) (by decide +kernel))⟩
theorem yX10_feed_k : Yk yX10_feed cX10_feed 2 1 (some .int) := ⟨⟨(lwgm 827 (by decide +kernel) (by decide +kernel)), (lwgm 828 (by decide +kernel) (by decide +kernel))⟩, (lwgm 66 (by decide +kernel) (by decide +kernel)), (lwgm 829 (by decide +kernel) (by decide +kernel)), ⟨by decide +kernel, by decide +kernel, by decide +kernel⟩⟩
theorem yX10_in_k : Ys yX10_in cX10_in 6 3 (some .boolean) := ⟨(lwgm 832 (by decide +kernel) (by decide +kernel)), (lwgm 66 (by decide +kernel) (by decide +kernel)), (lwgm 833 (by decide +kernel) (by decide +kernel)), ⟨by decide +kernel, by decide +kernel, by decide +kernel⟩⟩
theorem yX10_town_k : Yk yX10_town cX10_town 2 0 (some .int) := ⟨⟨(lwgm 837 (by decide +kernel) (by decide +kernel)), (lwgm 838 (by decide +kernel) (by decide +kernel))⟩, (lwgm 66 (by decide +kernel) (by decide +kernel)), (lwgm 839 (by decide +kernel) (by decide +kernel)), ⟨by decide +kernel, by decide +kernel, by decide +kernel⟩⟩
theorem yX10_here_k : Yk yX10_here cX10_here 1 0 (some .int) := ⟨⟨(lwgm 842 (by decide +kernel) (by decide +kernel)), (lwgm 24 (by decide +kernel) (by decide +kernel))⟩, (lwgm 66 (by decide +kernel) (by decide +kernel)), (lwgm 843 (by decide +kernel) (by decide +kernel)), ⟨by decide +kernel, by decide +kernel, by decide +kernel⟩⟩
theorem yX10_takeClause_k : Yk yX10_takeClause cX10_takeClause 5 0 (some .int) := ⟨⟨(lwgm 846 (by decide +kernel) (by decide +kernel)), (lwgm 25 (by decide +kernel) (by decide +kernel))⟩, (lwgm 66 (by decide +kernel) (by decide +kernel)), (lwgm 847 (by decide +kernel) (by decide +kernel)), ⟨by decide +kernel, by decide +kernel, by decide +kernel⟩⟩
theorem yX10_fails_k : Yk yX10_fails cX10_fails 3 2 (some .int) := ⟨⟨(lwgm 850 (by decide +kernel) (by decide +kernel)), (lwgm 26 (by decide +kernel) (by decide +kernel))⟩, (lwgm 66 (by decide +kernel) (by decide +kernel)), (lwgm 851 (by decide +kernel) (by decide +kernel)), ⟨by decide +kernel, by decide +kernel, by decide +kernel⟩⟩
theorem yX10_takeTown_k : Yk yX10_takeTown cX10_takeTown 2 0 (some .int) := ⟨⟨(lwgm 854 (by decide +kernel) (by decide +kernel)), (lwgm 27 (by decide +kernel) (by decide +kernel))⟩, (lwgm 66 (by decide +kernel) (by decide +kernel)), (lwgm 855 (by decide +kernel) (by decide +kernel)), ⟨by decide +kernel, by decide +kernel, by decide +kernel⟩⟩
theorem yX10_into_k : Yk yX10_into cX10_into 6 4 (some .int) := ⟨⟨(lwgm 858 (by decide +kernel) (by decide +kernel)), (lwgm 28 (by decide +kernel) (by decide +kernel))⟩, (lwgm 66 (by decide +kernel) (by decide +kernel)), (lwgm 859 (by decide +kernel) (by decide +kernel)), ⟨by decide +kernel, by decide +kernel, by decide +kernel⟩⟩
theorem yX10_takeNumber_k : Yk yX10_takeNumber cX10_takeNumber 4 2 (some .int) := ⟨⟨(lwgm 862 (by decide +kernel) (by decide +kernel)), (lwgm 29 (by decide +kernel) (by decide +kernel))⟩, (lwgm 66 (by decide +kernel) (by decide +kernel)), (lwgm 863 (by decide +kernel) (by decide +kernel)), ⟨by decide +kernel, by decide +kernel, by decide +kernel⟩⟩
theorem yX10_takeCar_k : Yk yX10_takeCar cX10_takeCar 5 0 (some .int) := ⟨⟨(lwgm 869 (by decide +kernel) (by decide +kernel)), (lwgm 30 (by decide +kernel) (by decide +kernel))⟩, (lwgm 66 (by decide +kernel) (by decide +kernel)), (lwgm 870 (by decide +kernel) (by decide +kernel)), ⟨by decide +kernel, by decide +kernel, by decide +kernel⟩⟩
theorem yX10_takeFollows_k : Yk yX10_takeFollows cX10_takeFollows 3 0 (some .int) := ⟨⟨(lwgm 874 (by decide +kernel) (by decide +kernel)), (lwgm 31 (by decide +kernel) (by decide +kernel))⟩, (lwgm 66 (by decide +kernel) (by decide +kernel)), (lwgm 875 (by decide +kernel) (by decide +kernel)), ⟨by decide +kernel, by decide +kernel, by decide +kernel⟩⟩
theorem yX10_takeRead_k : Yk yX10_takeRead cX10_takeRead 2 0 none := ⟨⟨(lwgm 878 (by decide +kernel) (by decide +kernel)), (lwgm 32 (by decide +kernel) (by decide +kernel))⟩, (lwgm 66 (by decide +kernel) (by decide +kernel)), (lwgm 879 (by decide +kernel) (by decide +kernel)), ⟨by decide +kernel, by decide +kernel, by decide +kernel⟩⟩
theorem yX10_fault_k : Yk yX10_fault cX10_fault 1 0 (some .int) := ⟨⟨(lwgm 881 (by decide +kernel) (by decide +kernel)), (lwgm 882 (by decide +kernel) (by decide +kernel))⟩, (lwgm 66 (by decide +kernel) (by decide +kernel)), (lwgm 883 (by decide +kernel) (by decide +kernel)), ⟨by decide +kernel, by decide +kernel, by decide +kernel⟩⟩
theorem yX10_told_k : Yk yX10_told cX10_told 2 1 (some .int) := ⟨⟨(lwgm 885 (by decide +kernel) (by decide +kernel)), (lwgm 886 (by decide +kernel) (by decide +kernel))⟩, (lwgm 66 (by decide +kernel) (by decide +kernel)), (lwgm 887 (by decide +kernel) (by decide +kernel)), ⟨by decide +kernel, by decide +kernel, by decide +kernel⟩⟩
theorem yX10_taken_k : Yk yX10_taken cX10_taken 3 0 (some .int) := ⟨⟨(lwgm 890 (by decide +kernel) (by decide +kernel)), (lwgm 33 (by decide +kernel) (by decide +kernel))⟩, (lwgm 66 (by decide +kernel) (by decide +kernel)), (lwgm 891 (by decide +kernel) (by decide +kernel)), ⟨by decide +kernel, by decide +kernel, by decide +kernel⟩⟩
theorem yX10_followers_k : Yk yX10_followers cX10_followers 3 0 (some .int) := ⟨⟨(lwgm 894 (by decide +kernel) (by decide +kernel)), (lwgm 34 (by decide +kernel) (by decide +kernel))⟩, (lwgm 66 (by decide +kernel) (by decide +kernel)), (lwgm 895 (by decide +kernel) (by decide +kernel)), ⟨by decide +kernel, by decide +kernel, by decide +kernel⟩⟩
theorem yX10_ringsNow_k : Yk yX10_ringsNow cX10_ringsNow 5 1 (some .int) := ⟨⟨(lwgm 898 (by decide +kernel) (by decide +kernel)), (lwgm 35 (by decide +kernel) (by decide +kernel))⟩, (lwgm 66 (by decide +kernel) (by decide +kernel)), (lwgm 899 (by decide +kernel) (by decide +kernel)), ⟨by decide +kernel, by decide +kernel, by decide +kernel⟩⟩
theorem yX10_ringOf_k : Yk yX10_ringOf cX10_ringOf 5 1 (some .int) := ⟨⟨(lwgm 902 (by decide +kernel) (by decide +kernel)), (lwgm 36 (by decide +kernel) (by decide +kernel))⟩, (lwgm 66 (by decide +kernel) (by decide +kernel)), (lwgm 903 (by decide +kernel) (by decide +kernel)), ⟨by decide +kernel, by decide +kernel, by decide +kernel⟩⟩
theorem yX10_least_k : Ys yX10_least cX10_least 2 1 (some .int) := ⟨(lwgm 905 (by decide +kernel) (by decide +kernel)), (lwgm 66 (by decide +kernel) (by decide +kernel)), (lwgm 906 (by decide +kernel) (by decide +kernel)), ⟨by decide +kernel, by decide +kernel, by decide +kernel⟩⟩
theorem yX10_has_k : Ys yX10_has cX10_has 2 2 (some .boolean) := ⟨(lwgm 908 (by decide +kernel) (by decide +kernel)), (lwgm 66 (by decide +kernel) (by decide +kernel)), (lwgm 909 (by decide +kernel) (by decide +kernel)), ⟨by decide +kernel, by decide +kernel, by decide +kernel⟩⟩
theorem yX10_heads_k : Yk yX10_heads cX10_heads 5 0 (some .int) := ⟨⟨(lwgm 912 (by decide +kernel) (by decide +kernel)), (lwgm 37 (by decide +kernel) (by decide +kernel))⟩, (lwgm 66 (by decide +kernel) (by decide +kernel)), (lwgm 913 (by decide +kernel) (by decide +kernel)), ⟨by decide +kernel, by decide +kernel, by decide +kernel⟩⟩
theorem yX10_behindOf_k : Yk yX10_behindOf cX10_behindOf 6 1 (some .int) := ⟨⟨(lwgm 916 (by decide +kernel) (by decide +kernel)), (lwgm 38 (by decide +kernel) (by decide +kernel))⟩, (lwgm 66 (by decide +kernel) (by decide +kernel)), (lwgm 917 (by decide +kernel) (by decide +kernel)), ⟨by decide +kernel, by decide +kernel, by decide +kernel⟩⟩
theorem yX10_car_k : Yk yX10_car cX10_car 3 2 (some .int) := ⟨⟨(lwgm 919 (by decide +kernel) (by decide +kernel)), (lwgm 920 (by decide +kernel) (by decide +kernel))⟩, (lwgm 66 (by decide +kernel) (by decide +kernel)), (lwgm 921 (by decide +kernel) (by decide +kernel)), ⟨by decide +kernel, by decide +kernel, by decide +kernel⟩⟩
theorem yX10_isCar_k : Yk yX10_isCar cX10_isCar 2 1 (some .boolean) := ⟨⟨(lwgm 924 (by decide +kernel) (by decide +kernel)), (lwgm 39 (by decide +kernel) (by decide +kernel))⟩, (lwgm 66 (by decide +kernel) (by decide +kernel)), (lwgm 925 (by decide +kernel) (by decide +kernel)), ⟨by decide +kernel, by decide +kernel, by decide +kernel⟩⟩
theorem yX10_roundOf_k : Yk yX10_roundOf cX10_roundOf 4 1 (some .int) := ⟨⟨(lwgm 929 (by decide +kernel) (by decide +kernel)), (lwgm 40 (by decide +kernel) (by decide +kernel))⟩, (lwgm 66 (by decide +kernel) (by decide +kernel)), (lwgm 930 (by decide +kernel) (by decide +kernel)), ⟨by decide +kernel, by decide +kernel, by decide +kernel⟩⟩
theorem yX10_cornerOf_k : Yk yX10_cornerOf cX10_cornerOf 3 2 (some .int) := ⟨⟨(lwgm 933 (by decide +kernel) (by decide +kernel)), (lwgm 41 (by decide +kernel) (by decide +kernel))⟩, (lwgm 66 (by decide +kernel) (by decide +kernel)), (lwgm 934 (by decide +kernel) (by decide +kernel)), ⟨by decide +kernel, by decide +kernel, by decide +kernel⟩⟩
theorem yX10_step_k : Yk yX10_step cX10_step 4 1 (some .int) := ⟨⟨(lwgm 936 (by decide +kernel) (by decide +kernel)), (lwgm 937 (by decide +kernel) (by decide +kernel))⟩, (lwgm 66 (by decide +kernel) (by decide +kernel)), (lwgm 938 (by decide +kernel) (by decide +kernel)), ⟨by decide +kernel, by decide +kernel, by decide +kernel⟩⟩
theorem yX10_stepsRefused_k : Yk yX10_stepsRefused cX10_stepsRefused 2 1 (some .int) := ⟨⟨(lwgm 941 (by decide +kernel) (by decide +kernel)), (lwgm 42 (by decide +kernel) (by decide +kernel))⟩, (lwgm 66 (by decide +kernel) (by decide +kernel)), (lwgm 942 (by decide +kernel) (by decide +kernel)), ⟨by decide +kernel, by decide +kernel, by decide +kernel⟩⟩
theorem yX10_remember_k : Yk yX10_remember cX10_remember 2 0 none := ⟨⟨(lwgm 947 (by decide +kernel) (by decide +kernel)), (lwgm 43 (by decide +kernel) (by decide +kernel))⟩, (lwgm 66 (by decide +kernel) (by decide +kernel)), (lwgm 948 (by decide +kernel) (by decide +kernel)), ⟨by decide +kernel, by decide +kernel, by decide +kernel⟩⟩
theorem yX10_stepAll_k : Yk yX10_stepAll cX10_stepAll 3 0 none := ⟨⟨(lwgm 951 (by decide +kernel) (by decide +kernel)), (lwgm 44 (by decide +kernel) (by decide +kernel))⟩, (lwgm 66 (by decide +kernel) (by decide +kernel)), (lwgm 952 (by decide +kernel) (by decide +kernel)), ⟨by decide +kernel, by decide +kernel, by decide +kernel⟩⟩
theorem yX10_follow_k : Yk yX10_follow cX10_follow 4 2 (some .int) := ⟨⟨(lwgm 954 (by decide +kernel) (by decide +kernel)), (lwgm 955 (by decide +kernel) (by decide +kernel))⟩, (lwgm 66 (by decide +kernel) (by decide +kernel)), (lwgm 956 (by decide +kernel) (by decide +kernel)), ⟨by decide +kernel, by decide +kernel, by decide +kernel⟩⟩
theorem yX10_areTwo_k : Yk yX10_areTwo cX10_areTwo 3 2 (some .boolean) := ⟨⟨(lwgm 959 (by decide +kernel) (by decide +kernel)), (lwgm 45 (by decide +kernel) (by decide +kernel))⟩, (lwgm 66 (by decide +kernel) (by decide +kernel)), (lwgm 960 (by decide +kernel) (by decide +kernel)), ⟨by decide +kernel, by decide +kernel, by decide +kernel⟩⟩
theorem yX10_letOff_k : Yk yX10_letOff cX10_letOff 3 1 (some .int) := ⟨⟨(lwgm 962 (by decide +kernel) (by decide +kernel)), (lwgm 963 (by decide +kernel) (by decide +kernel))⟩, (lwgm 66 (by decide +kernel) (by decide +kernel)), (lwgm 964 (by decide +kernel) (by decide +kernel)), ⟨by decide +kernel, by decide +kernel, by decide +kernel⟩⟩
theorem yX10_turn_k : Yk yX10_turn cX10_turn 2 1 (some .int) := ⟨⟨(lwgm 966 (by decide +kernel) (by decide +kernel)), (lwgm 967 (by decide +kernel) (by decide +kernel))⟩, (lwgm 66 (by decide +kernel) (by decide +kernel)), (lwgm 968 (by decide +kernel) (by decide +kernel)), ⟨by decide +kernel, by decide +kernel, by decide +kernel⟩⟩
theorem yX10_drift_k : Yk yX10_drift cX10_drift 4 1 (some .int) := ⟨⟨(lwgm 970 (by decide +kernel) (by decide +kernel)), (lwgm 971 (by decide +kernel) (by decide +kernel))⟩, (lwgm 66 (by decide +kernel) (by decide +kernel)), (lwgm 972 (by decide +kernel) (by decide +kernel)), ⟨by decide +kernel, by decide +kernel, by decide +kernel⟩⟩
theorem yX10_chance_k : Yk yX10_chance cX10_chance 4 0 none := ⟨⟨(lwgm 975 (by decide +kernel) (by decide +kernel)), (lwgm 46 (by decide +kernel) (by decide +kernel))⟩, (lwgm 66 (by decide +kernel) (by decide +kernel)), (lwgm 976 (by decide +kernel) (by decide +kernel)), ⟨by decide +kernel, by decide +kernel, by decide +kernel⟩⟩
theorem yX10_draw_k : Yk yX10_draw cX10_draw 2 1 (some .int) := ⟨⟨(lwgm 979 (by decide +kernel) (by decide +kernel)), (lwgm 47 (by decide +kernel) (by decide +kernel))⟩, (lwgm 66 (by decide +kernel) (by decide +kernel)), (lwgm 980 (by decide +kernel) (by decide +kernel)), ⟨by decide +kernel, by decide +kernel, by decide +kernel⟩⟩
theorem yX10_undo_k : Yk yX10_undo cX10_undo 2 0 (some .int) := ⟨⟨(lwgm 986 (by decide +kernel) (by decide +kernel)), (lwgm 987 (by decide +kernel) (by decide +kernel))⟩, (lwgm 66 (by decide +kernel) (by decide +kernel)), (lwgm 988 (by decide +kernel) (by decide +kernel)), ⟨by decide +kernel, by decide +kernel, by decide +kernel⟩⟩
theorem yX10_where_k : Yk yX10_where cX10_where 4 2 (some .int) := ⟨⟨(lwgm 990 (by decide +kernel) (by decide +kernel)), (lwgm 991 (by decide +kernel) (by decide +kernel))⟩, (lwgm 66 (by decide +kernel) (by decide +kernel)), (lwgm 992 (by decide +kernel) (by decide +kernel)), ⟨by decide +kernel, by decide +kernel, by decide +kernel⟩⟩
theorem yX10_save_k : Yk yX10_save cX10_save 2 0 none := ⟨⟨(lwgm 996 (by decide +kernel) (by decide +kernel)), (lwgm 48 (by decide +kernel) (by decide +kernel))⟩, (lwgm 66 (by decide +kernel) (by decide +kernel)), (lwgm 997 (by decide +kernel) (by decide +kernel)), ⟨by decide +kernel, by decide +kernel, by decide +kernel⟩⟩
theorem yX10_stepTo_k : Yk yX10_stepTo cX10_stepTo 3 1 none := ⟨⟨(lwgm 1000 (by decide +kernel) (by decide +kernel)), (lwgm 49 (by decide +kernel) (by decide +kernel))⟩, (lwgm 66 (by decide +kernel) (by decide +kernel)), (lwgm 1001 (by decide +kernel) (by decide +kernel)), ⟨by decide +kernel, by decide +kernel, by decide +kernel⟩⟩
theorem yX10_putBack_k : Yk yX10_putBack cX10_putBack 2 0 none := ⟨⟨(lwgm 1004 (by decide +kernel) (by decide +kernel)), (lwgm 50 (by decide +kernel) (by decide +kernel))⟩, (lwgm 66 (by decide +kernel) (by decide +kernel)), (lwgm 1005 (by decide +kernel) (by decide +kernel)), ⟨by decide +kernel, by decide +kernel, by decide +kernel⟩⟩
theorem yX10_sees_k : Yk yX10_sees cX10_sees 5 2 (some .int) := ⟨⟨(lwgm 1007 (by decide +kernel) (by decide +kernel)), (lwgm 1008 (by decide +kernel) (by decide +kernel))⟩, (lwgm 66 (by decide +kernel) (by decide +kernel)), (lwgm 1009 (by decide +kernel) (by decide +kernel)), ⟨by decide +kernel, by decide +kernel, by decide +kernel⟩⟩
theorem yX10_rings_k : Yk yX10_rings cX10_rings 2 1 (some .int) := ⟨⟨(lwgm 1011 (by decide +kernel) (by decide +kernel)), (lwgm 1012 (by decide +kernel) (by decide +kernel))⟩, (lwgm 66 (by decide +kernel) (by decide +kernel)), (lwgm 1013 (by decide +kernel) (by decide +kernel)), ⟨by decide +kernel, by decide +kernel, by decide +kernel⟩⟩
theorem yX10_end_k : Yk yX10_end cX10_end 5 2 (some .int) := ⟨⟨(lwgm 1015 (by decide +kernel) (by decide +kernel)), (lwgm 1016 (by decide +kernel) (by decide +kernel))⟩, (lwgm 66 (by decide +kernel) (by decide +kernel)), (lwgm 1017 (by decide +kernel) (by decide +kernel)), ⟨by decide +kernel, by decide +kernel, by decide +kernel⟩⟩
theorem yX10_behind_k : Yk yX10_behind cX10_behind 2 1 (some .int) := ⟨⟨(lwgm 1019 (by decide +kernel) (by decide +kernel)), (lwgm 1020 (by decide +kernel) (by decide +kernel))⟩, (lwgm 66 (by decide +kernel) (by decide +kernel)), (lwgm 1021 (by decide +kernel) (by decide +kernel)), ⟨by decide +kernel, by decide +kernel, by decide +kernel⟩⟩
theorem yX10_stop_k : Yk yX10_stop cX10_stop 4 0 (some .int) := ⟨⟨(lwgm 1023 (by decide +kernel) (by decide +kernel)), (lwgm 1024 (by decide +kernel) (by decide +kernel))⟩, (lwgm 66 (by decide +kernel) (by decide +kernel)), (lwgm 1025 (by decide +kernel) (by decide +kernel)), ⟨by decide +kernel, by decide +kernel, by decide +kernel⟩⟩
theorem yX10_cross_k : Yk yX10_cross cX10_cross 6 2 (some .int) := ⟨⟨(lwgm 1027 (by decide +kernel) (by decide +kernel)), (lwgm 1028 (by decide +kernel) (by decide +kernel))⟩, (lwgm 66 (by decide +kernel) (by decide +kernel)), (lwgm 1029 (by decide +kernel) (by decide +kernel)), ⟨by decide +kernel, by decide +kernel, by decide +kernel⟩⟩
theorem yX10_isCorner_k : Yk yX10_isCorner cX10_isCorner 2 1 (some .boolean) := ⟨⟨(lwgm 1032 (by decide +kernel) (by decide +kernel)), (lwgm 51 (by decide +kernel) (by decide +kernel))⟩, (lwgm 66 (by decide +kernel) (by decide +kernel)), (lwgm 1033 (by decide +kernel) (by decide +kernel)), ⟨by decide +kernel, by decide +kernel, by decide +kernel⟩⟩
theorem yX10_handed_k : Yk yX10_handed cX10_handed 5 2 (some .int) := ⟨⟨(lwgm 1036 (by decide +kernel) (by decide +kernel)), (lwgm 1037 (by decide +kernel) (by decide +kernel))⟩, (lwgm 66 (by decide +kernel) (by decide +kernel)), (lwgm 1038 (by decide +kernel) (by decide +kernel)), ⟨by decide +kernel, by decide +kernel, by decide +kernel⟩⟩
theorem yX10_handedOn_k : Yk yX10_handedOn cX10_handedOn 5 1 (some .int) := ⟨⟨(lwgm 1041 (by decide +kernel) (by decide +kernel)), (lwgm 52 (by decide +kernel) (by decide +kernel))⟩, (lwgm 66 (by decide +kernel) (by decide +kernel)), (lwgm 1042 (by decide +kernel) (by decide +kernel)), ⟨by decide +kernel, by decide +kernel, by decide +kernel⟩⟩
theorem yX10_meets_k : Yk yX10_meets cX10_meets 6 1 (some .int) := ⟨⟨(lwgm 1044 (by decide +kernel) (by decide +kernel)), (lwgm 1045 (by decide +kernel) (by decide +kernel))⟩, (lwgm 66 (by decide +kernel) (by decide +kernel)), (lwgm 1046 (by decide +kernel) (by decide +kernel)), ⟨by decide +kernel, by decide +kernel, by decide +kernel⟩⟩
theorem yX10_asked_k : Yk yX10_asked cX10_asked 5 1 (some .int) := ⟨⟨(lwgm 1048 (by decide +kernel) (by decide +kernel)), (lwgm 1049 (by decide +kernel) (by decide +kernel))⟩, (lwgm 66 (by decide +kernel) (by decide +kernel)), (lwgm 1050 (by decide +kernel) (by decide +kernel)), ⟨by decide +kernel, by decide +kernel, by decide +kernel⟩⟩
theorem yX10_see_k : Yk yX10_see cX10_see 4 3 (some .int) := ⟨⟨(lwgm 1054 (by decide +kernel) (by decide +kernel)), (lwgm 1055 (by decide +kernel) (by decide +kernel))⟩, (lwgm 66 (by decide +kernel) (by decide +kernel)), (lwgm 1056 (by decide +kernel) (by decide +kernel)), ⟨by decide +kernel, by decide +kernel, by decide +kernel⟩⟩
theorem yX10_whom_k : Yk yX10_whom cX10_whom 4 1 (some .int) := ⟨⟨(lwgm 1059 (by decide +kernel) (by decide +kernel)), (lwgm 1060 (by decide +kernel) (by decide +kernel))⟩, (lwgm 66 (by decide +kernel) (by decide +kernel)), (lwgm 1061 (by decide +kernel) (by decide +kernel)), ⟨by decide +kernel, by decide +kernel, by decide +kernel⟩⟩
theorem yX10_couldFollow_k : Yk yX10_couldFollow cX10_couldFollow 5 2 (some .boolean) := ⟨⟨(lwgm 1064 (by decide +kernel) (by decide +kernel)), (lwgm 53 (by decide +kernel) (by decide +kernel))⟩, (lwgm 66 (by decide +kernel) (by decide +kernel)), (lwgm 1065 (by decide +kernel) (by decide +kernel)), ⟨by decide +kernel, by decide +kernel, by decide +kernel⟩⟩
theorem yX10_findWay_k : Yk yX10_findWay cX10_findWay 4 2 none := ⟨⟨(lwgm 1068 (by decide +kernel) (by decide +kernel)), (lwgm 54 (by decide +kernel) (by decide +kernel))⟩, (lwgm 66 (by decide +kernel) (by decide +kernel)), (lwgm 1069 (by decide +kernel) (by decide +kernel)), ⟨by decide +kernel, by decide +kernel, by decide +kernel⟩⟩
theorem yX10_look_k : Yk yX10_look cX10_look 8 1 (some .int) := ⟨⟨(lwgm 1071 (by decide +kernel) (by decide +kernel)), (lwgm 1072 (by decide +kernel) (by decide +kernel))⟩, (lwgm 66 (by decide +kernel) (by decide +kernel)), (lwgm 1073 (by decide +kernel) (by decide +kernel)), ⟨by decide +kernel, by decide +kernel, by decide +kernel⟩⟩
theorem yX10_write_k : Yk yX10_write cX10_write 3 2 (some .int) := ⟨⟨(lwgm 1075 (by decide +kernel) (by decide +kernel)), (lwgm 1076 (by decide +kernel) (by decide +kernel))⟩, (lwgm 66 (by decide +kernel) (by decide +kernel)), (lwgm 1077 (by decide +kernel) (by decide +kernel)), ⟨by decide +kernel, by decide +kernel, by decide +kernel⟩⟩
theorem yX10_tear_k : Yk yX10_tear cX10_tear 2 0 (some .int) := ⟨⟨(lwgm 1079 (by decide +kernel) (by decide +kernel)), (lwgm 1080 (by decide +kernel) (by decide +kernel))⟩, (lwgm 66 (by decide +kernel) (by decide +kernel)), (lwgm 1081 (by decide +kernel) (by decide +kernel)), ⟨by decide +kernel, by decide +kernel, by decide +kernel⟩⟩
theorem yX10_judge_k : Yk yX10_judge cX10_judge 2 0 (some .int) := ⟨⟨(lwgm 1083 (by decide +kernel) (by decide +kernel)), (lwgm 1084 (by decide +kernel) (by decide +kernel))⟩, (lwgm 66 (by decide +kernel) (by decide +kernel)), (lwgm 1085 (by decide +kernel) (by decide +kernel)), ⟨by decide +kernel, by decide +kernel, by decide +kernel⟩⟩
theorem yX10_seed_k : Yk yX10_seed cX10_seed 3 1 (some .int) := ⟨⟨(lwgm 1087 (by decide +kernel) (by decide +kernel)), (lwgm 1088 (by decide +kernel) (by decide +kernel))⟩, (lwgm 66 (by decide +kernel) (by decide +kernel)), (lwgm 1089 (by decide +kernel) (by decide +kernel)), ⟨by decide +kernel, by decide +kernel, by decide +kernel⟩⟩
theorem yX10_keep_k : Yk yX10_keep cX10_keep 3 1 (some .int) := ⟨⟨(lwgm 1091 (by decide +kernel) (by decide +kernel)), (lwgm 1092 (by decide +kernel) (by decide +kernel))⟩, (lwgm 66 (by decide +kernel) (by decide +kernel)), (lwgm 1093 (by decide +kernel) (by decide +kernel)), ⟨by decide +kernel, by decide +kernel, by decide +kernel⟩⟩
theorem yX10_goBack_k : Yk yX10_goBack cX10_goBack 3 1 (some .int) := ⟨⟨(lwgm 1095 (by decide +kernel) (by decide +kernel)), (lwgm 1096 (by decide +kernel) (by decide +kernel))⟩, (lwgm 66 (by decide +kernel) (by decide +kernel)), (lwgm 1097 (by decide +kernel) (by decide +kernel)), ⟨by decide +kernel, by decide +kernel, by decide +kernel⟩⟩
theorem ms_copy : Cond.static arraycopyName ∈ lwg := lwgm 416 (by decide +kernel) (by decide +kernel)
theorem mn_X9_9 : Cond.methodLinkNest RX9 9 yX8_init "FollowCab" ∈ nws := List.mem_filter.mpr ⟨List.mem_of_getElem? (i := 25) (by decide +kernel), rfl⟩
theorem mn_X6_11 : Cond.methodLinkNest RX6 11 yX7_init "FollowCab" ∈ nws := List.mem_filter.mpr ⟨List.mem_of_getElem? (i := 47) (by decide +kernel), rfl⟩
theorem mn_X9_27 : Cond.methodLinkNest RX9 27 yX7_init "FollowCab" ∈ nws := List.mem_filter.mpr ⟨List.mem_of_getElem? (i := 119) (by decide +kernel), rfl⟩
theorem mn_X4_24 : Cond.methodLinkNest RX4 24 yX7_init "FollowCab" ∈ nws := List.mem_filter.mpr ⟨List.mem_of_getElem? (i := 128) (by decide +kernel), rfl⟩
theorem mn_X5_25 : Cond.methodLinkNest RX5 25 yX7_init "FollowCab" ∈ nws := List.mem_filter.mpr ⟨List.mem_of_getElem? (i := 147) (by decide +kernel), rfl⟩
theorem mn_X9_63 : Cond.methodLinkNest RX9 63 yX3_init "FollowCab" ∈ nws := List.mem_filter.mpr ⟨List.mem_of_getElem? (i := 196) (by decide +kernel), rfl⟩
theorem mn_X3_18 : Cond.methodLinkNest RX3 18 yX7_init "FollowCab" ∈ nws := List.mem_filter.mpr ⟨List.mem_of_getElem? (i := 203) (by decide +kernel), rfl⟩
theorem mn_X9_70 : Cond.methodLinkNest RX9 70 yX0_init "FollowCab" ∈ nws := List.mem_filter.mpr ⟨List.mem_of_getElem? (i := 217) (by decide +kernel), rfl⟩
theorem fn_X2_9 : Cond.fieldLinkNest RX2 9 "FollowCab" "TENS" "[I" "FollowCab" ∈ nws := List.mem_filter.mpr ⟨List.mem_of_getElem? (i := 339) (by decide +kernel), rfl⟩
theorem mn_X7_62 : Cond.methodLinkNest RX7 62 yX9_isIn "FollowCab" ∈ nws := List.mem_filter.mpr ⟨List.mem_of_getElem? (i := 403) (by decide +kernel), rfl⟩
theorem mn_X7_88 : Cond.methodLinkNest RX7 88 yX9_leastOf "FollowCab" ∈ nws := List.mem_filter.mpr ⟨List.mem_of_getElem? (i := 541) (by decide +kernel), rfl⟩
theorem mn_X3_73 : Cond.methodLinkNest RX3 73 yX9_isIn "FollowCab" ∈ nws := List.mem_filter.mpr ⟨List.mem_of_getElem? (i := 624) (by decide +kernel), rfl⟩
theorem inX0 : ∀ x ∈ wsX00, x ∈ lwg := by
  show ∀ x ∈ ([Cond.lays RX0 "FollowCab$Draws" "value" "I"] : List Cond), x ∈ lwg
  exact List.forall_mem_cons.mpr ⟨lwgm 278 (by decide +kernel) (by decide +kernel), List.forall_mem_nil _⟩
theorem inX1 : ∀ x ∈ wsX10, x ∈ lwg := by
  show ∀ x ∈ ([Cond.laysFinal RX1 "FollowCab$Entries" "most" "I", Cond.laysFinal RX1 "FollowCab$Entries" "car" "[I", Cond.laysFinal RX1 "FollowCab$Entries" "steps" "[I", Cond.laysFinal RX1 "FollowCab$Entries" "corner" "[I", Cond.lays RX1 "FollowCab$Entries" "count" "I"] : List Cond), x ∈ lwg
  exact List.forall_mem_cons.mpr ⟨lwgm 238 (by decide +kernel) (by decide +kernel), List.forall_mem_cons.mpr ⟨lwgm 240 (by decide +kernel) (by decide +kernel), List.forall_mem_cons.mpr ⟨lwgm 242 (by decide +kernel) (by decide +kernel), List.forall_mem_cons.mpr ⟨lwgm 244 (by decide +kernel) (by decide +kernel), List.forall_mem_cons.mpr ⟨lwgm 246 (by decide +kernel) (by decide +kernel), List.forall_mem_nil _⟩⟩⟩⟩⟩
theorem inX3 : ∀ x ∈ wsX30, x ∈ lwg := by
  show ∀ x ∈ ([Cond.laysFinal RX3 "FollowCab$Guess" "track" "[[I", Cond.laysFinal RX3 "FollowCab$Guess" "tried" "LFollowCab$Scene;", Cond.lays RX3 "FollowCab$Guess" "fitting" "I"] : List Cond), x ∈ lwg
  exact List.forall_mem_cons.mpr ⟨lwgm 263 (by decide +kernel) (by decide +kernel), List.forall_mem_cons.mpr ⟨lwgm 265 (by decide +kernel) (by decide +kernel), List.forall_mem_cons.mpr ⟨lwgm 267 (by decide +kernel) (by decide +kernel), List.forall_mem_nil _⟩⟩⟩
theorem inX4 : ∀ x ∈ wsX40, x ∈ lwg := by
  show ∀ x ∈ ([Cond.laysFinal RX4 "FollowCab$History" "kept" "[LFollowCab$Scene;", Cond.lays RX4 "FollowCab$History" "top" "I", Cond.lays RX4 "FollowCab$History" "count" "I"] : List Cond), x ∈ lwg
  exact List.forall_mem_cons.mpr ⟨lwgm 188 (by decide +kernel) (by decide +kernel), List.forall_mem_cons.mpr ⟨lwgm 190 (by decide +kernel) (by decide +kernel), List.forall_mem_cons.mpr ⟨lwgm 192 (by decide +kernel) (by decide +kernel), List.forall_mem_nil _⟩⟩⟩
theorem inX5 : ∀ x ∈ wsX50, x ∈ lwg := by
  show ∀ x ∈ ([Cond.laysFinal RX5 "FollowCab$Images" "scene" "[LFollowCab$Scene;", Cond.laysFinal RX5 "FollowCab$Images" "drawValue" "[I", Cond.laysFinal RX5 "FollowCab$Images" "kept" "[Z"] : List Cond), x ∈ lwg
  exact List.forall_mem_cons.mpr ⟨lwgm 209 (by decide +kernel) (by decide +kernel), List.forall_mem_cons.mpr ⟨lwgm 211 (by decide +kernel) (by decide +kernel), List.forall_mem_cons.mpr ⟨lwgm 213 (by decide +kernel) (by decide +kernel), List.forall_mem_nil _⟩⟩⟩
theorem inX6 : ∀ x ∈ wsX60, x ∈ lwg := by
  show ∀ x ∈ ([Cond.laysFinal RX6 "FollowCab$Reader" "scene" "LFollowCab$Scene;", Cond.lays RX6 "FollowCab$Reader" "corners" "I", Cond.lays RX6 "FollowCab$Reader" "odds" "I", Cond.lays RX6 "FollowCab$Reader" "faultNumber" "I", Cond.lays RX6 "FollowCab$Reader" "faultPlace" "I", Cond.laysFinal RX6 "FollowCab$Reader" "text" "LFollowCab$Text;", Cond.lays RX6 "FollowCab$Reader" "place" "I", Cond.lays RX6 "FollowCab$Reader" "numberPlace" "I"] : List Cond), x ∈ lwg
  exact List.forall_mem_cons.mpr ⟨lwgm 156 (by decide +kernel) (by decide +kernel), List.forall_mem_cons.mpr ⟨lwgm 158 (by decide +kernel) (by decide +kernel), List.forall_mem_cons.mpr ⟨lwgm 160 (by decide +kernel) (by decide +kernel), List.forall_mem_cons.mpr ⟨lwgm 162 (by decide +kernel) (by decide +kernel), List.forall_mem_cons.mpr ⟨lwgm 164 (by decide +kernel) (by decide +kernel), List.forall_mem_cons.mpr ⟨lwgm 166 (by decide +kernel) (by decide +kernel), List.forall_mem_cons.mpr ⟨lwgm 168 (by decide +kernel) (by decide +kernel), List.forall_mem_cons.mpr ⟨lwgm 170 (by decide +kernel) (by decide +kernel), List.forall_mem_nil _⟩⟩⟩⟩⟩⟩⟩⟩
theorem inX7 : ∀ x ∈ wsX70, x ∈ lwg := by
  show ∀ x ∈ ([Cond.lays RX7 "FollowCab$Scene" "cars" "I", Cond.lays RX7 "FollowCab$Scene" "steps" "I", Cond.laysFinal RX7 "FollowCab$Scene" "corner" "[I", Cond.laysFinal RX7 "FollowCab$Scene" "leader" "[I", Cond.laysFinal RX7 "FollowCab$Scene" "round" "[I", Cond.laysFinal RX7 "FollowCab$Scene" "next" "[I", Cond.laysFinal RX7 "FollowCab$Scene" "went" "[I", Cond.laysFinal RX7 "FollowCab$Scene" "ahead" "[I"] : List Cond), x ∈ lwg
  exact List.forall_mem_cons.mpr ⟨lwgm 126 (by decide +kernel) (by decide +kernel), List.forall_mem_cons.mpr ⟨lwgm 128 (by decide +kernel) (by decide +kernel), List.forall_mem_cons.mpr ⟨lwgm 130 (by decide +kernel) (by decide +kernel), List.forall_mem_cons.mpr ⟨lwgm 132 (by decide +kernel) (by decide +kernel), List.forall_mem_cons.mpr ⟨lwgm 134 (by decide +kernel) (by decide +kernel), List.forall_mem_cons.mpr ⟨lwgm 136 (by decide +kernel) (by decide +kernel), List.forall_mem_cons.mpr ⟨lwgm 138 (by decide +kernel) (by decide +kernel), List.forall_mem_cons.mpr ⟨lwgm 140 (by decide +kernel) (by decide +kernel), List.forall_mem_nil _⟩⟩⟩⟩⟩⟩⟩⟩
theorem inX8 : ∀ x ∈ wsX80, x ∈ lwg := by
  show ∀ x ∈ ([Cond.laysFinal RX8 "FollowCab$Text" "letter" "[I", Cond.lays RX8 "FollowCab$Text" "length" "I"] : List Cond), x ∈ lwg
  exact List.forall_mem_cons.mpr ⟨lwgm 88 (by decide +kernel) (by decide +kernel), List.forall_mem_cons.mpr ⟨lwgm 90 (by decide +kernel) (by decide +kernel), List.forall_mem_nil _⟩⟩
theorem inX9 : ∀ x ∈ wsX90, x ∈ lwg := by
  show ∀ x ∈ ([Cond.laysFinal RX9 "FollowCab" "text" "LFollowCab$Text;", Cond.laysFinal RX9 "FollowCab" "reader" "LFollowCab$Reader;", Cond.laysFinal RX9 "FollowCab" "now" "LFollowCab$Scene;", Cond.laysFinal RX9 "FollowCab" "tried" "LFollowCab$Scene;", Cond.laysFinal RX9 "FollowCab" "history" "LFollowCab$History;", Cond.laysFinal RX9 "FollowCab" "images" "LFollowCab$Images;", Cond.laysFinal RX9 "FollowCab" "sightings" "LFollowCab$Entries;", Cond.laysFinal RX9 "FollowCab" "book" "LFollowCab$Entries;", Cond.laysFinal RX9 "FollowCab" "guess" "LFollowCab$Guess;", Cond.laysFinal RX9 "FollowCab" "draws" "LFollowCab$Draws;", Cond.lays RX9 "FollowCab" "corners" "I", Cond.lays RX9 "FollowCab" "odds" "I", Cond.lays RX9 "FollowCab" "faultPlace" "I"] : List Cond), x ∈ lwg
  exact List.forall_mem_cons.mpr ⟨lwgm 294 (by decide +kernel) (by decide +kernel), List.forall_mem_cons.mpr ⟨lwgm 296 (by decide +kernel) (by decide +kernel), List.forall_mem_cons.mpr ⟨lwgm 298 (by decide +kernel) (by decide +kernel), List.forall_mem_cons.mpr ⟨lwgm 300 (by decide +kernel) (by decide +kernel), List.forall_mem_cons.mpr ⟨lwgm 302 (by decide +kernel) (by decide +kernel), List.forall_mem_cons.mpr ⟨lwgm 304 (by decide +kernel) (by decide +kernel), List.forall_mem_cons.mpr ⟨lwgm 306 (by decide +kernel) (by decide +kernel), List.forall_mem_cons.mpr ⟨lwgm 308 (by decide +kernel) (by decide +kernel), List.forall_mem_cons.mpr ⟨lwgm 310 (by decide +kernel) (by decide +kernel), List.forall_mem_cons.mpr ⟨lwgm 312 (by decide +kernel) (by decide +kernel), List.forall_mem_cons.mpr ⟨lwgm 314 (by decide +kernel) (by decide +kernel), List.forall_mem_cons.mpr ⟨lwgm 316 (by decide +kernel) (by decide +kernel), List.forall_mem_cons.mpr ⟨lwgm 318 (by decide +kernel) (by decide +kernel), List.forall_mem_nil _⟩⟩⟩⟩⟩⟩⟩⟩⟩⟩⟩⟩⟩
theorem inX10 : ∀ x ∈ wsX100, x ∈ lwg := by
  show ∀ x ∈ ([Cond.lays RX10 "FollowCabModel" "corners" "I", Cond.lays RX10 "FollowCabModel" "odds" "I", Cond.lays RX10 "FollowCabModel" "cars" "I", Cond.laysFinal RX10 "FollowCabModel" "rounds" "[I", Cond.laysFinal RX10 "FollowCabModel" "longs" "[I", Cond.laysFinal RX10 "FollowCabModel" "now" "[I", Cond.lays RX10 "FollowCabModel" "seed" "I", Cond.laysFinal RX10 "FollowCabModel" "text" "[I", Cond.lays RX10 "FollowCabModel" "texted" "I", Cond.lays RX10 "FollowCabModel" "faultPlace" "I", Cond.lays RX10 "FollowCabModel" "at0" "I", Cond.lays RX10 "FollowCabModel" "number" "I", Cond.lays RX10 "FollowCabModel" "numberAt" "I", Cond.laysFinal RX10 "FollowCabModel" "readTown" "[I", Cond.lays RX10 "FollowCabModel" "readCars" "I", Cond.laysFinal RX10 "FollowCabModel" "readAt" "[I", Cond.laysFinal RX10 "FollowCabModel" "readRounds" "[I", Cond.laysFinal RX10 "FollowCabModel" "readLongs" "[I", Cond.laysFinal RX10 "FollowCabModel" "readFollows" "[I", Cond.laysFinal RX10 "FollowCabModel" "ahead" "[I", Cond.lays RX10 "FollowCabModel" "undos" "I", Cond.laysFinal RX10 "FollowCabModel" "past" "[I", Cond.laysFinal RX10 "FollowCabModel" "was" "[I", Cond.lays RX10 "FollowCabModel" "seen" "I", Cond.laysFinal RX10 "FollowCabModel" "seenOf" "[I", Cond.laysFinal RX10 "FollowCabModel" "seenBehind" "[I", Cond.laysFinal RX10 "FollowCabModel" "seenAt" "[I", Cond.laysFinal RX10 "FollowCabModel" "way" "[I", Cond.laysFinal RX10 "FollowCabModel" "brings" "[I", Cond.lays RX10 "FollowCabModel" "booked" "I", Cond.laysFinal RX10 "FollowCabModel" "bookOf" "[I", Cond.laysFinal RX10 "FollowCabModel" "bookAt" "[I", Cond.laysFinal RX10 "FollowCabModel" "images" "[I", Cond.laysFinal RX10 "FollowCabModel" "isKept" "[Z"] : List Cond), x ∈ lwg
  exact List.forall_mem_cons.mpr ⟨lwgm 757 (by decide +kernel) (by decide +kernel), List.forall_mem_cons.mpr ⟨lwgm 759 (by decide +kernel) (by decide +kernel), List.forall_mem_cons.mpr ⟨lwgm 761 (by decide +kernel) (by decide +kernel), List.forall_mem_cons.mpr ⟨lwgm 763 (by decide +kernel) (by decide +kernel), List.forall_mem_cons.mpr ⟨lwgm 765 (by decide +kernel) (by decide +kernel), List.forall_mem_cons.mpr ⟨lwgm 767 (by decide +kernel) (by decide +kernel), List.forall_mem_cons.mpr ⟨lwgm 769 (by decide +kernel) (by decide +kernel), List.forall_mem_cons.mpr ⟨lwgm 771 (by decide +kernel) (by decide +kernel), List.forall_mem_cons.mpr ⟨lwgm 773 (by decide +kernel) (by decide +kernel), List.forall_mem_cons.mpr ⟨lwgm 775 (by decide +kernel) (by decide +kernel), List.forall_mem_cons.mpr ⟨lwgm 777 (by decide +kernel) (by decide +kernel), List.forall_mem_cons.mpr ⟨lwgm 779 (by decide +kernel) (by decide +kernel), List.forall_mem_cons.mpr ⟨lwgm 781 (by decide +kernel) (by decide +kernel), List.forall_mem_cons.mpr ⟨lwgm 783 (by decide +kernel) (by decide +kernel), List.forall_mem_cons.mpr ⟨lwgm 785 (by decide +kernel) (by decide +kernel), List.forall_mem_cons.mpr ⟨lwgm 787 (by decide +kernel) (by decide +kernel), List.forall_mem_cons.mpr ⟨lwgm 789 (by decide +kernel) (by decide +kernel), List.forall_mem_cons.mpr ⟨lwgm 791 (by decide +kernel) (by decide +kernel), List.forall_mem_cons.mpr ⟨lwgm 793 (by decide +kernel) (by decide +kernel), List.forall_mem_cons.mpr ⟨lwgm 795 (by decide +kernel) (by decide +kernel), List.forall_mem_cons.mpr ⟨lwgm 797 (by decide +kernel) (by decide +kernel), List.forall_mem_cons.mpr ⟨lwgm 799 (by decide +kernel) (by decide +kernel), List.forall_mem_cons.mpr ⟨lwgm 801 (by decide +kernel) (by decide +kernel), List.forall_mem_cons.mpr ⟨lwgm 803 (by decide +kernel) (by decide +kernel), List.forall_mem_cons.mpr ⟨lwgm 805 (by decide +kernel) (by decide +kernel), List.forall_mem_cons.mpr ⟨lwgm 807 (by decide +kernel) (by decide +kernel), List.forall_mem_cons.mpr ⟨lwgm 809 (by decide +kernel) (by decide +kernel), List.forall_mem_cons.mpr ⟨lwgm 811 (by decide +kernel) (by decide +kernel), List.forall_mem_cons.mpr ⟨lwgm 813 (by decide +kernel) (by decide +kernel), List.forall_mem_cons.mpr ⟨lwgm 815 (by decide +kernel) (by decide +kernel), List.forall_mem_cons.mpr ⟨lwgm 817 (by decide +kernel) (by decide +kernel), List.forall_mem_cons.mpr ⟨lwgm 819 (by decide +kernel) (by decide +kernel), List.forall_mem_cons.mpr ⟨lwgm 821 (by decide +kernel) (by decide +kernel), List.forall_mem_cons.mpr ⟨lwgm 823 (by decide +kernel) (by decide +kernel), List.forall_mem_nil _⟩⟩⟩⟩⟩⟩⟩⟩⟩⟩⟩⟩⟩⟩⟩⟩⟩⟩⟩⟩⟩⟩⟩⟩⟩⟩⟩⟩⟩⟩⟩⟩⟩⟩
end
section
abbrev Mem : Type := Nat → Nat → Int32
def up (M : Mem) (k i : Nat) (v : Int32) : Mem := fun a => if a = k then upd (M k) i v else M a
theorem up_s (M : Mem) (k i : Nat) (v : Int32) : up M k i v k = upd (M k) i v := if_pos rfl
theorem up_o {M : Mem} {k i a : Nat} {v : Int32} (h : a ≠ k) : up M k i v a = M a := if_neg h
/-- one row of the memory put anew -/
def upr (M : Mem) (k : Nat) (f : Nat → Int32) : Mem := fun a => if a = k then f else M a
theorem upr_s (M : Mem) (k : Nat) (f : Nat → Int32) : upr M k f k = f := if_pos rfl
theorem upr_o {M : Mem} {k a : Nat} {f : Nat → Int32} (h : a ≠ k) : upr M k f a = M a := if_neg h
/-- the classes, the addresses of the 233 cells, the classes of arrays, the table -/
abbrev Wx : Type := va_G × (Nat → Nat) × ClassId × ClassId × ClassId × ClassId × Nat
def ty4 (w : Wx) : List (ClassId × FieldType) := [(w.2.2.1, .int), (w.2.2.2.1, .boolean), (w.2.2.2.2.1, .object "FollowCab$Scene"), (w.2.2.2.2.2.1, .array .int)]
def kdL : List Nat := [8, 7, 10, 5, 6, 10, 10, 10, 10, 10, 10, 6, 10, 10, 10, 10, 10, 10, 6, 10, 10, 10, 10, 10, 10, 3, 12, 6, 10, 10, 10, 10, 10, 10, 6, 10, 10, 10, 10, 10, 10, 6, 10, 10, 10, 10, 10, 10, 6, 10, 10, 10, 10, 10, 10, 6, 10, 10, 10, 10, 10, 10, 6, 10, 10, 10, 10, 10, 10, 6, 10, 10, 10, 10, 10, 10, 6, 10, 10, 10, 10, 10, 10, 6, 10, 10, 10, 10, 10, 10, 6, 10, 10, 10, 10, 10, 10, 6, 10, 10, 10, 10, 10, 10, 6, 10, 10, 10, 10, 10, 10, 6, 10, 10, 10, 10, 10, 10, 6, 10, 10, 10, 10, 10, 10, 6, 10, 10, 10, 10, 10, 10, 6, 10, 10, 10, 10, 10, 10, 6, 10, 10, 10, 10, 10, 10, 6, 10, 10, 10, 10, 10, 10, 6, 10, 10, 10, 10, 10, 10, 6, 10, 10, 10, 10, 10, 10, 4, 12, 10, 11, 6, 10, 10, 10, 10, 10, 10, 6, 10, 10, 10, 10, 10, 10, 1, 10, 10, 10, 1, 10, 10, 10, 2, 13, 10, 10, 10, 10, 10, 10, 10, 10, 6, 10, 10, 10, 10, 10, 10, 0, 9, 10, 10, 10, 10, 10, 10, 10, 10, 10, 10, 10, 10, 10, 10, 10, 10, 10, 10, 10, 10, 11]
def lnL : List Nat := [0, 0, 240, 0, 0, 8, 8, 8, 8, 8, 8, 0, 8, 8, 8, 8, 8, 8, 0, 8, 8, 8, 8, 8, 8, 0, 20, 0, 8, 8, 8, 8, 8, 8, 0, 8, 8, 8, 8, 8, 8, 0, 8, 8, 8, 8, 8, 8, 0, 8, 8, 8, 8, 8, 8, 0, 8, 8, 8, 8, 8, 8, 0, 8, 8, 8, 8, 8, 8, 0, 8, 8, 8, 8, 8, 8, 0, 8, 8, 8, 8, 8, 8, 0, 8, 8, 8, 8, 8, 8, 0, 8, 8, 8, 8, 8, 8, 0, 8, 8, 8, 8, 8, 8, 0, 8, 8, 8, 8, 8, 8, 0, 8, 8, 8, 8, 8, 8, 0, 8, 8, 8, 8, 8, 8, 0, 8, 8, 8, 8, 8, 8, 0, 8, 8, 8, 8, 8, 8, 0, 8, 8, 8, 8, 8, 8, 0, 8, 8, 8, 8, 8, 8, 0, 8, 8, 8, 8, 8, 8, 0, 8, 8, 8, 8, 8, 8, 0, 2, 2, 2, 0, 8, 8, 8, 8, 8, 8, 0, 8, 8, 8, 8, 8, 8, 0, 6, 6, 6, 0, 15, 15, 15, 0, 8, 31, 31, 31, 31, 31, 31, 31, 31, 0, 8, 8, 8, 8, 8, 8, 0, 0, 48, 8, 41, 240, 2, 8, 48, 8, 8, 8, 820, 41, 6, 6, 6, 31, 279, 15, 15, 84, 2]
def kd (k : Nat) : Nat := kdL.getD k 99
def ln (k : Nat) : Nat := lnL.getD k 0
/-- what a place of an array of references names -/
def ra (k i : Nat) : Nat := if k = 26 then 27 + 7 * i else if k = 168 then 171 + 7 * i else 195 + i
def enr (w : Wx) (d k : Nat) (f : Nat → Int32) : va_E := match d with
  | 0 => .inr (0, [.int (f 0)])
  | 1 => .inr (1, [.int (f 0), .ref (w.2.1 (k+1)), .ref (w.2.1 (k+2)), .ref (w.2.1 (k+3)), .int (f 4)])
  | 2 => .inr (2, [.ref (w.2.1 194), .ref (w.2.1 203), .int (f 2)])
  | 3 => .inr (3, [.ref (w.2.1 26), .int (f 1), .int (f 2)])
  | 4 => .inr (4, [.ref (w.2.1 168), .ref (w.2.1 169), .ref (w.2.1 170)])
  | 5 => .inr (5, [.ref (w.2.1 4), .int (f 1), .int (f 2), .int (f 3), .int (f 4), .ref (w.2.1 1), .int (f 6), .int (f 7)])
  | 6 => .inr (6, [.int (f 0), .int (f 1), .ref (w.2.1 (k+1)), .ref (w.2.1 (k+2)), .ref (w.2.1 (k+3)), .ref (w.2.1 (k+4)), .ref (w.2.1 (k+5)), .ref (w.2.1 (k+6))])
  | 7 => .inr (7, [.ref (w.2.1 2), .int (f 1)])
  | 8 => .inr (8, [.ref (w.2.1 1), .ref (w.2.1 3), .ref (w.2.1 11), .ref (w.2.1 18), .ref (w.2.1 25), .ref (w.2.1 167), .ref (w.2.1 185), .ref (w.2.1 189), .ref (w.2.1 193), .ref (w.2.1 210), .int (f 10), .int (f 11), .int (f 12)])
  | 9 => .inr (9, [.int (f 0), .int (f 1), .int (f 2), .ref (w.2.1 212), .ref (w.2.1 213), .ref (w.2.1 214), .int (f 6), .ref (w.2.1 215), .int (f 8), .int (f 9), .int (f 10), .int (f 11), .int (f 12), .ref (w.2.1 216), .int (f 14), .ref (w.2.1 217), .ref (w.2.1 218), .ref (w.2.1 219), .ref (w.2.1 220), .ref (w.2.1 221), .int (f 20), .ref (w.2.1 222), .ref (w.2.1 223), .int (f 23), .ref (w.2.1 224), .ref (w.2.1 225), .ref (w.2.1 226), .ref (w.2.1 227), .ref (w.2.1 228), .int (f 29), .ref (w.2.1 229), .ref (w.2.1 230), .ref (w.2.1 231), .ref (w.2.1 232)])
  | 10 => .inl (w.2.2.1, ln k, .inl f)
  | 11 => .inl (w.2.2.2.1, ln k, .inl f)
  | 12 => .inl (w.2.2.2.2.1, ln k, .inr (.inr (.inr (.inr (fun i => some (w.2.1 (ra k i)))))))
  | _ => .inl (w.2.2.2.2.2.1, ln k, .inr (.inr (.inr (.inr (fun i => some (w.2.1 (ra k i)))))))
def en (w : Wx) (M : Mem) (k : Nat) : va_E := enr w (kd k) k (M k)
theorem en_c {w : Wx} {M M' : Mem} {k : Nat} (h : M' k = M k) : en w M' k = en w M k := by unfold en; rw [h]
theorem en_k {w : Wx} {M : Mem} {k d : Nat} (h : kd k = d) : en w M k = enr w d k (M k) := by unfold en; rw [h]
def wl (w : Wx) (M : Mem) : va_W := (List.range 233).map (fun k => (w.2.1 k, en w M k))
theorem wl_get (w : Wx) (M : Mem) {k : Nat} (h : k < 233) : (wl w M)[k]? = some (w.2.1 k, en w M k) := by
  unfold wl
  rw [List.getElem?_map, List.getElem?_range h]
  rfl
theorem wl_of (w : Wx) (M : Mem) {k : Nat} {q : Nat × va_E} (h : (wl w M)[k]? = some q) : k < 233 ∧ q = (w.2.1 k, en w M k) := by
  have hl : k < 233 := by
    have h1 := (List.getElem?_eq_some_iff.mp h).1
    unfold wl at h1
    rwa [List.length_map, List.length_range] at h1
  rw [wl_get w M hl] at h
  exact ⟨hl, (Option.some.inj h).symm⟩
theorem wl_at {w : Wx} {M : Mem} {k d : Nat} {e : va_E} (h : k < 233) (hd : kd k = d) (he : enr w d k (M k) = e) : (wl w M)[k]? = some (w.2.1 k, e) := by rw [wl_get w M h, en_k hd, he]
theorem wl_set {w : Wx} {M M' : Mem} {k : Nat} {e : va_E} (h : k < 233) (he : en w M' k = e) (ho : ∀ j, j ≠ k → M' j = M j) : (wl w M).set k (w.2.1 k, e) = wl w M' := by
  apply List.ext_getElem?
  intro j
  rw [List.getElem?_set]
  by_cases hj : k = j
  · subst hj
    rw [if_pos rfl, wl_get w M' h, he, if_pos]
    unfold wl
    rw [List.length_map, List.length_range]
    exact h
  · rw [if_neg hj]
    by_cases hl : j < 233
    · rw [wl_get w M hl, wl_get w M' hl, en_c (ho j (fun e => hj e.symm))]
    · rw [List.getElem?_eq_none, List.getElem?_eq_none] <;> (unfold wl; rw [List.length_map, List.length_range]; omega)
def AA (w : Wx) : Nat → Prop := fun q => ∃ k, k < 233 ∧ q = w.2.1 k
/-- the table TENS -/
def tens (j : Nat) : Int32 := if j = 0 then 1 else if j = 1 then 10 else if j = 2 then 100 else if j = 3 then 1000 else if j = 4 then 10000 else 100000
/-- what is known of a state beside the cells -/
def Cy (w : Wx) (U : State) (H : Heap) : Prop := va_K w.1 vwCl (ty4 w) U ∧ (∀ i j, i < 233 → j < 233 → w.2.1 i = w.2.1 j → i = j) ∧ va_Z "FollowCab" "TENS" "[I" (.ref w.2.2.2.2.2.2) (AA w) U H ∧ va_T .int w.2.2.2.2.2.2 6 (fun j => .int (tens j)) (AA w) U H ∧ ∀ x ∈ nws, va_Nw x U
theorem Cy.D {w : Wx} {U : State} {H : Heap} (h : Cy w U H) (M : Mem) : va_D (AA w) (wl w M) := by
  refine ⟨fun i j p q hp hq e => ?_, fun k q hq => ?_⟩
  · obtain ⟨h1, rfl⟩ := wl_of w M hp
    obtain ⟨h2, rfl⟩ := wl_of w M hq
    exact h.2.1 i j h1 h2 e
  · obtain ⟨h1, rfl⟩ := wl_of w M hq
    exact ⟨k, h1, rfl⟩
theorem nws_kind : ∀ x ∈ nws, (∃ a i y h, x = Cond.methodLinkNest a i y h) ∨ ∃ a i b n d h, x = Cond.fieldLinkNest a i b n d h := by
  intro x hx
  have h := (List.mem_filter.mp hx).2
  split at h
  · exact Or.inl ⟨_, _, _, _, rfl⟩
  · exact Or.inr ⟨_, _, _, _, _, _, rfl⟩
  · cases h
theorem Cy.to {w : Wx} {s U : State} {H H1 : Heap} (h : Cy w s H) (hW : s.WarmedH U.vm) (hq : ∀ a : Nat, a < H.size → ¬ AA w a → H1[a]? = H[a]?) : Cy w U H1 := by
  obtain ⟨h1, h2, h3, h4, h5⟩ := h
  refine ⟨va_K.moved hW.alike h1, h2, (va_Z.moved hW.alike h3).kept hq, (va_T.moved hW.alike h4).kept hq, fun x hx => ?_⟩
  rcases nws_kind x hx with ⟨a, i, y, b, rfl⟩ | ⟨a, i, b, n, d, c, rfl⟩
  · exact va_Nw.warmM hW (h5 _ hx)
  · exact va_Nw.warmF hW (h5 _ hx)
def PB (w : Wx) (M : Mem) (U : State) : Prop := va_P w.1 vwCl (wl w M) U.heap ∧ Cy w U U.heap
theorem PB_blind {w : Wx} {M : Mem} {av : List Value} : FrameBlind (va_Pc av (PB w M)) := by
  intro a U g mk q
  obtain ⟨q0, qP, q1, q2, q3, q4, q5⟩ := q
  refine ⟨q0, qP, va_K.moved (u := U) (U := U.calling g mk a) (Vm.Alike.refl U.vm) q1, q2, va_Z.moved (u := U) (U := U.calling g mk a) (Vm.Alike.refl U.vm) q3, va_T.moved (u := U) (U := U.calling g mk a) (Vm.Alike.refl U.vm) q4, fun x hx => ?_⟩
  have h5 := q5 x hx
  rcases nws_kind x hx with ⟨a1, i, y, b, rfl⟩ | ⟨a1, i, b, n, d, c, rfl⟩
  · exact va_Nw.same rfl (u := U) (U := U.calling g mk a) rfl h5
  · exact va_Nw.same rfl (u := U) (U := U.calling g mk a) rfl h5
def CtI (w : Wx) (l : Launch) (y : MethodName) (cc : ByteArray) (mL : Nat) (ret : Option FieldType) (fr lo : Nat) (av : List Value) (M : Mem) (r : Int32) (M' : Mem) : Prop := Met l y (Cond.code y cc mL ret :: lwg) ({ frames := fr, cells := 0, slots := 0, locals := lo } : Room) (va_Pc av (PB w M)) (va_Qi (fun (x : Int32) (u : Mem) => x = r ∧ u = M') (fun u t => va_P w.1 vwCl (wl w u) t.heap) (AA w)) 0 0 (AA w)
def CtV (w : Wx) (l : Launch) (y : MethodName) (cc : ByteArray) (mL : Nat) (ret : Option FieldType) (fr lo : Nat) (av : List Value) (M : Mem) (M' : Mem) : Prop := Met l y (Cond.code y cc mL ret :: lwg) ({ frames := fr, cells := 0, slots := 0, locals := lo } : Room) (va_Pc av (PB w M)) (va_Qv (fun (u : Mem) => u = M') (fun u t => va_P w.1 vwCl (wl w u) t.heap) (AA w)) 0 0 (AA w)
/-- where a method's body runs: program, launch, env, room, start, method, arguments, frames below, method, code, end, locals, cells, slots -/
abbrev Gx : Type := Program × Launch × Env × Room × State × MethodId × Array Value × List Frame × Method × Code × (State → Prop) × Nat × Nat × Nat
def V (w : Wx) (G : Gx) (pc : Nat) (lv : List (Nat × Value)) (st : List Value) (M : Mem) : Prop := match G with
  | (p, l, e, R, s, m, args, below, meth, c, Q, nL, cells, slots) => ∀ (H : Heap) (locs : List Loc) (ls : Array Slot), va_P w.1 vwCl (wl w M) H → va_S (AA w) s.heap H locs → lv_has ls nL lv → W p l e R s m args below meth c H locs cells slots Q (F0 m pc ls st)
def Cx (w : Wx) (G : Gx) (cc : ByteArray) (own : String) (fr lo : Nat) : Prop := match G with
  | (p, l, e, R, s, m, args, below, meth, c, Q, nL, cells, slots) => p.tables.exec = Jvm.exec ∧ c.code = cc ∧ c.maxLocals = nL ∧ s.vm.findClass own = some m.cls ∧ (∀ x ∈ lwg, x.before args s = true) ∧ Cy w s s.heap ∧ R.frames = fr ∧ R.locals = lo ∧ cells ≤ R.cells ∧ slots ≤ R.slots
end
section
section
variable {w : Wx} {G : Gx} {cc : ByteArray} {own : String} {fr lo pc : Nat} {lv : List (Nat × Value)} {st : List Value} {M : Mem}
theorem V.sub {lv' : List (Nat × Value)} (ks : List Nat) (h : lv_pick lv ks = lv') (k : V w G pc lv' st M) : V w G pc lv st M := by
  obtain ⟨p, l, e, R, s, m, args, below, meth, c, Q, nL, cells, slots⟩ := G
  intro H locs ls hP hS hl
  exact k H locs ls hP hS (lv_sub hl ks h)
theorem V.eqM {M' : Mem} (h : M = M') (k : V w G pc lv st M') : V w G pc lv st M := h ▸ k
theorem V.eqS {st' : List Value} (h : st = st') (k : V w G pc lv st' M) : V w G pc lv st M := h ▸ k
theorem v_iconst (C : Cx w G cc own fr lo) {n : Int} {v : Int32} (hd : decode cc pc = .ok (.iconst n, 1)) (k : V w G (pc + 1) lv (.int (Int32.ofInt n) :: st) M) : V w G pc lv (st) M := by
  obtain ⟨p, l, e, R, s, m, args, below, meth, c, Q, nL, cells, slots⟩ := G
  obtain ⟨hx, hb, hml, hown, hts, hy, hRf, hRl, hRc, hRs⟩ := C
  intro H locs ls hP hS hl
  exact lv_iconst hx hb hd rfl (k H locs ls hP hS hl)
theorem v_bipush (C : Cx w G cc own fr lo) {n : Int} (hd : decode cc pc = .ok (.bipush n, 2)) (k : V w G (pc + 2) lv (.int (Int8.ofInt n).toInt32 :: st) M) : V w G pc lv (st) M := by
  obtain ⟨p, l, e, R, s, m, args, below, meth, c, Q, nL, cells, slots⟩ := G
  obtain ⟨hx, hb, hml, hown, hts, hy, hRf, hRl, hRc, hRs⟩ := C
  intro H locs ls hP hS hl
  exact lv_bipush hx hb hd rfl (k H locs ls hP hS hl)
theorem v_sipush (C : Cx w G cc own fr lo) {n : Int} (hd : decode cc pc = .ok (.sipush n, 3)) (k : V w G (pc + 3) lv (.int (Int16.ofInt n).toInt32 :: st) M) : V w G pc lv (st) M := by
  obtain ⟨p, l, e, R, s, m, args, below, meth, c, Q, nL, cells, slots⟩ := G
  obtain ⟨hx, hb, hml, hown, hts, hy, hRf, hRl, hRc, hRs⟩ := C
  intro H locs ls hP hS hl
  exact lv_sipush hx hb hd rfl (k H locs ls hP hS hl)
theorem v_kc (C : Cx w G cc own fr lo) {n : Int} (v : Int32) (hv : Int32.ofInt n = v) (hd : decode cc pc = .ok (.iconst n, 1)) (k : V w G (pc + 1) lv (.int v :: st) M) : V w G pc lv st M := by
  obtain ⟨p, l, e, R, s, m, args, below, meth, c, Q, nL, cells, slots⟩ := G
  obtain ⟨hx, hb, hml, hown, hts, hy, hRf, hRl, hRc, hRs⟩ := C
  intro H locs ls hP hS hl
  exact lv_iconst hx hb hd hv (k H locs ls hP hS hl)
theorem v_kb (C : Cx w G cc own fr lo) {n : Int} (v : Int32) (hv : (Int8.ofInt n).toInt32 = v) (hd : decode cc pc = .ok (.bipush n, 2)) (k : V w G (pc + 2) lv (.int v :: st) M) : V w G pc lv st M := by
  obtain ⟨p, l, e, R, s, m, args, below, meth, c, Q, nL, cells, slots⟩ := G
  obtain ⟨hx, hb, hml, hown, hts, hy, hRf, hRl, hRc, hRs⟩ := C
  intro H locs ls hP hS hl
  exact lv_bipush hx hb hd hv (k H locs ls hP hS hl)
theorem v_ks (C : Cx w G cc own fr lo) {n : Int} (v : Int32) (hv : (Int16.ofInt n).toInt32 = v) (hd : decode cc pc = .ok (.sipush n, 3)) (k : V w G (pc + 3) lv (.int v :: st) M) : V w G pc lv st M := by
  obtain ⟨p, l, e, R, s, m, args, below, meth, c, Q, nL, cells, slots⟩ := G
  obtain ⟨hx, hb, hml, hown, hts, hy, hRf, hRl, hRc, hRs⟩ := C
  intro H locs ls hP hS hl
  exact lv_sipush hx hb hd hv (k H locs ls hP hS hl)
theorem v_lconst (C : Cx w G cc own fr lo) {n : Fin 2} (v : Int64) (hv : Int64.ofNat (n : Nat) = v) (hd : decode cc pc = .ok (.lconst n, 1)) (k : V w G (pc + 1) lv (.long v :: st) M) : V w G pc lv st M := by
  obtain ⟨p, l, e, R, s, m, args, below, meth, c, Q, nL, cells, slots⟩ := G
  obtain ⟨hx, hb, hml, hown, hts, hy, hRf, hRl, hRc, hRs⟩ := C
  intro H locs ls hP hS hl
  exact lv_lconst hx hb hd hv (k H locs ls hP hS hl)
theorem v_ldc (C : Cx w G cc own fr lo) {i : Nat} {v : Int32} (h : Cond.constant own i v ∈ lwg) (hd : decode cc pc = .ok (.ldc i, 2)) (k : V w G (pc + 2) lv (.int v :: st) M) : V w G pc lv st M := by
  obtain ⟨p, l, e, R, s, m, args, below, meth, c, Q, nL, cells, slots⟩ := G
  obtain ⟨hx, hb, hml, hown, hts, hy, hRf, hRl, hRc, hRs⟩ := C
  intro H locs ls hP hS hl
  exact lv_ldc hx hb hown (hts _ h) hd (k H locs ls hP hS hl)
theorem v_ldcw (C : Cx w G cc own fr lo) {i : Nat} {v : Int32} (h : Cond.constant own i v ∈ lwg) (hd : decode cc pc = .ok (.ldc_w i, 3)) (k : V w G (pc + 3) lv (.int v :: st) M) : V w G pc lv st M := by
  obtain ⟨p, l, e, R, s, m, args, below, meth, c, Q, nL, cells, slots⟩ := G
  obtain ⟨hx, hb, hml, hown, hts, hy, hRf, hRl, hRc, hRs⟩ := C
  intro H locs ls hP hS hl
  exact lv_ldcw hx hb hown (hts _ h) hd (k H locs ls hP hS hl)
theorem v_ldc2 (C : Cx w G cc own fr lo) {i : Nat} {v : Int64} (h : Cond.constantLong own i v ∈ lwg) (hd : decode cc pc = .ok (.ldc2_w i, 3)) (k : V w G (pc + 3) lv (.long v :: st) M) : V w G pc lv st M := by
  obtain ⟨p, l, e, R, s, m, args, below, meth, c, Q, nL, cells, slots⟩ := G
  obtain ⟨hx, hb, hml, hown, hts, hy, hRf, hRl, hRc, hRs⟩ := C
  intro H locs ls hP hS hl
  exact lv_ldc2 hx hb hown (hts _ h) hd (k H locs ls hP hS hl)
theorem v_iload_n (C : Cx w G cc own fr lo) {n : Fin 4} (j : Nat) {x : Int32} (hj : lv[j]? = some ((n : Nat), .int x)) (hd : decode cc pc = .ok (.iload_n n, 1)) (k : V w G (pc + 1) lv (.int x :: st) M) : V w G pc lv st M := by
  obtain ⟨p, l, e, R, s, m, args, below, meth, c, Q, nL, cells, slots⟩ := G
  obtain ⟨hx, hb, hml, hown, hts, hy, hRf, hRl, hRc, hRs⟩ := C
  intro H locs ls hP hS hl
  exact lv_iload_n hx hb hd rfl (lv_at hl j hj) (k H locs ls hP hS hl)
theorem v_iload (C : Cx w G cc own fr lo) {n : Nat} (j : Nat) {x : Int32} (hj : lv[j]? = some (n, .int x)) (hd : decode cc pc = .ok (.iload n, 2)) (k : V w G (pc + 2) lv (.int x :: st) M) : V w G pc lv st M := by
  obtain ⟨p, l, e, R, s, m, args, below, meth, c, Q, nL, cells, slots⟩ := G
  obtain ⟨hx, hb, hml, hown, hts, hy, hRf, hRl, hRc, hRs⟩ := C
  intro H locs ls hP hS hl
  exact lv_iload hx hb hd (lv_at hl j hj) (k H locs ls hP hS hl)
theorem v_lload_n (C : Cx w G cc own fr lo) {n : Fin 4} (j : Nat) {x : Int64} (hj : lv[j]? = some ((n : Nat), .long x)) (hd : decode cc pc = .ok (.lload_n n, 1)) (k : V w G (pc + 1) lv (.long x :: st) M) : V w G pc lv st M := by
  obtain ⟨p, l, e, R, s, m, args, below, meth, c, Q, nL, cells, slots⟩ := G
  obtain ⟨hx, hb, hml, hown, hts, hy, hRf, hRl, hRc, hRs⟩ := C
  intro H locs ls hP hS hl
  exact lv_lload_n hx hb hd rfl (lv_at hl j hj) (k H locs ls hP hS hl)
theorem v_lload (C : Cx w G cc own fr lo) {n : Nat} (j : Nat) {x : Int64} (hj : lv[j]? = some (n, .long x)) (hd : decode cc pc = .ok (.lload n, 2)) (k : V w G (pc + 2) lv (.long x :: st) M) : V w G pc lv st M := by
  obtain ⟨p, l, e, R, s, m, args, below, meth, c, Q, nL, cells, slots⟩ := G
  obtain ⟨hx, hb, hml, hown, hts, hy, hRf, hRl, hRc, hRs⟩ := C
  intro H locs ls hP hS hl
  exact lv_lload hx hb hd (lv_at hl j hj) (k H locs ls hP hS hl)
theorem v_aload_n (C : Cx w G cc own fr lo) {n : Fin 4} (j : Nat) {x : Nat} (hj : lv[j]? = some ((n : Nat), .ref x)) (hd : decode cc pc = .ok (.aload_n n, 1)) (k : V w G (pc + 1) lv (.ref x :: st) M) : V w G pc lv st M := by
  obtain ⟨p, l, e, R, s, m, args, below, meth, c, Q, nL, cells, slots⟩ := G
  obtain ⟨hx, hb, hml, hown, hts, hy, hRf, hRl, hRc, hRs⟩ := C
  intro H locs ls hP hS hl
  exact lv_aload_n hx hb hd rfl (lv_at hl j hj) (k H locs ls hP hS hl)
theorem v_aload (C : Cx w G cc own fr lo) {n : Nat} (j : Nat) {x : Nat} (hj : lv[j]? = some (n, .ref x)) (hd : decode cc pc = .ok (.aload n, 2)) (k : V w G (pc + 2) lv (.ref x :: st) M) : V w G pc lv st M := by
  obtain ⟨p, l, e, R, s, m, args, below, meth, c, Q, nL, cells, slots⟩ := G
  obtain ⟨hx, hb, hml, hown, hts, hy, hRf, hRl, hRc, hRs⟩ := C
  intro H locs ls hP hS hl
  exact lv_aload hx hb hd (lv_at hl j hj) (k H locs ls hP hS hl)
theorem v_istore_n (C : Cx w G cc own fr lo) {n : Fin 4} {x : Int32} (lv' : List (Nat × Value)) (hl : ((n : Nat), Value.int x) :: lv.filter (fun q => !(q.1 == (n : Nat)) && !(q.1 + 1 == (n : Nat) && q.2.category == 2)) = lv') (hn : (n : Nat) < G.2.2.2.2.2.2.2.2.2.2.2.1) (hd : decode cc pc = .ok (.istore_n n, 1)) (k : V w G (pc + 1) lv' st M) : V w G pc lv (.int x :: st) M := by
  obtain ⟨p, l, e, R, s, m, args, below, meth, c, Q, nL, cells, slots⟩ := G
  obtain ⟨hx, hb, hml, hown, hts, hy, hRf, hRl, hRc, hRs⟩ := C
  intro H locs ls hP hS hls
  exact lv_istore_n hx hb hd rfl hls hn hl (fun ls hl => k H locs ls hP hS hl)
theorem v_istore (C : Cx w G cc own fr lo) {n : Nat} {x : Int32} (lv' : List (Nat × Value)) (hl : (n, Value.int x) :: lv.filter (fun q => !(q.1 == n) && !(q.1 + 1 == n && q.2.category == 2)) = lv') (hn : n < G.2.2.2.2.2.2.2.2.2.2.2.1) (hd : decode cc pc = .ok (.istore n, 2)) (k : V w G (pc + 2) lv' st M) : V w G pc lv (.int x :: st) M := by
  obtain ⟨p, l, e, R, s, m, args, below, meth, c, Q, nL, cells, slots⟩ := G
  obtain ⟨hx, hb, hml, hown, hts, hy, hRf, hRl, hRc, hRs⟩ := C
  intro H locs ls hP hS hls
  exact lv_istore hx hb hd hls hn hl (fun ls hl => k H locs ls hP hS hl)
theorem v_astore_n (C : Cx w G cc own fr lo) {n : Fin 4} {x : Nat} (lv' : List (Nat × Value)) (hl : ((n : Nat), Value.ref x) :: lv.filter (fun q => !(q.1 == (n : Nat)) && !(q.1 + 1 == (n : Nat) && q.2.category == 2)) = lv') (hn : (n : Nat) < G.2.2.2.2.2.2.2.2.2.2.2.1) (hd : decode cc pc = .ok (.astore_n n, 1)) (k : V w G (pc + 1) lv' st M) : V w G pc lv (.ref x :: st) M := by
  obtain ⟨p, l, e, R, s, m, args, below, meth, c, Q, nL, cells, slots⟩ := G
  obtain ⟨hx, hb, hml, hown, hts, hy, hRf, hRl, hRc, hRs⟩ := C
  intro H locs ls hP hS hls
  exact lv_astore_n hx hb hd rfl hls hn hl (fun ls hl => k H locs ls hP hS hl)
theorem v_astore (C : Cx w G cc own fr lo) {n : Nat} {x : Nat} (lv' : List (Nat × Value)) (hl : (n, Value.ref x) :: lv.filter (fun q => !(q.1 == n) && !(q.1 + 1 == n && q.2.category == 2)) = lv') (hn : n < G.2.2.2.2.2.2.2.2.2.2.2.1) (hd : decode cc pc = .ok (.astore n, 2)) (k : V w G (pc + 2) lv' st M) : V w G pc lv (.ref x :: st) M := by
  obtain ⟨p, l, e, R, s, m, args, below, meth, c, Q, nL, cells, slots⟩ := G
  obtain ⟨hx, hb, hml, hown, hts, hy, hRf, hRl, hRc, hRs⟩ := C
  intro H locs ls hP hS hls
  exact lv_astore hx hb hd hls hn hl (fun ls hl => k H locs ls hP hS hl)
theorem v_lstore_n (C : Cx w G cc own fr lo) {n : Fin 4} {x : Int64} (lv' : List (Nat × Value)) (hl : ((n : Nat), Value.long x) :: lv.filter (fun q => !(q.1 == (n : Nat)) && (!(q.1 == (n : Nat) + 1) && !(q.1 + 1 == (n : Nat) && q.2.category == 2))) = lv') (hn : (n : Nat) + 1 < G.2.2.2.2.2.2.2.2.2.2.2.1) (hd : decode cc pc = .ok (.lstore_n n, 1)) (k : V w G (pc + 1) lv' st M) : V w G pc lv (.long x :: st) M := by
  obtain ⟨p, l, e, R, s, m, args, below, meth, c, Q, nL, cells, slots⟩ := G
  obtain ⟨hx, hb, hml, hown, hts, hy, hRf, hRl, hRc, hRs⟩ := C
  intro H locs ls hP hS hls
  exact lv_lstore_n hx hb hd rfl hls hn hl (fun ls hl => k H locs ls hP hS hl)
theorem v_iinc (C : Cx w G cc own fr lo) {n j : Nat} {d : Int} {x : Int32} (lv' : List (Nat × Value)) (hj : lv[j]? = some (n, .int x)) (v : Int32) (hv : x + Int32.ofInt d = v) (hl : (n, Value.int v) :: lv.filter (fun q => !(q.1 == n) && !(q.1 + 1 == n && q.2.category == 2)) = lv') (hn : n < G.2.2.2.2.2.2.2.2.2.2.2.1) (hd : decode cc pc = .ok (.iinc n d, 3)) (k : V w G (pc + 3) lv' st M) : V w G pc lv st M := by
  obtain ⟨p, l, e, R, s, m, args, below, meth, c, Q, nL, cells, slots⟩ := G
  obtain ⟨hx, hb, hml, hown, hts, hy, hRf, hRl, hRc, hRs⟩ := C
  intro H locs ls hP hS hls
  exact lv_iinc hx hb hd hls hj hv hn hl (fun ls hl => k H locs ls hP hS hl)
theorem v_iadd (C : Cx w G cc own fr lo) {x y : Int32} (hd : decode cc pc = .ok (.iadd, 1)) (k : V w G (pc + 1) lv (.int (x + y) :: st) M) : V w G pc lv (.int y :: .int x :: st) M := by
  obtain ⟨p, l, e, R, s, m, args, below, meth, c, Q, nL, cells, slots⟩ := G
  obtain ⟨hx, hb, hml, hown, hts, hy, hRf, hRl, hRc, hRs⟩ := C
  intro H locs ls hP hS hl
  exact lv_iadd hx hb hd (k H locs ls hP hS hl)
theorem v_isub (C : Cx w G cc own fr lo) {x y : Int32} (hd : decode cc pc = .ok (.isub, 1)) (k : V w G (pc + 1) lv (.int (x - y) :: st) M) : V w G pc lv (.int y :: .int x :: st) M := by
  obtain ⟨p, l, e, R, s, m, args, below, meth, c, Q, nL, cells, slots⟩ := G
  obtain ⟨hx, hb, hml, hown, hts, hy, hRf, hRl, hRc, hRs⟩ := C
  intro H locs ls hP hS hl
  exact lv_isub hx hb hd (k H locs ls hP hS hl)
theorem v_imul (C : Cx w G cc own fr lo) {x y : Int32} (hd : decode cc pc = .ok (.imul, 1)) (k : V w G (pc + 1) lv (.int (x * y) :: st) M) : V w G pc lv (.int y :: .int x :: st) M := by
  obtain ⟨p, l, e, R, s, m, args, below, meth, c, Q, nL, cells, slots⟩ := G
  obtain ⟨hx, hb, hml, hown, hts, hy, hRf, hRl, hRc, hRs⟩ := C
  intro H locs ls hP hS hl
  exact lv_imul hx hb hd (k H locs ls hP hS hl)
theorem v_iand (C : Cx w G cc own fr lo) {x y : Int32} (hd : decode cc pc = .ok (.iand, 1)) (k : V w G (pc + 1) lv (.int (x &&& y) :: st) M) : V w G pc lv (.int y :: .int x :: st) M := by
  obtain ⟨p, l, e, R, s, m, args, below, meth, c, Q, nL, cells, slots⟩ := G
  obtain ⟨hx, hb, hml, hown, hts, hy, hRf, hRl, hRc, hRs⟩ := C
  intro H locs ls hP hS hl
  exact lv_iand hx hb hd (k H locs ls hP hS hl)
theorem v_ior (C : Cx w G cc own fr lo) {x y : Int32} (hd : decode cc pc = .ok (.ior, 1)) (k : V w G (pc + 1) lv (.int (x ||| y) :: st) M) : V w G pc lv (.int y :: .int x :: st) M := by
  obtain ⟨p, l, e, R, s, m, args, below, meth, c, Q, nL, cells, slots⟩ := G
  obtain ⟨hx, hb, hml, hown, hts, hy, hRf, hRl, hRc, hRs⟩ := C
  intro H locs ls hP hS hl
  exact lv_ior hx hb hd (k H locs ls hP hS hl)
theorem v_ixor (C : Cx w G cc own fr lo) {x y : Int32} (hd : decode cc pc = .ok (.ixor, 1)) (k : V w G (pc + 1) lv (.int (x ^^^ y) :: st) M) : V w G pc lv (.int y :: .int x :: st) M := by
  obtain ⟨p, l, e, R, s, m, args, below, meth, c, Q, nL, cells, slots⟩ := G
  obtain ⟨hx, hb, hml, hown, hts, hy, hRf, hRl, hRc, hRs⟩ := C
  intro H locs ls hP hS hl
  exact lv_ixor hx hb hd (k H locs ls hP hS hl)
theorem v_ishl (C : Cx w G cc own fr lo) {x y : Int32} (hd : decode cc pc = .ok (.ishl, 1)) (k : V w G (pc + 1) lv (.int (x <<< (y &&& 31)) :: st) M) : V w G pc lv (.int y :: .int x :: st) M := by
  obtain ⟨p, l, e, R, s, m, args, below, meth, c, Q, nL, cells, slots⟩ := G
  obtain ⟨hx, hb, hml, hown, hts, hy, hRf, hRl, hRc, hRs⟩ := C
  intro H locs ls hP hS hl
  exact lv_ishl hx hb hd (k H locs ls hP hS hl)
theorem v_ishr (C : Cx w G cc own fr lo) {x y : Int32} (hd : decode cc pc = .ok (.ishr, 1)) (k : V w G (pc + 1) lv (.int (x >>> (y &&& 31)) :: st) M) : V w G pc lv (.int y :: .int x :: st) M := by
  obtain ⟨p, l, e, R, s, m, args, below, meth, c, Q, nL, cells, slots⟩ := G
  obtain ⟨hx, hb, hml, hown, hts, hy, hRf, hRl, hRc, hRs⟩ := C
  intro H locs ls hP hS hl
  exact lv_ishr hx hb hd (k H locs ls hP hS hl)
theorem v_iushr (C : Cx w G cc own fr lo) {x y : Int32} (hd : decode cc pc = .ok (.iushr, 1)) (k : V w G (pc + 1) lv (.int (x.toUInt32 >>> (y.toUInt32 &&& Int32.toUInt32 31)).toInt32 :: st) M) : V w G pc lv (.int y :: .int x :: st) M := by
  obtain ⟨p, l, e, R, s, m, args, below, meth, c, Q, nL, cells, slots⟩ := G
  obtain ⟨hx, hb, hml, hown, hts, hy, hRf, hRl, hRc, hRs⟩ := C
  intro H locs ls hP hS hl
  exact lv_iushr hx hb hd rfl (k H locs ls hP hS hl)
theorem v_ineg (C : Cx w G cc own fr lo) {x : Int32} (hd : decode cc pc = .ok (.ineg, 1)) (k : V w G (pc + 1) lv (.int (-x) :: st) M) : V w G pc lv (.int x :: st) M := by
  obtain ⟨p, l, e, R, s, m, args, below, meth, c, Q, nL, cells, slots⟩ := G
  obtain ⟨hx, hb, hml, hown, hts, hy, hRf, hRl, hRc, hRs⟩ := C
  intro H locs ls hP hS hl
  exact lv_ineg hx hb hd (k H locs ls hP hS hl)
theorem v_idiv (C : Cx w G cc own fr lo) {x y : Int32} (hne : ¬ y = 0) (hd : decode cc pc = .ok (.idiv, 1)) (k : V w G (pc + 1) lv (.int (x / y) :: st) M) : V w G pc lv (.int y :: .int x :: st) M := by
  obtain ⟨p, l, e, R, s, m, args, below, meth, c, Q, nL, cells, slots⟩ := G
  obtain ⟨hx, hb, hml, hown, hts, hy, hRf, hRl, hRc, hRs⟩ := C
  intro H locs ls hP hS hl
  exact lv_idiv hx hb hd hne (k H locs ls hP hS hl)
theorem v_irem (C : Cx w G cc own fr lo) {x y : Int32} (hne : ¬ y = 0) (hd : decode cc pc = .ok (.irem, 1)) (k : V w G (pc + 1) lv (.int (x - x / y * y) :: st) M) : V w G pc lv (.int y :: .int x :: st) M := by
  obtain ⟨p, l, e, R, s, m, args, below, meth, c, Q, nL, cells, slots⟩ := G
  obtain ⟨hx, hb, hml, hown, hts, hy, hRf, hRl, hRc, hRs⟩ := C
  intro H locs ls hP hS hl
  exact lv_irem hx hb hd hne (k H locs ls hP hS hl)
theorem v_ladd (C : Cx w G cc own fr lo) {x y : Int64} (hd : decode cc pc = .ok (.ladd, 1)) (k : V w G (pc + 1) lv (.long (x + y) :: st) M) : V w G pc lv (.long y :: .long x :: st) M := by
  obtain ⟨p, l, e, R, s, m, args, below, meth, c, Q, nL, cells, slots⟩ := G
  obtain ⟨hx, hb, hml, hown, hts, hy, hRf, hRl, hRc, hRs⟩ := C
  intro H locs ls hP hS hl
  exact lv_ladd hx hb hd (k H locs ls hP hS hl)
theorem v_lmul (C : Cx w G cc own fr lo) {x y : Int64} (hd : decode cc pc = .ok (.lmul, 1)) (k : V w G (pc + 1) lv (.long (x * y) :: st) M) : V w G pc lv (.long y :: .long x :: st) M := by
  obtain ⟨p, l, e, R, s, m, args, below, meth, c, Q, nL, cells, slots⟩ := G
  obtain ⟨hx, hb, hml, hown, hts, hy, hRf, hRl, hRc, hRs⟩ := C
  intro H locs ls hP hS hl
  exact lv_lmul hx hb hd (k H locs ls hP hS hl)
theorem v_ldiv (C : Cx w G cc own fr lo) {x y : Int64} (hne : ¬ y = 0) (hd : decode cc pc = .ok (.ldiv, 1)) (k : V w G (pc + 1) lv (.long (x / y) :: st) M) : V w G pc lv (.long y :: .long x :: st) M := by
  obtain ⟨p, l, e, R, s, m, args, below, meth, c, Q, nL, cells, slots⟩ := G
  obtain ⟨hx, hb, hml, hown, hts, hy, hRf, hRl, hRc, hRs⟩ := C
  intro H locs ls hP hS hl
  exact lv_ldiv hx hb hd hne (k H locs ls hP hS hl)
theorem v_lrem (C : Cx w G cc own fr lo) {x y : Int64} (hne : ¬ y = 0) (hd : decode cc pc = .ok (.lrem, 1)) (k : V w G (pc + 1) lv (.long (x - x / y * y) :: st) M) : V w G pc lv (.long y :: .long x :: st) M := by
  obtain ⟨p, l, e, R, s, m, args, below, meth, c, Q, nL, cells, slots⟩ := G
  obtain ⟨hx, hb, hml, hown, hts, hy, hRf, hRl, hRc, hRs⟩ := C
  intro H locs ls hP hS hl
  exact lv_lrem hx hb hd hne (k H locs ls hP hS hl)
theorem v_i2l (C : Cx w G cc own fr lo) {x : Int32} (hd : decode cc pc = .ok (.i2l, 1)) (k : V w G (pc + 1) lv (.long x.toInt64 :: st) M) : V w G pc lv (.int x :: st) M := by
  obtain ⟨p, l, e, R, s, m, args, below, meth, c, Q, nL, cells, slots⟩ := G
  obtain ⟨hx, hb, hml, hown, hts, hy, hRf, hRl, hRc, hRs⟩ := C
  intro H locs ls hP hS hl
  exact lv_i2l hx hb hd rfl (k H locs ls hP hS hl)
theorem v_l2i (C : Cx w G cc own fr lo) {x : Int64} (hd : decode cc pc = .ok (.l2i, 1)) (k : V w G (pc + 1) lv (.int x.toInt32 :: st) M) : V w G pc lv (.long x :: st) M := by
  obtain ⟨p, l, e, R, s, m, args, below, meth, c, Q, nL, cells, slots⟩ := G
  obtain ⟨hx, hb, hml, hown, hts, hy, hRf, hRl, hRc, hRs⟩ := C
  intro H locs ls hP hS hl
  exact lv_l2i hx hb hd rfl (k H locs ls hP hS hl)
theorem v_lcmp (C : Cx w G cc own fr lo) {x y : Int64} (hd : decode cc pc = .ok (.lcmp, 1)) (k : V w G (pc + 1) lv (.int (lg_cmp x y) :: st) M) : V w G pc lv (.long y :: .long x :: st) M := by
  obtain ⟨p, l, e, R, s, m, args, below, meth, c, Q, nL, cells, slots⟩ := G
  obtain ⟨hx, hb, hml, hown, hts, hy, hRf, hRl, hRc, hRs⟩ := C
  intro H locs ls hP hS hl
  exact W.lcmp hx hb hd (k H locs ls hP hS hl)
theorem v_dup (C : Cx w G cc own fr lo) {a : Value} (ha : a.category = 1) (hd : decode cc pc = .ok (.dup, 1)) (k : V w G (pc + 1) lv (a :: a :: st) M) : V w G pc lv (a :: st) M := by
  obtain ⟨p, l, e, R, s, m, args, below, meth, c, Q, nL, cells, slots⟩ := G
  obtain ⟨hx, hb, hml, hown, hts, hy, hRf, hRl, hRc, hRs⟩ := C
  intro H locs ls hP hS hl
  exact lv_dup hx hb hd ha (k H locs ls hP hS hl)
theorem v_dup2 (C : Cx w G cc own fr lo) {a b : Value} (ha : a.category = 1) (hb2 : b.category = 1) (hd : decode cc pc = .ok (.dup2, 1)) (k : V w G (pc + 1) lv (a :: b :: a :: b :: st) M) : V w G pc lv (a :: b :: st) M := by
  obtain ⟨p, l, e, R, s, m, args, below, meth, c, Q, nL, cells, slots⟩ := G
  obtain ⟨hx, hb, hml, hown, hts, hy, hRf, hRl, hRc, hRs⟩ := C
  intro H locs ls hP hS hl
  exact lv_dup2_11 hx hb hd ha hb2 (k H locs ls hP hS hl)
theorem v_pop (C : Cx w G cc own fr lo) {a : Value} (ha : a.category = 1) (hd : decode cc pc = .ok (.pop, 1)) (k : V w G (pc + 1) lv (st) M) : V w G pc lv (a :: st) M := by
  obtain ⟨p, l, e, R, s, m, args, below, meth, c, Q, nL, cells, slots⟩ := G
  obtain ⟨hx, hb, hml, hown, hts, hy, hRf, hRl, hRc, hRs⟩ := C
  intro H locs ls hP hS hl
  exact lv_pop hx hb hd ha (k H locs ls hP hS hl)
theorem v_if_eq (C : Cx w G cc own fr lo) {x : Int32} {off : Int} (tgt : Nat) (ht : (pc : Int) + off = (tgt : Int)) (hd : decode cc pc = .ok (.ifCond .eq off, 3)) (kt : x = 0 → V w G tgt lv st M) (kf : ¬ x = 0 → V w G (pc + 3) lv st M) : V w G pc lv (.int x :: st) M := by
  obtain ⟨p, l, e, R, s, m, args, below, meth, c, Q, nL, cells, slots⟩ := G
  obtain ⟨hx, hb, hml, hown, hts, hy, hRf, hRl, hRc, hRs⟩ := C
  intro H locs ls hP hS hl
  exact lv_if_eq hx hb hd ht (fun h => kt h H locs ls hP hS hl) (fun h => kf h H locs ls hP hS hl)
theorem v_if_ne (C : Cx w G cc own fr lo) {x : Int32} {off : Int} (tgt : Nat) (ht : (pc : Int) + off = (tgt : Int)) (hd : decode cc pc = .ok (.ifCond .ne off, 3)) (kt : ¬ x = 0 → V w G tgt lv st M) (kf : x = 0 → V w G (pc + 3) lv st M) : V w G pc lv (.int x :: st) M := by
  obtain ⟨p, l, e, R, s, m, args, below, meth, c, Q, nL, cells, slots⟩ := G
  obtain ⟨hx, hb, hml, hown, hts, hy, hRf, hRl, hRc, hRs⟩ := C
  intro H locs ls hP hS hl
  exact lv_if_ne hx hb hd ht (fun h => kt h H locs ls hP hS hl) (fun h => kf h H locs ls hP hS hl)
theorem v_if_lt (C : Cx w G cc own fr lo) {x : Int32} {off : Int} (tgt : Nat) (ht : (pc : Int) + off = (tgt : Int)) (hd : decode cc pc = .ok (.ifCond .lt off, 3)) (kt : x < 0 → V w G tgt lv st M) (kf : ¬ x < 0 → V w G (pc + 3) lv st M) : V w G pc lv (.int x :: st) M := by
  obtain ⟨p, l, e, R, s, m, args, below, meth, c, Q, nL, cells, slots⟩ := G
  obtain ⟨hx, hb, hml, hown, hts, hy, hRf, hRl, hRc, hRs⟩ := C
  intro H locs ls hP hS hl
  exact lv_if_lt hx hb hd ht (fun h => kt h H locs ls hP hS hl) (fun h => kf h H locs ls hP hS hl)
theorem v_if_ge (C : Cx w G cc own fr lo) {x : Int32} {off : Int} (tgt : Nat) (ht : (pc : Int) + off = (tgt : Int)) (hd : decode cc pc = .ok (.ifCond .ge off, 3)) (kt : 0 ≤ x → V w G tgt lv st M) (kf : ¬ 0 ≤ x → V w G (pc + 3) lv st M) : V w G pc lv (.int x :: st) M := by
  obtain ⟨p, l, e, R, s, m, args, below, meth, c, Q, nL, cells, slots⟩ := G
  obtain ⟨hx, hb, hml, hown, hts, hy, hRf, hRl, hRc, hRs⟩ := C
  intro H locs ls hP hS hl
  exact lv_if_ge hx hb hd ht (fun h => kt h H locs ls hP hS hl) (fun h => kf h H locs ls hP hS hl)
theorem v_if_gt (C : Cx w G cc own fr lo) {x : Int32} {off : Int} (tgt : Nat) (ht : (pc : Int) + off = (tgt : Int)) (hd : decode cc pc = .ok (.ifCond .gt off, 3)) (kt : 0 < x → V w G tgt lv st M) (kf : ¬ 0 < x → V w G (pc + 3) lv st M) : V w G pc lv (.int x :: st) M := by
  obtain ⟨p, l, e, R, s, m, args, below, meth, c, Q, nL, cells, slots⟩ := G
  obtain ⟨hx, hb, hml, hown, hts, hy, hRf, hRl, hRc, hRs⟩ := C
  intro H locs ls hP hS hl
  exact lv_if_gt hx hb hd ht (fun h => kt h H locs ls hP hS hl) (fun h => kf h H locs ls hP hS hl)
theorem v_if_le (C : Cx w G cc own fr lo) {x : Int32} {off : Int} (tgt : Nat) (ht : (pc : Int) + off = (tgt : Int)) (hd : decode cc pc = .ok (.ifCond .le off, 3)) (kt : x ≤ 0 → V w G tgt lv st M) (kf : ¬ x ≤ 0 → V w G (pc + 3) lv st M) : V w G pc lv (.int x :: st) M := by
  obtain ⟨p, l, e, R, s, m, args, below, meth, c, Q, nL, cells, slots⟩ := G
  obtain ⟨hx, hb, hml, hown, hts, hy, hRf, hRl, hRc, hRs⟩ := C
  intro H locs ls hP hS hl
  exact lv_if_le hx hb hd ht (fun h => kt h H locs ls hP hS hl) (fun h => kf h H locs ls hP hS hl)
theorem v_icmp_eq (C : Cx w G cc own fr lo) {x y : Int32} {off : Int} (tgt : Nat) (ht : (pc : Int) + off = (tgt : Int)) (hd : decode cc pc = .ok (.if_icmp .eq off, 3)) (kt : x = y → V w G tgt lv st M) (kf : ¬ x = y → V w G (pc + 3) lv st M) : V w G pc lv (.int y :: .int x :: st) M := by
  obtain ⟨p, l, e, R, s, m, args, below, meth, c, Q, nL, cells, slots⟩ := G
  obtain ⟨hx, hb, hml, hown, hts, hy, hRf, hRl, hRc, hRs⟩ := C
  intro H locs ls hP hS hl
  exact lv_icmp_eq hx hb hd ht (fun h => kt h H locs ls hP hS hl) (fun h => kf h H locs ls hP hS hl)
theorem v_icmp_ne (C : Cx w G cc own fr lo) {x y : Int32} {off : Int} (tgt : Nat) (ht : (pc : Int) + off = (tgt : Int)) (hd : decode cc pc = .ok (.if_icmp .ne off, 3)) (kt : ¬ x = y → V w G tgt lv st M) (kf : x = y → V w G (pc + 3) lv st M) : V w G pc lv (.int y :: .int x :: st) M := by
  obtain ⟨p, l, e, R, s, m, args, below, meth, c, Q, nL, cells, slots⟩ := G
  obtain ⟨hx, hb, hml, hown, hts, hy, hRf, hRl, hRc, hRs⟩ := C
  intro H locs ls hP hS hl
  exact lv_icmp_ne hx hb hd ht (fun h => kt h H locs ls hP hS hl) (fun h => kf h H locs ls hP hS hl)
theorem v_icmp_lt (C : Cx w G cc own fr lo) {x y : Int32} {off : Int} (tgt : Nat) (ht : (pc : Int) + off = (tgt : Int)) (hd : decode cc pc = .ok (.if_icmp .lt off, 3)) (kt : x < y → V w G tgt lv st M) (kf : ¬ x < y → V w G (pc + 3) lv st M) : V w G pc lv (.int y :: .int x :: st) M := by
  obtain ⟨p, l, e, R, s, m, args, below, meth, c, Q, nL, cells, slots⟩ := G
  obtain ⟨hx, hb, hml, hown, hts, hy, hRf, hRl, hRc, hRs⟩ := C
  intro H locs ls hP hS hl
  exact lv_icmp_lt hx hb hd ht (fun h => kt h H locs ls hP hS hl) (fun h => kf h H locs ls hP hS hl)
theorem v_icmp_ge (C : Cx w G cc own fr lo) {x y : Int32} {off : Int} (tgt : Nat) (ht : (pc : Int) + off = (tgt : Int)) (hd : decode cc pc = .ok (.if_icmp .ge off, 3)) (kt : y ≤ x → V w G tgt lv st M) (kf : ¬ y ≤ x → V w G (pc + 3) lv st M) : V w G pc lv (.int y :: .int x :: st) M := by
  obtain ⟨p, l, e, R, s, m, args, below, meth, c, Q, nL, cells, slots⟩ := G
  obtain ⟨hx, hb, hml, hown, hts, hy, hRf, hRl, hRc, hRs⟩ := C
  intro H locs ls hP hS hl
  exact lv_icmp_ge hx hb hd ht (fun h => kt h H locs ls hP hS hl) (fun h => kf h H locs ls hP hS hl)
theorem v_icmp_gt (C : Cx w G cc own fr lo) {x y : Int32} {off : Int} (tgt : Nat) (ht : (pc : Int) + off = (tgt : Int)) (hd : decode cc pc = .ok (.if_icmp .gt off, 3)) (kt : y < x → V w G tgt lv st M) (kf : ¬ y < x → V w G (pc + 3) lv st M) : V w G pc lv (.int y :: .int x :: st) M := by
  obtain ⟨p, l, e, R, s, m, args, below, meth, c, Q, nL, cells, slots⟩ := G
  obtain ⟨hx, hb, hml, hown, hts, hy, hRf, hRl, hRc, hRs⟩ := C
  intro H locs ls hP hS hl
  exact lv_icmp_gt hx hb hd ht (fun h => kt h H locs ls hP hS hl) (fun h => kf h H locs ls hP hS hl)
theorem v_icmp_le (C : Cx w G cc own fr lo) {x y : Int32} {off : Int} (tgt : Nat) (ht : (pc : Int) + off = (tgt : Int)) (hd : decode cc pc = .ok (.if_icmp .le off, 3)) (kt : x ≤ y → V w G tgt lv st M) (kf : ¬ x ≤ y → V w G (pc + 3) lv st M) : V w G pc lv (.int y :: .int x :: st) M := by
  obtain ⟨p, l, e, R, s, m, args, below, meth, c, Q, nL, cells, slots⟩ := G
  obtain ⟨hx, hb, hml, hown, hts, hy, hRf, hRl, hRc, hRs⟩ := C
  intro H locs ls hP hS hl
  exact lv_icmp_le hx hb hd ht (fun h => kt h H locs ls hP hS hl) (fun h => kf h H locs ls hP hS hl)
theorem v_goto (C : Cx w G cc own fr lo) {off : Int} (tgt : Nat) (ht : (pc : Int) + off = (tgt : Int)) (hd : decode cc pc = .ok (.goto off, 3)) (k : V w G tgt lv st M) : V w G pc lv st M := by
  obtain ⟨p, l, e, R, s, m, args, below, meth, c, Q, nL, cells, slots⟩ := G
  obtain ⟨hx, hb, hml, hown, hts, hy, hRf, hRl, hRc, hRs⟩ := C
  intro H locs ls hP hS hl
  exact lv_goto hx hb hd ht (k H locs ls hP hS hl)
theorem v_tableIn (C : Cx w G cc own fr lo) {dflt a b : Int} {offs : Array Int} {len : Nat} {x : Int32} {off : Int} (tgt : Nat) (ht : (pc : Int) + off = (tgt : Int)) (h1 : ¬ x.toInt < a) (h2 : ¬ b < x.toInt) (ho : offs[(x.toInt - a).toNat]? = some off) (hd : decode cc pc = .ok (.tableswitch dflt a b offs, len)) (k : V w G tgt lv st M) : V w G pc lv (.int x :: st) M := by
  obtain ⟨p, l, e, R, s, m, args, below, meth, c, Q, nL, cells, slots⟩ := G
  obtain ⟨hx, hb, hml, hown, hts, hy, hRf, hRl, hRc, hRs⟩ := C
  intro H locs ls hP hS hl
  exact lv_tableIn hx hb hd h1 h2 ho ht (k H locs ls hP hS hl)
theorem v_tableOut (C : Cx w G cc own fr lo) {dflt a b : Int} {offs : Array Int} {len : Nat} {x : Int32} (tgt : Nat) (ht : (pc : Int) + dflt = (tgt : Int)) (h : x.toInt < a ∨ b < x.toInt) (hd : decode cc pc = .ok (.tableswitch dflt a b offs, len)) (k : V w G tgt lv st M) : V w G pc lv (.int x :: st) M := by
  obtain ⟨p, l, e, R, s, m, args, below, meth, c, Q, nL, cells, slots⟩ := G
  obtain ⟨hx, hb, hml, hown, hts, hy, hRf, hRl, hRc, hRs⟩ := C
  intro H locs ls hP hS hl
  exact lv_tableOut hx hb hd h ht (k H locs ls hP hS hl)
theorem v_lookup (C : Cx w G cc own fr lo) {dflt : Int} {ps : Array (Int × Int)} {len : Nat} {x : Int32} {off : Int} (tgt : Nat) (ht : (pc : Int) + off = (tgt : Int)) (hp : (ps.toList.zip (ps.toList.drop 1)).all (fun (a, next) => a.1 < next.1) = true) (ho : Op.lookupswitch.offset ps.toList dflt x.toInt = off) (hd : decode cc pc = .ok (.lookupswitch dflt ps, len)) (k : V w G tgt lv st M) : V w G pc lv (.int x :: st) M := by
  obtain ⟨p, l, e, R, s, m, args, below, meth, c, Q, nL, cells, slots⟩ := G
  obtain ⟨hx, hb, hml, hown, hts, hy, hRf, hRl, hRc, hRs⟩ := C
  intro H locs ls hP hS hl
  exact lv_lookup hx hb hd hp ho ht (k H locs ls hP hS hl)
theorem v_iald (C : Cx w G cc own fr lo) {k : Nat} {i : Int32} (hk : k < 233) (hd0 : kd k = 10) (hi : vp_in i (ln k)) (hd : decode cc pc = .ok (.iaload, 1)) (kk : V w G (pc + 1) lv (.int (M k i.toNatClampNeg) :: st) M) : V w G pc lv (.int i :: .ref (w.2.1 k) :: st) M := by
  obtain ⟨p, l, e, R, s, m, args, below, meth, c, Q, nL, cells, slots⟩ := G
  obtain ⟨hx, hb, hml, hown, hts, hy, hRf, hRl, hRc, hRs⟩ := C
  intro H locs ls hP hS hl
  exact va_iald hx hb hy.1 hP k 0 (wl_at hk hd0 rfl) rfl hi hd (kk H locs ls hP hS hl)
theorem v_zald (C : Cx w G cc own fr lo) {k : Nat} {i : Int32} (hk : k < 233) (hd0 : kd k = 11) (hi : vp_in i (ln k)) (hd : decode cc pc = .ok (.baload, 1)) (kk : V w G (pc + 1) lv (.int (M k i.toNatClampNeg) :: st) M) : V w G pc lv (.int i :: .ref (w.2.1 k) :: st) M := by
  obtain ⟨p, l, e, R, s, m, args, below, meth, c, Q, nL, cells, slots⟩ := G
  obtain ⟨hx, hb, hml, hown, hts, hy, hRf, hRl, hRc, hRs⟩ := C
  intro H locs ls hP hS hl
  exact va_zald hx hb hy.1 hP k 1 (wl_at hk hd0 rfl) rfl hi hd (kk H locs ls hP hS hl)
theorem v_sald (C : Cx w G cc own fr lo) {k : Nat} {i : Int32} (hk : k < 233) (hd0 : kd k = 12) (hi : vp_in i (ln k)) (hd : decode cc pc = .ok (.aaload, 1)) (kk : V w G (pc + 1) lv (.ref (w.2.1 (ra k i.toNatClampNeg)) :: st) M) : V w G pc lv (.int i :: .ref (w.2.1 k) :: st) M := by
  obtain ⟨p, l, e, R, s, m, args, below, meth, c, Q, nL, cells, slots⟩ := G
  obtain ⟨hx, hb, hml, hown, hts, hy, hRf, hRl, hRc, hRs⟩ := C
  intro H locs ls hP hS hl
  exact va_aldq hx hb hy.1 hP k 2 (wl_at hk hd0 rfl) rfl hi hd (kk H locs ls hP hS hl)
theorem v_aald (C : Cx w G cc own fr lo) {k : Nat} {i : Int32} (hk : k < 233) (hd0 : kd k = 13) (hi : vp_in i (ln k)) (hd : decode cc pc = .ok (.aaload, 1)) (kk : V w G (pc + 1) lv (.ref (w.2.1 (ra k i.toNatClampNeg)) :: st) M) : V w G pc lv (.int i :: .ref (w.2.1 k) :: st) M := by
  obtain ⟨p, l, e, R, s, m, args, below, meth, c, Q, nL, cells, slots⟩ := G
  obtain ⟨hx, hb, hml, hown, hts, hy, hRf, hRl, hRc, hRs⟩ := C
  intro H locs ls hP hS hl
  have hlt : i.toNatClampNeg < ln k := Nat.not_le.mp fun q => hi (Or.inr q)
  exact W.aald (v := va_rf (some (w.2.1 (ra k i.toNatClampNeg)))) (ty := .array .int) hx hb (hP k _ (wl_at hk hd0 rfl)) ((hy.1.2 3 _ rfl).1 (ln k) (fun j => va_rf (some (w.2.1 (ra k j))))) rfl (fun q => by cases q) (by show ¬ (i < 0 ∨ (arrV _ _ _).slots.size ≤ _); rw [arrV_size]; exact hi) (by show (arrV _ _ _).slots[_]? = _; rw [arrV_read _ _ hlt]) rfl rfl hd (kk H locs ls hP hS hl)
theorem v_iast (C : Cx w G cc own fr lo) {k : Nat} {i x : Int32} (hk : k < 233) (hd0 : kd k = 10) (hi : vp_in i (ln k)) (hd : decode cc pc = .ok (.iastore, 1)) (kk : V w G (pc + 1) lv st (up M k i.toNatClampNeg x)) : V w G pc lv (.int x :: .int i :: .ref (w.2.1 k) :: st) M := by
  obtain ⟨p, l, e, R, s, m, args, below, meth, c, Q, nL, cells, slots⟩ := G
  obtain ⟨hx, hb, hml, hown, hts, hy, hRf, hRl, hRc, hRs⟩ := C
  intro H locs ls hP hS hl
  refine va_iast hx hb hy.1 hP (hy.D M) hS k 0 (wl_at hk hd0 rfl) rfl hi hd (fun H1 locs1 hP1 _ hS1 => ?_)
  rw [wl_set (M' := up M k i.toNatClampNeg x) hk (by rw [en_k hd0, up_s]; rfl) (fun j hj => up_o hj)] at hP1
  exact kk H1 locs1 ls hP1 hS1 hl
theorem v_zast (C : Cx w G cc own fr lo) {k : Nat} {i x : Int32} (hk : k < 233) (hd0 : kd k = 11) (hi : vp_in i (ln k)) (hd : decode cc pc = .ok (.bastore, 1)) (kk : V w G (pc + 1) lv st (up M k i.toNatClampNeg (vp_nar .boolean x))) : V w G pc lv (.int x :: .int i :: .ref (w.2.1 k) :: st) M := by
  obtain ⟨p, l, e, R, s, m, args, below, meth, c, Q, nL, cells, slots⟩ := G
  obtain ⟨hx, hb, hml, hown, hts, hy, hRf, hRl, hRc, hRs⟩ := C
  intro H locs ls hP hS hl
  refine va_zast hx hb hy.1 hP (hy.D M) hS k 1 (wl_at hk hd0 rfl) rfl hi hd (fun H1 locs1 hP1 _ hS1 => ?_)
  rw [wl_set (M' := up M k i.toNatClampNeg (vp_nar .boolean x)) hk (by rw [en_k hd0, up_s]; rfl) (fun j hj => up_o hj)] at hP1
  exact kk H1 locs1 ls hP1 hS1 hl
theorem v_tens (C : Cx w G cc own fr lo) {i : Nat} {hst : String} (h : Cond.fieldLinkNest own i "FollowCab" "TENS" "[I" hst ∈ nws) (hd : decode cc pc = .ok (.getstatic i, 3)) (kk : V w G (pc + 3) lv (.ref w.2.2.2.2.2.2 :: st) M) : V w G pc lv st M := by
  obtain ⟨p, l, e, R, s, m, args, below, meth, c, Q, nL, cells, slots⟩ := G
  obtain ⟨hx, hb, hml, hown, hts, hy, hRf, hRl, hRc, hRs⟩ := C
  intro H locs ls hP hS hl
  exact va_getsN hx hb hy.2.2.1 hS hown (va_Nw.use rfl (hy.2.2.2.2 _ h)) (fun _ h => h) hd (kk H locs ls hP hS hl)
theorem v_tld (C : Cx w G cc own fr lo) {i : Int32} (hi : vp_in i 6) (hd : decode cc pc = .ok (.iaload, 1)) (kk : V w G (pc + 1) lv (.int (tens i.toNatClampNeg) :: st) M) : V w G pc lv (.int i :: .ref w.2.2.2.2.2.2 :: st) M := by
  obtain ⟨p, l, e, R, s, m, args, below, meth, c, Q, nL, cells, slots⟩ := G
  obtain ⟨hx, hb, hml, hown, hts, hy, hRf, hRl, hRc, hRs⟩ := C
  intro H locs ls hP hS hl
  exact va_ti hx hb hy.2.2.2.1 hS hi rfl hd (kk H locs ls hP hS hl)
theorem v_mmax (C : Cx w G cc own fr lo) {i : Nat} {x y : Int32} (h1 : Cond.methodLink own i Lib.Math.max.name ∈ lwg) (h2 : Cond.static Lib.Math.max.name ∈ lwg) (h3 : Cond.initialized "java/lang/Math" ∈ lwg) (h4 : Cond.code Lib.Math.max.name Lib.Math.max.code 2 (some .int) ∈ lwg) (hf : 1 ≤ fr) (hlo : (st.map fun v => v.category).sum + 13 ≤ lo) (hd : decode cc pc = .ok (.invokestatic i, 3)) (kk : V w G (pc + 3) lv (.int (if x < y then y else x) :: st) M) : V w G pc lv (.int y :: .int x :: st) M := by
  obtain ⟨p, l, e, R, s, m, args, below, meth, c, Q, nL, cells, slots⟩ := G
  obtain ⟨hx, hb, hml, hown, hts, hy, hRf, hRl, hRc, hRs⟩ := C
  intro H locs ls hP hS hl
  exact va_mmax hx hb (by rw [hml]; exact hl.1.symm) hown (hts _ h1) (hts _ h2) (hts _ h3) (hts _ h4) (by rw [hRf]; exact hf) (by rw [hRl]; exact hlo) hRc hRs hd (kk H locs ls hP hS hl)
theorem v_mmin (C : Cx w G cc own fr lo) {i : Nat} {x y : Int32} (h1 : Cond.methodLink own i Lib.Math.min.name ∈ lwg) (h2 : Cond.static Lib.Math.min.name ∈ lwg) (h3 : Cond.initialized "java/lang/Math" ∈ lwg) (h4 : Cond.code Lib.Math.min.name Lib.Math.min.code 2 (some .int) ∈ lwg) (hf : 1 ≤ fr) (hlo : (st.map fun v => v.category).sum + 13 ≤ lo) (hd : decode cc pc = .ok (.invokestatic i, 3)) (kk : V w G (pc + 3) lv (.int (if y < x then y else x) :: st) M) : V w G pc lv (.int y :: .int x :: st) M := by
  obtain ⟨p, l, e, R, s, m, args, below, meth, c, Q, nL, cells, slots⟩ := G
  obtain ⟨hx, hb, hml, hown, hts, hy, hRf, hRl, hRc, hRs⟩ := C
  intro H locs ls hP hS hl
  exact va_mmin hx hb (by rw [hml]; exact hl.1.symm) hown (hts _ h1) (hts _ h2) (hts _ h3) (hts _ h4) (by rw [hRf]; exact hf) (by rw [hRl]; exact hlo) hRc hRs hd (kk H locs ls hP hS hl)
theorem v_copy (C : Cx w G cc own fr lo) {i a b : Nat} {sp dp n : Int32} (h1 : Cond.methodLink own i arraycopyName ∈ lwg) (h2 : Cond.native arraycopyName ∈ lwg) (h3 : Cond.static arraycopyName ∈ lwg) (h4 : Cond.initialized "java/lang/System" ∈ lwg) (ha : a < 233) (hb0 : b < 233) (hka : kd a = 10) (hkb : kd b = 10) (g1 : ¬ sp < 0) (g2 : ¬ dp < 0) (g3 : ¬ n < 0) (g4 : sp.toNatClampNeg + n.toNatClampNeg ≤ ln a) (g5 : dp.toNatClampNeg + n.toNatClampNeg ≤ ln b) (hf : 1 ≤ fr) (hlo : (st.map fun v => v.category).sum + (nativeFrameWords "java/lang/System" "arraycopy" 5 + 11) ≤ lo) (hd : decode cc pc = .ok (.invokestatic i, 3)) (kk : V w G (pc + 3) lv st (upr M b (va_cpy (M a) (M b) sp.toNatClampNeg dp.toNatClampNeg n.toNatClampNeg))) : V w G pc lv (.int n :: .int dp :: .ref (w.2.1 b) :: .int sp :: .ref (w.2.1 a) :: st) M := by
  obtain ⟨p, l, e, R, s, m, args, below, meth, c, Q, nL, cells, slots⟩ := G
  obtain ⟨hx, hb, hml, hown, hts, hy, hRf, hRl, hRc, hRs⟩ := C
  intro H locs ls hP hS hl
  refine va_copyi hx hb (by rw [hml]; exact hl.1.symm) hown (hts _ h1) (hts _ h2) (hts _ h3) (hts _ h4) hy.1 hP (hy.D M) hS a b 0 0 (wl_at ha hka rfl) (wl_at hb0 hkb rfl) rfl rfl rfl g1 g2 g3 g4 g5 (fun _ _ => rfl) (by rw [hRf]; exact hf) (by rw [hRl]; exact hlo) hd (fun H1 locs1 hP1 _ hS1 => ?_)
  rw [wl_set (M' := upr M b (va_cpy (M a) (M b) sp.toNatClampNeg dp.toNatClampNeg n.toNatClampNeg)) hb0 (by rw [en_k hkb, upr_s]; rfl) (fun j hj => upr_o hj)] at hP1
  exact kk H1 locs1 ls hP1 hS1 hl
theorem gl_code {x : Cond} (h : x ∈ lwg) : GoodIn lwg (x :: lwg) := fun z hz => by rcases List.mem_cons.mp hz with rfl | hz; exact gl _ h; exact gl _ hz
theorem cy_pre {w : Wx} {s : State} {H : Heap} {locs : List Loc} {M : Mem} {av : List Value} (hy : Cy w s s.heap) (hS : va_S (AA w) s.heap H locs) (hP : va_P w.1 vwCl (wl w M) H) : ∀ U : State, U.heap = H → s.WarmedH U.vm → va_Pc av (PB w M) av.toArray U := by
  intro U hU hW
  exact ⟨rfl, by rw [hU]; exact hP, hy.to hW (by rw [hU]; exact hS.2.1)⟩
theorem v_callI (C : Cx w G cc own fr lo) {y : MethodName} {yc : ByteArray} {mL n idx fr' lo' k ci : Nat} {ret : Option FieldType} {As : List Value} (rest : List Value) {r : Int32} {M' : Mem} {q : vw_C} {fs : List Value} (hM : CtI w G.2.1 y yc mL ret fr' lo' (.ref (w.2.1 k) :: As) M r M') (hY : Yk y yc mL n ret) (hli : Cond.methodLink own idx y ∈ lwg) (hk : k < 233) (he : en w M k = .inr (ci, fs)) (hc : vwCl[ci]? = some q) (hq : q.1 = y.cls) (hn : As.length = n) (hst : st = As.reverse ++ .ref (w.2.1 k) :: rest) (hrm : (rest.map fun v => v.category).sum ≤ 8) (hR : fr' + 1 ≤ fr ∧ 8 + (mL + 11) + lo' ≤ lo) (hd : decode cc pc = .ok (.invokevirtual idx, 3)) (kk : V w G (pc + 3) lv (.int r :: rest) M') : V w G pc lv st M := by
  obtain ⟨p, l, e, R, s, m, args, below, meth, c, Q, nL, cells, slots⟩ := G
  obtain ⟨hx, hb, hml, hown, hts, hy, hRf, hRl, hRc, hRs⟩ := C
  intro H locs ls hP hS hl
  subst hst
  have cw : CallW R s args own y.cls idx y yc mL ret (Cond.code y yc mL ret :: lwg) ({ frames := fr', cells := 0, slots := 0, locals := lo' } : Room) 0 0 n := ⟨callB_of n hts (gl_code hY.2.2.1) rfl rfl rfl (hts _ hY.2.1) (hts _ hli) hY.2.2.2 ⟨by rw [hRf]; exact hR.1, by rw [hRl]; exact hR.2⟩, hts _ hY.1.1, hts _ hY.1.2⟩
  have hrc := va_recv hy.1 hP hc (show (wl w M)[k]? = some (w.2.1 k, .inr (ci, fs)) by rw [wl_get w M hk, he])
  rw [hq] at hrc
  refine va_calli (va_runV (As := As) (rest := rest) ⟨hx, hb, hml, hown, hts⟩ hM cw ⟨PB_blind, hrc, cy_pre hy hS hP⟩ rfl hn hl.1 rfl (lv_room hrm) hd ⟨hRc, hRs⟩) hS (fun _ _ h => h) (fun _ h => h) (fun r1 u t H1 locs1 ht hvm hw hB hz1 hk1 hS1 => ?_)
  obtain ⟨rfl, rfl⟩ := hw
  rw [ht] at hB
  exact kk H1 locs1 ls hB hS1 hl
theorem v_callSI (C : Cx w G cc own fr lo) {y : MethodName} {yc : ByteArray} {mL n idx fr' lo' : Nat} {ret : Option FieldType} {As : List Value} (rest : List Value) {r : Int32} {M' : Mem} (hM : CtI w G.2.1 y yc mL ret fr' lo' As M r M') (hY : Ys y yc mL n ret) (hli : Cond.methodLink own idx y ∈ lwg) (hn : As.length = n) (hst : st = As.reverse ++ rest) (hrm : (rest.map fun v => v.category).sum ≤ 8) (hR : fr' + 1 ≤ fr ∧ 8 + (mL + 11) + lo' ≤ lo) (hd : decode cc pc = .ok (.invokestatic idx, 3)) (kk : V w G (pc + 3) lv (.int r :: rest) M') : V w G pc lv st M := by
  obtain ⟨p, l, e, R, s, m, args, below, meth, c, Q, nL, cells, slots⟩ := G
  obtain ⟨hx, hb, hml, hown, hts, hy, hRf, hRl, hRc, hRs⟩ := C
  intro H locs ls hP hS hl
  subst hst
  have cw : CallB R s args own idx y yc mL ret (Cond.code y yc mL ret :: lwg) ({ frames := fr', cells := 0, slots := 0, locals := lo' } : Room) 0 0 n ∧ (Cond.static y).before args s = true := ⟨callB_of n hts (gl_code hY.2.2.1) rfl rfl rfl (hts _ hY.2.1) (hts _ hli) hY.2.2.2 ⟨by rw [hRf]; exact hR.1, by rw [hRl]; exact hR.2⟩, hts _ hY.1⟩
  refine va_calli (va_runS (As := As) (rest := rest) ⟨hx, hb, hml, hown, hts⟩ hM cw ⟨PB_blind, cy_pre hy hS hP⟩ rfl hn hl.1 rfl (lv_room hrm) hd ⟨hRc, hRs⟩) hS (fun _ _ h => h) (fun _ h => h) (fun r1 u t H1 locs1 ht hvm hw hB hz1 hk1 hS1 => ?_)
  obtain ⟨rfl, rfl⟩ := hw
  rw [ht] at hB
  exact kk H1 locs1 ls hB hS1 hl
theorem v_callNI (C : Cx w G cc own fr lo) {y : MethodName} {yc : ByteArray} {mL n idx fr' lo' : Nat} {ret : Option FieldType} {As : List Value} (rest : List Value) {r : Int32} {M' : Mem} (hM : CtI w G.2.1 y yc mL ret fr' lo' As M r M') (hY : Ys y yc mL n ret) {host : String} (hli : Cond.methodLinkNest own idx y host ∈ nws) (hn : As.length = n) (hst : st = As.reverse ++ rest) (hrm : (rest.map fun v => v.category).sum ≤ 8) (hR : fr' + 1 ≤ fr ∧ 8 + (mL + 11) + lo' ≤ lo) (hd : decode cc pc = .ok (.invokestatic idx, 3)) (kk : V w G (pc + 3) lv (.int r :: rest) M') : V w G pc lv st M := by
  obtain ⟨p, l, e, R, s, m, args, below, meth, c, Q, nL, cells, slots⟩ := G
  obtain ⟨hx, hb, hml, hown, hts, hy, hRf, hRl, hRc, hRs⟩ := C
  intro H locs ls hP hS hl
  subst hst
  have cw := va_cnB (R := R) (s := s) (args := args) (own := own) (host := host) (index := idx) (mc := 0) (ms := 0) (rm := { frames := fr', cells := 0, slots := 0, locals := lo' }) n hts (gl_code hY.2.2.1) rfl rfl rfl (hy.2.2.2.2 _ hli) (hts _ hY.2.1) hY.2.2.2 ⟨by rw [hRf]; exact hR.1, by rw [hRl]; exact hR.2⟩
  refine va_calli (va_runSN (As := As) (rest := rest) ⟨hx, hb, hml, hown, hts⟩ hM ⟨cw, hts _ hY.1, trivial⟩ ⟨PB_blind, cy_pre hy hS hP⟩ rfl hn hl.1 rfl (lv_room hrm) hd ⟨hRc, hRs⟩) hS (fun _ _ h => h) (fun _ h => h) (fun r1 u t H1 locs1 ht hvm hw hB hz1 hk1 hS1 => ?_)
  obtain ⟨rfl, rfl⟩ := hw
  rw [ht] at hB
  exact kk H1 locs1 ls hB hS1 hl
theorem v_callV (C : Cx w G cc own fr lo) {y : MethodName} {yc : ByteArray} {mL n idx fr' lo' k ci : Nat} {ret : Option FieldType} {As : List Value} (rest : List Value) {M' : Mem} {q : vw_C} {fs : List Value} (hM : CtV w G.2.1 y yc mL ret fr' lo' (.ref (w.2.1 k) :: As) M M') (hY : Yk y yc mL n ret) (hli : Cond.methodLink own idx y ∈ lwg) (hk : k < 233) (he : en w M k = .inr (ci, fs)) (hc : vwCl[ci]? = some q) (hq : q.1 = y.cls) (hn : As.length = n) (hst : st = As.reverse ++ .ref (w.2.1 k) :: rest) (hrm : (rest.map fun v => v.category).sum ≤ 8) (hR : fr' + 1 ≤ fr ∧ 8 + (mL + 11) + lo' ≤ lo) (hd : decode cc pc = .ok (.invokevirtual idx, 3)) (kk : V w G (pc + 3) lv (rest) M') : V w G pc lv st M := by
  obtain ⟨p, l, e, R, s, m, args, below, meth, c, Q, nL, cells, slots⟩ := G
  obtain ⟨hx, hb, hml, hown, hts, hy, hRf, hRl, hRc, hRs⟩ := C
  intro H locs ls hP hS hl
  subst hst
  have cw : CallW R s args own y.cls idx y yc mL ret (Cond.code y yc mL ret :: lwg) ({ frames := fr', cells := 0, slots := 0, locals := lo' } : Room) 0 0 n := ⟨callB_of n hts (gl_code hY.2.2.1) rfl rfl rfl (hts _ hY.2.1) (hts _ hli) hY.2.2.2 ⟨by rw [hRf]; exact hR.1, by rw [hRl]; exact hR.2⟩, hts _ hY.1.1, hts _ hY.1.2⟩
  have hrc := va_recv hy.1 hP hc (show (wl w M)[k]? = some (w.2.1 k, .inr (ci, fs)) by rw [wl_get w M hk, he])
  rw [hq] at hrc
  refine va_callv (va_runV (As := As) (rest := rest) ⟨hx, hb, hml, hown, hts⟩ hM cw ⟨PB_blind, hrc, cy_pre hy hS hP⟩ rfl hn hl.1 rfl (lv_room hrm) hd ⟨hRc, hRs⟩) hS (fun _ _ h => h) (fun _ h => h) (fun u t H1 locs1 ht hvm hw hB hz1 hk1 hS1 => ?_)
  subst hw
  rw [ht] at hB
  exact kk H1 locs1 ls hB hS1 hl
theorem v_callSV (C : Cx w G cc own fr lo) {y : MethodName} {yc : ByteArray} {mL n idx fr' lo' : Nat} {ret : Option FieldType} {As : List Value} (rest : List Value) {M' : Mem} (hM : CtV w G.2.1 y yc mL ret fr' lo' As M M') (hY : Ys y yc mL n ret) (hli : Cond.methodLink own idx y ∈ lwg) (hn : As.length = n) (hst : st = As.reverse ++ rest) (hrm : (rest.map fun v => v.category).sum ≤ 8) (hR : fr' + 1 ≤ fr ∧ 8 + (mL + 11) + lo' ≤ lo) (hd : decode cc pc = .ok (.invokestatic idx, 3)) (kk : V w G (pc + 3) lv (rest) M') : V w G pc lv st M := by
  obtain ⟨p, l, e, R, s, m, args, below, meth, c, Q, nL, cells, slots⟩ := G
  obtain ⟨hx, hb, hml, hown, hts, hy, hRf, hRl, hRc, hRs⟩ := C
  intro H locs ls hP hS hl
  subst hst
  have cw : CallB R s args own idx y yc mL ret (Cond.code y yc mL ret :: lwg) ({ frames := fr', cells := 0, slots := 0, locals := lo' } : Room) 0 0 n ∧ (Cond.static y).before args s = true := ⟨callB_of n hts (gl_code hY.2.2.1) rfl rfl rfl (hts _ hY.2.1) (hts _ hli) hY.2.2.2 ⟨by rw [hRf]; exact hR.1, by rw [hRl]; exact hR.2⟩, hts _ hY.1⟩
  refine va_callv (va_runS (As := As) (rest := rest) ⟨hx, hb, hml, hown, hts⟩ hM cw ⟨PB_blind, cy_pre hy hS hP⟩ rfl hn hl.1 rfl (lv_room hrm) hd ⟨hRc, hRs⟩) hS (fun _ _ h => h) (fun _ h => h) (fun u t H1 locs1 ht hvm hw hB hz1 hk1 hS1 => ?_)
  subst hw
  rw [ht] at hB
  exact kk H1 locs1 ls hB hS1 hl
theorem v_callNV (C : Cx w G cc own fr lo) {y : MethodName} {yc : ByteArray} {mL n idx fr' lo' : Nat} {ret : Option FieldType} {As : List Value} (rest : List Value) {M' : Mem} (hM : CtV w G.2.1 y yc mL ret fr' lo' As M M') (hY : Ys y yc mL n ret) {host : String} (hli : Cond.methodLinkNest own idx y host ∈ nws) (hn : As.length = n) (hst : st = As.reverse ++ rest) (hrm : (rest.map fun v => v.category).sum ≤ 8) (hR : fr' + 1 ≤ fr ∧ 8 + (mL + 11) + lo' ≤ lo) (hd : decode cc pc = .ok (.invokestatic idx, 3)) (kk : V w G (pc + 3) lv (rest) M') : V w G pc lv st M := by
  obtain ⟨p, l, e, R, s, m, args, below, meth, c, Q, nL, cells, slots⟩ := G
  obtain ⟨hx, hb, hml, hown, hts, hy, hRf, hRl, hRc, hRs⟩ := C
  intro H locs ls hP hS hl
  subst hst
  have cw := va_cnB (R := R) (s := s) (args := args) (own := own) (host := host) (index := idx) (mc := 0) (ms := 0) (rm := { frames := fr', cells := 0, slots := 0, locals := lo' }) n hts (gl_code hY.2.2.1) rfl rfl rfl (hy.2.2.2.2 _ hli) (hts _ hY.2.1) hY.2.2.2 ⟨by rw [hRf]; exact hR.1, by rw [hRl]; exact hR.2⟩
  refine va_callv (va_runSN (As := As) (rest := rest) ⟨hx, hb, hml, hown, hts⟩ hM ⟨cw, hts _ hY.1, trivial⟩ ⟨PB_blind, cy_pre hy hS hP⟩ rfl hn hl.1 rfl (lv_room hrm) hd ⟨hRc, hRs⟩) hS (fun _ _ h => h) (fun _ h => h) (fun u t H1 locs1 ht hvm hw hB hz1 hk1 hS1 => ?_)
  subst hw
  rw [ht] at hB
  exact kk H1 locs1 ls hB hS1 hl
end
end
