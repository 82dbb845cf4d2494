section
-- ===== PART A: goes FIRST, ahead of the names: the tables' words, and 'selects' of the private methods out of them =====
/-- a private method of a class that the tables say can be made, by its rows of tables_1 -/
def lw_okq (q : MethodName × Nat) : Prop := (q.1.cls ≠ "java/lang/invoke/MethodHandle" ∧ q.1.cls ≠ "java/lang/invoke/VarHandle") ∧ Cond.instantiable q.1.cls q.2 ∈ tables_1 ∧ Cond.privateMethod q.1 ∈ tables_1 ∧ Cond.instanceMethod q.1 ∈ tables_1
theorem lw_p0 : lw_okq (⟨"TileWordBoard", "hashDictionary", "(J)J"⟩, 5) := ⟨⟨by decide +kernel, by decide +kernel⟩, List.mem_of_getElem? (i := 22) (by decide +kernel), List.mem_of_getElem? (i := 209) (by decide +kernel), List.mem_of_getElem? (i := 210) (by decide +kernel)⟩
theorem lw_p1 : lw_okq (⟨"TileWordBoard$Rules", "lengthsThatMayFit", "(I)I"⟩, 1) := ⟨⟨by decide +kernel, by decide +kernel⟩, List.mem_of_getElem? (i := 90) (by decide +kernel), List.mem_of_getElem? (i := 268) (by decide +kernel), List.mem_of_getElem? (i := 269) (by decide +kernel)⟩
theorem lw_p2 : lw_okq (⟨"TileWordBoard$Rules", "isConnected", "(II)Z"⟩, 1) := ⟨⟨by decide +kernel, by decide +kernel⟩, List.mem_of_getElem? (i := 90) (by decide +kernel), List.mem_of_getElem? (i := 284) (by decide +kernel), List.mem_of_getElem? (i := 285) (by decide +kernel)⟩
theorem lw_p3 : lw_okq (⟨"TileWordBoard$Rules", "touchesTileAtAnEnd", "(II)Z"⟩, 1) := ⟨⟨by decide +kernel, by decide +kernel⟩, List.mem_of_getElem? (i := 90) (by decide +kernel), List.mem_of_getElem? (i := 299) (by decide +kernel), List.mem_of_getElem? (i := 300) (by decide +kernel)⟩
theorem lw_p4 : lw_okq (⟨"TileWordBoard$Rules", "agreesWithTiles", "(II)Z"⟩, 1) := ⟨⟨by decide +kernel, by decide +kernel⟩, List.mem_of_getElem? (i := 90) (by decide +kernel), List.mem_of_getElem? (i := 316) (by decide +kernel), List.mem_of_getElem? (i := 317) (by decide +kernel)⟩
theorem lw_p5 : lw_okq (⟨"TileWordBoard$Rules", "hasEmptySquare", "(II)Z"⟩, 1) := ⟨⟨by decide +kernel, by decide +kernel⟩, List.mem_of_getElem? (i := 90) (by decide +kernel), List.mem_of_getElem? (i := 322) (by decide +kernel), List.mem_of_getElem? (i := 323) (by decide +kernel)⟩
theorem lw_p6 : lw_okq (⟨"TileWordBoard$Rules", "rackAfter", "(III)I"⟩, 1) := ⟨⟨by decide +kernel, by decide +kernel⟩, List.mem_of_getElem? (i := 90) (by decide +kernel), List.mem_of_getElem? (i := 328) (by decide +kernel), List.mem_of_getElem? (i := 329) (by decide +kernel)⟩
theorem lw_p7 : lw_okq (⟨"TileWordBoard$Rules", "crossWordsAreWords", "(II)Z"⟩, 1) := ⟨⟨by decide +kernel, by decide +kernel⟩, List.mem_of_getElem? (i := 90) (by decide +kernel), List.mem_of_getElem? (i := 339) (by decide +kernel), List.mem_of_getElem? (i := 340) (by decide +kernel)⟩
theorem lw_p8 : lw_okq (⟨"TileWordBoard$Rules", "mayStand", "(I)Z"⟩, 1) := ⟨⟨by decide +kernel, by decide +kernel⟩, List.mem_of_getElem? (i := 90) (by decide +kernel), List.mem_of_getElem? (i := 351) (by decide +kernel), List.mem_of_getElem? (i := 352) (by decide +kernel)⟩
theorem lw_p9 : lw_okq (⟨"java/lang/Throwable", "fillInStackTrace", "(I)Ljava/lang/Throwable;"⟩, 6) := ⟨⟨by decide +kernel, by decide +kernel⟩, List.mem_of_getElem? (i := 415) (by decide +kernel), List.mem_of_getElem? (i := 413) (by decide +kernel), List.mem_of_getElem? (i := 414) (by decide +kernel)⟩
theorem lw_p10 : lw_okq (⟨"TileWordBoard$History", "placeOf", "(I)I"⟩, 3) := ⟨⟨by decide +kernel, by decide +kernel⟩, List.mem_of_getElem? (i := 116) (by decide +kernel), List.mem_of_getElem? (i := 479) (by decide +kernel), List.mem_of_getElem? (i := 480) (by decide +kernel)⟩
theorem lw_p11 : lw_okq (⟨"TileWordBoard", "makePlay", "(II)I"⟩, 5) := ⟨⟨by decide +kernel, by decide +kernel⟩, List.mem_of_getElem? (i := 22) (by decide +kernel), List.mem_of_getElem? (i := 653) (by decide +kernel), List.mem_of_getElem? (i := 654) (by decide +kernel)⟩
theorem lw_p12 : lw_okq (⟨"TileWordBoard$Rules", "extraOf", "(II)I"⟩, 1) := ⟨⟨by decide +kernel, by decide +kernel⟩, List.mem_of_getElem? (i := 90) (by decide +kernel), List.mem_of_getElem? (i := 669) (by decide +kernel), List.mem_of_getElem? (i := 670) (by decide +kernel)⟩
theorem lw_p13 : lw_okq (⟨"TileWordBoard$Rules", "crossPointsOf", "(III)I"⟩, 1) := ⟨⟨by decide +kernel, by decide +kernel⟩, List.mem_of_getElem? (i := 90) (by decide +kernel), List.mem_of_getElem? (i := 677) (by decide +kernel), List.mem_of_getElem? (i := 678) (by decide +kernel)⟩
theorem lw_p14 : lw_okq (⟨"TileWordBoard$Endgame", "bestDifference", "(III)I"⟩, 3) := ⟨⟨by decide +kernel, by decide +kernel⟩, List.mem_of_getElem? (i := 100) (by decide +kernel), List.mem_of_getElem? (i := 759) (by decide +kernel), List.mem_of_getElem? (i := 760) (by decide +kernel)⟩
theorem lw_p15 : lw_okq (⟨"TileWordBoard$Endgame", "hasEnded", "(I)Z"⟩, 3) := ⟨⟨by decide +kernel, by decide +kernel⟩, List.mem_of_getElem? (i := 100) (by decide +kernel), List.mem_of_getElem? (i := 767) (by decide +kernel), List.mem_of_getElem? (i := 768) (by decide +kernel)⟩
def lw_privs_1 : List (MethodName × Nat) := [(⟨"TileWordBoard", "hashDictionary", "(J)J"⟩, 5), (⟨"TileWordBoard$Rules", "lengthsThatMayFit", "(I)I"⟩, 1), (⟨"TileWordBoard$Rules", "isConnected", "(II)Z"⟩, 1), (⟨"TileWordBoard$Rules", "touchesTileAtAnEnd", "(II)Z"⟩, 1), (⟨"TileWordBoard$Rules", "agreesWithTiles", "(II)Z"⟩, 1), (⟨"TileWordBoard$Rules", "hasEmptySquare", "(II)Z"⟩, 1), (⟨"TileWordBoard$Rules", "rackAfter", "(III)I"⟩, 1), (⟨"TileWordBoard$Rules", "crossWordsAreWords", "(II)Z"⟩, 1), (⟨"TileWordBoard$Rules", "mayStand", "(I)Z"⟩, 1), (⟨"java/lang/Throwable", "fillInStackTrace", "(I)Ljava/lang/Throwable;"⟩, 6), (⟨"TileWordBoard$History", "placeOf", "(I)I"⟩, 3), (⟨"TileWordBoard", "makePlay", "(II)I"⟩, 5), (⟨"TileWordBoard$Rules", "extraOf", "(II)I"⟩, 1), (⟨"TileWordBoard$Rules", "crossPointsOf", "(III)I"⟩, 1), (⟨"TileWordBoard$Endgame", "bestDifference", "(III)I"⟩, 3), (⟨"TileWordBoard$Endgame", "hasEnded", "(I)Z"⟩, 3)]
theorem lw_r1 : ∀ q ∈ lw_privs_1, lw_okq q := List.forall_mem_cons.mpr ⟨lw_p0, List.forall_mem_cons.mpr ⟨lw_p1, List.forall_mem_cons.mpr ⟨lw_p2, List.forall_mem_cons.mpr ⟨lw_p3, List.forall_mem_cons.mpr ⟨lw_p4, List.forall_mem_cons.mpr ⟨lw_p5, List.forall_mem_cons.mpr ⟨lw_p6, List.forall_mem_cons.mpr ⟨lw_p7, List.forall_mem_cons.mpr ⟨lw_p8, List.forall_mem_cons.mpr ⟨lw_p9, List.forall_mem_cons.mpr ⟨lw_p10, List.forall_mem_cons.mpr ⟨lw_p11, List.forall_mem_cons.mpr ⟨lw_p12, List.forall_mem_cons.mpr ⟨lw_p13, List.forall_mem_cons.mpr ⟨lw_p14, List.forall_mem_cons.mpr ⟨lw_p15, fun _ h => absurd h List.not_mem_nil⟩⟩⟩⟩⟩⟩⟩⟩⟩⟩⟩⟩⟩⟩⟩⟩
theorem lw_p16 : lw_okq (⟨"TileWordBoard$Endgame", "isOut", "(I)Z"⟩, 3) := ⟨⟨by decide +kernel, by decide +kernel⟩, List.mem_of_getElem? (i := 100) (by decide +kernel), List.mem_of_getElem? (i := 771) (by decide +kernel), List.mem_of_getElem? (i := 772) (by decide +kernel)⟩
theorem lw_p17 : lw_okq (⟨"TileWordBoard$Endgame", "finalDifference", "(I)I"⟩, 3) := ⟨⟨by decide +kernel, by decide +kernel⟩, List.mem_of_getElem? (i := 100) (by decide +kernel), List.mem_of_getElem? (i := 776) (by decide +kernel), List.mem_of_getElem? (i := 777) (by decide +kernel)⟩
theorem lw_p18 : lw_okq (⟨"TileWordBoard$Endgame", "afterPass", "(III)I"⟩, 3) := ⟨⟨by decide +kernel, by decide +kernel⟩, List.mem_of_getElem? (i := 100) (by decide +kernel), List.mem_of_getElem? (i := 785) (by decide +kernel), List.mem_of_getElem? (i := 786) (by decide +kernel)⟩
theorem lw_p19 : lw_okq (⟨"TileWordBoard$Endgame", "afterPlay", "(III)I"⟩, 3) := ⟨⟨by decide +kernel, by decide +kernel⟩, List.mem_of_getElem? (i := 100) (by decide +kernel), List.mem_of_getElem? (i := 791) (by decide +kernel), List.mem_of_getElem? (i := 792) (by decide +kernel)⟩
theorem lw_p20 : lw_okq (⟨"TileWordBoardModel", "goes", "(ZZZ)Z"⟩, 25) := ⟨⟨by decide +kernel, by decide +kernel⟩, List.mem_of_getElem? (i := 816) (by decide +kernel), List.mem_of_getElem? (i := 913) (by decide +kernel), List.mem_of_getElem? (i := 914) (by decide +kernel)⟩
theorem lw_p21 : lw_okq (⟨"TileWordBoardModel", "save", "()V"⟩, 25) := ⟨⟨by decide +kernel, by decide +kernel⟩, List.mem_of_getElem? (i := 816) (by decide +kernel), List.mem_of_getElem? (i := 925) (by decide +kernel), List.mem_of_getElem? (i := 926) (by decide +kernel)⟩
theorem lw_p22 : lw_okq (⟨"TileWordBoardModel", "takesText", "()V"⟩, 25) := ⟨⟨by decide +kernel, by decide +kernel⟩, List.mem_of_getElem? (i := 816) (by decide +kernel), List.mem_of_getElem? (i := 929) (by decide +kernel), List.mem_of_getElem? (i := 930) (by decide +kernel)⟩
theorem lw_p23 : lw_okq (⟨"TileWordBoardModel", "foundAt", "()I"⟩, 25) := ⟨⟨by decide +kernel, by decide +kernel⟩, List.mem_of_getElem? (i := 816) (by decide +kernel), List.mem_of_getElem? (i := 933) (by decide +kernel), List.mem_of_getElem? (i := 934) (by decide +kernel)⟩
theorem lw_p24 : lw_okq (⟨"TileWordBoardModel", "against", "(I)I"⟩, 25) := ⟨⟨by decide +kernel, by decide +kernel⟩, List.mem_of_getElem? (i := 816) (by decide +kernel), List.mem_of_getElem? (i := 937) (by decide +kernel), List.mem_of_getElem? (i := 938) (by decide +kernel)⟩
theorem lw_p25 : lw_okq (⟨"TileWordBoardModel", "laysNow", "()V"⟩, 25) := ⟨⟨by decide +kernel, by decide +kernel⟩, List.mem_of_getElem? (i := 816) (by decide +kernel), List.mem_of_getElem? (i := 988) (by decide +kernel), List.mem_of_getElem? (i := 989) (by decide +kernel)⟩
theorem lw_p26 : lw_okq (⟨"TileWordBoardModel", "hasTile", "(II)Z"⟩, 25) := ⟨⟨by decide +kernel, by decide +kernel⟩, List.mem_of_getElem? (i := 816) (by decide +kernel), List.mem_of_getElem? (i := 992) (by decide +kernel), List.mem_of_getElem? (i := 993) (by decide +kernel)⟩
theorem lw_p27 : lw_okq (⟨"TileWordBoardModel", "crossOf", "(III)I"⟩, 25) := ⟨⟨by decide +kernel, by decide +kernel⟩, List.mem_of_getElem? (i := 816) (by decide +kernel), List.mem_of_getElem? (i := 996) (by decide +kernel), List.mem_of_getElem? (i := 997) (by decide +kernel)⟩
theorem lw_p28 : lw_okq (⟨"TileWordBoardModel", "findsCross", "(III)V"⟩, 25) := ⟨⟨by decide +kernel, by decide +kernel⟩, List.mem_of_getElem? (i := 816) (by decide +kernel), List.mem_of_getElem? (i := 1000) (by decide +kernel), List.mem_of_getElem? (i := 1001) (by decide +kernel)⟩
theorem lw_p29 : lw_okq (⟨"TileWordBoardModel", "takesCross", "(II)V"⟩, 25) := ⟨⟨by decide +kernel, by decide +kernel⟩, List.mem_of_getElem? (i := 816) (by decide +kernel), List.mem_of_getElem? (i := 1004) (by decide +kernel), List.mem_of_getElem? (i := 1005) (by decide +kernel)⟩
theorem lw_p30 : lw_okq (⟨"TileWordBoardModel", "anchorsNow", "()I"⟩, 25) := ⟨⟨by decide +kernel, by decide +kernel⟩, List.mem_of_getElem? (i := 816) (by decide +kernel), List.mem_of_getElem? (i := 1012) (by decide +kernel), List.mem_of_getElem? (i := 1013) (by decide +kernel)⟩
theorem lw_p31 : lw_okq (⟨"TileWordBoardModel", "isAnchorNow", "(II)Z"⟩, 25) := ⟨⟨by decide +kernel, by decide +kernel⟩, List.mem_of_getElem? (i := 816) (by decide +kernel), List.mem_of_getElem? (i := 1016) (by decide +kernel), List.mem_of_getElem? (i := 1017) (by decide +kernel)⟩
def lw_privs_2 : List (MethodName × Nat) := [(⟨"TileWordBoard$Endgame", "isOut", "(I)Z"⟩, 3), (⟨"TileWordBoard$Endgame", "finalDifference", "(I)I"⟩, 3), (⟨"TileWordBoard$Endgame", "afterPass", "(III)I"⟩, 3), (⟨"TileWordBoard$Endgame", "afterPlay", "(III)I"⟩, 3), (⟨"TileWordBoardModel", "goes", "(ZZZ)Z"⟩, 25), (⟨"TileWordBoardModel", "save", "()V"⟩, 25), (⟨"TileWordBoardModel", "takesText", "()V"⟩, 25), (⟨"TileWordBoardModel", "foundAt", "()I"⟩, 25), (⟨"TileWordBoardModel", "against", "(I)I"⟩, 25), (⟨"TileWordBoardModel", "laysNow", "()V"⟩, 25), (⟨"TileWordBoardModel", "hasTile", "(II)Z"⟩, 25), (⟨"TileWordBoardModel", "crossOf", "(III)I"⟩, 25), (⟨"TileWordBoardModel", "findsCross", "(III)V"⟩, 25), (⟨"TileWordBoardModel", "takesCross", "(II)V"⟩, 25), (⟨"TileWordBoardModel", "anchorsNow", "()I"⟩, 25), (⟨"TileWordBoardModel", "isAnchorNow", "(II)Z"⟩, 25)]
theorem lw_r2 : ∀ q ∈ lw_privs_2, lw_okq q := List.forall_mem_cons.mpr ⟨lw_p16, List.forall_mem_cons.mpr ⟨lw_p17, List.forall_mem_cons.mpr ⟨lw_p18, List.forall_mem_cons.mpr ⟨lw_p19, List.forall_mem_cons.mpr ⟨lw_p20, List.forall_mem_cons.mpr ⟨lw_p21, List.forall_mem_cons.mpr ⟨lw_p22, List.forall_mem_cons.mpr ⟨lw_p23, List.forall_mem_cons.mpr ⟨lw_p24, List.forall_mem_cons.mpr ⟨lw_p25, List.forall_mem_cons.mpr ⟨lw_p26, List.forall_mem_cons.mpr ⟨lw_p27, List.forall_mem_cons.mpr ⟨lw_p28, List.forall_mem_cons.mpr ⟨lw_p29, List.forall_mem_cons.mpr ⟨lw_p30, List.forall_mem_cons.mpr ⟨lw_p31, fun _ h => absurd h List.not_mem_nil⟩⟩⟩⟩⟩⟩⟩⟩⟩⟩⟩⟩⟩⟩⟩⟩
theorem lw_p32 : lw_okq (⟨"TileWordBoardModel", "isBare", "()Z"⟩, 25) := ⟨⟨by decide +kernel, by decide +kernel⟩, List.mem_of_getElem? (i := 816) (by decide +kernel), List.mem_of_getElem? (i := 1020) (by decide +kernel), List.mem_of_getElem? (i := 1021) (by decide +kernel)⟩
theorem lw_p33 : lw_okq (⟨"TileWordBoardModel", "reason", "(IIII)I"⟩, 25) := ⟨⟨by decide +kernel, by decide +kernel⟩, List.mem_of_getElem? (i := 816) (by decide +kernel), List.mem_of_getElem? (i := 1032) (by decide +kernel), List.mem_of_getElem? (i := 1033) (by decide +kernel)⟩
theorem lw_p34 : lw_okq (⟨"TileWordBoardModel", "laysWord", "()V"⟩, 25) := ⟨⟨by decide +kernel, by decide +kernel⟩, List.mem_of_getElem? (i := 816) (by decide +kernel), List.mem_of_getElem? (i := 1036) (by decide +kernel), List.mem_of_getElem? (i := 1037) (by decide +kernel)⟩
theorem lw_p35 : lw_okq (⟨"TileWordBoardModel", "coversCentre", "(III)Z"⟩, 25) := ⟨⟨by decide +kernel, by decide +kernel⟩, List.mem_of_getElem? (i := 816) (by decide +kernel), List.mem_of_getElem? (i := 1043) (by decide +kernel), List.mem_of_getElem? (i := 1044) (by decide +kernel)⟩
theorem lw_p36 : lw_okq (⟨"TileWordBoardModel", "isTouching", "(III)Z"⟩, 25) := ⟨⟨by decide +kernel, by decide +kernel⟩, List.mem_of_getElem? (i := 816) (by decide +kernel), List.mem_of_getElem? (i := 1047) (by decide +kernel), List.mem_of_getElem? (i := 1048) (by decide +kernel)⟩
theorem lw_p37 : lw_okq (⟨"TileWordBoardModel", "makes", "(IIII)I"⟩, 25) := ⟨⟨by decide +kernel, by decide +kernel⟩, List.mem_of_getElem? (i := 816) (by decide +kernel), List.mem_of_getElem? (i := 1055) (by decide +kernel), List.mem_of_getElem? (i := 1056) (by decide +kernel)⟩
theorem lw_p38 : lw_okq (⟨"TileWordBoardModel", "scoreOf", "(III)I"⟩, 25) := ⟨⟨by decide +kernel, by decide +kernel⟩, List.mem_of_getElem? (i := 816) (by decide +kernel), List.mem_of_getElem? (i := 1059) (by decide +kernel), List.mem_of_getElem? (i := 1060) (by decide +kernel)⟩
theorem lw_p39 : lw_okq (⟨"TileWordBoardModel", "crossPoints", "(II)I"⟩, 25) := ⟨⟨by decide +kernel, by decide +kernel⟩, List.mem_of_getElem? (i := 816) (by decide +kernel), List.mem_of_getElem? (i := 1069) (by decide +kernel), List.mem_of_getElem? (i := 1070) (by decide +kernel)⟩
theorem lw_p40 : lw_okq (⟨"TileWordBoardModel", "lays", "(IIII)V"⟩, 25) := ⟨⟨by decide +kernel, by decide +kernel⟩, List.mem_of_getElem? (i := 816) (by decide +kernel), List.mem_of_getElem? (i := 1073) (by decide +kernel), List.mem_of_getElem? (i := 1074) (by decide +kernel)⟩
theorem lw_p41 : lw_okq (⟨"TileWordBoardModel", "keepsBoard", "()V"⟩, 25) := ⟨⟨by decide +kernel, by decide +kernel⟩, List.mem_of_getElem? (i := 816) (by decide +kernel), List.mem_of_getElem? (i := 1077) (by decide +kernel), List.mem_of_getElem? (i := 1078) (by decide +kernel)⟩
theorem lw_p42 : lw_okq (⟨"TileWordBoardModel", "playsOf", "(I)I"⟩, 25) := ⟨⟨by decide +kernel, by decide +kernel⟩, List.mem_of_getElem? (i := 816) (by decide +kernel), List.mem_of_getElem? (i := 1085) (by decide +kernel), List.mem_of_getElem? (i := 1086) (by decide +kernel)⟩
theorem lw_p43 : lw_okq (⟨"TileWordBoardModel", "mayPlay", "(II)Z"⟩, 25) := ⟨⟨by decide +kernel, by decide +kernel⟩, List.mem_of_getElem? (i := 816) (by decide +kernel), List.mem_of_getElem? (i := 1089) (by decide +kernel), List.mem_of_getElem? (i := 1090) (by decide +kernel)⟩
theorem lw_p44 : lw_okq (⟨"TileWordBoardModel", "takesWord", "(I)V"⟩, 25) := ⟨⟨by decide +kernel, by decide +kernel⟩, List.mem_of_getElem? (i := 816) (by decide +kernel), List.mem_of_getElem? (i := 1093) (by decide +kernel), List.mem_of_getElem? (i := 1094) (by decide +kernel)⟩
theorem lw_p45 : lw_okq (⟨"TileWordBoardModel", "codeAt", "(II)I"⟩, 25) := ⟨⟨by decide +kernel, by decide +kernel⟩, List.mem_of_getElem? (i := 816) (by decide +kernel), List.mem_of_getElem? (i := 1101) (by decide +kernel), List.mem_of_getElem? (i := 1102) (by decide +kernel)⟩
theorem lw_p46 : lw_okq (⟨"TileWordBoardModel", "scoreBy", "(I)I"⟩, 25) := ⟨⟨by decide +kernel, by decide +kernel⟩, List.mem_of_getElem? (i := 816) (by decide +kernel), List.mem_of_getElem? (i := 1106) (by decide +kernel), List.mem_of_getElem? (i := 1107) (by decide +kernel)⟩
theorem lw_p47 : lw_okq (⟨"TileWordBoardModel", "leaveOf", "(I)I"⟩, 25) := ⟨⟨by decide +kernel, by decide +kernel⟩, List.mem_of_getElem? (i := 816) (by decide +kernel), List.mem_of_getElem? (i := 1110) (by decide +kernel), List.mem_of_getElem? (i := 1111) (by decide +kernel)⟩
def lw_privs_3 : List (MethodName × Nat) := [(⟨"TileWordBoardModel", "isBare", "()Z"⟩, 25), (⟨"TileWordBoardModel", "reason", "(IIII)I"⟩, 25), (⟨"TileWordBoardModel", "laysWord", "()V"⟩, 25), (⟨"TileWordBoardModel", "coversCentre", "(III)Z"⟩, 25), (⟨"TileWordBoardModel", "isTouching", "(III)Z"⟩, 25), (⟨"TileWordBoardModel", "makes", "(IIII)I"⟩, 25), (⟨"TileWordBoardModel", "scoreOf", "(III)I"⟩, 25), (⟨"TileWordBoardModel", "crossPoints", "(II)I"⟩, 25), (⟨"TileWordBoardModel", "lays", "(IIII)V"⟩, 25), (⟨"TileWordBoardModel", "keepsBoard", "()V"⟩, 25), (⟨"TileWordBoardModel", "playsOf", "(I)I"⟩, 25), (⟨"TileWordBoardModel", "mayPlay", "(II)Z"⟩, 25), (⟨"TileWordBoardModel", "takesWord", "(I)V"⟩, 25), (⟨"TileWordBoardModel", "codeAt", "(II)I"⟩, 25), (⟨"TileWordBoardModel", "scoreBy", "(I)I"⟩, 25), (⟨"TileWordBoardModel", "leaveOf", "(I)I"⟩, 25)]
theorem lw_r3 : ∀ q ∈ lw_privs_3, lw_okq q := List.forall_mem_cons.mpr ⟨lw_p32, List.forall_mem_cons.mpr ⟨lw_p33, List.forall_mem_cons.mpr ⟨lw_p34, List.forall_mem_cons.mpr ⟨lw_p35, List.forall_mem_cons.mpr ⟨lw_p36, List.forall_mem_cons.mpr ⟨lw_p37, List.forall_mem_cons.mpr ⟨lw_p38, List.forall_mem_cons.mpr ⟨lw_p39, List.forall_mem_cons.mpr ⟨lw_p40, List.forall_mem_cons.mpr ⟨lw_p41, List.forall_mem_cons.mpr ⟨lw_p42, List.forall_mem_cons.mpr ⟨lw_p43, List.forall_mem_cons.mpr ⟨lw_p44, List.forall_mem_cons.mpr ⟨lw_p45, List.forall_mem_cons.mpr ⟨lw_p46, List.forall_mem_cons.mpr ⟨lw_p47, fun _ h => absurd h List.not_mem_nil⟩⟩⟩⟩⟩⟩⟩⟩⟩⟩⟩⟩⟩⟩⟩⟩
theorem lw_p48 : lw_okq (⟨"TileWordBoardModel", "findsBest", "(I)V"⟩, 25) := ⟨⟨by decide +kernel, by decide +kernel⟩, List.mem_of_getElem? (i := 816) (by decide +kernel), List.mem_of_getElem? (i := 1118) (by decide +kernel), List.mem_of_getElem? (i := 1119) (by decide +kernel)⟩
theorem lw_p49 : lw_okq (⟨"TileWordBoardModel", "searched", "(I)I"⟩, 25) := ⟨⟨by decide +kernel, by decide +kernel⟩, List.mem_of_getElem? (i := 816) (by decide +kernel), List.mem_of_getElem? (i := 1130) (by decide +kernel), List.mem_of_getElem? (i := 1131) (by decide +kernel)⟩
theorem lw_p50 : lw_okq (⟨"TileWordBoardModel", "isOut", "(I)Z"⟩, 25) := ⟨⟨by decide +kernel, by decide +kernel⟩, List.mem_of_getElem? (i := 816) (by decide +kernel), List.mem_of_getElem? (i := 1134) (by decide +kernel), List.mem_of_getElem? (i := 1135) (by decide +kernel)⟩
theorem lw_p51 : lw_okq (⟨"TileWordBoardModel", "sumOn", "(I)I"⟩, 25) := ⟨⟨by decide +kernel, by decide +kernel⟩, List.mem_of_getElem? (i := 816) (by decide +kernel), List.mem_of_getElem? (i := 1138) (by decide +kernel), List.mem_of_getElem? (i := 1139) (by decide +kernel)⟩
theorem lw_p52 : lw_okq (⟨"TileWordBoardModel", "enters", "(III)V"⟩, 25) := ⟨⟨by decide +kernel, by decide +kernel⟩, List.mem_of_getElem? (i := 816) (by decide +kernel), List.mem_of_getElem? (i := 1142) (by decide +kernel), List.mem_of_getElem? (i := 1143) (by decide +kernel)⟩
theorem lw_p53 : lw_okq (⟨"TileWordBoardModel", "betters", "(II)V"⟩, 25) := ⟨⟨by decide +kernel, by decide +kernel⟩, List.mem_of_getElem? (i := 816) (by decide +kernel), List.mem_of_getElem? (i := 1147) (by decide +kernel), List.mem_of_getElem? (i := 1148) (by decide +kernel)⟩
theorem lw_p54 : lw_okq (⟨"TileWordBoardModel", "takesBack", "(I)V"⟩, 25) := ⟨⟨by decide +kernel, by decide +kernel⟩, List.mem_of_getElem? (i := 816) (by decide +kernel), List.mem_of_getElem? (i := 1151) (by decide +kernel), List.mem_of_getElem? (i := 1152) (by decide +kernel)⟩
theorem lw_p55 : lw_okq (⟨"TileWordBoardModel", "laysBy", "(II)V"⟩, 25) := ⟨⟨by decide +kernel, by decide +kernel⟩, List.mem_of_getElem? (i := 816) (by decide +kernel), List.mem_of_getElem? (i := 1155) (by decide +kernel), List.mem_of_getElem? (i := 1156) (by decide +kernel)⟩
def lw_privs_4 : List (MethodName × Nat) := [(⟨"TileWordBoardModel", "findsBest", "(I)V"⟩, 25), (⟨"TileWordBoardModel", "searched", "(I)I"⟩, 25), (⟨"TileWordBoardModel", "isOut", "(I)Z"⟩, 25), (⟨"TileWordBoardModel", "sumOn", "(I)I"⟩, 25), (⟨"TileWordBoardModel", "enters", "(III)V"⟩, 25), (⟨"TileWordBoardModel", "betters", "(II)V"⟩, 25), (⟨"TileWordBoardModel", "takesBack", "(I)V"⟩, 25), (⟨"TileWordBoardModel", "laysBy", "(II)V"⟩, 25)]
theorem lw_r4 : ∀ q ∈ lw_privs_4, lw_okq q := List.forall_mem_cons.mpr ⟨lw_p48, List.forall_mem_cons.mpr ⟨lw_p49, List.forall_mem_cons.mpr ⟨lw_p50, List.forall_mem_cons.mpr ⟨lw_p51, List.forall_mem_cons.mpr ⟨lw_p52, List.forall_mem_cons.mpr ⟨lw_p53, List.forall_mem_cons.mpr ⟨lw_p54, List.forall_mem_cons.mpr ⟨lw_p55, fun _ h => absurd h List.not_mem_nil⟩⟩⟩⟩⟩⟩⟩⟩
def lw_privs : List (MethodName × Nat) := lw_privs_1 ++ (lw_privs_2 ++ (lw_privs_3 ++ (lw_privs_4)))
def lw_tbl : List Cond := k2_sels lw_privs ++ tables_1
theorem lw_privs_ok : ∀ q ∈ lw_privs, lw_okq q := by
  show ∀ q ∈ lw_privs_1 ++ (lw_privs_2 ++ (lw_privs_3 ++ (lw_privs_4))), lw_okq q
  exact List.forall_mem_append.mpr ⟨lw_r1, List.forall_mem_append.mpr ⟨lw_r2, List.forall_mem_append.mpr ⟨lw_r3, lw_r4⟩⟩⟩
/-! ===== BEGIN words of one list among another's, by their places ===== -/
theorem goodIn_r {big : List Cond} (ws : List Cond) (ps : List Nat) (hp : ws = ps.filterMap (fun i => big[i]?)) (h : ws.all goodWord = true) : GoodIn big ws := by
  intro w hw
  have h1 := List.all_eq_true.mp h w hw
  rw [hp] at hw
  obtain ⟨i, -, hi⟩ := List.mem_filterMap.mp hw
  have hm : w ∈ big := by first | exact List.mem_of_getElem? hi | exact List.getElem?_mem hi
  exact ⟨hm, good_of_word h1⟩
theorem goodIn_app {big a b : List Cond} (ha : GoodIn big a) (hb : GoodIn big b) : GoodIn big (a ++ b) := fun w h => (List.mem_append.mp h).elim (ha w) (hb w)
theorem goodIn_ca {big a b : List Cond} {c : Cond} (ha : GoodIn big (c :: a)) (hb : GoodIn big b) : GoodIn big (c :: (a ++ b)) := fun w h => (List.mem_cons.mp h).elim (fun e => ha w (List.mem_cons.mpr (Or.inl e))) (fun h => (List.mem_append.mp h).elim (fun h => ha w (List.mem_cons.mpr (Or.inr h))) (hb w))
theorem goodIn_sub {big ws : List Cond} (hm : ∀ w ∈ ws, w ∈ big) (h : ws.all goodWord = true) : GoodIn big ws := fun w hw => ⟨hm w hw, good_of_word (List.all_eq_true.mp h w hw)⟩
/-! ===== END ===== -/

/-! ===== BEGIN exceptions that leave a method, and their catching by the caller (launches without stack traces) ===== -/
section VXA
/-! The laws vx_back, vx_callV, vx_callS, vx_callSW, vx_throw0, vx_throwS follow proofs of the library, with one case more: JvmDerived/Free/Laws.lean (Back.of_free), Shelf42/LK1.lean (callV, callS), Shelf/KitTraced.lean (throwNew0V, throwNewS). -/
/-- where a method has thrown q: the class by its name, the cell, what was written, the world -/
def vx_T (XC : String → State → State → Prop) (st : State) (q : Addr) (t : State) (mc ms : Nat) (free : Addr → Prop) : Prop :=
  ∃ (E : String) (ce : Cell) (L : List Loc), XC E st t ∧ t.heap[q]? = some ce ∧ ce.vm = .none ∧ st.vm.findClass E = some ce.cls ∧ st.WarmedH t.vm ∧ st.sameButNew ({ t with vm := st.vm } : State) L mc ms ∧ ∀ z ∈ L, free z.base
def vx_Q (Qc : Array Value → State → Outcome → State → Prop) (XC : String → State → State → Prop) (mc ms : Nat) (free : Addr → Prop) : Array Value → State → Outcome → State → Prop := fun a st o t =>
  (Qc a st o t ∧ ∃ L, FrameEnd st o t L mc ms ∧ ∀ q ∈ L, free q.base) ∨ ∃ q, o = .threw q ∧ vx_T XC st q t mc ms free
/-- a callee that returns or throws -/
def vx_Met (l : Launch) (y : MethodName) (ws : List Cond) (rm : Room) (Pc : Array Value → State → Prop) (Qc : Array Value → State → Outcome → State → Prop) (XC : String → State → State → Prop) (mc ms : Nat) (free : Addr → Prop) : Prop :=
  MetFree l y (headSpec ws rm) Pc (fun _ _ _ _ _ => True) (vx_Q Qc XC mc ms free)
def vx_Post (XC : String → State → State → Prop) (mc ms : Nat) (free : Addr → Prop) : Pt → Array Value → Addr → Pt → Prop := fun A a q B =>
  ∃ (g : JFrame) (mk : MethodId) (t : State) (L : List Loc) (E : String) (ce : Cell), B.U.heap = t.heap ∧ B.U.vm = t.vm ∧ XC E (A.U.calling g mk a) t ∧ t.heap[q]? = some ce ∧ ce.vm = .none ∧ A.U.vm.findClass E = some ce.cls ∧ B.locs = A.locs ++ L ∧ (∀ z ∈ L, free z.base) ∧ B.cells = A.cells + mc ∧ B.slots = A.slots + ms
def vx_Back (l : Launch) (R : Room) (p : Program) (e : Env) (below : List Frame) (s : State) (sargs : Array Value) (y : MethodName) (len W9 : Nat)
    (Pre : Pt → Array Value → Prop) (Post : Pt → Array Value → Option Value → Pt → Prop) (PostX : Pt → Array Value → Addr → Pt → Prop) : Prop :=
  ∀ (m : MethodId) (meth : Method) (c : Code) (A : Pt) (g : JFrame) (ig : Instr) (mk : MethodId) (a : Array Value),
    Stand p l e R s m sargs below meth c A.U A.locs A.cells A.slots → g.method = m → g.locals.size = c.maxLocals → decode c.code g.pc = .ok (ig, len) →
    2 * g.monitorRoom + (g.stack.map fun v => v.category).sum ≤ W9 → A.U.methodNamed? y = some mk → Pre A a →
    (∃ (v : Option Value) (B : Pt), Stand p l e R s m sargs below meth c B.U B.locs B.cells B.slots ∧ Post A a v B ∧
      Steps p.tables e below (doInvoke e (A.U.setTop g) [] mk a).1 (B.U.setTop { g with pc := g.pc + len, stack := v.toList ++ g.stack })) ∨
    (∃ (q : Addr) (B : Pt), Stand p l e R s m sargs below meth c B.U B.locs B.cells B.slots ∧ PostX A a q B ∧
      Steps p.tables e below (doInvoke e (A.U.setTop g) [] mk a).1 ((B.U.setTop g).pushFrame (.throwing q)))
section Payer
variable {l : Launch} {R : Room} {p : Program} {e : Env} {below : List Frame} {s : State} {sargs : Array Value} {y : MethodName} {len W9 : Nat}
theorem vx_back {ws : List Cond} {rm : Room} {Pc : Array Value → State → Prop} {Qc : Array Value → State → Outcome → State → Prop} {XC : String → State → State → Prop} {mc ms : Nat} {free : Addr → Prop} {bytes : ByteArray} {maxL : Nat} {ret : Option FieldType}
    (hM : vx_Met l y ws rm Pc Qc XC mc ms free) (hblind : FrameBlind Pc) (hrc : rm.cells = mc) (hrs : rm.slots = ms)
    (hframes : rm.frames + 1 ≤ R.frames) (hlocals : W9 + (maxL + 11) + rm.locals ≤ R.locals)
    (hws : ∀ w ∈ ws, ∀ a' U, s.WarmedH U.vm → w.before a' U = true) (hcode : Cond.code y bytes maxL ret ∈ ws) (hinit : ∀ a' U, s.WarmedH U.vm → (Cond.initialized y.cls).before a' U = true) :
    vx_Back l R p e below s sargs y len W9 (PreOf R mc ms Pc) (PostOf Qc mc ms free) (vx_Post XC mc ms free) := by
  intro m meth c A g ig mk a X hg hsize hdg hW hn hp
  have h1 : (headSpec ws rm).pre.before a A.U = true := atoms_intro fun w hw => hws w hw _ _ X.warmed
  have h2 : (Cond.code y bytes maxL ret).before a A.U = true := hws _ hcode _ _ X.warmed
  have h3 : (Cond.initialized y.cls).before a A.U = true := hinit _ _ X.warmed
  have h4 : A.cells + (headSpec ws rm).room.cells ≤ R.cells := by rw [show (headSpec ws rm).room.cells = mc from hrc]; exact hp.1
  have h5 : A.slots + (headSpec ws rm).room.slots ≤ R.slots := by rw [show (headSpec ws rm).room.slots = ms from hrs]; exact hp.2.1
  have hPc : Pc a (A.U.calling g mk a) := hblind _ _ _ _ hp.2.2
  obtain ⟨U, Ls, c0, s0⟩ := A
  dsimp only [Pt.U, Pt.locs, Pt.cells, Pt.slots] at h1 h2 h3 h4 h5 X hn hPc ⊢
  obtain ⟨methY, cY, hmY, hcY, -, hlY, -, -, -, -⟩ := Cond.code_spec hn h2
  obtain ⟨kY, hkY, -⟩ := className_of_methodNamed hn
  have hinitY : kY.init = .initialized := Cond.initialized_spec (findClass_of_methodNamed hn) hkY h3
  have h : At U g.method c below := by rw [hg]; exact X.here
  have hlocals9 : W9 + (maxL + 11) + (headSpec ws rm).room.locals ≤ R.locals := hlocals
  have happ : (headSpec ws rm).appliesLoose y e.platform (U.calling g mk a) = true :=
    Spec.appliesLoose_calling (g := g) h hdg hn hkY hinitY
      (X.room_calling (g := g) (R' := (headSpec ws rm).room) hsize hmY hcY hframes (by rw [hlY]; omega) h4 h5) h1
  obtain ⟨mid, hmid⟩ := h.above
  have hfr : (U.setTop g).frames = (.java g :: mid) ++ below := by rw [State.frames_setTop' g h.top, hmid]; rfl
  obtain ⟨o, s₂, hsteps, -, hend, hq⟩ := Steps.callFree hM p X.admits X.cas X.clock (acts := []) hfr happ hPc trivial
  have hq' : vx_Q Qc XC mc ms free a (U.calling g mk a) o s₂ := hq
  rw [State.frames_setTop' g h.top] at hend
  obtain ⟨g₀, hg0⟩ := Option.isSome_iff_exists.mp h.top
  obtain ⟨r, hr⟩ := State.topJava?_eq_some.mp hg0
  have hr' : (({ U with heap := s₂.heap, slotsUsed := s₂.slotsUsed } : State).setVm s₂.vm).frames = .java g₀ :: r := hr
  rcases hq' with ⟨hqc, L, hfe, hL⟩ | ⟨q, rfl, E, ce, L, hx, hce, hcv, hcl, hW₂, hsm, hL⟩
  · obtain ⟨⟨v, rfl⟩, hW₂, e2, q2, q3, q4, q5, q6⟩ := id hfe
    have e3 : s₂ = ({ (U.calling g mk a).setFrames s₂.frames with heap := s₂.heap, slotsUsed := s₂.slotsUsed } : State).setVm s₂.vm := by
      have : s₂ = ({ s₂ with vm := (U.calling g mk a).vm } : State).setVm s₂.vm := rfl
      rw [e2] at this
      exact this
    obtain ⟨c₂, i₂, len₂, hc₂, hd₂, hf₂⟩ := hend
    have hW' : U.WarmedH s₂.vm := hW₂
    have hcc : c₂ = c := by
      have h1 : s₂.code? g.method = U.code? g.method := by
        rw [State.code?_eq, State.code?_eq, hW'.alike.method?]
      exact Option.some.inj (hc₂.symm.trans (h1.trans h.code))
    subst hcc
    have hlen : len₂ = len := by rw [hdg] at hd₂; cases hd₂; rfl
    subst hlen
    have hs₂ : s₂ = (({ U with heap := s₂.heap, slotsUsed := s₂.slotsUsed } : State).setVm s₂.vm).setTop { g with pc := g.pc + len₂, stack := v.toList ++ g.stack } := by
      refine e3.trans ?_
      rw [hf₂, State.calling_eq h.top, State.setFrames_setFrames, State.setTop_of_frames _ hr', hr]
      rfl
    have hsame : U.sameButNew ({ U with heap := s₂.heap, slotsUsed := s₂.slotsUsed } : State) L mc ms := by
      refine ⟨?_, q2, q3, q4, q5, q6⟩
      obtain ⟨t, ht, -⟩ := State.frames_cons hr
      show ({ U with heap := s₂.heap, slotsUsed := s₂.slotsUsed } : State) = { U.setFrames U.frames with heap := s₂.heap, slotsUsed := s₂.slotsUsed }
      rw [State.setFrames_self ht]
    subst hg
    refine Or.inl ⟨v, ⟨(({ U with heap := s₂.heap, slotsUsed := s₂.slotsUsed } : State).setVm s₂.vm), Ls ++ L, c0 + mc, s0 + ms⟩,
      ⟨X.admits, X.cas, X.clock, X.frames, X.room, X.hears, X.method, X.code, (X.here.setHeapUsed s₂.heap s₂.slotsUsed).setVm hW'.alike, X.tail, State.WarmedH.trans X.warmed hW', X.limits, X.bytes, X.same.trans (hsame.setVm s.vm)⟩,
      ⟨g, mk, s₂, L, rfl, rfl, hqc, rfl, hL, rfl, rfl⟩, ?_⟩
    show Steps p.tables e below _ ((({ U with heap := s₂.heap, slotsUsed := s₂.slotsUsed } : State).setVm s₂.vm).setTop { g with pc := g.pc + len₂, stack := v.toList ++ g.stack })
    rw [← hs₂]
    exact hsteps
  · obtain ⟨e2, q2, q3, q4, q5, q6⟩ := id hsm
    have e3 : s₂ = ({ (U.calling g mk a).setFrames s₂.frames with heap := s₂.heap, slotsUsed := s₂.slotsUsed } : State).setVm s₂.vm := by
      have : s₂ = ({ s₂ with vm := (U.calling g mk a).vm } : State).setVm s₂.vm := rfl
      rw [e2] at this
      exact this
    have hf₂ : s₂.frames = .throwing q :: .java g :: U.frames.tail := hend
    have hW' : U.WarmedH s₂.vm := hW₂
    have hs₂ : s₂ = ((({ U with heap := s₂.heap, slotsUsed := s₂.slotsUsed } : State).setVm s₂.vm).setTop g).pushFrame (.throwing q) := by
      refine e3.trans ?_
      rw [hf₂, State.calling_eq h.top, State.setFrames_setFrames, State.pushFrame, State.frames_setTop _ hr', State.setTop_of_frames _ hr', State.setFrames_setFrames, hr]
      rfl
    have hsame : U.sameButNew ({ U with heap := s₂.heap, slotsUsed := s₂.slotsUsed } : State) L mc ms := by
      refine ⟨?_, q2, q3, q4, q5, q6⟩
      obtain ⟨t, ht, -⟩ := State.frames_cons hr
      show ({ U with heap := s₂.heap, slotsUsed := s₂.slotsUsed } : State) = { U.setFrames U.frames with heap := s₂.heap, slotsUsed := s₂.slotsUsed }
      rw [State.setFrames_self ht]
    subst hg
    refine Or.inr ⟨q, ⟨(({ U with heap := s₂.heap, slotsUsed := s₂.slotsUsed } : State).setVm s₂.vm), Ls ++ L, c0 + mc, s0 + ms⟩,
      ⟨X.admits, X.cas, X.clock, X.frames, X.room, X.hears, X.method, X.code, (X.here.setHeapUsed s₂.heap s₂.slotsUsed).setVm hW'.alike, X.tail, State.WarmedH.trans X.warmed hW', X.limits, X.bytes, X.same.trans (hsame.setVm s.vm)⟩,
      ⟨g, mk, s₂, L, E, ce, rfl, rfl, hx, hce, hcv, hcl, rfl, hL, rfl, rfl⟩, ?_⟩
    show Steps p.tables e below _ (((({ U with heap := s₂.heap, slotsUsed := s₂.slotsUsed } : State).setVm s₂.vm).setTop g).pushFrame (.throwing q))
    rw [← hs₂]
    exact hsteps
end Payer
section Calls
variable {p : Program} {l : Launch} {e : Env} {R : Room} {s : State} {m : MethodId} {args : Array Value} {below : List Frame} {meth : Method} {c : Code} {T : State} {locs : List Loc} {cells slots : Nat}
theorem vx_callV (X : Stand p l e R s m args below meth c T locs cells slots) (hexec : p.tables.exec = Jvm.exec) {own C : String} {index : Nat} {y : MethodName} {bytes : ByteArray} {maxL : Nat} {ret : Option FieldType}
    (hown : s.vm.findClass own = some m.cls) (hlink : (Cond.methodLink own index y).before args s = true) (hinst : (Cond.instanceMethod y).before args s = true) (hsel : (Cond.selects C y y).before args s = true)
    (hcode : (Cond.code y bytes maxL ret).before args s = true) (hy : y.cls ≠ "java/lang/invoke/MethodHandle" ∧ y.cls ≠ "java/lang/invoke/VarHandle")
    {W9 : Nat} {Pre : Pt → Array Value → Prop} {Post : Pt → Array Value → Option Value → Pt → Prop} {PostX : Pt → Array Value → Addr → Pt → Prop} (hK : vx_Back l R p e below s args y 3 W9 Pre Post PostX)
    {b : Addr} {cellB : Cell} (hcell : T.heap[b]? = some cellB) (hobj : cellB.vm.isStatics = false) (hcls : s.vm.findClass C = some cellB.cls)
    {g : JFrame} (hg : g.method = m) (hsize : g.locals.size = c.maxLocals) {argsL rest : List Value} (hlen : ∀ sig, parseMethodDescriptor y.desc = some sig → argsL.length = sig.parameters.length)
    (hstack : g.stack = argsL.reverse ++ .ref b :: rest) (hW : 2 * g.monitorRoom + (rest.map fun v => v.category).sum ≤ W9) (hdg : decode c.code g.pc = .ok (.invokevirtual index, 3))
    (hpre : ∀ vm₁, s.WarmedH vm₁ → Pre ⟨T.setVm vm₁, locs, cells, slots⟩ (Value.ref b :: argsL).toArray) :
    (∃ (v : Option Value) (vm₁ : Vm) (B : Pt), s.WarmedH vm₁ ∧ Stand p l e R s m args below meth c B.U B.locs B.cells B.slots ∧ Post ⟨T.setVm vm₁, locs, cells, slots⟩ (Value.ref b :: argsL).toArray v B ∧
      ∀ target, Steps p.tables e below (B.U.setTop { g with pc := g.pc + 3, stack := v.toList ++ rest }) target → Steps p.tables e below (T.setTop g) target) ∨
    (∃ (q : Addr) (vm₁ : Vm) (B : Pt), s.WarmedH vm₁ ∧ Stand p l e R s m args below meth c B.U B.locs B.cells B.slots ∧ PostX ⟨T.setVm vm₁, locs, cells, slots⟩ (Value.ref b :: argsL).toArray q B ∧
      Steps p.tables e below (T.setTop g) ((B.U.setTop { g with stack := rest }).pushFrame (.throwing q))) := by
  obtain ⟨mk, methM, hnamed, hmethM, hstM, habM⟩ := Cond.instanceMethod_spec hinst
  obtain ⟨methM', cM, hmethM', -, -, -, -, -, -, hsigM⟩ := Cond.code_spec hnamed hcode
  cases hmethM.symm.trans hmethM'
  obtain ⟨c2, r2, m2, q1, q2, q3, q4, kP, hkP, hkPi⟩ := Cond.selects_spec hsel
  cases hcls.symm.trans q1
  cases (State.methodFound?_of_named hnamed hy).symm.trans q2
  cases hnamed.symm.trans q3
  have hselP : selectMethod e.platform s.vm cellB.cls mk = .method mk := by rw [Launch.admits_selectMethod X.admits]; exact q4
  obtain ⟨vm₁, X₁, hstep₁⟩ := X.invokevirtual hexec hown hlink hnamed hmethM hstM hkP hkPi hy (a := b) (cell := cellB) hcell
    (fun z h => by rw [h] at hobj; cases hobj) hselP hmethM habM hkP hkPi (g := g) hg (argsL := argsL) (rest := rest) (hlen _ hsigM) hstack hdg
  rcases hK m meth c ⟨T.setVm vm₁, locs, cells, slots⟩ { g with stack := rest } (.invokevirtual index) mk (Value.ref b :: argsL).toArray X₁ hg hsize hdg hW (X₁.named hnamed) (hpre vm₁ X₁.warmed) with ⟨v, B, X', hpost, hsteps⟩ | ⟨q, B, X', hpost, hsteps⟩
  · exact Or.inl ⟨v, vm₁, B, X₁.warmed, X', hpost, fun target h => hstep₁ _ fun acts => by rw [doInvoke_state]; exact hsteps.trans h⟩
  · exact Or.inr ⟨q, vm₁, B, X₁.warmed, X', hpost, hstep₁ _ fun acts => by rw [doInvoke_state]; exact hsteps⟩
theorem vx_callS (X : Stand p l e R s m args below meth c T locs cells slots) (hexec : p.tables.exec = Jvm.exec) {own : String} {index : Nat} {y : MethodName} {bytes : ByteArray} {maxL : Nat} {ret : Option FieldType}
    (hown : s.vm.findClass own = some m.cls) (hlink : (Cond.methodLink own index y).before args s = true) (hstat : (Cond.static y).before args s = true) (hinit : (Cond.initialized y.cls).before args s = true)
    (hcode : (Cond.code y bytes maxL ret).before args s = true) (hy : y.cls ≠ "java/lang/invoke/MethodHandle" ∧ y.cls ≠ "java/lang/invoke/VarHandle")
    {W9 : Nat} {Pre : Pt → Array Value → Prop} {Post : Pt → Array Value → Option Value → Pt → Prop} {PostX : Pt → Array Value → Addr → Pt → Prop} (hK : vx_Back l R p e below s args y 3 W9 Pre Post PostX)
    {g : JFrame} (hg : g.method = m) (hsize : g.locals.size = c.maxLocals) {argsL rest : List Value} (hlen : ∀ sig, parseMethodDescriptor y.desc = some sig → argsL.length = sig.parameters.length)
    (hstack : g.stack = argsL.reverse ++ rest) (hW : 2 * g.monitorRoom + (rest.map fun v => v.category).sum ≤ W9) (hdg : decode c.code g.pc = .ok (.invokestatic index, 3))
    (hpre : ∀ vm₁, s.WarmedH vm₁ → Pre ⟨T.setVm vm₁, locs, cells, slots⟩ argsL.toArray) :
    (∃ (v : Option Value) (vm₁ : Vm) (B : Pt), s.WarmedH vm₁ ∧ Stand p l e R s m args below meth c B.U B.locs B.cells B.slots ∧ Post ⟨T.setVm vm₁, locs, cells, slots⟩ argsL.toArray v B ∧
      ∀ target, Steps p.tables e below (B.U.setTop { g with pc := g.pc + 3, stack := v.toList ++ rest }) target → Steps p.tables e below (T.setTop g) target) ∨
    (∃ (q : Addr) (vm₁ : Vm) (B : Pt), s.WarmedH vm₁ ∧ Stand p l e R s m args below meth c B.U B.locs B.cells B.slots ∧ PostX ⟨T.setVm vm₁, locs, cells, slots⟩ argsL.toArray q B ∧
      Steps p.tables e below (T.setTop g) ((B.U.setTop { g with stack := rest }).pushFrame (.throwing q))) := by
  obtain ⟨mk, hnamed⟩ := Cond.code_named hcode
  obtain ⟨methM, cM, hmethM, -, -, -, -, -, -, hsigM⟩ := Cond.code_spec hnamed hcode
  have hstatic : methM.isStatic = true := Cond.static_spec hnamed hmethM hstat
  obtain ⟨kP, hkP, -⟩ := className_of_methodNamed hnamed
  have hinitP : kP.init = .initialized := Cond.initialized_spec (findClass_of_methodNamed hnamed) hkP hinit
  obtain ⟨vm₁, X₁, hstep₁⟩ := X.invokestatic hexec hown hlink hnamed hmethM hstatic hkP hinitP hy (g := g) hg (argsL := argsL) (rest := rest) (hlen _ hsigM) hstack hdg
  rcases hK m meth c ⟨T.setVm vm₁, locs, cells, slots⟩ { g with stack := rest } (.invokestatic index) mk argsL.toArray X₁ hg hsize hdg hW (X₁.named hnamed) (hpre vm₁ X₁.warmed) with ⟨v, B, X', hpost, hsteps⟩ | ⟨q, B, X', hpost, hsteps⟩
  · exact Or.inl ⟨v, vm₁, B, X₁.warmed, X', hpost, fun target h => hstep₁ _ fun acts => by rw [doInvoke_state]; exact hsteps.trans h⟩
  · exact Or.inr ⟨q, vm₁, B, X₁.warmed, X', hpost, hstep₁ _ fun acts => by rw [doInvoke_state]; exact hsteps⟩
end Calls
theorem vx_cls {s : State} {T : State} {vm₁ : Vm} {E : String} {k : ClassId} (hW : s.WarmedH vm₁) (h : (T.setVm vm₁).vm.findClass E = some k) : s.vm.findClass E = some k := by
  have h1 : vm₁.findClass E = some k := h
  rw [hW.alike.findClass] at h1
  exact h1
/-- the method's frame g, with q thrown over it -/
def vx_W (p : Program) (l : Launch) (e : Env) (R : Room) (s : State) (m : MethodId) (args : Array Value) (below : List Frame) (meth : Method) (c : Code) (H : Heap) (locs : List Loc) (cells slots : Nat) (Q : State → Prop) (g : JFrame) (q : Addr) : Prop :=
  ∀ T : State, T.heap = H → Stand p l e R s m args below meth c T locs cells slots → ∃ t, Steps p.tables e below ((T.setTop g).pushFrame (.throwing q)) t ∧ Q t
def vx_Run (p : Program) (l : Launch) (e : Env) (R : Room) (s : State) (m : MethodId) (args : Array Value) (below : List Frame) (meth : Method) (c : Code) (H : Heap) (locs : List Loc) (cells slots mc ms : Nat) (g : JFrame) (rest : List Value) (Qa : State → Outcome → State → Prop) (XC : String → State → State → Prop) (free : Addr → Prop) : Prop :=
  ∀ T : State, T.heap = H → Stand p l e R s m args below meth c T locs cells slots →
    (∃ (v : Option Value) (st₀ t T' : State) (L : List Loc), st₀.heap = H ∧ Stand p l e R s m args below meth c T' (locs ++ L) (cells + mc) (slots + ms) ∧ (∀ q ∈ L, free q.base) ∧ T'.heap = t.heap ∧ T'.vm = t.vm ∧ Qa st₀ (.returned v) t ∧
      Goes p e below T g T' { g with pc := g.pc + 3, stack := v.toList ++ rest }) ∨
    (∃ (q : Addr) (st₀ t T' : State) (L : List Loc) (E : String) (ce : Cell), st₀.heap = H ∧ Stand p l e R s m args below meth c T' (locs ++ L) (cells + mc) (slots + ms) ∧ (∀ z ∈ L, free z.base) ∧ T'.heap = t.heap ∧ T'.vm = t.vm ∧ XC E st₀ t ∧ t.heap[q]? = some ce ∧ ce.vm = .none ∧ s.vm.findClass E = some ce.cls ∧
      Steps p.tables e below (T.setTop g) ((T'.setTop { g with stack := rest }).pushFrame (.throwing q)))
def vx_X {S : Type} (px : S → Prop) (B : String → S → State → Prop) (A : Nat → Prop) : String → State → State → Prop := fun E st t => ∃ u : S, px u ∧ B E u t ∧ va_F A st t
section Runs
variable {p : Program} {l : Launch} {e : Env} {R : Room} {s : State} {m : MethodId} {args : Array Value} {below : List Frame} {meth : Method} {c : Code} {H : Heap} {locs : List Loc} {cells slots : Nat}
variable {y : MethodName} {bytes cc : ByteArray} {maxL nL mc ms n index : Nat} {ret : Option FieldType} {ws : List Cond} {rm : Room} {Pc : Array Value → State → Prop} {Qc : Array Value → State → Outcome → State → Prop} {XC : String → State → State → Prop} {free : Addr → Prop} {Ts : List Cond} {own C : String} {b : Addr} {As rest : List Value} {g : JFrame}
theorem vx_callBack (cb : CallB R s args own index y bytes maxL ret ws rm mc ms n) (hM : vx_Met l y ws rm Pc Qc XC mc ms free) (hbl : FrameBlind Pc) : vx_Back l R p e below s args y 3 8 (PreOf R mc ms Pc) (PostOf Qc mc ms free) (vx_Post XC mc ms free) := by
  obtain ⟨hrc, hrs, hfr, hlo, hws, hcw, -, hini, -⟩ := cb
  exact vx_back (bytes := bytes) (maxL := maxL) (ret := ret) hM hbl hrc hrs hfr hlo hws hcw (fun a' U hW => word_at hW (Or.inl (by first | rfl | simp [Cond.onTables, Cond.keeps, Cond.steady])) hini)
theorem vx_runV (S : CallFix p m c cc nL s args Ts own) (hM : vx_Met l y ws rm Pc Qc XC mc ms free) (cw : CallW R s args own C index y bytes maxL ret ws rm mc ms n) (hp : PreV s H C b Pc As)
    (hg : g.method = m) (hn : As.length = n) (hsize : g.locals.size = nL) (hstack : g.stack = As.reverse ++ .ref b :: rest) (hW : 2 * g.monitorRoom + (rest.map fun v => v.category).sum ≤ 8) (hdg : decode cc g.pc = .ok (.invokevirtual index, 3)) (hf : cells + mc ≤ R.cells ∧ slots + ms ≤ R.slots) :
    vx_Run p l e R s m args below meth c H locs cells slots mc ms g rest (Qc (Value.ref b :: As).toArray) XC free := by
  have hK : vx_Back l R p e below s args y 3 8 (PreOf R mc ms Pc) (PostOf Qc mc ms free) (vx_Post XC mc ms free) := vx_callBack cw.1 hM hp.1
  obtain ⟨⟨-, -, -, -, -, -, hcode, -, hy, hlen, hl⟩, hin, hse⟩ := cw
  obtain ⟨hx, hb, hml, ho, -⟩ := S
  obtain ⟨-, ⟨cellB, hcB, hoB, hclB⟩, hPc⟩ := hp
  intro T hT X
  rcases vx_callV X hx (C := C) (bytes := bytes) (maxL := maxL) (ret := ret) ho hl hin hse hcode hy hK (by rw [hT]; exact hcB) hoB hclB hg (hsize.trans hml.symm) (argsL := As) (rest := rest) (fun sig h => hn.trans (hlen sig h)) hstack hW (by rw [hb]; exact hdg)
    (fun vm₁ hW₁ => ⟨hf.1, hf.2, hPc (T.setVm vm₁) hT hW₁⟩) with ⟨v, vm₁, ⟨U', l2, c2, s2⟩, hW₁, X', ⟨g', mk, t, L, e1, e2, hq, h1, hL, h2, h3⟩, st⟩ | ⟨q, vm₁, ⟨U', l2, c2, s2⟩, hW₁, X', ⟨g', mk, t, L, E, ce, e1, e2, hq, hce, hcv, hcl, h1, hL, h2, h3⟩, st⟩
  · dsimp only [Pt.U, Pt.locs, Pt.cells, Pt.slots] at X' e1 e2 h1 h2 h3 st
    subst h1; subst h2; subst h3
    exact Or.inl ⟨v, (T.setVm vm₁).calling g' mk (Value.ref b :: As).toArray, t, U', L, hT, X', hL, e1, e2, hq, st⟩
  · dsimp only [Pt.U, Pt.locs, Pt.cells, Pt.slots] at X' e1 e2 h1 h2 h3 st hcl
    subst h1; subst h2; subst h3
    exact Or.inr ⟨q, (T.setVm vm₁).calling g' mk (Value.ref b :: As).toArray, t, U', L, E, ce, hT, X', hL, e1, e2, hq, hce, hcv, vx_cls hW₁ hcl, st⟩
theorem vx_runS (S : CallFix p m c cc nL s args Ts own) (hM : vx_Met l y ws rm Pc Qc XC mc ms free) (cw : CallB R s args own index y bytes maxL ret ws rm mc ms n ∧ (Cond.static y).before args s = true) (hp : PreS s H Pc As)
    (hg : g.method = m) (hn : As.length = n) (hsize : g.locals.size = nL) (hstack : g.stack = As.reverse ++ rest) (hW : 2 * g.monitorRoom + (rest.map fun v => v.category).sum ≤ 8) (hdg : decode cc g.pc = .ok (.invokestatic index, 3)) (hf : cells + mc ≤ R.cells ∧ slots + ms ≤ R.slots) :
    vx_Run p l e R s m args below meth c H locs cells slots mc ms g rest (Qc As.toArray) XC free := by
  have hK : vx_Back l R p e below s args y 3 8 (PreOf R mc ms Pc) (PostOf Qc mc ms free) (vx_Post XC mc ms free) := vx_callBack cw.1 hM hp.1
  obtain ⟨⟨-, -, -, -, -, -, hcode, hini, hy, hlen, hl⟩, hstt⟩ := cw
  obtain ⟨hx, hb, hml, ho, -⟩ := S
  intro T hT X
  rcases vx_callS X hx (bytes := bytes) (maxL := maxL) (ret := ret) ho hl hstt hini hcode hy hK hg (hsize.trans hml.symm) (argsL := As) (rest := rest) (fun sig h => hn.trans (hlen sig h)) hstack hW (by rw [hb]; exact hdg)
    (fun vm₁ hW₁ => ⟨hf.1, hf.2, hp.2 (T.setVm vm₁) hT hW₁⟩) with ⟨v, vm₁, ⟨U', l2, c2, s2⟩, hW₁, X', ⟨g', mk, t, L, e1, e2, hq, h1, hL, h2, h3⟩, st⟩ | ⟨q, vm₁, ⟨U', l2, c2, s2⟩, hW₁, X', ⟨g', mk, t, L, E, ce, e1, e2, hq, hce, hcv, hcl, h1, hL, h2, h3⟩, st⟩
  · dsimp only [Pt.U, Pt.locs, Pt.cells, Pt.slots] at X' e1 e2 h1 h2 h3 st
    subst h1; subst h2; subst h3
    exact Or.inl ⟨v, (T.setVm vm₁).calling g' mk As.toArray, t, U', L, hT, X', hL, e1, e2, hq, st⟩
  · dsimp only [Pt.U, Pt.locs, Pt.cells, Pt.slots] at X' e1 e2 h1 h2 h3 st hcl
    subst h1; subst h2; subst h3
    exact Or.inr ⟨q, (T.setVm vm₁).calling g' mk As.toArray, t, U', L, E, ce, hT, X', hL, e1, e2, hq, hce, hcv, vx_cls hW₁ hcl, st⟩
end Runs
section Rows
variable {p : Program} {l : Launch} {e : Env} {R : Room} {s : State} {m : MethodId} {args : Array Value} {below : List Frame} {meth : Method} {c : Code} {H : Heap} {locs : List Loc} {cells slots : Nat} {Q : State → Prop}
variable {mc ms : Nat} {free : Addr → Prop} {A0 A1 : Nat → Prop} {H0 : Heap} {a : Array Value} {pc : Nat} {ls : Array Slot} {st0 rest : List Value}
theorem vx_keep {st₀ t T' : State} {L : List Loc} (h0 : st₀.heap = H) (e1 : T'.heap = t.heap) (hS : va_S A0 H0 H locs) (hA : ∀ q, q < H.size → A1 q → A0 q) (hf : ∀ q, free q → A0 q) (hL : ∀ q ∈ L, free q.base) (hF : va_F A1 st₀ t) :
    H.size ≤ T'.heap.size ∧ (∀ q : Nat, q < H.size → ¬ A1 q → T'.heap[q]? = H[q]?) ∧ va_S A0 H0 T'.heap (locs ++ L) := by
  obtain ⟨hz, hk⟩ := hF
  rw [h0] at hz hk
  exact ⟨by rw [e1]; exact hz, fun q h1 h2 => by rw [e1]; exact hk q h1 h2,
    ⟨Nat.le_trans hS.1 (by rw [e1]; exact hz), fun q h1 h2 => by rw [e1, hk q (Nat.lt_of_lt_of_le h1 hS.1) (fun z => h2 (hA q (Nat.lt_of_lt_of_le h1 hS.1) z))]; exact hS.2.1 q h1 h2, fun q hq => by
      rcases List.mem_append.mp hq with h | h
      · exact hS.2.2 q h
      · exact hf _ (hL q h)⟩⟩
theorem vx_calli {S SX : Type} {post : Int32 → S → Prop} {px : SX → Prop} {B : S → State → Prop} {BX : String → SX → State → Prop} {AX : Nat → Prop} (hr : vx_Run p l e R s m args below meth c H locs cells slots mc ms (F0 m pc ls st0) rest (va_Qi post B A1 a) (vx_X px BX AX) free) (hS : va_S A0 H0 H locs) (hA : ∀ q, q < H.size → A1 q → A0 q) (hf : ∀ q, free q → A0 q) (hAX : ∀ q, q < H.size → AX q → A0 q)
    (kx : ∀ (E : String) (ce : Cell) (q9 : Addr) (u : SX) (t : State) (H1 : Heap) (locs1 : List Loc), t.heap = H1 → s.vm.Alike t.vm → px u → BX E u t → H.size ≤ H1.size → (∀ q : Nat, q < H.size → ¬ AX q → H1[q]? = H[q]?) → va_S A0 H0 H1 locs1 → H1[q9]? = some ce → ce.vm = .none → s.vm.findClass E = some ce.cls → vx_W p l e R s m args below meth c H1 locs1 (cells + mc) (slots + ms) Q (F0 m pc ls rest) q9)
    (kk : ∀ (r : Int32) (u : S) (t : State) (H1 : Heap) (locs1 : List Loc), t.heap = H1 → s.vm.Alike t.vm → post r u → B u t → H.size ≤ H1.size → (∀ q : Nat, q < H.size → ¬ A1 q → H1[q]? = H[q]?) → va_S A0 H0 H1 locs1 → W p l e R s m args below meth c H1 locs1 (cells + mc) (slots + ms) Q (F0 m (pc + 3) ls (.int r :: rest))) : W p l e R s m args below meth c H locs cells slots Q (F0 m pc ls st0) := by
  intro T hT X
  rcases hr T hT X with ⟨v, st₀, t, T', L, h0, X', hL, e1, e2, ⟨⟨r, u, hv, hp, hb⟩, hF⟩, st⟩ | ⟨q, st₀, t, T', L, E, ce, h0, X', hL, e1, e2, ⟨u, hp, hb, hF⟩, hce, hcv, hcl, st⟩
  · cases hv
    obtain ⟨k1, k2, k3⟩ := vx_keep h0 e1 hS hA hf hL hF
    obtain ⟨t2, a1, b1⟩ := kk r u t T'.heap (locs ++ L) e1.symm (by rw [← e2]; exact X'.warmed.alike) hp hb k1 k2 k3 T' rfl X'
    exact ⟨t2, st t2 a1, b1⟩
  · obtain ⟨k1, k2, k3⟩ := vx_keep h0 e1 hS hAX hf hL hF
    obtain ⟨t2, a1, b1⟩ := kx E ce q u t T'.heap (locs ++ L) e1.symm (by rw [← e2]; exact X'.warmed.alike) hp hb k1 k2 k3 (by rw [e1]; exact hce) hcv hcl T' rfl X'
    exact ⟨t2, st.trans a1, b1⟩
theorem vx_calll {S SX : Type} {post : Int64 → S → Prop} {px : SX → Prop} {B : S → State → Prop} {BX : String → SX → State → Prop} {AX : Nat → Prop} (hr : vx_Run p l e R s m args below meth c H locs cells slots mc ms (F0 m pc ls st0) rest (va_Ql post B A1 a) (vx_X px BX AX) free) (hS : va_S A0 H0 H locs) (hA : ∀ q, q < H.size → A1 q → A0 q) (hf : ∀ q, free q → A0 q) (hAX : ∀ q, q < H.size → AX q → A0 q)
    (kx : ∀ (E : String) (ce : Cell) (q9 : Addr) (u : SX) (t : State) (H1 : Heap) (locs1 : List Loc), t.heap = H1 → s.vm.Alike t.vm → px u → BX E u t → H.size ≤ H1.size → (∀ q : Nat, q < H.size → ¬ AX q → H1[q]? = H[q]?) → va_S A0 H0 H1 locs1 → H1[q9]? = some ce → ce.vm = .none → s.vm.findClass E = some ce.cls → vx_W p l e R s m args below meth c H1 locs1 (cells + mc) (slots + ms) Q (F0 m pc ls rest) q9)
    (kk : ∀ (r : Int64) (u : S) (t : State) (H1 : Heap) (locs1 : List Loc), t.heap = H1 → s.vm.Alike t.vm → post r u → B u t → H.size ≤ H1.size → (∀ q : Nat, q < H.size → ¬ A1 q → H1[q]? = H[q]?) → va_S A0 H0 H1 locs1 → W p l e R s m args below meth c H1 locs1 (cells + mc) (slots + ms) Q (F0 m (pc + 3) ls (.long r :: rest))) : W p l e R s m args below meth c H locs cells slots Q (F0 m pc ls st0) := by
  intro T hT X
  rcases hr T hT X with ⟨v, st₀, t, T', L, h0, X', hL, e1, e2, ⟨⟨r, u, hv, hp, hb⟩, hF⟩, st⟩ | ⟨q, st₀, t, T', L, E, ce, h0, X', hL, e1, e2, ⟨u, hp, hb, hF⟩, hce, hcv, hcl, st⟩
  · cases hv
    obtain ⟨k1, k2, k3⟩ := vx_keep h0 e1 hS hA hf hL hF
    obtain ⟨t2, a1, b1⟩ := kk r u t T'.heap (locs ++ L) e1.symm (by rw [← e2]; exact X'.warmed.alike) hp hb k1 k2 k3 T' rfl X'
    exact ⟨t2, st t2 a1, b1⟩
  · obtain ⟨k1, k2, k3⟩ := vx_keep h0 e1 hS hAX hf hL hF
    obtain ⟨t2, a1, b1⟩ := kx E ce q u t T'.heap (locs ++ L) e1.symm (by rw [← e2]; exact X'.warmed.alike) hp hb k1 k2 k3 (by rw [e1]; exact hce) hcv hcl T' rfl X'
    exact ⟨t2, st.trans a1, b1⟩
theorem vx_callf {S SX : Type} {post : UInt32 → S → Prop} {px : SX → Prop} {B : S → State → Prop} {BX : String → SX → State → Prop} {AX : Nat → Prop} (hr : vx_Run p l e R s m args below meth c H locs cells slots mc ms (F0 m pc ls st0) rest (va_Qf post B A1 a) (vx_X px BX AX) free) (hS : va_S A0 H0 H locs) (hA : ∀ q, q < H.size → A1 q → A0 q) (hf : ∀ q, free q → A0 q) (hAX : ∀ q, q < H.size → AX q → A0 q)
    (kx : ∀ (E : String) (ce : Cell) (q9 : Addr) (u : SX) (t : State) (H1 : Heap) (locs1 : List Loc), t.heap = H1 → s.vm.Alike t.vm → px u → BX E u t → H.size ≤ H1.size → (∀ q : Nat, q < H.size → ¬ AX q → H1[q]? = H[q]?) → va_S A0 H0 H1 locs1 → H1[q9]? = some ce → ce.vm = .none → s.vm.findClass E = some ce.cls → vx_W p l e R s m args below meth c H1 locs1 (cells + mc) (slots + ms) Q (F0 m pc ls rest) q9)
    (kk : ∀ (r : UInt32) (u : S) (t : State) (H1 : Heap) (locs1 : List Loc), t.heap = H1 → s.vm.Alike t.vm → post r u → B u t → H.size ≤ H1.size → (∀ q : Nat, q < H.size → ¬ A1 q → H1[q]? = H[q]?) → va_S A0 H0 H1 locs1 → W p l e R s m args below meth c H1 locs1 (cells + mc) (slots + ms) Q (F0 m (pc + 3) ls (.float r :: rest))) : W p l e R s m args below meth c H locs cells slots Q (F0 m pc ls st0) := by
  intro T hT X
  rcases hr T hT X with ⟨v, st₀, t, T', L, h0, X', hL, e1, e2, ⟨⟨r, u, hv, hp, hb⟩, hF⟩, st⟩ | ⟨q, st₀, t, T', L, E, ce, h0, X', hL, e1, e2, ⟨u, hp, hb, hF⟩, hce, hcv, hcl, st⟩
  · cases hv
    obtain ⟨k1, k2, k3⟩ := vx_keep h0 e1 hS hA hf hL hF
    obtain ⟨t2, a1, b1⟩ := kk r u t T'.heap (locs ++ L) e1.symm (by rw [← e2]; exact X'.warmed.alike) hp hb k1 k2 k3 T' rfl X'
    exact ⟨t2, st t2 a1, b1⟩
  · obtain ⟨k1, k2, k3⟩ := vx_keep h0 e1 hS hAX hf hL hF
    obtain ⟨t2, a1, b1⟩ := kx E ce q u t T'.heap (locs ++ L) e1.symm (by rw [← e2]; exact X'.warmed.alike) hp hb k1 k2 k3 (by rw [e1]; exact hce) hcv hcl T' rfl X'
    exact ⟨t2, st.trans a1, b1⟩
theorem vx_calld {S SX : Type} {post : UInt64 → S → Prop} {px : SX → Prop} {B : S → State → Prop} {BX : String → SX → State → Prop} {AX : Nat → Prop} (hr : vx_Run p l e R s m args below meth c H locs cells slots mc ms (F0 m pc ls st0) rest (va_Qd post B A1 a) (vx_X px BX AX) free) (hS : va_S A0 H0 H locs) (hA : ∀ q, q < H.size → A1 q → A0 q) (hf : ∀ q, free q → A0 q) (hAX : ∀ q, q < H.size → AX q → A0 q)
    (kx : ∀ (E : String) (ce : Cell) (q9 : Addr) (u : SX) (t : State) (H1 : Heap) (locs1 : List Loc), t.heap = H1 → s.vm.Alike t.vm → px u → BX E u t → H.size ≤ H1.size → (∀ q : Nat, q < H.size → ¬ AX q → H1[q]? = H[q]?) → va_S A0 H0 H1 locs1 → H1[q9]? = some ce → ce.vm = .none → s.vm.findClass E = some ce.cls → vx_W p l e R s m args below meth c H1 locs1 (cells + mc) (slots + ms) Q (F0 m pc ls rest) q9)
    (kk : ∀ (r : UInt64) (u : S) (t : State) (H1 : Heap) (locs1 : List Loc), t.heap = H1 → s.vm.Alike t.vm → post r u → B u t → H.size ≤ H1.size → (∀ q : Nat, q < H.size → ¬ A1 q → H1[q]? = H[q]?) → va_S A0 H0 H1 locs1 → W p l e R s m args below meth c H1 locs1 (cells + mc) (slots + ms) Q (F0 m (pc + 3) ls (.double r :: rest))) : W p l e R s m args below meth c H locs cells slots Q (F0 m pc ls st0) := by
  intro T hT X
  rcases hr T hT X with ⟨v, st₀, t, T', L, h0, X', hL, e1, e2, ⟨⟨r, u, hv, hp, hb⟩, hF⟩, st⟩ | ⟨q, st₀, t, T', L, E, ce, h0, X', hL, e1, e2, ⟨u, hp, hb, hF⟩, hce, hcv, hcl, st⟩
  · cases hv
    obtain ⟨k1, k2, k3⟩ := vx_keep h0 e1 hS hA hf hL hF
    obtain ⟨t2, a1, b1⟩ := kk r u t T'.heap (locs ++ L) e1.symm (by rw [← e2]; exact X'.warmed.alike) hp hb k1 k2 k3 T' rfl X'
    exact ⟨t2, st t2 a1, b1⟩
  · obtain ⟨k1, k2, k3⟩ := vx_keep h0 e1 hS hAX hf hL hF
    obtain ⟨t2, a1, b1⟩ := kx E ce q u t T'.heap (locs ++ L) e1.symm (by rw [← e2]; exact X'.warmed.alike) hp hb k1 k2 k3 (by rw [e1]; exact hce) hcv hcl T' rfl X'
    exact ⟨t2, st.trans a1, b1⟩
theorem vx_callv {S SX : Type} {post : S → Prop} {px : SX → Prop} {B : S → State → Prop} {BX : String → SX → State → Prop} {AX : Nat → Prop} (hr : vx_Run p l e R s m args below meth c H locs cells slots mc ms (F0 m pc ls st0) rest (va_Qv post B A1 a) (vx_X px BX AX) free) (hS : va_S A0 H0 H locs) (hA : ∀ q, q < H.size → A1 q → A0 q) (hf : ∀ q, free q → A0 q) (hAX : ∀ q, q < H.size → AX q → A0 q)
    (kx : ∀ (E : String) (ce : Cell) (q9 : Addr) (u : SX) (t : State) (H1 : Heap) (locs1 : List Loc), t.heap = H1 → s.vm.Alike t.vm → px u → BX E u t → H.size ≤ H1.size → (∀ q : Nat, q < H.size → ¬ AX q → H1[q]? = H[q]?) → va_S A0 H0 H1 locs1 → H1[q9]? = some ce → ce.vm = .none → s.vm.findClass E = some ce.cls → vx_W p l e R s m args below meth c H1 locs1 (cells + mc) (slots + ms) Q (F0 m pc ls rest) q9)
    (kk : ∀ (u : S) (t : State) (H1 : Heap) (locs1 : List Loc), t.heap = H1 → s.vm.Alike t.vm → post u → B u t → H.size ≤ H1.size → (∀ q : Nat, q < H.size → ¬ A1 q → H1[q]? = H[q]?) → va_S A0 H0 H1 locs1 → W p l e R s m args below meth c H1 locs1 (cells + mc) (slots + ms) Q (F0 m (pc + 3) ls (rest))) : W p l e R s m args below meth c H locs cells slots Q (F0 m pc ls st0) := by
  intro T hT X
  rcases hr T hT X with ⟨v, st₀, t, T', L, h0, X', hL, e1, e2, ⟨⟨u, hv, hp, hb⟩, hF⟩, st⟩ | ⟨q, st₀, t, T', L, E, ce, h0, X', hL, e1, e2, ⟨u, hp, hb, hF⟩, hce, hcv, hcl, st⟩
  · cases hv
    obtain ⟨k1, k2, k3⟩ := vx_keep h0 e1 hS hA hf hL hF
    obtain ⟨t2, a1, b1⟩ := kk u t T'.heap (locs ++ L) e1.symm (by rw [← e2]; exact X'.warmed.alike) hp hb k1 k2 k3 T' rfl X'
    exact ⟨t2, st t2 a1, b1⟩
  · obtain ⟨k1, k2, k3⟩ := vx_keep h0 e1 hS hAX hf hL hF
    obtain ⟨t2, a1, b1⟩ := kx E ce q u t T'.heap (locs ++ L) e1.symm (by rw [← e2]; exact X'.warmed.alike) hp hb k1 k2 k3 (by rw [e1]; exact hce) hcv hcl T' rfl X'
    exact ⟨t2, st.trans a1, b1⟩
/-- caught by the row x of this method's table; the rows ahead don't take it -/
theorem vx_catch {own name : String} {E : String} {ce : Cell} {q : Addr} (hown : s.vm.findClass own = some m.cls) (pre : List ExceptionTableEntry) (x : ExceptionTableEntry) (suf : List ExceptionTableEntry) (hsplit : c.exceptionTable.toList = pre ++ x :: suf)
    (hpass : ∀ z ∈ pre, covers z pc = false ∨ (z.catchType ≠ 0 ∧ ∃ nm : String, (Cond.classLink own z.catchType nm).before args s = true ∧ va_Nc E nm s)) (hx : covers x pc = true) (h0 : x.catchType ≠ 0)
    (hlink : (Cond.classLink own x.catchType name).before args s = true) (hcast : (Cond.castable E name).before args s = true) (hcell : H[q]? = some ce) (hv : ce.vm = .none) (hcl : s.vm.findClass E = some ce.cls)
    (kk : W p l e R s m args below meth c H locs cells slots Q (F0 m x.handlerPc ls [.ref q])) : vx_W p l e R s m args below meth c H locs cells slots Q (F0 m pc ls rest) q := by
  intro T hT X
  have hpl : e.platform.magicAccessors = ({} : Platform).magicAccessors := by rw [X.admits.platform]
  obtain ⟨c3, c4, hc3, hc4, hasg⟩ := Cond.castable_spec hcast
  cases Option.some.inj (hc3.symm.trans hcl)
  obtain ⟨c5, hc5, hcl5⟩ := Cond.classLink_spec hown hlink e.platform hpl
  cases Option.some.inj (hc4.symm.trans hc5)
  obtain ⟨vm', X', st⟩ := X.thenCaughtThrough q (g := F0 m pc ls rest) rfl (Steps.refl _) (by rw [hT]; exact hcell) (by rw [hv]; rfl) (by obtain ⟨k9, h9, -⟩ := Vm.findClass_spec hcl; exact ⟨k9, h9⟩) pre x suf hsplit
    (fun z hz => by
      rcases hpass z hz with h | ⟨hz0, nm, hl1, hn1⟩
      · exact Or.inl h
      · obtain ⟨c6, hc6, hcl6⟩ := Cond.classLink_spec hown hl1 e.platform hpl
        obtain ⟨a8, b8, h1, h2, h3⟩ := hn1
        cases Option.some.inj (h1.symm.trans hcl)
        cases Option.some.inj (h2.symm.trans hc6)
        exact Or.inr ⟨hz0, _, hcl6, h3⟩) hx (Or.inr ⟨h0, c4, hcl5, hasg⟩)
  obtain ⟨t, a1, b1⟩ := kk (T.setVm vm') hT X'
  exact ⟨t, st.trans a1, b1⟩
end Rows
section Ends
variable {p : Program} {l : Launch} {e : Env} {R : Room} {s : State} {m : MethodId} {args : Array Value} {below : List Frame} {meth : Method} {c : Code} {H : Heap} {locs : List Loc} {cells slots : Nat} {Q : State → Prop}
variable {mc ms : Nat} {free : Addr → Prop} {A0 A1 : Nat → Prop} {H0 : Heap} {a : Array Value} {ls : Array Slot} {st0 rest : List Value}
variable {Qc : Array Value → State → Outcome → State → Prop} {XC : String → State → State → Prop}
/-- what a body that may throw owes at its end -/
def vx_MQ (below : List Frame) (Qc : Array Value → State → Outcome → State → Prop) (XC : String → State → State → Prop) (a : Array Value) (s : State) (mc ms : Nat) (free : Addr → Prop) : State → Prop := fun t =>
  ∃ o, t.status = .running ∧ Ended t below o ∧ vx_Q Qc XC mc ms free a s o t
theorem vx_ret {g : JFrame} {mc ms : Nat} (k : W p l e R s m args below meth c H locs cells slots (MQ below Qc args s mc ms free) g) : W p l e R s m args below meth c H locs cells slots (vx_MQ below Qc XC args s mc ms free) g := by
  intro T hT X
  obtain ⟨t, a1, o, b1, b2, b3, b4⟩ := k T hT X
  exact ⟨t, a1, o, b1, b2, Or.inl ⟨b3, b4⟩⟩
/-- not caught here: it goes on to the caller -/
theorem vx_widen {g : JFrame} {q : Addr} {k n : Nat} (h1 : cells ≤ k) (h2 : slots ≤ n) (kk : vx_W p l e R s m args below meth c H locs k n Q g q) : vx_W p l e R s m args below meth c H locs cells slots Q g q := fun T hT X => kk T hT (stand_widen X h1 h2)
theorem vx_out {pc : Nat} {E : String} {ce : Cell} {q : Addr} {mc ms : Nat} (hout : ∀ x ∈ c.exceptionTable.toList, covers x pc = false) (hlocks : meth.locks = false) (hcell : H[q]? = some ce) (hv : ce.vm = .none) (hcl : s.vm.findClass E = some ce.cls)
    (hx : ∀ t : State, t.heap = H → s.vm.Alike t.vm → XC E s t) (hf : ∀ z ∈ locs, free z.base) (hc : cells ≤ mc) (hs : slots ≤ ms) :
    vx_W p l e R s m args below meth c H locs cells slots (vx_MQ below Qc XC args s mc ms free) (F0 m pc ls rest) q := by
  intro T hT X
  obtain ⟨st1, hrun, hend, hW, hsm⟩ := X.leaveThrown q (g := F0 m pc ls rest) rfl rfl rfl hout hlocks
  have hcell9 : (T.setFrames (.throwing q :: below)).heap[q]? = some ce := by
    show T.heap[q]? = some ce
    rw [hT]; exact hcell
  exact ⟨_, st1, .threw q, hrun, hend, Or.inr ⟨q, rfl, E, ce, locs, hx _ hT hW.alike, hcell9, hv, hcl, hW, hsm.mono hc hs, hf⟩⟩
theorem vx_frame {U : State} {k n : Nat} (h : s.sameButNew ({ U with vm := s.vm } : State) locs k n) : s.heap.size ≤ U.heap.size ∧ ∀ q : Nat, q < s.heap.size → (∀ z ∈ locs, z.base ≠ q) → U.heap[q]? = s.heap[q]? := by
  obtain ⟨-, h2, -, -, -, h6⟩ := h
  refine ⟨h2, fun q hq hz => ?_⟩
  obtain ⟨c9, e1, e2, e3, e4⟩ := h6 q _ (Array.getElem?_eq_getElem hq)
  have hs : c9.slots = (s.heap[q]).slots := Array.ext_getElem? fun i => e4 i fun hm => hz _ hm rfl
  have h9 : c9 = s.heap[q] := by
    rw [hs] at e2
    exact e2
  have e5 : U.heap[q]? = some c9 := e1
  rw [e5, h9, Array.getElem?_eq_getElem hq]
/-- the words of a throw but the four that speak of the heap -/
def vx_no (w : Cond) : Bool := decide (w ≠ .isRef (.static Bundle.tN "UNASSIGNED_STACK" Bundle.steD)) && decide (w ≠ .isRef (.static Bundle.tN "SUPPRESSED_SENTINEL" Bundle.listD)) && decide (w ≠ .laysStatic Bundle.tN "UNASSIGNED_STACK" Bundle.steD) && decide (w ≠ .laysStatic Bundle.tN "SUPPRESSED_SENTINEL" Bundle.listD)
def vx_at0 (own : String) (ic : Nat) (X : String) (names : List String) : List Cond := (Bundle.ownAtoms0 own ic X names).filter vx_no
def vx_atS (own : String) (ic : Nat) (X : String) (names : List String) : List Cond := (Bundle.ownAtoms own ic X names).filter vx_no
/-- a word that the tables alone decide, or a good one -/
def vx_ot (w : Cond) : Bool := w.onTables || goodWord w
theorem vx_ot_at {args a' : Array Value} {s U : State} {w : Cond} (hW : s.WarmedH U.vm) (hvm : s.vm = U.vm) (hg : vx_ot w = true) (h : w.before args s = true) : w.before a' U = true := by
  simp only [vx_ot, Bool.or_eq_true] at hg
  rcases hg with hg | hg
  · exact va_tabs hg hvm h
  · exact word_at hW (good_of_word hg) h
/-- a list's words: the good ones out of the method's own list, the others by premises of their own -/
theorem vx_hat {args : Array Value} {s : State} {L B : List Cond} (h1 : ∀ w ∈ L.filter goodWord, w.before args s = true) (h2 : ∀ w ∈ L.filter (fun w => !goodWord w), w ∈ B) (h3 : ∀ w ∈ B, w.before args s = true) : ∀ w ∈ L, w.before args s = true := by
  intro w hw
  by_cases g : goodWord w = true
  · exact h1 w (List.mem_filter.mpr ⟨hw, g⟩)
  · refine h3 w (h2 w (List.mem_filter.mpr ⟨hw, ?_⟩))
    show (!goodWord w) = true
    cases hgw : goodWord w
    · rfl
    · exact absurd hgw g
theorem vx_c {args : Array Value} {s : State} {w : Cond} {B : List Cond} (h : w.before args s = true) (t : ∀ w ∈ B, w.before args s = true) : ∀ w' ∈ w :: B, w'.before args s = true := fun w' h' => (List.mem_cons.mp h').elim (fun e => by rw [e]; exact h) (t w')
theorem vx_n {args : Array Value} {s : State} : ∀ w ∈ ([] : List Cond), w.before args s = true := fun _ h => nomatch h
theorem vx_own {args : Array Value} {s : State} {L : List Cond} (h1 : ∀ w ∈ L.filter vx_no, w.before args s = true)
    (hU : (Cond.isRef (.static Bundle.tN "UNASSIGNED_STACK" Bundle.steD)).before args s = true) (hN : (Cond.isRef (.static Bundle.tN "SUPPRESSED_SENTINEL" Bundle.listD)).before args s = true)
    (lU : (Cond.laysStatic Bundle.tN "UNASSIGNED_STACK" Bundle.steD).before args s = true) (lN : (Cond.laysStatic Bundle.tN "SUPPRESSED_SENTINEL" Bundle.listD).before args s = true) : ∀ w ∈ L, w.before args s = true := by
  intro w hw
  by_cases e1 : w = .isRef (.static Bundle.tN "UNASSIGNED_STACK" Bundle.steD)
  · rw [e1]; exact hU
  · by_cases e2 : w = .isRef (.static Bundle.tN "SUPPRESSED_SENTINEL" Bundle.listD)
    · rw [e2]; exact hN
    · by_cases e3 : w = .laysStatic Bundle.tN "UNASSIGNED_STACK" Bundle.steD
      · rw [e3]; exact lU
      · by_cases e4 : w = .laysStatic Bundle.tN "SUPPRESSED_SENTINEL" Bundle.listD
        · rw [e4]; exact lN
        · exact h1 w (List.mem_filter.mpr ⟨hw, by unfold vx_no; rw [decide_eq_true e1, decide_eq_true e2, decide_eq_true e3, decide_eq_true e4]; rfl⟩)
/-- where a static field lies, its class's statics cell in H -/
def vx_L (C n d : String) (A : Nat → Prop) (U : State) (H : Heap) : Prop := ∃ (c : ClassId) (k : Class) (i : Nat) (f : Field) (a : Nat) (cell : Cell), U.vm.findClass C = some c ∧ U.fieldFound? C n d = some (c, k, i, f) ∧ f.isStatic = true ∧ k.statics = some a ∧ H[a]? = some cell ∧ cell.vm.isStatics = true ∧ cell.cls = c ∧ f.slot < cell.slots.size ∧ k.staticTypes[f.slot]? = some f.type ∧ ¬ A a
theorem vx_L.moved {C n d : String} {A : Nat → Prop} {u U : State} {H : Heap} (hvm : u.vm.Alike U.vm) (h : vx_L C n d A u H) : vx_L C n d A U H := by
  obtain ⟨c, k, i, f, a, cell, h1, h2, h3, h4, h5, h6, h7, h8, h9, h10⟩ := h
  obtain ⟨k', hi', he⟩ := State.fieldFound?_setVm hvm h2
  exact ⟨c, k', i, f, a, cell, by rw [hvm.findClass]; exact h1, hi', h3, by rw [he]; exact h4, h5, h6, h7, h8, by rw [he]; exact h9, h10⟩
theorem vx_L.kept {C n d : String} {A : Nat → Prop} {U : State} {H H1 : Heap} (h : vx_L C n d A U H) (hq : ∀ a : Nat, a < H.size → ¬ A a → H1[a]? = H[a]?) : vx_L C n d A U H1 := by
  obtain ⟨c, k, i, f, a, cell, h1, h2, h3, h4, h5, h6, h7, h8, h9, h10⟩ := h
  exact ⟨c, k, i, f, a, cell, h1, h2, h3, h4, by rw [hq a (Array.getElem?_eq_some_iff.mp h5).1 h10]; exact h5, h6, h7, h8, h9, h10⟩
theorem vx_L.narrow {C n d : String} {A B : Nat → Prop} {U : State} {H : Heap} (h : vx_L C n d A U H) (hAB : ∀ q, B q → A q) : vx_L C n d B U H := by
  obtain ⟨c, k, i, f, a, cell, h1, h2, h3, h4, h5, h6, h7, h8, h9, h10⟩ := h
  exact ⟨c, k, i, f, a, cell, h1, h2, h3, h4, h5, h6, h7, h8, h9, fun z => h10 (hAB _ z)⟩
theorem vx_L.word {C n d : String} {A : Nat → Prop} {s : State} {args : Array Value} (h : vx_L C n d A s s.heap) : (Cond.laysStatic C n d).before args s = true := by
  obtain ⟨c, k, i, f, a, cell, h1, h2, h3, h4, h5, h6, h7, h8, h9, -⟩ := h
  show (Cond.laysStatic C n d).holds args s none s [] = true
  exact Cond.laysStatic_of h1 h2 h3 h4 h5 h6 h7 h8 h9
/-- .. and what it holds: null or some reference -/
def vx_Zq (C n d : String) (A : Nat → Prop) (U : State) (H : Heap) : Prop := va_Zq C n d A U H ∧ vx_L C n d A U H
theorem vx_Zq.moved {C n d : String} {A : Nat → Prop} {u U : State} {H : Heap} (hvm : u.vm.Alike U.vm) (h : vx_Zq C n d A u H) : vx_Zq C n d A U H := ⟨va_Zq.moved hvm h.1, vx_L.moved hvm h.2⟩
theorem vx_Zq.kept {C n d : String} {A : Nat → Prop} {U : State} {H H1 : Heap} (h : vx_Zq C n d A U H) (hq : ∀ a : Nat, a < H.size → ¬ A a → H1[a]? = H[a]?) : vx_Zq C n d A U H1 := ⟨va_Zq.kept h.1 hq, vx_L.kept h.2 hq⟩
theorem vx_Zq.narrow {C n d : String} {A B : Nat → Prop} {U : State} {H : Heap} (h : vx_Zq C n d A U H) (hAB : ∀ q, B q → A q) : vx_Zq C n d B U H := ⟨va_Zq.narrow h.1 hAB, vx_L.narrow h.2 hAB⟩
theorem vx_Zqof {args : Array Value} {s : State} {C n d : String} {A : Nat → Prop} (hl : (Cond.laysStatic C n d).before args s = true) (hini : (Cond.initialized C).before args s = true) (h : (Cond.isRef (.static C n d)).before args s = true) (hA : ∀ a : Nat, a < s.heap.size → ¬ A a) : vx_Zq C n d A s s.heap := by
  refine ⟨va_Zqof hl hini h hA, ?_⟩
  obtain ⟨c, k, i, f, a, cell, h1, h2, h3, h4, h5, h6, h7, h8, h9⟩ := Cond.laysStatic_spec hl
  exact ⟨c, k, i, f, a, cell, h1, h2, h3, h4, h5, h6, h7, h8, h9, hA a (Array.getElem?_eq_some_iff.mp h5).1⟩
theorem vx_isRef {C n d : String} {v : Value} {A : Nat → Prop} {s : State} {args : Array Value} (h : va_Z C n d v A s s.heap) (hv : v.isRef = true) : (Cond.isRef (.static C n d)).before args s = true := by
  obtain ⟨cf, kf, fi, f, a, cell, h1, h2, h3, h4, h5, h6, h7, -⟩ := h
  have he : (Term.static C n d).eval args s none [] s = some v := by
    simp [Term.eval, State.fieldNamed?, h1, h2, h4, h5, h6, h7]
  simp only [Cond.before, Cond.holds, Cond.value, he]
  cases v <;> simp_all [Value.isRef]
theorem vx_isRefq {C n d : String} {A : Nat → Prop} {s : State} {args : Array Value} (h : va_Zq C n d A s s.heap) : (Cond.isRef (.static C n d)).before args s = true := by
  rcases h with h | ⟨t, h⟩
  · exact vx_isRef h rfl
  · exact vx_isRef h rfl
/-- the same frame, seen from here: as if the method were called anew in this heap -/
theorem vx_rebase {T : State} (X : Stand p l e R s m args below meth c T locs cells slots) {R' : Room} (hf : R'.frames ≤ R.frames) (hl : R'.locals ≤ R.locals) (hc : cells + R'.cells ≤ R.cells) (hs : slots + R'.slots ≤ R.slots) :
    Stand p l e R' ((T.setVm s.vm).setFrames (.invoking m args :: below)) m args below meth c T [] 0 0 := by
  have htop : (T.setVm s.vm).topJava?.isSome := X.here.top
  have hF : ((T.setVm s.vm).setFrames (.invoking m args :: below)).frames = .invoking m args :: below := State.frames_setFrames _ (State.cur_lt_of_top htop)
  obtain ⟨g₀, hg0⟩ := Option.isSome_iff_exists.mp htop
  obtain ⟨r, hr⟩ := State.topJava?_eq_some.mp hg0
  have hl9 : e.platform.stackLimits (T.setVm s.vm).me = e.platform.stackLimits s.me := X.limits
  have hb9 : (T.setVm s.vm).me.stackBytes = s.me.stackBytes := X.bytes
  refine ⟨X.admits, X.cas, X.clock, hF, ?_, X.hears, X.method, X.code, X.here, X.tail, X.warmed, ?_, ?_, ?_⟩
  · have h := X.room
    have hU : ((T.setVm s.vm).setFrames (.invoking m args :: below)).localsInUse = s.localsInUse := by
      rw [State.localsInUse_invoking hF (meth := meth) (c := c) X.method X.code, State.localsInUse_invoking X.frames X.method X.code]
    simp only [State.hasRoom, Bool.and_eq_true, decide_eq_true_eq] at h ⊢
    obtain ⟨⟨⟨⟨h1, h2, h3, h4, h5, h6⟩, h7⟩, h8⟩, h9⟩ := h
    rw [X.frames, List.length_cons] at h2 h3
    have q1 := X.heapSize
    have q2 := X.used
    simp only [hF, hU, List.length_cons, State.stackLimits_setFrames, State.stackBytes_setFrames, hl9, hb9]
    refine ⟨⟨⟨⟨by omega, by omega, by omega, by omega, by omega, h6⟩, ?_⟩, ?_⟩, X.book⟩
    · show T.heap.size + R'.cells ≤ e.platform.maxCells
      omega
    · show T.slotsUsed + R'.slots ≤ e.platform.maxSlots
      omega
  · rw [State.stackLimits_setFrames]; rfl
  · rw [State.stackBytes_setFrames]; rfl
  · refine ⟨?_, Nat.le_refl _, Nat.le_refl _, ?_, ?_, fun a c9 h9 => ⟨c9, h9, rfl, rfl, fun _ _ => rfl⟩⟩
    · obtain ⟨t, ht, -⟩ := State.frames_cons hr
      show T.setVm s.vm = { ((T.setVm s.vm).setFrames (.invoking m args :: below)).setFrames (T.setVm s.vm).frames with heap := T.heap, slotsUsed := T.slotsUsed }
      rw [State.setFrames_setFrames, State.setFrames_self ht]
      rfl
    · show T.slotsUsed = T.slotsUsed + ((T.heap.toList.drop T.heap.size).map (·.slots.size)).sum
      rw [List.drop_eq_nil_of_le (Nat.le_of_eq Array.length_toList)]
      rfl
    · show ((T.heap.toList.drop T.heap.size).map (·.slots.size)).sum ≤ 0
      rw [List.drop_eq_nil_of_le (Nat.le_of_eq Array.length_toList)]
      exact Nat.le_refl _
/-- 'throw new E()': new; dup; invokespecial; athrow -/
theorem vx_throw0 {cc : ByteArray} {pc : Nat} (hexec : p.tables.exec = Jvm.exec) (hb : c.code = cc) (hl : l.stackTraces = false) {own cls : String} {names : List String} {ik ic mc ms : Nat} {A : Nat → Prop}
    (hown : s.vm.findClass own = some m.cls) (hcls : Bundle.fit cls = true) (hnames : ∀ n ∈ names, Bundle.fit n = true)
    (hk : (Cond.classLink own ik cls).before args s = true) (hini : (Cond.initialized cls).before args s = true) (hat : ∀ w ∈ vx_at0 own ic cls names, w.before args s = true)
    (hgood : ∀ w ∈ Cond.classLink own ik cls :: Cond.initialized cls :: vx_at0 own ic cls names, vx_ot w = true)
    (hU : vx_Zq Bundle.tN "UNASSIGNED_STACK" Bundle.steD A s s.heap) (hN : vx_Zq Bundle.tN "SUPPRESSED_SENTINEL" Bundle.listD A s s.heap) (hS : va_S A s.heap H locs) (hsize : ls.size = c.maxLocals)
    (d0 : decode cc pc = .ok (.new ik, 3)) (d3 : decode cc (pc + 3) = .ok (.dup, 1)) (d4 : decode cc (pc + 4) = .ok (.invokespecial ic, 3)) (d7 : decode cc (pc + 7) = .ok (.athrow, 1))
    (hout : ∀ x ∈ c.exceptionTable.toList, covers x (pc + 7) = false)
    (hRframes : names.length + 3 < R.frames) (hRlocals : (rest.map fun v => v.category).sum + (13 * (names.length + 1) + 42) ≤ R.locals) (hRcells : cells + 1 ≤ R.cells) (hRslots : slots + 6 ≤ R.slots) (hlocks : meth.locks = false)
    (hx : ∀ t : State, s.vm.Alike t.vm → H.size ≤ t.heap.size → (∀ q : Nat, q < H.size → t.heap[q]? = H[q]?) → XC cls s t)
    (hf : ∀ z ∈ locs, free z.base) (hc : cells + 1 ≤ mc) (hs : slots + 6 ≤ ms) :
    W p l e R s m args below meth c H locs cells slots (vx_MQ below Qc XC args s mc ms free) (F0 m pc ls rest) := by
  intro T hT X
  have htr : e.platform.stackTraces = false := (show e.platform.stackTraces = l.stackTraces by rw [X.admits.platform]).trans hl
  have Y := vx_rebase X (R' := { frames := R.frames, locals := R.locals, cells := 1, slots := 6 }) (Nat.le_refl _) (Nat.le_refl _) hRcells hRslots
  obtain ⟨s', hA⟩ : ∃ z, z = (T.setVm s.vm).setFrames (.invoking m args :: below) := ⟨_, rfl⟩
  rw [← hA] at Y
  have hvm : s'.vm = s.vm := by rw [hA]; rfl
  have hhp : s'.heap = H := by rw [hA]; exact hT
  have hW0 : s.WarmedH s'.vm := by rw [hvm]; exact State.WarmedH.refl s
  have hat' : ∀ w ∈ vx_at0 own ic cls names, w.before args s' = true := fun w hw => vx_ot_at hW0 hvm.symm (hgood w (List.mem_cons_of_mem _ (List.mem_cons_of_mem _ hw))) (hat w hw)
  have hk' : (Cond.classLink own ik cls).before args s' = true := vx_ot_at hW0 hvm.symm (hgood _ List.mem_cons_self) hk
  have hini' : (Cond.initialized cls).before args s' = true := vx_ot_at hW0 hvm.symm (hgood _ (List.mem_cons_of_mem _ List.mem_cons_self)) hini
  have hU' : vx_Zq Bundle.tN "UNASSIGNED_STACK" Bundle.steD A s' s'.heap := by rw [hhp]; exact vx_Zq.moved hW0.alike (hU.kept hS.2.1)
  have hN' : vx_Zq Bundle.tN "SUPPRESSED_SENTINEL" Bundle.listD A s' s'.heap := by rw [hhp]; exact vx_Zq.moved hW0.alike (hN.kept hS.2.1)
  have h : ∀ w ∈ Bundle.ownAtoms0 own ic cls names, w.before args s' = true := vx_own hat' (vx_isRefq hU'.1) (vx_isRefq hN'.1) hU'.2.word hN'.2.word
  have hown' : s'.vm.findClass own = some m.cls := by rw [hvm]; exact hown
  have hins : (Cond.instantiable cls 6).before args s' = true := h _ (by simp [Bundle.ownAtoms0])
  obtain ⟨vm₁, cX, kX, hfX, hkX, -, -, X₁, st1⟩ := Y.newCold hexec (own := own) (C := cls) (index := ik) (n := 6) hown' hk' hins hini'
    (g := F0 m pc ls rest) rfl (by rw [hb]; exact d0) (Nat.le_refl _) (Nat.le_refl _)
  generalize hT1 : (T.setVm vm₁).pushCell { cls := cX, slots := kX.instanceTypes.map defaultValue, vm := .none } = T1 at X₁ st1
  have hcat : (Value.ref T.heap.size).category = 1 := rfl
  have hcellA : T1.heap[T.heap.size]? = some (freshCell cX kX) := by rw [← hT1]; exact State.heap_pushCell_size _ _
  have d3' : decode c.code (pc + 3) = .ok (.dup, 1) := by rw [hb]; exact d3
  obtain ⟨U, hsteps, hrun, hend, hW, hsame, ce, hce, hO⟩ := X₁.ctorThrow0 hexec htr (own := own) (cls := cls) (names := names) (ic := ic) hown' hcls hnames h (fun x hx => nomatch hx) hfX hkX hcellA (by rw [hhp, hT]; exact Nat.le_refl _)
    (g := { method := m, pc := pc + 4, locals := ls, stack := .ref T.heap.size :: .ref T.heap.size :: rest, locked := none }) rfl hsize rfl rfl (rest := rest) rfl
    (by rw [hb]; exact d4) (by rw [hb]; exact d7) hout hRframes (by simp only [List.map_cons, List.sum_cons, hcat]; omega) hlocks
  obtain ⟨f1, f2⟩ := vx_frame hsame
  rw [hhp] at f1 f2
  have hWs : s.WarmedH U.vm := State.WarmedH.trans hW0 hW
  have hcl : s.vm.findClass cls = some ce.cls := by
    have h9 := hO.cls
    rw [hvm] at h9
    exact h9
  have hall : s.sameButNew ({ U with vm := s.vm } : State) locs mc ms := by
    subst hA
    obtain ⟨e1, e2⟩ := hsame
    rw [State.setFrames_setFrames] at e1
    have h2 : (T.setVm s.vm).sameButNew ({ U with vm := s.vm } : State) [] (0 + 1) (0 + 6) := ⟨e1, e2⟩
    have h3 := X.same.trans h2
    rw [List.append_nil] at h3
    exact h3.mono hc hs
  refine ⟨U, ?_, .threw T.heap.size, hrun, hend, Or.inr ⟨T.heap.size, rfl, cls, ce, locs, hx U hWs.alike f1 (fun q hq => f2 q hq (fun z hz => nomatch hz)), hce, hO.vm, hcl, hWs, hall, hf⟩⟩
  refine st1 _ ?_
  show Steps p.tables e below (T1.setTop { method := m, pc := pc + 3, locals := ls, stack := .ref T.heap.size :: rest, locked := none }) _
  jvm_step X₁.here [X₁.here.top, hexec, d3', Value.category]
  exact hsteps
/-- 'throw new E("text")': new; dup; ldc; invokespecial; athrow -/
theorem vx_throwS {cc : ByteArray} {pc : Nat} (hexec : p.tables.exec = Jvm.exec) (hb : c.code = cc) (hl : l.stackTraces = false) {own cls text : String} {names : List String} {ik is ic mc ms sa : Nat} {A : Nat → Prop}
    (hown : s.vm.findClass own = some m.cls) (hcls : Bundle.fit cls = true) (hnames : ∀ n ∈ names, Bundle.fit n = true)
    (hk : (Cond.classLink own ik cls).before args s = true) (hini : (Cond.initialized cls).before args s = true) (hstr : vk_R own is text sa s) (hat : ∀ w ∈ vx_atS own ic cls names, w.before args s = true)
    (hgood : ∀ w ∈ Cond.classLink own ik cls :: Cond.initialized cls :: vx_atS own ic cls names, vx_ot w = true)
    (hU : vx_Zq Bundle.tN "UNASSIGNED_STACK" Bundle.steD A s s.heap) (hN : vx_Zq Bundle.tN "SUPPRESSED_SENTINEL" Bundle.listD A s s.heap) (hS : va_S A s.heap H locs) (hsize : ls.size = c.maxLocals)
    (d0 : decode cc pc = .ok (.new ik, 3)) (d3 : decode cc (pc + 3) = .ok (.dup, 1)) (d4 : decode cc (pc + 4) = .ok (.ldc is, 2)) (d6 : decode cc (pc + 6) = .ok (.invokespecial ic, 3)) (d9 : decode cc (pc + 9) = .ok (.athrow, 1))
    (hout : ∀ x ∈ c.exceptionTable.toList, covers x (pc + 9) = false)
    (hRframes : names.length + 3 < R.frames) (hRlocals : (rest.map fun v => v.category).sum + (13 * (names.length + 1) + 43) ≤ R.locals) (hRcells : cells + 1 ≤ R.cells) (hRslots : slots + 6 ≤ R.slots) (hlocks : meth.locks = false)
    (hx : ∀ t : State, s.vm.Alike t.vm → H.size ≤ t.heap.size → (∀ q : Nat, q < H.size → t.heap[q]? = H[q]?) → XC cls s t)
    (hf : ∀ z ∈ locs, free z.base) (hc : cells + 1 ≤ mc) (hs : slots + 6 ≤ ms) :
    W p l e R s m args below meth c H locs cells slots (vx_MQ below Qc XC args s mc ms free) (F0 m pc ls rest) := by
  intro T hT X
  have htr : e.platform.stackTraces = false := (show e.platform.stackTraces = l.stackTraces by rw [X.admits.platform]).trans hl
  have Y := vx_rebase X (R' := { frames := R.frames, locals := R.locals, cells := 1, slots := 6 }) (Nat.le_refl _) (Nat.le_refl _) hRcells hRslots
  obtain ⟨s', hA⟩ : ∃ z, z = (T.setVm s.vm).setFrames (.invoking m args :: below) := ⟨_, rfl⟩
  rw [← hA] at Y
  have hvm : s'.vm = s.vm := by rw [hA]; rfl
  have hhp : s'.heap = H := by rw [hA]; exact hT
  have hW0 : s.WarmedH s'.vm := by rw [hvm]; exact State.WarmedH.refl s
  have hat' : ∀ w ∈ vx_atS own ic cls names, w.before args s' = true := fun w hw => vx_ot_at hW0 hvm.symm (hgood w (List.mem_cons_of_mem _ (List.mem_cons_of_mem _ hw))) (hat w hw)
  have hk' : (Cond.classLink own ik cls).before args s' = true := vx_ot_at hW0 hvm.symm (hgood _ List.mem_cons_self) hk
  have hini' : (Cond.initialized cls).before args s' = true := vx_ot_at hW0 hvm.symm (hgood _ (List.mem_cons_of_mem _ List.mem_cons_self)) hini
  have hU' : vx_Zq Bundle.tN "UNASSIGNED_STACK" Bundle.steD A s' s'.heap := by rw [hhp]; exact vx_Zq.moved hW0.alike (hU.kept hS.2.1)
  have hN' : vx_Zq Bundle.tN "SUPPRESSED_SENTINEL" Bundle.listD A s' s'.heap := by rw [hhp]; exact vx_Zq.moved hW0.alike (hN.kept hS.2.1)
  have h : ∀ w ∈ Bundle.ownAtoms own ic cls names, w.before args s' = true := vx_own hat' (vx_isRefq hU'.1) (vx_isRefq hN'.1) hU'.2.word hN'.2.word
  have hown' : s'.vm.findClass own = some m.cls := by rw [hvm]; exact hown
  have hins : (Cond.instantiable cls 6).before args s' = true := h _ (by simp [Bundle.ownAtoms])
  obtain ⟨vm₁, cX, kX, hfX, hkX, -, -, X₁, st1⟩ := Y.newCold hexec (own := own) (C := cls) (index := ik) (n := 6) hown' hk' hins hini'
    (g := F0 m pc ls rest) rfl (by rw [hb]; exact d0) (Nat.le_refl _) (Nat.le_refl _)
  generalize hT1 : (T.setVm vm₁).pushCell { cls := cX, slots := kX.instanceTypes.map defaultValue, vm := .none } = T1 at X₁ st1
  have hcat : (Value.ref T.heap.size).category = 1 := rfl
  have hcellA : T1.heap[T.heap.size]? = some (freshCell cX kX) := by rw [← hT1]; exact State.heap_pushCell_size _ _
  have d3' : decode c.code (pc + 3) = .ok (.dup, 1) := by rw [hb]; exact d3
  have d4' : decode c.code (pc + 4) = .ok (.ldc is, 2) := by rw [hb]; exact d4
  have hstr' : vk_R own is text sa s' := vk_R.warm hW0 hstr
  obtain ⟨U, hsteps, hrun, hend, hW, hsame, ce, hce, hO⟩ := X₁.ctorThrowS hexec htr (own := own) (cls := cls) (names := names) (ic := ic) hown' hcls hnames h (fun x hx => nomatch hx) hfX hkX hcellA (by rw [hhp, hT]; exact Nat.le_refl _) (msg := .ref sa) rfl
    (g := { method := m, pc := pc + 6, locals := ls, stack := .ref sa :: .ref T.heap.size :: .ref T.heap.size :: rest, locked := none }) rfl hsize rfl rfl (rest := rest) rfl
    (by rw [hb]; exact d6) (by rw [hb]; exact d9) hout hRframes (by simp only [List.map_cons, List.sum_cons, hcat]; omega) hlocks
  obtain ⟨f1, f2⟩ := vx_frame hsame
  rw [hhp] at f1 f2
  have hWs : s.WarmedH U.vm := State.WarmedH.trans hW0 hW
  have hcl : s.vm.findClass cls = some ce.cls := by
    have h9 := hO.cls
    rw [hvm] at h9
    exact h9
  have hall : s.sameButNew ({ U with vm := s.vm } : State) locs mc ms := by
    subst hA
    obtain ⟨e1, e2⟩ := hsame
    rw [State.setFrames_setFrames] at e1
    have h2 : (T.setVm s.vm).sameButNew ({ U with vm := s.vm } : State) [] (0 + 1) (0 + 6) := ⟨e1, e2⟩
    have h3 := X.same.trans h2
    rw [List.append_nil] at h3
    exact h3.mono hc hs
  refine ⟨U, ?_, .threw T.heap.size, hrun, hend, Or.inr ⟨T.heap.size, rfl, cls, ce, locs, hx U hWs.alike f1 (fun q hq => f2 q hq (fun z hz => nomatch hz)), hce, hO.vm, hcl, hWs, hall, hf⟩⟩
  refine st1 _ ?_
  show Steps p.tables e below (T1.setTop { method := m, pc := pc + 3, locals := ls, stack := .ref T.heap.size :: rest, locked := none }) _
  jvm_step X₁.here [X₁.here.top, hexec, d3', Value.category]
  exact X₁.ldcString hexec (own := own) (text := text) (index := is) (a := sa) hown' hstr'.1 hstr'.2
    (g := { method := m, pc := pc + 4, locals := ls, stack := .ref T.heap.size :: .ref T.heap.size :: rest, locked := none }) rfl d4' _ hsteps
/-- 'throw new E("text")', the text by a wide index -/
theorem vx_throwSW {cc : ByteArray} {pc : Nat} (hexec : p.tables.exec = Jvm.exec) (hb : c.code = cc) (hl : l.stackTraces = false) {own cls text : String} {names : List String} {ik is ic mc ms sa : Nat} {A : Nat → Prop}
    (hown : s.vm.findClass own = some m.cls) (hcls : Bundle.fit cls = true) (hnames : ∀ n ∈ names, Bundle.fit n = true)
    (hk : (Cond.classLink own ik cls).before args s = true) (hini : (Cond.initialized cls).before args s = true) (hstr : vk_R own is text sa s) (hat : ∀ w ∈ vx_atS own ic cls names, w.before args s = true)
    (hgood : ∀ w ∈ Cond.classLink own ik cls :: Cond.initialized cls :: vx_atS own ic cls names, vx_ot w = true)
    (hU : vx_Zq Bundle.tN "UNASSIGNED_STACK" Bundle.steD A s s.heap) (hN : vx_Zq Bundle.tN "SUPPRESSED_SENTINEL" Bundle.listD A s s.heap) (hS : va_S A s.heap H locs) (hsize : ls.size = c.maxLocals)
    (d0 : decode cc pc = .ok (.new ik, 3)) (d3 : decode cc (pc + 3) = .ok (.dup, 1)) (d4 : decode cc (pc + 4) = .ok (.ldc_w is, 3)) (d7 : decode cc (pc + 7) = .ok (.invokespecial ic, 3)) (d10 : decode cc (pc + 10) = .ok (.athrow, 1))
    (hout : ∀ x ∈ c.exceptionTable.toList, covers x (pc + 10) = false)
    (hRframes : names.length + 3 < R.frames) (hRlocals : (rest.map fun v => v.category).sum + (13 * (names.length + 1) + 43) ≤ R.locals) (hRcells : cells + 1 ≤ R.cells) (hRslots : slots + 6 ≤ R.slots) (hlocks : meth.locks = false)
    (hx : ∀ t : State, s.vm.Alike t.vm → H.size ≤ t.heap.size → (∀ q : Nat, q < H.size → t.heap[q]? = H[q]?) → XC cls s t)
    (hf : ∀ z ∈ locs, free z.base) (hc : cells + 1 ≤ mc) (hs : slots + 6 ≤ ms) :
    W p l e R s m args below meth c H locs cells slots (vx_MQ below Qc XC args s mc ms free) (F0 m pc ls rest) := by
  intro T hT X
  have htr : e.platform.stackTraces = false := (show e.platform.stackTraces = l.stackTraces by rw [X.admits.platform]).trans hl
  have Y := vx_rebase X (R' := { frames := R.frames, locals := R.locals, cells := 1, slots := 6 }) (Nat.le_refl _) (Nat.le_refl _) hRcells hRslots
  obtain ⟨s', hA⟩ : ∃ z, z = (T.setVm s.vm).setFrames (.invoking m args :: below) := ⟨_, rfl⟩
  rw [← hA] at Y
  have hvm : s'.vm = s.vm := by rw [hA]; rfl
  have hhp : s'.heap = H := by rw [hA]; exact hT
  have hW0 : s.WarmedH s'.vm := by rw [hvm]; exact State.WarmedH.refl s
  have hat' : ∀ w ∈ vx_atS own ic cls names, w.before args s' = true := fun w hw => vx_ot_at hW0 hvm.symm (hgood w (List.mem_cons_of_mem _ (List.mem_cons_of_mem _ hw))) (hat w hw)
  have hk' : (Cond.classLink own ik cls).before args s' = true := vx_ot_at hW0 hvm.symm (hgood _ List.mem_cons_self) hk
  have hini' : (Cond.initialized cls).before args s' = true := vx_ot_at hW0 hvm.symm (hgood _ (List.mem_cons_of_mem _ List.mem_cons_self)) hini
  have hU' : vx_Zq Bundle.tN "UNASSIGNED_STACK" Bundle.steD A s' s'.heap := by rw [hhp]; exact vx_Zq.moved hW0.alike (hU.kept hS.2.1)
  have hN' : vx_Zq Bundle.tN "SUPPRESSED_SENTINEL" Bundle.listD A s' s'.heap := by rw [hhp]; exact vx_Zq.moved hW0.alike (hN.kept hS.2.1)
  have h : ∀ w ∈ Bundle.ownAtoms own ic cls names, w.before args s' = true := vx_own hat' (vx_isRefq hU'.1) (vx_isRefq hN'.1) hU'.2.word hN'.2.word
  have hown' : s'.vm.findClass own = some m.cls := by rw [hvm]; exact hown
  have hins : (Cond.instantiable cls 6).before args s' = true := h _ (by simp [Bundle.ownAtoms])
  obtain ⟨vm₁, cX, kX, hfX, hkX, -, -, X₁, st1⟩ := Y.newCold hexec (own := own) (C := cls) (index := ik) (n := 6) hown' hk' hins hini'
    (g := F0 m pc ls rest) rfl (by rw [hb]; exact d0) (Nat.le_refl _) (Nat.le_refl _)
  generalize hT1 : (T.setVm vm₁).pushCell { cls := cX, slots := kX.instanceTypes.map defaultValue, vm := .none } = T1 at X₁ st1
  have hcat : (Value.ref T.heap.size).category = 1 := rfl
  have hcellA : T1.heap[T.heap.size]? = some (freshCell cX kX) := by rw [← hT1]; exact State.heap_pushCell_size _ _
  have d3' : decode c.code (pc + 3) = .ok (.dup, 1) := by rw [hb]; exact d3
  have d4' : decode c.code (pc + 4) = .ok (.ldc_w is, 3) := by rw [hb]; exact d4
  have hstr' : vk_R own is text sa s' := vk_R.warm hW0 hstr
  obtain ⟨U, hsteps, hrun, hend, hW, hsame, ce, hce, hO⟩ := X₁.ctorThrowS hexec htr (own := own) (cls := cls) (names := names) (ic := ic) hown' hcls hnames h (fun x hx => nomatch hx) hfX hkX hcellA (by rw [hhp, hT]; exact Nat.le_refl _) (msg := .ref sa) rfl
    (g := { method := m, pc := pc + 7, locals := ls, stack := .ref sa :: .ref T.heap.size :: .ref T.heap.size :: rest, locked := none }) rfl hsize rfl rfl (rest := rest) rfl
    (by rw [hb]; exact d7) (by rw [hb]; exact d10) hout hRframes (by simp only [List.map_cons, List.sum_cons, hcat]; omega) hlocks
  obtain ⟨f1, f2⟩ := vx_frame hsame
  rw [hhp] at f1 f2
  have hWs : s.WarmedH U.vm := State.WarmedH.trans hW0 hW
  have hcl : s.vm.findClass cls = some ce.cls := by
    have h9 := hO.cls
    rw [hvm] at h9
    exact h9
  have hall : s.sameButNew ({ U with vm := s.vm } : State) locs mc ms := by
    subst hA
    obtain ⟨e1, e2⟩ := hsame
    rw [State.setFrames_setFrames] at e1
    have h2 : (T.setVm s.vm).sameButNew ({ U with vm := s.vm } : State) [] (0 + 1) (0 + 6) := ⟨e1, e2⟩
    have h3 := X.same.trans h2
    rw [List.append_nil] at h3
    exact h3.mono hc hs
  refine ⟨U, ?_, .threw T.heap.size, hrun, hend, Or.inr ⟨T.heap.size, rfl, cls, ce, locs, hx U hWs.alike f1 (fun q hq => f2 q hq (fun z hz => nomatch hz)), hce, hO.vm, hcl, hWs, hall, hf⟩⟩
  refine st1 _ ?_
  show Steps p.tables e below (T1.setTop { method := m, pc := pc + 3, locals := ls, stack := .ref T.heap.size :: rest, locked := none }) _
  jvm_step X₁.here [X₁.here.top, hexec, d3', Value.category]
  exact X₁.ldcStringW hexec (own := own) (text := text) (index := is) (a := sa) hown' hstr'.1 hstr'.2
    (g := { method := m, pc := pc + 4, locals := ls, stack := .ref T.heap.size :: .ref T.heap.size :: rest, locked := none }) rfl d4' _ hsteps
end Ends
section Bodies
variable {l : Launch}
theorem vx_ofW {y : MethodName} {ws ws' : List Cond} {rm : Room} {Pc : Array Value → State → Prop} {Qc : Array Value → State → Outcome → State → Prop} {XC : String → State → State → Prop} {mc ms : Nat} {free : Addr → Prop} {cc : ByteArray} {maxL : Nat} {ret : Option FieldType}
    (hy : plainName y.cls = true) (hw : ws = Cond.code y cc maxL ret :: ws')
    (body : ∀ p e s m args below meth c s₁, BodyLoose p l y (headSpec ws rm) cc maxL ret e s m args below meth c s₁ → c.maxLocals = maxL → (∀ x ∈ c.exceptionTable.toList, False) → Pc args s →
      W p l e (headSpec ws rm).room s m args below meth c s.heap [] 0 0 (vx_MQ below Qc XC args s mc ms free) (entryFrame m args maxL)) : vx_Met l y ws rm Pc Qc XC mc ms free := by
  refine MetFree.of_bodyS (code := cc) (maxLocals := maxL) (ret := ret) hy ?_ ?_
  · intro args s m h hn
    obtain ⟨meth, c, h1, h2, h3, h4, h5, h6, -, -⟩ := Cond.code_spec hn (atoms_spec (ws := ws) h _ (by rw [hw]; exact List.mem_cons_self))
    exact ⟨meth, c, h1, h2, h3, h4, h5, h6⟩
  · intro p e s m args below meth c s₁ B hml hP _
    have hh0 : s₁.heap = s.heap := by rw [B.state]; rfl
    have ht : ∀ x ∈ c.exceptionTable.toList, False := by
      obtain ⟨meth9, c9, h1, h2, -, -, -, -, h7, -⟩ := Cond.code_spec B.named (atoms_spec (ws := ws) B.pre _ (by rw [hw]; exact List.mem_cons_self))
      cases Option.some.inj (h1.symm.trans B.method)
      cases Option.some.inj (h2.symm.trans (Stand.of_body B).code)
      intro x hx
      rw [Array.isEmpty_iff.mp h7] at hx
      cases hx
    obtain ⟨t, a1, o, b1, b2, b3⟩ := body p e s m args below meth c s₁ B hml ht hP s₁ hh0 (Stand.of_body B)
    exact ⟨t, o, a1, b1, b2, b3⟩
/-- the table of a body with handlers -/
theorem vx_table {p : Program} {x y : MethodName} {S : Spec} {cc bytes : ByteArray} {maxL maxL' : Nat} {ret ret' : Option FieldType} {e : Env} {s s₁ : State} {m : MethodId} {args : Array Value} {below : List Frame} {meth : Method} {c : Code} {hh : List (Nat × Nat × Nat × Nat)}
    (B : BodyLoose p l y S cc maxL ret e s m args below meth c s₁) (h : (Cond.codeWith y bytes maxL' ret' hh).before args s = true) : c.exceptionTable.toList = tableOf hh := by
  obtain ⟨m9, meth9, c9, hn9, h1, h2, -, -, h6, -⟩ := Cond.codeWith_spec h
  cases Option.some.inj (hn9.symm.trans B.named)
  cases Option.some.inj (h1.symm.trans B.method)
  cases Option.some.inj (h2.symm.trans (Stand.of_body B).code)
  rw [← h6, table_eq]
end Bodies
end VXA
/-! ===== END ===== -/
/-! ===== BEGIN a static call of a method with an exception table ===== -/
section VXS
variable {p : Program} {l : Launch} {e : Env} {R : Room} {s : State} {m : MethodId} {args : Array Value} {below : List Frame} {meth : Method} {c : Code} {T : State} {H : Heap} {locs : List Loc} {cells slots : Nat}
abbrev vx_CSW (R : Room) (s : State) (args : Array Value) (own : String) (index : Nat) (y : MethodName) (bytes : ByteArray) (maxL : Nat) (ret : Option FieldType) (hh : List (Nat × Nat × Nat × Nat)) (ws : List Cond) (rm : Room) (mc ms n : Nat) : Prop :=
  (rm.cells = mc ∧ rm.slots = ms ∧ rm.frames + 1 ≤ R.frames ∧ 8 + (maxL + 11) + rm.locals ≤ R.locals ∧ (∀ w ∈ ws, ∀ (a' : Array Value) (U : State), s.WarmedH U.vm → w.before a' U = true) ∧ Cond.codeWith y bytes maxL ret hh ∈ ws) ∧
  (Cond.codeWith y bytes maxL ret hh).before args s = true ∧ (Cond.initialized y.cls).before args s = true ∧ (y.cls ≠ "java/lang/invoke/MethodHandle" ∧ y.cls ≠ "java/lang/invoke/VarHandle") ∧
  (∀ sig, parseMethodDescriptor y.desc = some sig → n = sig.parameters.length) ∧ (Cond.methodLink own index y).before args s = true ∧ (Cond.static y).before args s = true
theorem vx_cwSW {own : String} {index maxL mc ms : Nat} {y : MethodName} {bytes : ByteArray} {ret : Option FieldType} {hh : List (Nat × Nat × Nat × Nat)} {Ts ws ws' : List Cond} {rm : Room} (n : Nat) (ht : ∀ w ∈ Ts, w.before args s = true) (hT : GoodIn Ts (va_wsS own index y ws)) (hw : ws = Cond.codeWith y bytes maxL ret hh :: ws') (hrc : rm.cells = mc) (hrs : rm.slots = ms)
    (hd : y.cls ≠ "java/lang/invoke/MethodHandle" ∧ y.cls ≠ "java/lang/invoke/VarHandle" ∧ (parseMethodDescriptor y.desc).map (fun d => d.parameters.length) = some n) (hR : rm.frames + 1 ≤ R.frames ∧ 8 + (maxL + 11) + rm.locals ≤ R.locals) :
    vx_CSW R s args own index y bytes maxL ret hh ws rm mc ms n := by
  have ok : ∀ w ∈ va_wsS own index y ws, w.before args s = true := fun w h => ht w (hT w h).1
  have hG : GoodIn Ts ws := fun w h => hT w (by unfold va_wsS; exact List.mem_append_right _ h)
  have hc : Cond.codeWith y bytes maxL ret hh ∈ ws := by rw [hw]; exact List.mem_cons_self
  refine ⟨⟨hrc, hrs, hR.1, hR.2, pay_in ht hG, hc⟩, ht _ (hG _ hc).1, ok _ (by simp [va_wsS]), ⟨hd.1, hd.2.1⟩, fun sig h => ?_, ok _ (by simp [va_wsS]), ok _ (by simp [va_wsS])⟩
  have h2 := hd.2.2
  rw [h] at h2
  exact (Option.some.inj h2).symm
theorem vx_callSW (X : Stand p l e R s m args below meth c T locs cells slots) (hexec : p.tables.exec = Jvm.exec) {own : String} {index : Nat} {y : MethodName} {bytes : ByteArray} {maxL : Nat} {ret : Option FieldType} {hh : List (Nat × Nat × Nat × Nat)}
    (hown : s.vm.findClass own = some m.cls) (hlink : (Cond.methodLink own index y).before args s = true) (hstat : (Cond.static y).before args s = true) (hinit : (Cond.initialized y.cls).before args s = true)
    (hcode : (Cond.codeWith y bytes maxL ret hh).before args s = true) (hy : y.cls ≠ "java/lang/invoke/MethodHandle" ∧ y.cls ≠ "java/lang/invoke/VarHandle")
    {W9 : Nat} {Pre : Pt → Array Value → Prop} {Post : Pt → Array Value → Option Value → Pt → Prop} (hK : Back l R p e below s args y 3 W9 Pre Post)
    {g : JFrame} (hg : g.method = m) (hsize : g.locals.size = c.maxLocals) {argsL rest : List Value} (hlen : ∀ sig, parseMethodDescriptor y.desc = some sig → argsL.length = sig.parameters.length)
    (hstack : g.stack = argsL.reverse ++ rest) (hW : 2 * g.monitorRoom + (rest.map fun v => v.category).sum ≤ W9) (hdg : decode c.code g.pc = .ok (.invokestatic index, 3))
    (hpre : ∀ vm₁, s.WarmedH vm₁ → Pre ⟨T.setVm vm₁, locs, cells, slots⟩ argsL.toArray) :
    ∃ (v : Option Value) (vm₁ : Vm) (B : Pt), s.WarmedH vm₁ ∧ Stand p l e R s m args below meth c B.U B.locs B.cells B.slots ∧ Post ⟨T.setVm vm₁, locs, cells, slots⟩ argsL.toArray v B ∧
      ∀ target, Steps p.tables e below (B.U.setTop { g with pc := g.pc + 3, stack := v.toList ++ rest }) target → Steps p.tables e below (T.setTop g) target := by
  obtain ⟨mk, methM, cM, hnamed, hmethM, -, -, -, -, -, -, hsigM⟩ := Cond.codeWith_spec hcode
  have hstatic : methM.isStatic = true := Cond.static_spec hnamed hmethM hstat
  obtain ⟨kP, hkP, -⟩ := className_of_methodNamed hnamed
  have hinitP : kP.init = .initialized := Cond.initialized_spec (findClass_of_methodNamed hnamed) hkP hinit
  obtain ⟨vm₁, X₁, hstep₁⟩ := X.invokestatic hexec hown hlink hnamed hmethM hstatic hkP hinitP hy (g := g) hg (argsL := argsL) (rest := rest) (hlen _ hsigM) hstack hdg
  obtain ⟨v, B, X', hpost, hsteps⟩ := hK m meth c ⟨T.setVm vm₁, locs, cells, slots⟩ { g with stack := rest } (.invokestatic index) mk argsL.toArray X₁ hg hsize hdg hW (X₁.named hnamed) (hpre vm₁ X₁.warmed)
  exact ⟨v, vm₁, B, X₁.warmed, X', hpost, fun target h => hstep₁ _ fun acts => by rw [doInvoke_state]; exact hsteps.trans h⟩
theorem vx_runSW {y : MethodName} {bytes cc : ByteArray} {maxL nL mc ms n index : Nat} {ret : Option FieldType} {hh : List (Nat × Nat × Nat × Nat)} {ws : List Cond} {rm : Room} {Pc : Array Value → State → Prop} {Qc : Array Value → State → Outcome → State → Prop} {free : Addr → Prop} {Ts : List Cond} {own : String} {As rest : List Value} {g : JFrame}
    (S : CallFix p m c cc nL s args Ts own) (hM : Met l y ws rm Pc Qc mc ms free) (cw : vx_CSW R s args own index y bytes maxL ret hh ws rm mc ms n) (hp : PreS s H Pc As)
    (hg : g.method = m) (hn : As.length = n) (hsize : g.locals.size = nL) (hstack : g.stack = As.reverse ++ rest) (hW : 2 * g.monitorRoom + (rest.map fun v => v.category).sum ≤ 8) (hdg : decode cc g.pc = .ok (.invokestatic index, 3)) (hf : cells + mc ≤ R.cells ∧ slots + ms ≤ R.slots) :
    va_Run p l e R s m args below meth c H locs cells slots mc ms g rest (Qc As.toArray) (free) := by
  obtain ⟨⟨hrc, hrs, hfr, hlo, hws, hcw⟩, hcode, hini, hy, hlen, hl, hstt⟩ := cw
  have hK : Back l R p e below s args y 3 8 (PreOf R mc ms Pc) (PostOf Qc mc ms free) := va_backW (hh := hh) (bytes := bytes) (maxL := maxL) (ret := ret) hM hp.1 hrc hrs hfr hlo hws hcw (fun a' U hW => word_at hW (Or.inl (by first | rfl | simp [Cond.onTables, Cond.keeps, Cond.steady])) hini)
  obtain ⟨hx, hb, hml, ho, -⟩ := S
  intro T hT X
  obtain ⟨v, vm₁, ⟨U', l2, c2, s2⟩, hW₁, X', ⟨g', mk, t, L, e1, e2, hq, h1, hL, h2, h3⟩, st⟩ := vx_callSW X hx (hh := hh) (bytes := bytes) (maxL := maxL) (ret := ret) ho hl hstt hini hcode hy hK hg (hsize.trans hml.symm) (argsL := As) (rest := rest) (fun sig h => hn.trans (hlen sig h)) hstack hW (by rw [hb]; exact hdg)
    (fun vm₁ hW₁ => ⟨hf.1, hf.2, hp.2 (T.setVm vm₁) hT hW₁⟩)
  dsimp only [Pt.U, Pt.locs, Pt.cells, Pt.slots] at X' e1 e2 h1 h2 h3 st
  subst h1; subst h2; subst h3
  exact ⟨v, (T.setVm vm₁).calling g' mk As.toArray, t, U', L, hT, X', hL, e1, e2, hq, st⟩
/-- not caught here, past rows that name other classes: it goes on to the caller -/
theorem vx_outP {p : Program} {l : Launch} {e : Env} {R : Room} {s : State} {m : MethodId} {args : Array Value} {below : List Frame} {meth : Method} {c : Code} {H : Heap} {locs : List Loc} {cells slots : Nat} {free : Addr → Prop} {ls : Array Slot} {rest : List Value} {Qc : Array Value → State → Outcome → State → Prop} {XC : String → State → State → Prop}
    {pc : Nat} {own E : String} {ce : Cell} {q : Addr} {mc ms : Nat} (hown : s.vm.findClass own = some m.cls) (hlocks : meth.locks = false)
    (hpass : ∀ z ∈ c.exceptionTable.toList, covers z pc = false ∨ (z.catchType ≠ 0 ∧ ∃ nm : String, (Cond.classLink own z.catchType nm).before args s = true ∧ va_Nc E nm s)) (hcell : H[q]? = some ce) (hv : ce.vm = .none) (hcl : s.vm.findClass E = some ce.cls)
    (hx : ∀ t : State, t.heap = H → s.vm.Alike t.vm → XC E s t) (hf : ∀ z ∈ locs, free z.base) (hc : cells ≤ mc) (hs : slots ≤ ms) :
    vx_W p l e R s m args below meth c H locs cells slots (vx_MQ below Qc XC args s mc ms free) (F0 m pc ls rest) q := by
  intro T hT X
  have hpl : e.platform.magicAccessors = ({} : Platform).magicAccessors := by rw [X.admits.platform]
  obtain ⟨vm', hW', X', st⟩ := X.outThrough hlocks q (g := F0 m pc ls rest) rfl rfl rfl (cell := ce) (by rw [hT]; exact hcell) (by rw [hv]; rfl)
    (by obtain ⟨k9, h9, -⟩ := Vm.findClass_spec hcl; exact ⟨k9, h9⟩) (fun z hz => by
      rcases hpass z hz with h | ⟨hz0, nm, hl1, hn1⟩
      · exact Or.inl h
      · obtain ⟨c6, hc6, hcl6⟩ := Cond.classLink_spec hown hl1 e.platform hpl
        obtain ⟨a8, b8, h1, h2, h3⟩ := hn1
        cases Option.some.inj (h1.symm.trans hcl)
        cases Option.some.inj (h2.symm.trans hc6)
        exact Or.inr ⟨hz0, _, hcl6, h3⟩)
  obtain ⟨g₀, hfr⟩ := X'.frames_eq
  have hcell9 : ((T.setVm vm').setFrames (.throwing q :: below)).heap[q]? = some ce := by
    show T.heap[q]? = some ce
    rw [hT]; exact hcell
  have hend : Ended ((T.setVm vm').setFrames (.throwing q :: below)) below (.threw q) := State.frames_setFrames _ (State.cur_lt_of_frames hfr)
  refine ⟨(T.setVm vm').setFrames (.throwing q :: below), ?_, .threw q, X'.here.running, hend, Or.inr ⟨q, rfl, E, ce, locs, hx _ hT (X'.ends _).1.alike, hcell9, hv, hcl, (X'.ends _).1, (X'.ends _).2.mono hc hs, hf⟩⟩
  rw [X.pushThrowing_eq]
  exact st
/-- a thing of a world lies in the heap -/
theorem vx_lt {D : va_G} {cl : List vw_C} {ws : va_W} {H1 : Heap} (h : va_P D cl ws H1) {k : Nat} {q : Nat × va_E} (hk : ws[k]? = some q) : q.1 < H1.size := (h k q hk).lt
end VXS
/-! ===== END ===== -/
/-! ===== BEGIN methods with a table of their own: called by a name, returning or throwing ===== -/
section VXH
/-! vx_backW, vx_callVX, vx_callSX, vx_callVW, vx_runVW, vx_runVX, vx_runSX, vx_ofWH follow the same proofs as their sisters above (Free/Laws.lean, Shelf42/LK1.lean); vx_outP calls Shelf42/NT130.lean (outThrough). -/
section
variable {l : Launch} {R : Room} {p : Program} {e : Env} {below : List Frame} {s : State} {sargs : Array Value} {y : MethodName} {len W9 : Nat}
theorem vx_backW {ws : List Cond} {rm : Room} {Pc : Array Value → State → Prop} {Qc : Array Value → State → Outcome → State → Prop} {XC : String → State → State → Prop} {mc ms : Nat} {free : Addr → Prop} {bytes : ByteArray} {maxL : Nat} {ret : Option FieldType} {hh : List (Nat × Nat × Nat × Nat)}
    (hM : vx_Met l y ws rm Pc Qc XC mc ms free) (hblind : FrameBlind Pc) (hrc : rm.cells = mc) (hrs : rm.slots = ms)
    (hframes : rm.frames + 1 ≤ R.frames) (hlocals : W9 + (maxL + 11) + rm.locals ≤ R.locals)
    (hws : ∀ w ∈ ws, ∀ a' U, s.WarmedH U.vm → w.before a' U = true) (hcode : Cond.codeWith y bytes maxL ret hh ∈ ws) (hinit : ∀ a' U, s.WarmedH U.vm → (Cond.initialized y.cls).before a' U = true) :
    vx_Back l R p e below s sargs y len W9 (PreOf R mc ms Pc) (PostOf Qc mc ms free) (vx_Post XC mc ms free) := by
  intro m meth c A g ig mk a X hg hsize hdg hW hn hp
  have h1 : (headSpec ws rm).pre.before a A.U = true := atoms_intro fun w hw => hws w hw _ _ X.warmed
  have h2 : (Cond.codeWith y bytes maxL ret hh).before a A.U = true := hws _ hcode _ _ X.warmed
  have h3 : (Cond.initialized y.cls).before a A.U = true := hinit _ _ X.warmed
  have h4 : A.cells + (headSpec ws rm).room.cells ≤ R.cells := by rw [show (headSpec ws rm).room.cells = mc from hrc]; exact hp.1
  have h5 : A.slots + (headSpec ws rm).room.slots ≤ R.slots := by rw [show (headSpec ws rm).room.slots = ms from hrs]; exact hp.2.1
  have hPc : Pc a (A.U.calling g mk a) := hblind _ _ _ _ hp.2.2
  obtain ⟨U, Ls, c0, s0⟩ := A
  dsimp only [Pt.U, Pt.locs, Pt.cells, Pt.slots] at h1 h2 h3 h4 h5 X hn hPc ⊢
  obtain ⟨m9, methY, cY, hn9, hmY, hcY, -, hlY, -⟩ := Cond.codeWith_spec h2
  cases Option.some.inj (hn9.symm.trans hn)
  obtain ⟨kY, hkY, -⟩ := className_of_methodNamed hn
  have hinitY : kY.init = .initialized := Cond.initialized_spec (findClass_of_methodNamed hn) hkY h3
  have h : At U g.method c below := by rw [hg]; exact X.here
  have hlocals9 : W9 + (maxL + 11) + (headSpec ws rm).room.locals ≤ R.locals := hlocals
  have happ : (headSpec ws rm).appliesLoose y e.platform (U.calling g mk a) = true :=
    Spec.appliesLoose_calling (g := g) h hdg hn hkY hinitY
      (X.room_calling (g := g) (R' := (headSpec ws rm).room) hsize hmY hcY hframes (by rw [hlY]; omega) h4 h5) h1
  obtain ⟨mid, hmid⟩ := h.above
  have hfr : (U.setTop g).frames = (.java g :: mid) ++ below := by rw [State.frames_setTop' g h.top, hmid]; rfl
  obtain ⟨o, s₂, hsteps, -, hend, hq⟩ := Steps.callFree hM p X.admits X.cas X.clock (acts := []) hfr happ hPc trivial
  have hq' : vx_Q Qc XC mc ms free a (U.calling g mk a) o s₂ := hq
  rw [State.frames_setTop' g h.top] at hend
  obtain ⟨g₀, hg0⟩ := Option.isSome_iff_exists.mp h.top
  obtain ⟨r, hr⟩ := State.topJava?_eq_some.mp hg0
  have hr' : (({ U with heap := s₂.heap, slotsUsed := s₂.slotsUsed } : State).setVm s₂.vm).frames = .java g₀ :: r := hr
  rcases hq' with ⟨hqc, L, hfe, hL⟩ | ⟨q, rfl, E, ce, L, hx, hce, hcv, hcl, hW₂, hsm, hL⟩
  · obtain ⟨⟨v, rfl⟩, hW₂, e2, q2, q3, q4, q5, q6⟩ := id hfe
    have e3 : s₂ = ({ (U.calling g mk a).setFrames s₂.frames with heap := s₂.heap, slotsUsed := s₂.slotsUsed } : State).setVm s₂.vm := by
      have : s₂ = ({ s₂ with vm := (U.calling g mk a).vm } : State).setVm s₂.vm := rfl
      rw [e2] at this
      exact this
    obtain ⟨c₂, i₂, len₂, hc₂, hd₂, hf₂⟩ := hend
    have hW' : U.WarmedH s₂.vm := hW₂
    have hcc : c₂ = c := by
      have h1 : s₂.code? g.method = U.code? g.method := by
        rw [State.code?_eq, State.code?_eq, hW'.alike.method?]
      exact Option.some.inj (hc₂.symm.trans (h1.trans h.code))
    subst hcc
    have hlen : len₂ = len := by rw [hdg] at hd₂; cases hd₂; rfl
    subst hlen
    have hs₂ : s₂ = (({ U with heap := s₂.heap, slotsUsed := s₂.slotsUsed } : State).setVm s₂.vm).setTop { g with pc := g.pc + len₂, stack := v.toList ++ g.stack } := by
      refine e3.trans ?_
      rw [hf₂, State.calling_eq h.top, State.setFrames_setFrames, State.setTop_of_frames _ hr', hr]
      rfl
    have hsame : U.sameButNew ({ U with heap := s₂.heap, slotsUsed := s₂.slotsUsed } : State) L mc ms := by
      refine ⟨?_, q2, q3, q4, q5, q6⟩
      obtain ⟨t, ht, -⟩ := State.frames_cons hr
      show ({ U with heap := s₂.heap, slotsUsed := s₂.slotsUsed } : State) = { U.setFrames U.frames with heap := s₂.heap, slotsUsed := s₂.slotsUsed }
      rw [State.setFrames_self ht]
    subst hg
    refine Or.inl ⟨v, ⟨(({ U with heap := s₂.heap, slotsUsed := s₂.slotsUsed } : State).setVm s₂.vm), Ls ++ L, c0 + mc, s0 + ms⟩,
      ⟨X.admits, X.cas, X.clock, X.frames, X.room, X.hears, X.method, X.code, (X.here.setHeapUsed s₂.heap s₂.slotsUsed).setVm hW'.alike, X.tail, State.WarmedH.trans X.warmed hW', X.limits, X.bytes, X.same.trans (hsame.setVm s.vm)⟩,
      ⟨g, mk, s₂, L, rfl, rfl, hqc, rfl, hL, rfl, rfl⟩, ?_⟩
    show Steps p.tables e below _ ((({ U with heap := s₂.heap, slotsUsed := s₂.slotsUsed } : State).setVm s₂.vm).setTop { g with pc := g.pc + len₂, stack := v.toList ++ g.stack })
    rw [← hs₂]
    exact hsteps
  · obtain ⟨e2, q2, q3, q4, q5, q6⟩ := id hsm
    have e3 : s₂ = ({ (U.calling g mk a).setFrames s₂.frames with heap := s₂.heap, slotsUsed := s₂.slotsUsed } : State).setVm s₂.vm := by
      have : s₂ = ({ s₂ with vm := (U.calling g mk a).vm } : State).setVm s₂.vm := rfl
      rw [e2] at this
      exact this
    have hf₂ : s₂.frames = .throwing q :: .java g :: U.frames.tail := hend
    have hW' : U.WarmedH s₂.vm := hW₂
    have hs₂ : s₂ = ((({ U with heap := s₂.heap, slotsUsed := s₂.slotsUsed } : State).setVm s₂.vm).setTop g).pushFrame (.throwing q) := by
      refine e3.trans ?_
      rw [hf₂, State.calling_eq h.top, State.setFrames_setFrames, State.pushFrame, State.frames_setTop _ hr', State.setTop_of_frames _ hr', State.setFrames_setFrames, hr]
      rfl
    have hsame : U.sameButNew ({ U with heap := s₂.heap, slotsUsed := s₂.slotsUsed } : State) L mc ms := by
      refine ⟨?_, q2, q3, q4, q5, q6⟩
      obtain ⟨t, ht, -⟩ := State.frames_cons hr
      show ({ U with heap := s₂.heap, slotsUsed := s₂.slotsUsed } : State) = { U.setFrames U.frames with heap := s₂.heap, slotsUsed := s₂.slotsUsed }
      rw [State.setFrames_self ht]
    subst hg
    refine Or.inr ⟨q, ⟨(({ U with heap := s₂.heap, slotsUsed := s₂.slotsUsed } : State).setVm s₂.vm), Ls ++ L, c0 + mc, s0 + ms⟩,
      ⟨X.admits, X.cas, X.clock, X.frames, X.room, X.hears, X.method, X.code, (X.here.setHeapUsed s₂.heap s₂.slotsUsed).setVm hW'.alike, X.tail, State.WarmedH.trans X.warmed hW', X.limits, X.bytes, X.same.trans (hsame.setVm s.vm)⟩,
      ⟨g, mk, s₂, L, E, ce, rfl, rfl, hx, hce, hcv, hcl, rfl, hL, rfl, rfl⟩, ?_⟩
    show Steps p.tables e below _ (((({ U with heap := s₂.heap, slotsUsed := s₂.slotsUsed } : State).setVm s₂.vm).setTop g).pushFrame (.throwing q))
    rw [← hs₂]
    exact hsteps
end
variable {p : Program} {l : Launch} {e : Env} {R : Room} {s : State} {m : MethodId} {args : Array Value} {below : List Frame} {meth : Method} {c : Code} {T : State} {H : Heap} {locs : List Loc} {cells slots : Nat}
theorem vx_callVX (X : Stand p l e R s m args below meth c T locs cells slots) (hexec : p.tables.exec = Jvm.exec) {own C : String} {index : Nat} {y : MethodName} {bytes : ByteArray} {maxL : Nat} {ret : Option FieldType} {hh : List (Nat × Nat × Nat × Nat)}
    (hown : s.vm.findClass own = some m.cls) (hlink : (Cond.methodLink own index y).before args s = true) (hinst : (Cond.instanceMethod y).before args s = true) (hsel : (Cond.selects C y y).before args s = true)
    (hcode : (Cond.codeWith y bytes maxL ret hh).before args s = true) (hy : y.cls ≠ "java/lang/invoke/MethodHandle" ∧ y.cls ≠ "java/lang/invoke/VarHandle")
    {W9 : Nat} {Pre : Pt → Array Value → Prop} {Post : Pt → Array Value → Option Value → Pt → Prop} {PostX : Pt → Array Value → Addr → Pt → Prop} (hK : vx_Back l R p e below s args y 3 W9 Pre Post PostX)
    {b : Addr} {cellB : Cell} (hcell : T.heap[b]? = some cellB) (hobj : cellB.vm.isStatics = false) (hcls : s.vm.findClass C = some cellB.cls)
    {g : JFrame} (hg : g.method = m) (hsize : g.locals.size = c.maxLocals) {argsL rest : List Value} (hlen : ∀ sig, parseMethodDescriptor y.desc = some sig → argsL.length = sig.parameters.length)
    (hstack : g.stack = argsL.reverse ++ .ref b :: rest) (hW : 2 * g.monitorRoom + (rest.map fun v => v.category).sum ≤ W9) (hdg : decode c.code g.pc = .ok (.invokevirtual index, 3))
    (hpre : ∀ vm₁, s.WarmedH vm₁ → Pre ⟨T.setVm vm₁, locs, cells, slots⟩ (Value.ref b :: argsL).toArray) :
    (∃ (v : Option Value) (vm₁ : Vm) (B : Pt), s.WarmedH vm₁ ∧ Stand p l e R s m args below meth c B.U B.locs B.cells B.slots ∧ Post ⟨T.setVm vm₁, locs, cells, slots⟩ (Value.ref b :: argsL).toArray v B ∧
      ∀ target, Steps p.tables e below (B.U.setTop { g with pc := g.pc + 3, stack := v.toList ++ rest }) target → Steps p.tables e below (T.setTop g) target) ∨
    (∃ (q : Addr) (vm₁ : Vm) (B : Pt), s.WarmedH vm₁ ∧ Stand p l e R s m args below meth c B.U B.locs B.cells B.slots ∧ PostX ⟨T.setVm vm₁, locs, cells, slots⟩ (Value.ref b :: argsL).toArray q B ∧
      Steps p.tables e below (T.setTop g) ((B.U.setTop { g with stack := rest }).pushFrame (.throwing q))) := by
  obtain ⟨mk, methM, hnamed, hmethM, hstM, habM⟩ := Cond.instanceMethod_spec hinst
  obtain ⟨m8, methM', cM, hn8, hmethM', -, -, -, -, -, -, hsigM⟩ := Cond.codeWith_spec hcode
  cases Option.some.inj (hn8.symm.trans hnamed)
  cases hmethM.symm.trans hmethM'
  obtain ⟨c2, r2, m2, q1, q2, q3, q4, kP, hkP, hkPi⟩ := Cond.selects_spec hsel
  cases hcls.symm.trans q1
  cases (State.methodFound?_of_named hnamed hy).symm.trans q2
  cases hnamed.symm.trans q3
  have hselP : selectMethod e.platform s.vm cellB.cls mk = .method mk := by rw [Launch.admits_selectMethod X.admits]; exact q4
  obtain ⟨vm₁, X₁, hstep₁⟩ := X.invokevirtual hexec hown hlink hnamed hmethM hstM hkP hkPi hy (a := b) (cell := cellB) hcell
    (fun z h => by rw [h] at hobj; cases hobj) hselP hmethM habM hkP hkPi (g := g) hg (argsL := argsL) (rest := rest) (hlen _ hsigM) hstack hdg
  rcases hK m meth c ⟨T.setVm vm₁, locs, cells, slots⟩ { g with stack := rest } (.invokevirtual index) mk (Value.ref b :: argsL).toArray X₁ hg hsize hdg hW (X₁.named hnamed) (hpre vm₁ X₁.warmed) with ⟨v, B, X', hpost, hsteps⟩ | ⟨q, B, X', hpost, hsteps⟩
  · exact Or.inl ⟨v, vm₁, B, X₁.warmed, X', hpost, fun target h => hstep₁ _ fun acts => by rw [doInvoke_state]; exact hsteps.trans h⟩
  · exact Or.inr ⟨q, vm₁, B, X₁.warmed, X', hpost, hstep₁ _ fun acts => by rw [doInvoke_state]; exact hsteps⟩
theorem vx_callSX (X : Stand p l e R s m args below meth c T locs cells slots) (hexec : p.tables.exec = Jvm.exec) {own : String} {index : Nat} {y : MethodName} {bytes : ByteArray} {maxL : Nat} {ret : Option FieldType} {hh : List (Nat × Nat × Nat × Nat)}
    (hown : s.vm.findClass own = some m.cls) (hlink : (Cond.methodLink own index y).before args s = true) (hstat : (Cond.static y).before args s = true) (hinit : (Cond.initialized y.cls).before args s = true)
    (hcode : (Cond.codeWith y bytes maxL ret hh).before args s = true) (hy : y.cls ≠ "java/lang/invoke/MethodHandle" ∧ y.cls ≠ "java/lang/invoke/VarHandle")
    {W9 : Nat} {Pre : Pt → Array Value → Prop} {Post : Pt → Array Value → Option Value → Pt → Prop} {PostX : Pt → Array Value → Addr → Pt → Prop} (hK : vx_Back l R p e below s args y 3 W9 Pre Post PostX)
    {g : JFrame} (hg : g.method = m) (hsize : g.locals.size = c.maxLocals) {argsL rest : List Value} (hlen : ∀ sig, parseMethodDescriptor y.desc = some sig → argsL.length = sig.parameters.length)
    (hstack : g.stack = argsL.reverse ++ rest) (hW : 2 * g.monitorRoom + (rest.map fun v => v.category).sum ≤ W9) (hdg : decode c.code g.pc = .ok (.invokestatic index, 3))
    (hpre : ∀ vm₁, s.WarmedH vm₁ → Pre ⟨T.setVm vm₁, locs, cells, slots⟩ argsL.toArray) :
    (∃ (v : Option Value) (vm₁ : Vm) (B : Pt), s.WarmedH vm₁ ∧ Stand p l e R s m args below meth c B.U B.locs B.cells B.slots ∧ Post ⟨T.setVm vm₁, locs, cells, slots⟩ argsL.toArray v B ∧
      ∀ target, Steps p.tables e below (B.U.setTop { g with pc := g.pc + 3, stack := v.toList ++ rest }) target → Steps p.tables e below (T.setTop g) target) ∨
    (∃ (q : Addr) (vm₁ : Vm) (B : Pt), s.WarmedH vm₁ ∧ Stand p l e R s m args below meth c B.U B.locs B.cells B.slots ∧ PostX ⟨T.setVm vm₁, locs, cells, slots⟩ argsL.toArray q B ∧
      Steps p.tables e below (T.setTop g) ((B.U.setTop { g with stack := rest }).pushFrame (.throwing q))) := by
  obtain ⟨mk, methM, cM, hnamed, hmethM, -, -, -, -, -, -, hsigM⟩ := Cond.codeWith_spec hcode
  have hstatic : methM.isStatic = true := Cond.static_spec hnamed hmethM hstat
  obtain ⟨kP, hkP, -⟩ := className_of_methodNamed hnamed
  have hinitP : kP.init = .initialized := Cond.initialized_spec (findClass_of_methodNamed hnamed) hkP hinit
  obtain ⟨vm₁, X₁, hstep₁⟩ := X.invokestatic hexec hown hlink hnamed hmethM hstatic hkP hinitP hy (g := g) hg (argsL := argsL) (rest := rest) (hlen _ hsigM) hstack hdg
  rcases hK m meth c ⟨T.setVm vm₁, locs, cells, slots⟩ { g with stack := rest } (.invokestatic index) mk argsL.toArray X₁ hg hsize hdg hW (X₁.named hnamed) (hpre vm₁ X₁.warmed) with ⟨v, B, X', hpost, hsteps⟩ | ⟨q, B, X', hpost, hsteps⟩
  · exact Or.inl ⟨v, vm₁, B, X₁.warmed, X', hpost, fun target h => hstep₁ _ fun acts => by rw [doInvoke_state]; exact hsteps.trans h⟩
  · exact Or.inr ⟨q, vm₁, B, X₁.warmed, X', hpost, hstep₁ _ fun acts => by rw [doInvoke_state]; exact hsteps⟩
theorem vx_callVW (X : Stand p l e R s m args below meth c T locs cells slots) (hexec : p.tables.exec = Jvm.exec) {own C : String} {index : Nat} {y : MethodName} {bytes : ByteArray} {maxL : Nat} {ret : Option FieldType} {hh : List (Nat × Nat × Nat × Nat)}
    (hown : s.vm.findClass own = some m.cls) (hlink : (Cond.methodLink own index y).before args s = true) (hinst : (Cond.instanceMethod y).before args s = true) (hsel : (Cond.selects C y y).before args s = true)
    (hcode : (Cond.codeWith y bytes maxL ret hh).before args s = true) (hy : y.cls ≠ "java/lang/invoke/MethodHandle" ∧ y.cls ≠ "java/lang/invoke/VarHandle")
    {W9 : Nat} {Pre : Pt → Array Value → Prop} {Post : Pt → Array Value → Option Value → Pt → Prop} (hK : Back l R p e below s args y 3 W9 Pre Post)
    {b : Addr} {cellB : Cell} (hcell : T.heap[b]? = some cellB) (hobj : cellB.vm.isStatics = false) (hcls : s.vm.findClass C = some cellB.cls)
    {g : JFrame} (hg : g.method = m) (hsize : g.locals.size = c.maxLocals) {argsL rest : List Value} (hlen : ∀ sig, parseMethodDescriptor y.desc = some sig → argsL.length = sig.parameters.length)
    (hstack : g.stack = argsL.reverse ++ .ref b :: rest) (hW : 2 * g.monitorRoom + (rest.map fun v => v.category).sum ≤ W9) (hdg : decode c.code g.pc = .ok (.invokevirtual index, 3))
    (hpre : ∀ vm₁, s.WarmedH vm₁ → Pre ⟨T.setVm vm₁, locs, cells, slots⟩ (Value.ref b :: argsL).toArray) :
    ∃ (v : Option Value) (vm₁ : Vm) (B : Pt), s.WarmedH vm₁ ∧ Stand p l e R s m args below meth c B.U B.locs B.cells B.slots ∧ Post ⟨T.setVm vm₁, locs, cells, slots⟩ (Value.ref b :: argsL).toArray v B ∧
      ∀ target, Steps p.tables e below (B.U.setTop { g with pc := g.pc + 3, stack := v.toList ++ rest }) target → Steps p.tables e below (T.setTop g) target := by
  obtain ⟨mk, methM, hnamed, hmethM, hstM, habM⟩ := Cond.instanceMethod_spec hinst
  obtain ⟨m8, methM', cM, hn8, hmethM', -, -, -, -, -, -, hsigM⟩ := Cond.codeWith_spec hcode
  cases Option.some.inj (hn8.symm.trans hnamed)
  cases hmethM.symm.trans hmethM'
  obtain ⟨c2, r2, m2, q1, q2, q3, q4, kP, hkP, hkPi⟩ := Cond.selects_spec hsel
  cases hcls.symm.trans q1
  cases (State.methodFound?_of_named hnamed hy).symm.trans q2
  cases hnamed.symm.trans q3
  have hselP : selectMethod e.platform s.vm cellB.cls mk = .method mk := by rw [Launch.admits_selectMethod X.admits]; exact q4
  obtain ⟨vm₁, X₁, hstep₁⟩ := X.invokevirtual hexec hown hlink hnamed hmethM hstM hkP hkPi hy (a := b) (cell := cellB) hcell
    (fun z h => by rw [h] at hobj; cases hobj) hselP hmethM habM hkP hkPi (g := g) hg (argsL := argsL) (rest := rest) (hlen _ hsigM) hstack hdg
  obtain ⟨v, B, X', hpost, hsteps⟩ := hK m meth c ⟨T.setVm vm₁, locs, cells, slots⟩ { g with stack := rest } (.invokevirtual index) mk (Value.ref b :: argsL).toArray X₁ hg hsize hdg hW (X₁.named hnamed) (hpre vm₁ X₁.warmed)
  exact ⟨v, vm₁, B, X₁.warmed, X', hpost, fun target h => hstep₁ _ fun acts => by rw [doInvoke_state]; exact hsteps.trans h⟩
abbrev vx_CVW (R : Room) (s : State) (args : Array Value) (own C : String) (index : Nat) (y : MethodName) (bytes : ByteArray) (maxL : Nat) (ret : Option FieldType) (hh : List (Nat × Nat × Nat × Nat)) (ws : List Cond) (rm : Room) (mc ms n : Nat) : Prop :=
  (rm.cells = mc ∧ rm.slots = ms ∧ rm.frames + 1 ≤ R.frames ∧ 8 + (maxL + 11) + rm.locals ≤ R.locals ∧ (∀ w ∈ ws, ∀ (a' : Array Value) (U : State), s.WarmedH U.vm → w.before a' U = true) ∧ Cond.codeWith y bytes maxL ret hh ∈ ws) ∧
  (Cond.codeWith y bytes maxL ret hh).before args s = true ∧ (Cond.initialized y.cls).before args s = true ∧ (y.cls ≠ "java/lang/invoke/MethodHandle" ∧ y.cls ≠ "java/lang/invoke/VarHandle") ∧
  (∀ sig, parseMethodDescriptor y.desc = some sig → n = sig.parameters.length) ∧ (Cond.methodLink own index y).before args s = true ∧ (Cond.instanceMethod y).before args s = true ∧ (Cond.selects C y y).before args s = true
theorem vx_cwVW {own C : String} {index maxL mc ms : Nat} {y : MethodName} {bytes : ByteArray} {ret : Option FieldType} {hh : List (Nat × Nat × Nat × Nat)} {Ts ws ws' : List Cond} {rm : Room} (n : Nat) (ht : ∀ w ∈ Ts, w.before args s = true) (hT : GoodIn Ts (wsV own index C y ws)) (hw : ws = Cond.codeWith y bytes maxL ret hh :: ws') (hrc : rm.cells = mc) (hrs : rm.slots = ms)
    (hd : y.cls = C ∧ y.cls ≠ "java/lang/invoke/MethodHandle" ∧ y.cls ≠ "java/lang/invoke/VarHandle" ∧ (parseMethodDescriptor y.desc).map (fun d => d.parameters.length) = some n) (hR : rm.frames + 1 ≤ R.frames ∧ 8 + (maxL + 11) + rm.locals ≤ R.locals) :
    vx_CVW R s args own C index y bytes maxL ret hh ws rm mc ms n := by
  obtain ⟨hC, hd⟩ := hd
  subst hC
  have ok : ∀ w ∈ wsV own index y.cls y ws, w.before args s = true := fun w h => ht w (hT w h).1
  have hG : GoodIn Ts ws := fun w h => hT w (by unfold wsV; exact List.mem_append_right _ h)
  have hc : Cond.codeWith y bytes maxL ret hh ∈ ws := by rw [hw]; exact List.mem_cons_self
  refine ⟨⟨hrc, hrs, hR.1, hR.2, pay_in ht hG, hc⟩, ht _ (hG _ hc).1, ok _ (by simp [wsV]), ⟨hd.1, hd.2.1⟩, fun sig h => ?_, ok _ (by simp [wsV]), ok _ (by simp [wsV]), ok _ (by simp [wsV])⟩
  have h2 := hd.2.2
  rw [h] at h2
  exact (Option.some.inj h2).symm
theorem vx_runVW {y : MethodName} {bytes cc : ByteArray} {maxL nL mc ms n index : Nat} {ret : Option FieldType} {hh : List (Nat × Nat × Nat × Nat)} {ws : List Cond} {rm : Room} {Pc : Array Value → State → Prop} {Qc : Array Value → State → Outcome → State → Prop} {free : Addr → Prop} {Ts : List Cond} {own C : String} {b : Addr} {As rest : List Value} {g : JFrame}
    (S : CallFix p m c cc nL s args Ts own) (hM : Met l y ws rm Pc Qc mc ms free) (cw : vx_CVW R s args own C index y bytes maxL ret hh ws rm mc ms n) (hp : PreV s H C b Pc As)
    (hg : g.method = m) (hn : As.length = n) (hsize : g.locals.size = nL) (hstack : g.stack = As.reverse ++ .ref b :: rest) (hW : 2 * g.monitorRoom + (rest.map fun v => v.category).sum ≤ 8) (hdg : decode cc g.pc = .ok (.invokevirtual index, 3)) (hf : cells + mc ≤ R.cells ∧ slots + ms ≤ R.slots) :
    va_Run p l e R s m args below meth c H locs cells slots mc ms g rest (Qc (Value.ref b :: As).toArray) free := by
  obtain ⟨⟨hrc, hrs, hfr, hlo, hws, hcw⟩, hcode, hini, hy, hlen, hl, hin, hse⟩ := cw
  have hK : Back l R p e below s args y 3 8 (PreOf R mc ms Pc) (PostOf Qc mc ms free) := va_backW (hh := hh) (bytes := bytes) (maxL := maxL) (ret := ret) hM hp.1 hrc hrs hfr hlo hws hcw (fun a' U hW => word_at hW (Or.inl (by first | rfl | simp [Cond.onTables, Cond.keeps, Cond.steady])) hini)
  obtain ⟨hx, hb, hml, ho, -⟩ := S
  obtain ⟨-, ⟨cellB, hcB, hoB, hclB⟩, hPc⟩ := hp
  intro T hT X
  obtain ⟨v, vm₁, ⟨U', l2, c2, s2⟩, hW₁, X', ⟨g', mk, t, L, e1, e2, hq, h1, hL, h2, h3⟩, st⟩ := vx_callVW X hx (C := C) (hh := hh) (bytes := bytes) (maxL := maxL) (ret := ret) ho hl hin hse hcode hy hK (by rw [hT]; exact hcB) hoB hclB hg (hsize.trans hml.symm) (argsL := As) (rest := rest) (fun sig h => hn.trans (hlen sig h)) hstack hW (by rw [hb]; exact hdg)
    (fun vm₁ hW₁ => ⟨hf.1, hf.2, hPc (T.setVm vm₁) hT hW₁⟩)
  dsimp only [Pt.U, Pt.locs, Pt.cells, Pt.slots] at X' e1 e2 h1 h2 h3 st
  subst h1; subst h2; subst h3
  exact ⟨v, (T.setVm vm₁).calling g' mk (Value.ref b :: As).toArray, t, U', L, hT, X', hL, e1, e2, hq, st⟩
section
variable {y : MethodName} {bytes cc : ByteArray} {maxL nL mc ms n index : Nat} {ret : Option FieldType} {ws : List Cond} {rm : Room} {Pc : Array Value → State → Prop} {Qc : Array Value → State → Outcome → State → Prop} {XC : String → State → State → Prop} {free : Addr → Prop} {Ts : List Cond} {own C : String} {b : Addr} {As rest : List Value} {g : JFrame}
theorem vx_runVX {hh : List (Nat × Nat × Nat × Nat)} (S : CallFix p m c cc nL s args Ts own) (hM : vx_Met l y ws rm Pc Qc XC mc ms free) (cw : vx_CVW R s args own C index y bytes maxL ret hh ws rm mc ms n) (hp : PreV s H C b Pc As)
    (hg : g.method = m) (hn : As.length = n) (hsize : g.locals.size = nL) (hstack : g.stack = As.reverse ++ .ref b :: rest) (hW : 2 * g.monitorRoom + (rest.map fun v => v.category).sum ≤ 8) (hdg : decode cc g.pc = .ok (.invokevirtual index, 3)) (hf : cells + mc ≤ R.cells ∧ slots + ms ≤ R.slots) :
    vx_Run p l e R s m args below meth c H locs cells slots mc ms g rest (Qc (Value.ref b :: As).toArray) XC free := by
  obtain ⟨⟨hrc, hrs, hfr, hlo, hws, hcw⟩, hcode, hini, hy, hlen, hl, hin, hse⟩ := cw
  have hK : vx_Back l R p e below s args y 3 8 (PreOf R mc ms Pc) (PostOf Qc mc ms free) (vx_Post XC mc ms free) := vx_backW (hh := hh) (bytes := bytes) (maxL := maxL) (ret := ret) hM hp.1 hrc hrs hfr hlo hws hcw (fun a' U hW => word_at hW (Or.inl (by first | rfl | simp [Cond.onTables, Cond.keeps, Cond.steady])) hini)
  obtain ⟨hx, hb, hml, ho, -⟩ := S
  obtain ⟨-, ⟨cellB, hcB, hoB, hclB⟩, hPc⟩ := hp
  intro T hT X
  rcases vx_callVX X hx (C := C) (hh := hh) (bytes := bytes) (maxL := maxL) (ret := ret) ho hl hin hse hcode hy hK (by rw [hT]; exact hcB) hoB hclB hg (hsize.trans hml.symm) (argsL := As) (rest := rest) (fun sig h => hn.trans (hlen sig h)) hstack hW (by rw [hb]; exact hdg)
    (fun vm₁ hW₁ => ⟨hf.1, hf.2, hPc (T.setVm vm₁) hT hW₁⟩) with ⟨v, vm₁, ⟨U', l2, c2, s2⟩, hW₁, X', ⟨g', mk, t, L, e1, e2, hq, h1, hL, h2, h3⟩, st⟩ | ⟨q, vm₁, ⟨U', l2, c2, s2⟩, hW₁, X', ⟨g', mk, t, L, E, ce, e1, e2, hq, hce, hcv, hcl, h1, hL, h2, h3⟩, st⟩
  · dsimp only [Pt.U, Pt.locs, Pt.cells, Pt.slots] at X' e1 e2 h1 h2 h3 st
    subst h1; subst h2; subst h3
    exact Or.inl ⟨v, (T.setVm vm₁).calling g' mk (Value.ref b :: As).toArray, t, U', L, hT, X', hL, e1, e2, hq, st⟩
  · dsimp only [Pt.U, Pt.locs, Pt.cells, Pt.slots] at X' e1 e2 h1 h2 h3 st hcl
    subst h1; subst h2; subst h3
    exact Or.inr ⟨q, (T.setVm vm₁).calling g' mk (Value.ref b :: As).toArray, t, U', L, E, ce, hT, X', hL, e1, e2, hq, hce, hcv, vx_cls hW₁ hcl, st⟩
theorem vx_runSX {hh : List (Nat × Nat × Nat × Nat)} (S : CallFix p m c cc nL s args Ts own) (hM : vx_Met l y ws rm Pc Qc XC mc ms free) (cw : vx_CSW R s args own index y bytes maxL ret hh ws rm mc ms n) (hp : PreS s H Pc As)
    (hg : g.method = m) (hn : As.length = n) (hsize : g.locals.size = nL) (hstack : g.stack = As.reverse ++ rest) (hW : 2 * g.monitorRoom + (rest.map fun v => v.category).sum ≤ 8) (hdg : decode cc g.pc = .ok (.invokestatic index, 3)) (hf : cells + mc ≤ R.cells ∧ slots + ms ≤ R.slots) :
    vx_Run p l e R s m args below meth c H locs cells slots mc ms g rest (Qc As.toArray) XC free := by
  obtain ⟨⟨hrc, hrs, hfr, hlo, hws, hcw⟩, hcode, hini, hy, hlen, hl, hstt⟩ := cw
  have hK : vx_Back l R p e below s args y 3 8 (PreOf R mc ms Pc) (PostOf Qc mc ms free) (vx_Post XC mc ms free) := vx_backW (hh := hh) (bytes := bytes) (maxL := maxL) (ret := ret) hM hp.1 hrc hrs hfr hlo hws hcw (fun a' U hW => word_at hW (Or.inl (by first | rfl | simp [Cond.onTables, Cond.keeps, Cond.steady])) hini)
  obtain ⟨hx, hb, hml, ho, -⟩ := S
  intro T hT X
  rcases vx_callSX X hx (hh := hh) (bytes := bytes) (maxL := maxL) (ret := ret) ho hl hstt hini hcode hy hK hg (hsize.trans hml.symm) (argsL := As) (rest := rest) (fun sig h => hn.trans (hlen sig h)) hstack hW (by rw [hb]; exact hdg)
    (fun vm₁ hW₁ => ⟨hf.1, hf.2, hp.2 (T.setVm vm₁) hT hW₁⟩) with ⟨v, vm₁, ⟨U', l2, c2, s2⟩, hW₁, X', ⟨g', mk, t, L, e1, e2, hq, h1, hL, h2, h3⟩, st⟩ | ⟨q, vm₁, ⟨U', l2, c2, s2⟩, hW₁, X', ⟨g', mk, t, L, E, ce, e1, e2, hq, hce, hcv, hcl, h1, hL, h2, h3⟩, st⟩
  · dsimp only [Pt.U, Pt.locs, Pt.cells, Pt.slots] at X' e1 e2 h1 h2 h3 st
    subst h1; subst h2; subst h3
    exact Or.inl ⟨v, (T.setVm vm₁).calling g' mk As.toArray, t, U', L, hT, X', hL, e1, e2, hq, st⟩
  · dsimp only [Pt.U, Pt.locs, Pt.cells, Pt.slots] at X' e1 e2 h1 h2 h3 st hcl
    subst h1; subst h2; subst h3
    exact Or.inr ⟨q, (T.setVm vm₁).calling g' mk As.toArray, t, U', L, E, ce, hT, X', hL, e1, e2, hq, hce, hcv, vx_cls hW₁ hcl, st⟩
end
end VXH
theorem vx_ofWH {l : Launch} {y : MethodName} {ws ws' : List Cond} {rm : Room} {Pc : Array Value → State → Prop} {Qc : Array Value → State → Outcome → State → Prop} {XC : String → State → State → Prop} {mc ms : Nat} {free : Addr → Prop} {cc : ByteArray} {maxL : Nat} {ret : Option FieldType} {hh : List (Nat × Nat × Nat × Nat)}
    (hy : plainName y.cls = true) (hw : ws = Cond.codeWith y cc maxL ret hh :: ws')
    (body : ∀ p e s m args below meth c s₁, BodyLoose p l y (headSpec ws rm) cc maxL ret e s m args below meth c s₁ → c.maxLocals = maxL → Pc args s →
      W p l e (headSpec ws rm).room s m args below meth c s.heap [] 0 0 (vx_MQ below Qc XC args s mc ms free) (entryFrame m args maxL)) : vx_Met l y ws rm Pc Qc XC mc ms free := by
  refine MetFree.of_bodyS (code := cc) (maxLocals := maxL) (ret := ret) hy ?_ ?_
  · intro args s m h hn
    obtain ⟨m9, meth, c, hn9, h1, h2, h3, h4, -, h5, h6, -⟩ := Cond.codeWith_spec (atoms_spec (ws := ws) h _ (by rw [hw]; exact List.mem_cons_self))
    cases hn.symm.trans hn9
    exact ⟨meth, c, h1, h2, h3, h4, h5, h6⟩
  · intro p e s m args below meth c s₁ B hml hP _
    have hh0 : s₁.heap = s.heap := by rw [B.state]; rfl
    obtain ⟨t, a1, o, b1, b2, b3⟩ := body p e s m args below meth c s₁ B hml hP s₁ hh0 (Stand.of_body B)
    exact ⟨t, o, a1, b1, b2, b3⟩
/-! ===== END ===== -/

/-! ===== BEGIN printed: names, fields, word lists, decode rows ===== -/
def RX0 : String := "TileWordBoard$Board"
def TX0 : u_T := fun k => match k with
  | 0 => ("TileWordBoard$Board", "letters", "[I", true)
  | 1 => ("TileWordBoard$Board", "premiums", "[I", true)
  | _ => ("TileWordBoard$Board", "occupied", "J", false)
def tyX0 : Nat → FieldType := fun k => match k with
  | 0 => .array .int
  | 1 => .array .int
  | _ => .long
abbrev wsX00 : List Cond := u_ws RX0 TX0 3
theorem nmX0 : ∀ a, a < 3 → ∀ b, b < 3 → a ≠ b → (TX0 a).2.1 ≠ (TX0 b).2.1 := by decide +kernel
theorem tyX0_ok : ∀ k, k < 3 → parseFieldDescriptor (TX0 k).2.2.1 = some (tyX0 k) := by decide +kernel
abbrev cX0_init : ByteArray := prog_2_method_1_code
def yX0_init : MethodName := ⟨RX0, "<init>", "()V"⟩
abbrev cX0_hasTile : ByteArray := prog_2_method_2_code
def yX0_hasTile : MethodName := ⟨RX0, "hasTile", "(I)Z"⟩
abbrev cX0_letter : ByteArray := prog_2_method_3_code
def yX0_letter : MethodName := ⟨RX0, "letter", "(I)I"⟩
abbrev cX0_premium : ByteArray := prog_2_method_4_code
def yX0_premium : MethodName := ⟨RX0, "premium", "(I)I"⟩
abbrev cX0_changePremium : ByteArray := prog_2_method_5_code
def yX0_changePremium : MethodName := ⟨RX0, "changePremium", "(II)V"⟩
abbrev cX0_put : ByteArray := prog_2_method_6_code
def yX0_put : MethodName := ⟨RX0, "put", "(II)V"⟩
abbrev cX0_takeAway : ByteArray := prog_2_method_7_code
def yX0_takeAway : MethodName := ⟨RX0, "takeAway", "(J)V"⟩
abbrev cX0_emptyOf : ByteArray := prog_2_method_8_code
def yX0_emptyOf : MethodName := ⟨RX0, "emptyOf", "(J)J"⟩
abbrev cX0_connects : ByteArray := prog_2_method_9_code
def yX0_connects : MethodName := ⟨RX0, "connects", "(JI)Z"⟩
abbrev cX0_anchorSquares : ByteArray := prog_2_method_10_code
def yX0_anchorSquares : MethodName := ⟨RX0, "anchorSquares", "()J"⟩
abbrev cX0_wordThrough : ByteArray := prog_2_method_11_code
def yX0_wordThrough : MethodName := ⟨RX0, "wordThrough", "(III)I"⟩
abbrev cX0_copyFrom : ByteArray := prog_2_method_12_code
def yX0_copyFrom : MethodName := ⟨RX0, "copyFrom", "(LTileWordBoard$Board;)V"⟩
def RX1 : String := "TileWordBoard$Dictionary"
def TX1 : u_T := fun k => match k with
  | 0 => ("TileWordBoard$Dictionary", "words", "[I", true)
  | _ => ("TileWordBoard$Dictionary", "count", "I", false)
def tyX1 : Nat → FieldType := fun k => match k with
  | 0 => .array .int
  | _ => .int
abbrev wsX10 : List Cond := u_ws RX1 TX1 2
theorem nmX1 : ∀ a, a < 2 → ∀ b, b < 2 → a ≠ b → (TX1 a).2.1 ≠ (TX1 b).2.1 := by decide +kernel
theorem tyX1_ok : ∀ k, k < 2 → parseFieldDescriptor (TX1 k).2.2.1 = some (tyX1 k) := by decide +kernel
abbrev cX1_init : ByteArray := prog_3_method_1_code
def yX1_init : MethodName := ⟨RX1, "<init>", "()V"⟩
abbrev cX1_size : ByteArray := prog_3_method_2_code
def yX1_size : MethodName := ⟨RX1, "size", "()I"⟩
abbrev cX1_isFull : ByteArray := prog_3_method_3_code
def yX1_isFull : MethodName := ⟨RX1, "isFull", "()Z"⟩
abbrev cX1_word : ByteArray := prog_3_method_4_code
def yX1_word : MethodName := ⟨RX1, "word", "(I)I"⟩
abbrev cX1_numberOf : ByteArray := prog_3_method_5_code
def yX1_numberOf : MethodName := ⟨RX1, "numberOf", "(I)I"⟩
abbrev cX1_add : ByteArray := prog_3_method_6_code
def yX1_add : MethodName := ⟨RX1, "add", "(I)V"⟩
abbrev cX1_copyFrom : ByteArray := prog_3_method_7_code
def yX1_copyFrom : MethodName := ⟨RX1, "copyFrom", "(LTileWordBoard$Dictionary;)V"⟩
def RX2 : String := "TileWordBoard$Endgame"
def TX2 : u_T := fun k => match k with
  | 0 => ("TileWordBoard$Endgame", "table", "LTileWordBoard$Table;", true)
  | 1 => ("TileWordBoard$Endgame", "rules", "LTileWordBoard$Rules;", true)
  | _ => ("TileWordBoard$Endgame", "visited", "I", false)
def tyX2 : Nat → FieldType := fun k => match k with
  | 0 => .object "TileWordBoard$Table"
  | 1 => .object "TileWordBoard$Rules"
  | _ => .int
abbrev wsX20 : List Cond := u_ws RX2 TX2 3
theorem nmX2 : ∀ a, a < 3 → ∀ b, b < 3 → a ≠ b → (TX2 a).2.1 ≠ (TX2 b).2.1 := by decide +kernel
theorem tyX2_ok : ∀ k, k < 3 → parseFieldDescriptor (TX2 k).2.2.1 = some (tyX2 k) := by decide +kernel
abbrev cX2_init : ByteArray := prog_4_method_1_code
def yX2_init : MethodName := ⟨RX2, "<init>", "(LTileWordBoard$Table;LTileWordBoard$Rules;)V"⟩
abbrev cX2_begin : ByteArray := prog_4_method_2_code
def yX2_begin : MethodName := ⟨RX2, "begin", "()V"⟩
abbrev cX2_hasFailed : ByteArray := prog_4_method_3_code
def yX2_hasFailed : MethodName := ⟨RX2, "hasFailed", "()Z"⟩
abbrev cX2_bestDifference : ByteArray := prog_4_method_4_code
def yX2_bestDifference : MethodName := ⟨RX2, "bestDifference", "(III)I"⟩
abbrev cX2_afterPass : ByteArray := prog_4_method_5_code
def yX2_afterPass : MethodName := ⟨RX2, "afterPass", "(III)I"⟩
abbrev cX2_afterPlay : ByteArray := prog_4_method_6_code
def yX2_afterPlay : MethodName := ⟨RX2, "afterPlay", "(III)I"⟩
abbrev cX2_hasEnded : ByteArray := prog_4_method_7_code
def yX2_hasEnded : MethodName := ⟨RX2, "hasEnded", "(I)Z"⟩
abbrev cX2_isOut : ByteArray := prog_4_method_8_code
def yX2_isOut : MethodName := ⟨RX2, "isOut", "(I)Z"⟩
abbrev cX2_finalDifference : ByteArray := prog_4_method_9_code
def yX2_finalDifference : MethodName := ⟨RX2, "finalDifference", "(I)I"⟩
def RX3 : String := "TileWordBoard$History"
def TX3 : u_T := fun k => match k with
  | 0 => ("TileWordBoard$History", "states", "[LTileWordBoard$Table;", true)
  | 1 => ("TileWordBoard$History", "oldest", "I", false)
  | _ => ("TileWordBoard$History", "count", "I", false)
def tyX3 : Nat → FieldType := fun k => match k with
  | 0 => .array (.object "TileWordBoard$Table")
  | 1 => .int
  | _ => .int
abbrev wsX30 : List Cond := u_ws RX3 TX3 3
theorem nmX3 : ∀ a, a < 3 → ∀ b, b < 3 → a ≠ b → (TX3 a).2.1 ≠ (TX3 b).2.1 := by decide +kernel
theorem tyX3_ok : ∀ k, k < 3 → parseFieldDescriptor (TX3 k).2.2.1 = some (tyX3 k) := by decide +kernel
abbrev cX3_init : ByteArray := prog_5_method_1_code
def yX3_init : MethodName := ⟨RX3, "<init>", "()V"⟩
abbrev cX3_size : ByteArray := prog_5_method_2_code
def yX3_size : MethodName := ⟨RX3, "size", "()I"⟩
abbrev cX3_save : ByteArray := prog_5_method_3_code
def yX3_save : MethodName := ⟨RX3, "save", "(LTileWordBoard$Table;)V"⟩
abbrev cX3_restore : ByteArray := prog_5_method_4_code
def yX3_restore : MethodName := ⟨RX3, "restore", "(LTileWordBoard$Table;)V"⟩
abbrev cX3_placeOf : ByteArray := prog_5_method_5_code
def yX3_placeOf : MethodName := ⟨RX3, "placeOf", "(I)I"⟩
def RX4 : String := "TileWordBoard$Rack"
def TX4 : u_T := fun k => match k with
  | _ => ("", "", "", false)
def tyX4 : Nat → FieldType := fun k => match k with
  | _ => .int
abbrev wsX40 : List Cond := u_ws RX4 TX4 0
theorem nmX4 : ∀ a, a < 0 → ∀ b, b < 0 → a ≠ b → (TX4 a).2.1 ≠ (TX4 b).2.1 := by decide +kernel
theorem tyX4_ok : ∀ k, k < 0 → parseFieldDescriptor (TX4 k).2.2.1 = some (tyX4 k) := by decide +kernel
abbrev cX4_of : ByteArray := prog_6_method_2_code
def yX4_of : MethodName := ⟨RX4, "of", "(I)I"⟩
abbrev cX4_count : ByteArray := prog_6_method_3_code
def yX4_count : MethodName := ⟨RX4, "count", "(II)I"⟩
abbrev cX4_without : ByteArray := prog_6_method_4_code
def yX4_without : MethodName := ⟨RX4, "without", "(II)I"⟩
abbrev cX4_oneTile : ByteArray := prog_6_method_5_code
def yX4_oneTile : MethodName := ⟨RX4, "oneTile", "(I)I"⟩
def RX5 : String := "TileWordBoard$Rules"
def TX5 : u_T := fun k => match k with
  | _ => ("TileWordBoard$Rules", "table", "LTileWordBoard$Table;", true)
def tyX5 : Nat → FieldType := fun k => match k with
  | _ => .object "TileWordBoard$Table"
abbrev wsX50 : List Cond := u_ws RX5 TX5 1
theorem nmX5 : ∀ a, a < 1 → ∀ b, b < 1 → a ≠ b → (TX5 a).2.1 ≠ (TX5 b).2.1 := by decide +kernel
theorem tyX5_ok : ∀ k, k < 1 → parseFieldDescriptor (TX5 k).2.2.1 = some (tyX5 k) := by decide +kernel
abbrev cX5_init : ByteArray := prog_7_method_1_code
def yX5_init : MethodName := ⟨RX5, "<init>", "(LTileWordBoard$Table;)V"⟩
abbrev cX5_refusal : ByteArray := prog_7_method_2_code
def yX5_refusal : MethodName := ⟨RX5, "refusal", "(III)I"⟩
abbrev cX5_touchesTileAtAnEnd : ByteArray := prog_7_method_3_code
def yX5_touchesTileAtAnEnd : MethodName := ⟨RX5, "touchesTileAtAnEnd", "(II)Z"⟩
abbrev cX5_agreesWithTiles : ByteArray := prog_7_method_4_code
def yX5_agreesWithTiles : MethodName := ⟨RX5, "agreesWithTiles", "(II)Z"⟩
abbrev cX5_hasEmptySquare : ByteArray := prog_7_method_5_code
def yX5_hasEmptySquare : MethodName := ⟨RX5, "hasEmptySquare", "(II)Z"⟩
abbrev cX5_isConnected : ByteArray := prog_7_method_6_code
def yX5_isConnected : MethodName := ⟨RX5, "isConnected", "(II)Z"⟩
abbrev cX5_rackAfter : ByteArray := prog_7_method_7_code
def yX5_rackAfter : MethodName := ⟨RX5, "rackAfter", "(III)I"⟩
abbrev cX5_crossWordsAreWords : ByteArray := prog_7_method_8_code
def yX5_crossWordsAreWords : MethodName := ⟨RX5, "crossWordsAreWords", "(II)Z"⟩
abbrev cX5_mayStand : ByteArray := prog_7_method_9_code
def yX5_mayStand : MethodName := ⟨RX5, "mayStand", "(I)Z"⟩
abbrev cX5_crossLetters : ByteArray := prog_7_method_10_code
def yX5_crossLetters : MethodName := ⟨RX5, "crossLetters", "(I)I"⟩
abbrev cX5_nextPlay : ByteArray := prog_7_method_11_code
def yX5_nextPlay : MethodName := ⟨RX5, "nextPlay", "(II)I"⟩
abbrev cX5_lengthsThatMayFit : ByteArray := prog_7_method_12_code
def yX5_lengthsThatMayFit : MethodName := ⟨RX5, "lengthsThatMayFit", "(I)I"⟩
abbrev cX5_countPlays : ByteArray := prog_7_method_13_code
def yX5_countPlays : MethodName := ⟨RX5, "countPlays", "(I)I"⟩
abbrev cX5_playNumbered : ByteArray := prog_7_method_14_code
def yX5_playNumbered : MethodName := ⟨RX5, "playNumbered", "(II)I"⟩
abbrev cX5_indexOfBest : ByteArray := prog_7_method_15_code
def yX5_indexOfBest : MethodName := ⟨RX5, "indexOfBest", "(I)I"⟩
abbrev cX5_equityOf : ByteArray := prog_7_method_16_code
def yX5_equityOf : MethodName := ⟨RX5, "equityOf", "(II)I"⟩
abbrev cX5_pointsOf : ByteArray := prog_7_method_17_code
def yX5_pointsOf : MethodName := ⟨RX5, "pointsOf", "(I)I"⟩
abbrev cX5_crossPointsOf : ByteArray := prog_7_method_18_code
def yX5_crossPointsOf : MethodName := ⟨RX5, "crossPointsOf", "(III)I"⟩
abbrev cX5_extraOf : ByteArray := prog_7_method_19_code
def yX5_extraOf : MethodName := ⟨RX5, "extraOf", "(II)I"⟩
abbrev cX5_wordFactor : ByteArray := prog_7_method_20_code
def yX5_wordFactor : MethodName := ⟨RX5, "wordFactor", "(I)I"⟩
abbrev cX5_lay : ByteArray := prog_7_method_21_code
def yX5_lay : MethodName := ⟨RX5, "lay", "(II)J"⟩
def RX6 : String := "TileWordBoard$Start"
def TX6 : u_T := fun k => match k with
  | _ => ("", "", "", false)
def tyX6 : Nat → FieldType := fun k => match k with
  | _ => .int
abbrev wsX60 : List Cond := u_ws RX6 TX6 0
theorem nmX6 : ∀ a, a < 0 → ∀ b, b < 0 → a ≠ b → (TX6 a).2.1 ≠ (TX6 b).2.1 := by decide +kernel
theorem tyX6_ok : ∀ k, k < 0 → parseFieldDescriptor (TX6 k).2.2.1 = some (tyX6 k) := by decide +kernel
abbrev cX6_squareOf : ByteArray := prog_8_method_2_code
def yX6_squareOf : MethodName := ⟨RX6, "squareOf", "(II)I"⟩
abbrev cX6_of : ByteArray := prog_8_method_3_code
def yX6_of : MethodName := ⟨RX6, "of", "(III)I"⟩
abbrev cX6_withWord : ByteArray := prog_8_method_4_code
def yX6_withWord : MethodName := ⟨RX6, "withWord", "(II)I"⟩
abbrev cX6_ofPlay : ByteArray := prog_8_method_5_code
def yX6_ofPlay : MethodName := ⟨RX6, "ofPlay", "(I)I"⟩
abbrev cX6_wordOfPlay : ByteArray := prog_8_method_6_code
def yX6_wordOfPlay : MethodName := ⟨RX6, "wordOfPlay", "(I)I"⟩
abbrev cX6_direction : ByteArray := prog_8_method_7_code
def yX6_direction : MethodName := ⟨RX6, "direction", "(I)I"⟩
abbrev cX6_square : ByteArray := prog_8_method_8_code
def yX6_square : MethodName := ⟨RX6, "square", "(I)I"⟩
abbrev cX6_row : ByteArray := prog_8_method_9_code
def yX6_row : MethodName := ⟨RX6, "row", "(I)I"⟩
abbrev cX6_column : ByteArray := prog_8_method_10_code
def yX6_column : MethodName := ⟨RX6, "column", "(I)I"⟩
abbrev cX6_step : ByteArray := prog_8_method_11_code
def yX6_step : MethodName := ⟨RX6, "step", "(I)I"⟩
abbrev cX6_crossStep : ByteArray := prog_8_method_12_code
def yX6_crossStep : MethodName := ⟨RX6, "crossStep", "(I)I"⟩
abbrev cX6_isOnBoard : ByteArray := prog_8_method_13_code
def yX6_isOnBoard : MethodName := ⟨RX6, "isOnBoard", "(I)Z"⟩
abbrev cX6_room : ByteArray := prog_8_method_14_code
def yX6_room : MethodName := ⟨RX6, "room", "(I)I"⟩
abbrev cX6_squares : ByteArray := prog_8_method_15_code
def yX6_squares : MethodName := ⟨RX6, "squares", "(II)J"⟩
def RX7 : String := "TileWordBoard$Table"
def TX7 : u_T := fun k => match k with
  | 0 => ("TileWordBoard$Table", "words", "LTileWordBoard$Dictionary;", true)
  | 1 => ("TileWordBoard$Table", "board", "LTileWordBoard$Board;", true)
  | 2 => ("TileWordBoard$Table", "values", "[I", true)
  | 3 => ("TileWordBoard$Table", "leaves", "[I", true)
  | 4 => ("TileWordBoard$Table", "racks", "[I", true)
  | _ => ("TileWordBoard$Table", "pointsOfPlayers", "[I", true)
def tyX7 : Nat → FieldType := fun k => match k with
  | 0 => .object "TileWordBoard$Dictionary"
  | 1 => .object "TileWordBoard$Board"
  | 2 => .array .int
  | 3 => .array .int
  | 4 => .array .int
  | _ => .array .int
abbrev wsX70 : List Cond := u_ws RX7 TX7 6
theorem nmX7 : ∀ a, a < 6 → ∀ b, b < 6 → a ≠ b → (TX7 a).2.1 ≠ (TX7 b).2.1 := by decide +kernel
theorem tyX7_ok : ∀ k, k < 6 → parseFieldDescriptor (TX7 k).2.2.1 = some (tyX7 k) := by decide +kernel
abbrev cX7_init : ByteArray := prog_9_method_1_code
def yX7_init : MethodName := ⟨RX7, "<init>", "()V"⟩
abbrev cX7_value : ByteArray := prog_9_method_2_code
def yX7_value : MethodName := ⟨RX7, "value", "(I)I"⟩
abbrev cX7_leave : ByteArray := prog_9_method_3_code
def yX7_leave : MethodName := ⟨RX7, "leave", "(I)I"⟩
abbrev cX7_changeLetter : ByteArray := prog_9_method_4_code
def yX7_changeLetter : MethodName := ⟨RX7, "changeLetter", "(III)V"⟩
abbrev cX7_rack : ByteArray := prog_9_method_5_code
def yX7_rack : MethodName := ⟨RX7, "rack", "(I)I"⟩
abbrev cX7_changeRack : ByteArray := prog_9_method_6_code
def yX7_changeRack : MethodName := ⟨RX7, "changeRack", "(II)V"⟩
abbrev cX7_points : ByteArray := prog_9_method_7_code
def yX7_points : MethodName := ⟨RX7, "points", "(I)I"⟩
abbrev cX7_addPoints : ByteArray := prog_9_method_8_code
def yX7_addPoints : MethodName := ⟨RX7, "addPoints", "(II)V"⟩
abbrev cX7_valueOfRack : ByteArray := prog_9_method_9_code
def yX7_valueOfRack : MethodName := ⟨RX7, "valueOfRack", "(I)I"⟩
abbrev cX7_leaveOf : ByteArray := prog_9_method_10_code
def yX7_leaveOf : MethodName := ⟨RX7, "leaveOf", "(I)I"⟩
abbrev cX7_valueOfWord : ByteArray := prog_9_method_11_code
def yX7_valueOfWord : MethodName := ⟨RX7, "valueOfWord", "(I)I"⟩
abbrev cX7_copyFrom : ByteArray := prog_9_method_12_code
def yX7_copyFrom : MethodName := ⟨RX7, "copyFrom", "(LTileWordBoard$Table;)V"⟩
def RX8 : String := "TileWordBoard$Word"
def TX8 : u_T := fun k => match k with
  | _ => ("", "", "", false)
def tyX8 : Nat → FieldType := fun k => match k with
  | _ => .int
abbrev wsX80 : List Cond := u_ws RX8 TX8 0
theorem nmX8 : ∀ a, a < 0 → ∀ b, b < 0 → a ≠ b → (TX8 a).2.1 ≠ (TX8 b).2.1 := by decide +kernel
theorem tyX8_ok : ∀ k, k < 0 → parseFieldDescriptor (TX8 k).2.2.1 = some (tyX8 k) := by decide +kernel
abbrev cX8_length : ByteArray := prog_10_method_2_code
def yX8_length : MethodName := ⟨RX8, "length", "(I)I"⟩
abbrev cX8_letter : ByteArray := prog_10_method_3_code
def yX8_letter : MethodName := ⟨RX8, "letter", "(II)I"⟩
abbrev cX8_append : ByteArray := prog_10_method_4_code
def yX8_append : MethodName := ⟨RX8, "append", "(II)I"⟩
def RX9 : String := "TileWordBoard"
def TX9 : u_T := fun k => match k with
  | 0 => ("TileWordBoard", "text", "I", false)
  | 1 => ("TileWordBoard", "table", "LTileWordBoard$Table;", true)
  | 2 => ("TileWordBoard", "rules", "LTileWordBoard$Rules;", true)
  | 3 => ("TileWordBoard", "search", "LTileWordBoard$Endgame;", true)
  | _ => ("TileWordBoard", "history", "LTileWordBoard$History;", true)
def tyX9 : Nat → FieldType := fun k => match k with
  | 0 => .int
  | 1 => .object "TileWordBoard$Table"
  | 2 => .object "TileWordBoard$Rules"
  | 3 => .object "TileWordBoard$Endgame"
  | _ => .object "TileWordBoard$History"
abbrev wsX90 : List Cond := u_ws RX9 TX9 5
theorem nmX9 : ∀ a, a < 5 → ∀ b, b < 5 → a ≠ b → (TX9 a).2.1 ≠ (TX9 b).2.1 := by decide +kernel
theorem tyX9_ok : ∀ k, k < 5 → parseFieldDescriptor (TX9 k).2.2.1 = some (tyX9 k) := by decide +kernel
abbrev cX9_init : ByteArray := prog_1_method_1_code
def yX9_init : MethodName := ⟨RX9, "<init>", "()V"⟩
abbrev cX9_type : ByteArray := prog_1_method_2_code
def yX9_type : MethodName := ⟨RX9, "type", "(I)I"⟩
abbrev cX9_clearText : ByteArray := prog_1_method_3_code
def yX9_clearText : MethodName := ⟨RX9, "clearText", "()I"⟩
abbrev cX9_addWord : ByteArray := prog_1_method_4_code
def yX9_addWord : MethodName := ⟨RX9, "addWord", "()I"⟩
abbrev cX9_lookUp : ByteArray := prog_1_method_5_code
def yX9_lookUp : MethodName := ⟨RX9, "lookUp", "()I"⟩
abbrev cX9_setLetter : ByteArray := prog_1_method_6_code
def yX9_setLetter : MethodName := ⟨RX9, "setLetter", "(III)I"⟩
abbrev cX9_setPremium : ByteArray := prog_1_method_7_code
def yX9_setPremium : MethodName := ⟨RX9, "setPremium", "(III)I"⟩
abbrev cX9_setRack : ByteArray := prog_1_method_8_code
def yX9_setRack : MethodName := ⟨RX9, "setRack", "(I)I"⟩
abbrev cX9_setTile : ByteArray := prog_1_method_9_code
def yX9_setTile : MethodName := ⟨RX9, "setTile", "(III)I"⟩
abbrev cX9_tileAt : ByteArray := prog_1_method_10_code
def yX9_tileAt : MethodName := ⟨RX9, "tileAt", "(II)I"⟩
abbrev cX9_onRack : ByteArray := prog_1_method_11_code
def yX9_onRack : MethodName := ⟨RX9, "onRack", "(II)I"⟩
abbrev cX9_score : ByteArray := prog_1_method_12_code
def yX9_score : MethodName := ⟨RX9, "score", "(I)I"⟩
abbrev cX9_crossSet : ByteArray := prog_1_method_13_code
def yX9_crossSet : MethodName := ⟨RX9, "crossSet", "(III)I"⟩
abbrev cX9_anchors : ByteArray := prog_1_method_14_code
def yX9_anchors : MethodName := ⟨RX9, "anchors", "()I"⟩
abbrev cX9_isAnchor : ByteArray := prog_1_method_15_code
def yX9_isAnchor : MethodName := ⟨RX9, "isAnchor", "(II)Z"⟩
abbrev cX9_check : ByteArray := prog_1_method_16_code
def yX9_check : MethodName := ⟨RX9, "check", "(IIII)I"⟩
abbrev cX9_play : ByteArray := prog_1_method_17_code
def yX9_play : MethodName := ⟨RX9, "play", "(IIII)I"⟩
abbrev cX9_plays : ByteArray := prog_1_method_18_code
def yX9_plays : MethodName := ⟨RX9, "plays", "(I)I"⟩
abbrev cX9_playAt : ByteArray := prog_1_method_19_code
def yX9_playAt : MethodName := ⟨RX9, "playAt", "(III)I"⟩
abbrev cX9_bestPlay : ByteArray := prog_1_method_20_code
def yX9_bestPlay : MethodName := ⟨RX9, "bestPlay", "(I)I"⟩
abbrev cX9_playBest : ByteArray := prog_1_method_21_code
def yX9_playBest : MethodName := ⟨RX9, "playBest", "(I)I"⟩
abbrev cX9_endgame : ByteArray := prog_1_method_22_code
def yX9_endgame : MethodName := ⟨RX9, "endgame", "(I)I"⟩
abbrev cX9_undo : ByteArray := prog_1_method_23_code
def yX9_undo : MethodName := ⟨RX9, "undo", "()I"⟩
abbrev cX9_digest : ByteArray := prog_1_method_24_code
def yX9_digest : MethodName := ⟨RX9, "digest", "()J"⟩
abbrev cX9_hashWord : ByteArray := prog_1_method_25_code
def yX9_hashWord : MethodName := ⟨RX9, "hashWord", "(JI)J"⟩
abbrev cX9_hashDictionary : ByteArray := prog_1_method_26_code
def yX9_hashDictionary : MethodName := ⟨RX9, "hashDictionary", "(J)J"⟩
abbrev cX9_hashRack : ByteArray := prog_1_method_27_code
def yX9_hashRack : MethodName := ⟨RX9, "hashRack", "(JI)J"⟩
abbrev cX9_makePlay : ByteArray := prog_1_method_28_code
def yX9_makePlay : MethodName := ⟨RX9, "makePlay", "(II)I"⟩
abbrev cX9_isLetter : ByteArray := prog_1_method_29_code
def yX9_isLetter : MethodName := ⟨RX9, "isLetter", "(I)Z"⟩
abbrev cX9_isPlayer : ByteArray := prog_1_method_30_code
def yX9_isPlayer : MethodName := ⟨RX9, "isPlayer", "(I)Z"⟩
abbrev cX9_requireLetter : ByteArray := prog_1_method_31_code
def yX9_requireLetter : MethodName := ⟨RX9, "requireLetter", "(I)V"⟩
abbrev cX9_requirePlayer : ByteArray := prog_1_method_32_code
def yX9_requirePlayer : MethodName := ⟨RX9, "requirePlayer", "(I)V"⟩
abbrev cX9_requireSquare : ByteArray := prog_1_method_33_code
def yX9_requireSquare : MethodName := ⟨RX9, "requireSquare", "(II)V"⟩
abbrev cX9_requireDirection : ByteArray := prog_1_method_34_code
def yX9_requireDirection : MethodName := ⟨RX9, "requireDirection", "(I)V"⟩
def RX10 : String := "TileWordBoardModel"
def TX10 : u_T := fun k => match k with
  | 0 => ("TileWordBoardModel", "all", "[I", true)
  | 1 => ("TileWordBoardModel", "saved", "[I", true)
  | 2 => ("TileWordBoardModel", "savedMany", "I", false)
  | 3 => ("TileWordBoardModel", "thrown", "I", false)
  | 4 => ("TileWordBoardModel", "text", "[I", true)
  | 5 => ("TileWordBoardModel", "textLong", "I", false)
  | 6 => ("TileWordBoardModel", "word", "[I", true)
  | 7 => ("TileWordBoardModel", "wordLong", "I", false)
  | 8 => ("TileWordBoardModel", "board", "[I", true)
  | 9 => ("TileWordBoardModel", "racks", "[I", true)
  | 10 => ("TileWordBoardModel", "crossRow", "I", false)
  | 11 => ("TileWordBoardModel", "crossColumn", "I", false)
  | 12 => ("TileWordBoardModel", "crossLong", "I", false)
  | 13 => ("TileWordBoardModel", "laid", "[I", true)
  | 14 => ("TileWordBoardModel", "laidLong", "I", false)
  | 15 => ("TileWordBoardModel", "needs", "[I", true)
  | 16 => ("TileWordBoardModel", "bestIndex", "I", false)
  | 17 => ("TileWordBoardModel", "bestCode", "I", false)
  | 18 => ("TileWordBoardModel", "boards", "[I", true)
  | 19 => ("TileWordBoardModel", "rackPile", "[I", true)
  | 20 => ("TileWordBoardModel", "passed", "[I", true)
  | 21 => ("TileWordBoardModel", "nextMove", "[I", true)
  | 22 => ("TileWordBoardModel", "bestSoFar", "[I", true)
  | 23 => ("TileWordBoardModel", "gains", "[I", true)
  | _ => ("TileWordBoardModel", "visits", "I", false)
def tyX10 : Nat → FieldType := fun k => match k with
  | 0 => .array .int
  | 1 => .array .int
  | 2 => .int
  | 3 => .int
  | 4 => .array .int
  | 5 => .int
  | 6 => .array .int
  | 7 => .int
  | 8 => .array .int
  | 9 => .array .int
  | 10 => .int
  | 11 => .int
  | 12 => .int
  | 13 => .array .int
  | 14 => .int
  | 15 => .array .int
  | 16 => .int
  | 17 => .int
  | 18 => .array .int
  | 19 => .array .int
  | 20 => .array .int
  | 21 => .array .int
  | 22 => .array .int
  | 23 => .array .int
  | _ => .int
abbrev wsX100 : List Cond := u_ws RX10 TX10 25
theorem nmX10 : ∀ a, a < 25 → ∀ b, b < 25 → a ≠ b → (TX10 a).2.1 ≠ (TX10 b).2.1 := by decide +kernel
theorem tyX10_ok : ∀ k, k < 25 → parseFieldDescriptor (TX10 k).2.2.1 = some (tyX10 k) := by decide +kernel
abbrev cX10_init : ByteArray := prog_12_method_1_code
def yX10_init : MethodName := ⟨RX10, "<init>", "()V"⟩
abbrev cX10_thrown : ByteArray := prog_12_method_2_code
def yX10_thrown : MethodName := ⟨RX10, "thrown", "()I"⟩
abbrev cX10_in : ByteArray := prog_12_method_3_code
def yX10_in : MethodName := ⟨RX10, "in", "(JJJ)Z"⟩
abbrev cX10_goes : ByteArray := prog_12_method_4_code
def yX10_goes : MethodName := ⟨RX10, "goes", "(ZZZ)Z"⟩
abbrev cX10_save : ByteArray := prog_12_method_5_code
def yX10_save : MethodName := ⟨RX10, "save", "()V"⟩
abbrev cX10_isLetter : ByteArray := prog_12_method_6_code
def yX10_isLetter : MethodName := ⟨RX10, "isLetter", "(I)Z"⟩
abbrev cX10_isSquare : ByteArray := prog_12_method_7_code
def yX10_isSquare : MethodName := ⟨RX10, "isSquare", "(II)Z"⟩
abbrev cX10_isPlayer : ByteArray := prog_12_method_8_code
def yX10_isPlayer : MethodName := ⟨RX10, "isPlayer", "(I)Z"⟩
abbrev cX10_type : ByteArray := prog_12_method_9_code
def yX10_type : MethodName := ⟨RX10, "type", "(I)I"⟩
abbrev cX10_clearText : ByteArray := prog_12_method_10_code
def yX10_clearText : MethodName := ⟨RX10, "clearText", "()I"⟩
abbrev cX10_takesText : ByteArray := prog_12_method_11_code
def yX10_takesText : MethodName := ⟨RX10, "takesText", "()V"⟩
abbrev cX10_takesWord : ByteArray := prog_12_method_12_code
def yX10_takesWord : MethodName := ⟨RX10, "takesWord", "(I)V"⟩
abbrev cX10_against : ByteArray := prog_12_method_13_code
def yX10_against : MethodName := ⟨RX10, "against", "(I)I"⟩
abbrev cX10_foundAt : ByteArray := prog_12_method_14_code
def yX10_foundAt : MethodName := ⟨RX10, "foundAt", "()I"⟩
abbrev cX10_addWord : ByteArray := prog_12_method_15_code
def yX10_addWord : MethodName := ⟨RX10, "addWord", "()I"⟩
abbrev cX10_lookUp : ByteArray := prog_12_method_16_code
def yX10_lookUp : MethodName := ⟨RX10, "lookUp", "()I"⟩
abbrev cX10_setLetter : ByteArray := prog_12_method_17_code
def yX10_setLetter : MethodName := ⟨RX10, "setLetter", "(III)I"⟩
abbrev cX10_setPremium : ByteArray := prog_12_method_18_code
def yX10_setPremium : MethodName := ⟨RX10, "setPremium", "(III)I"⟩
abbrev cX10_setRack : ByteArray := prog_12_method_19_code
def yX10_setRack : MethodName := ⟨RX10, "setRack", "(I)I"⟩
abbrev cX10_setTile : ByteArray := prog_12_method_20_code
def yX10_setTile : MethodName := ⟨RX10, "setTile", "(III)I"⟩
abbrev cX10_tileAt : ByteArray := prog_12_method_21_code
def yX10_tileAt : MethodName := ⟨RX10, "tileAt", "(II)I"⟩
abbrev cX10_onRack : ByteArray := prog_12_method_22_code
def yX10_onRack : MethodName := ⟨RX10, "onRack", "(II)I"⟩
abbrev cX10_score : ByteArray := prog_12_method_23_code
def yX10_score : MethodName := ⟨RX10, "score", "(I)I"⟩
abbrev cX10_laysNow : ByteArray := prog_12_method_24_code
def yX10_laysNow : MethodName := ⟨RX10, "laysNow", "()V"⟩
abbrev cX10_hasTile : ByteArray := prog_12_method_25_code
def yX10_hasTile : MethodName := ⟨RX10, "hasTile", "(II)Z"⟩
abbrev cX10_isBare : ByteArray := prog_12_method_26_code
def yX10_isBare : MethodName := ⟨RX10, "isBare", "()Z"⟩
abbrev cX10_findsCross : ByteArray := prog_12_method_27_code
def yX10_findsCross : MethodName := ⟨RX10, "findsCross", "(III)V"⟩
abbrev cX10_takesCross : ByteArray := prog_12_method_28_code
def yX10_takesCross : MethodName := ⟨RX10, "takesCross", "(II)V"⟩
abbrev cX10_crossOf : ByteArray := prog_12_method_29_code
def yX10_crossOf : MethodName := ⟨RX10, "crossOf", "(III)I"⟩
abbrev cX10_crossSet : ByteArray := prog_12_method_30_code
def yX10_crossSet : MethodName := ⟨RX10, "crossSet", "(III)I"⟩
abbrev cX10_isAnchorNow : ByteArray := prog_12_method_31_code
def yX10_isAnchorNow : MethodName := ⟨RX10, "isAnchorNow", "(II)Z"⟩
abbrev cX10_anchorsNow : ByteArray := prog_12_method_32_code
def yX10_anchorsNow : MethodName := ⟨RX10, "anchorsNow", "()I"⟩
abbrev cX10_anchors : ByteArray := prog_12_method_33_code
def yX10_anchors : MethodName := ⟨RX10, "anchors", "()I"⟩
abbrev cX10_isAnchor : ByteArray := prog_12_method_34_code
def yX10_isAnchor : MethodName := ⟨RX10, "isAnchor", "(II)Z"⟩
abbrev cX10_laysWord : ByteArray := prog_12_method_35_code
def yX10_laysWord : MethodName := ⟨RX10, "laysWord", "()V"⟩
abbrev cX10_squareOf : ByteArray := prog_12_method_36_code
def yX10_squareOf : MethodName := ⟨RX10, "squareOf", "(IIII)I"⟩
abbrev cX10_isTouching : ByteArray := prog_12_method_37_code
def yX10_isTouching : MethodName := ⟨RX10, "isTouching", "(III)Z"⟩
abbrev cX10_coversCentre : ByteArray := prog_12_method_38_code
def yX10_coversCentre : MethodName := ⟨RX10, "coversCentre", "(III)Z"⟩
abbrev cX10_reason : ByteArray := prog_12_method_39_code
def yX10_reason : MethodName := ⟨RX10, "reason", "(IIII)I"⟩
abbrev cX10_letterTimes : ByteArray := prog_12_method_40_code
def yX10_letterTimes : MethodName := ⟨RX10, "letterTimes", "(I)I"⟩
abbrev cX10_wordTimes : ByteArray := prog_12_method_41_code
def yX10_wordTimes : MethodName := ⟨RX10, "wordTimes", "(I)I"⟩
abbrev cX10_crossPoints : ByteArray := prog_12_method_42_code
def yX10_crossPoints : MethodName := ⟨RX10, "crossPoints", "(II)I"⟩
abbrev cX10_scoreOf : ByteArray := prog_12_method_43_code
def yX10_scoreOf : MethodName := ⟨RX10, "scoreOf", "(III)I"⟩
abbrev cX10_lays : ByteArray := prog_12_method_44_code
def yX10_lays : MethodName := ⟨RX10, "lays", "(IIII)V"⟩
abbrev cX10_keepsBoard : ByteArray := prog_12_method_45_code
def yX10_keepsBoard : MethodName := ⟨RX10, "keepsBoard", "()V"⟩
abbrev cX10_check : ByteArray := prog_12_method_46_code
def yX10_check : MethodName := ⟨RX10, "check", "(IIII)I"⟩
abbrev cX10_play : ByteArray := prog_12_method_47_code
def yX10_play : MethodName := ⟨RX10, "play", "(IIII)I"⟩
abbrev cX10_makes : ByteArray := prog_12_method_48_code
def yX10_makes : MethodName := ⟨RX10, "makes", "(IIII)I"⟩
abbrev cX10_mayPlay : ByteArray := prog_12_method_49_code
def yX10_mayPlay : MethodName := ⟨RX10, "mayPlay", "(II)Z"⟩
abbrev cX10_scoreBy : ByteArray := prog_12_method_50_code
def yX10_scoreBy : MethodName := ⟨RX10, "scoreBy", "(I)I"⟩
abbrev cX10_laysBy : ByteArray := prog_12_method_51_code
def yX10_laysBy : MethodName := ⟨RX10, "laysBy", "(II)V"⟩
abbrev cX10_leaveOf : ByteArray := prog_12_method_52_code
def yX10_leaveOf : MethodName := ⟨RX10, "leaveOf", "(I)I"⟩
abbrev cX10_playsOf : ByteArray := prog_12_method_53_code
def yX10_playsOf : MethodName := ⟨RX10, "playsOf", "(I)I"⟩
abbrev cX10_plays : ByteArray := prog_12_method_54_code
def yX10_plays : MethodName := ⟨RX10, "plays", "(I)I"⟩
abbrev cX10_codeAt : ByteArray := prog_12_method_55_code
def yX10_codeAt : MethodName := ⟨RX10, "codeAt", "(II)I"⟩
abbrev cX10_playAt : ByteArray := prog_12_method_56_code
def yX10_playAt : MethodName := ⟨RX10, "playAt", "(III)I"⟩
abbrev cX10_findsBest : ByteArray := prog_12_method_57_code
def yX10_findsBest : MethodName := ⟨RX10, "findsBest", "(I)V"⟩
abbrev cX10_bestPlay : ByteArray := prog_12_method_58_code
def yX10_bestPlay : MethodName := ⟨RX10, "bestPlay", "(I)I"⟩
abbrev cX10_playBest : ByteArray := prog_12_method_59_code
def yX10_playBest : MethodName := ⟨RX10, "playBest", "(I)I"⟩
abbrev cX10_sumOn : ByteArray := prog_12_method_60_code
def yX10_sumOn : MethodName := ⟨RX10, "sumOn", "(I)I"⟩
abbrev cX10_isOut : ByteArray := prog_12_method_61_code
def yX10_isOut : MethodName := ⟨RX10, "isOut", "(I)Z"⟩
abbrev cX10_enters : ByteArray := prog_12_method_62_code
def yX10_enters : MethodName := ⟨RX10, "enters", "(III)V"⟩
abbrev cX10_takesBack : ByteArray := prog_12_method_63_code
def yX10_takesBack : MethodName := ⟨RX10, "takesBack", "(I)V"⟩
abbrev cX10_betters : ByteArray := prog_12_method_64_code
def yX10_betters : MethodName := ⟨RX10, "betters", "(II)V"⟩
abbrev cX10_searched : ByteArray := prog_12_method_65_code
def yX10_searched : MethodName := ⟨RX10, "searched", "(I)I"⟩
abbrev cX10_endgame : ByteArray := prog_12_method_66_code
def yX10_endgame : MethodName := ⟨RX10, "endgame", "(I)I"⟩
abbrev cX10_undo : ByteArray := prog_12_method_67_code
def yX10_undo : MethodName := ⟨RX10, "undo", "()I"⟩
abbrev cX10_digest : ByteArray := prog_12_method_68_code
def yX10_digest : MethodName := ⟨RX10, "digest", "()J"⟩
def RJ13 : String := "java/lang/Long"
def TJ13 : u_T := fun k => match k with
  | _ => ("", "", "", false)
def tyJ13 : Nat → FieldType := fun k => match k with
  | _ => .int
abbrev wsJ130 : List Cond := u_ws RJ13 TJ13 0
theorem nmJ13 : ∀ a, a < 0 → ∀ b, b < 0 → a ≠ b → (TJ13 a).2.1 ≠ (TJ13 b).2.1 := by decide +kernel
theorem tyJ13_ok : ∀ k, k < 0 → parseFieldDescriptor (TJ13 k).2.2.1 = some (tyJ13 k) := by decide +kernel
abbrev cJ13_bitCount_95d88 : ByteArray := prog_17_method_50_code
def yJ13_bitCount_95d88 : MethodName := ⟨RJ13, "bitCount", "(J)I"⟩
def RJ9 : String := "java/lang/Math"
def TJ9 : u_T := fun k => match k with
  | _ => ("", "", "", false)
def tyJ9 : Nat → FieldType := fun k => match k with
  | _ => .int
abbrev wsJ90 : List Cond := u_ws RJ9 TJ9 0
theorem nmJ9 : ∀ a, a < 0 → ∀ b, b < 0 → a ≠ b → (TJ9 a).2.1 ≠ (TJ9 b).2.1 := by decide +kernel
theorem tyJ9_ok : ∀ k, k < 0 → parseFieldDescriptor (TJ9 k).2.2.1 = some (tyJ9 k) := by decide +kernel
abbrev cJ9_max_7cf53 : ByteArray := prog_18_method_65_code
def yJ9_max_7cf53 : MethodName := ⟨RJ9, "max", "(II)I"⟩
def RJ0 : String := "java/lang/String"
def TJ0 : u_T := fun k => match k with
  | _ => ("", "", "", false)
def tyJ0 : Nat → FieldType := fun k => match k with
  | _ => .int
abbrev wsJ00 : List Cond := u_ws RJ0 TJ0 0
theorem nmJ0 : ∀ a, a < 0 → ∀ b, b < 0 → a ≠ b → (TJ0 a).2.1 ≠ (TJ0 b).2.1 := by decide +kernel
theorem tyJ0_ok : ∀ k, k < 0 → parseFieldDescriptor (TJ0 k).2.2.1 = some (tyJ0 k) := by decide +kernel
def RJ10 : String := "java/lang/System"
def TJ10 : u_T := fun k => match k with
  | _ => ("", "", "", false)
def tyJ10 : Nat → FieldType := fun k => match k with
  | _ => .int
abbrev wsJ100 : List Cond := u_ws RJ10 TJ10 0
theorem nmJ10 : ∀ a, a < 0 → ∀ b, b < 0 → a ≠ b → (TJ10 a).2.1 ≠ (TJ10 b).2.1 := by decide +kernel
theorem tyJ10_ok : ∀ k, k < 0 → parseFieldDescriptor (TJ10 k).2.2.1 = some (tyJ10 k) := by decide +kernel
def RL : String := "TileWordBoardLaw"
abbrev cL_type : ByteArray := method_3_code
def yL_type : MethodName := ⟨RL, "type", "(LTileWordBoard;I[J)I"⟩
abbrev cL_addWord : ByteArray := method_4_code
def yL_addWord : MethodName := ⟨RL, "addWord", "(LTileWordBoard;[J)I"⟩
abbrev cL_setLetter : ByteArray := method_5_code
def yL_setLetter : MethodName := ⟨RL, "setLetter", "(LTileWordBoard;III[J)I"⟩
abbrev cL_setPremium : ByteArray := method_6_code
def yL_setPremium : MethodName := ⟨RL, "setPremium", "(LTileWordBoard;III[J)I"⟩
abbrev cL_setRack : ByteArray := method_7_code
def yL_setRack : MethodName := ⟨RL, "setRack", "(LTileWordBoard;I[J)I"⟩
abbrev cL_setTile : ByteArray := method_8_code
def yL_setTile : MethodName := ⟨RL, "setTile", "(LTileWordBoard;III[J)I"⟩
abbrev cL_tileAt : ByteArray := method_9_code
def yL_tileAt : MethodName := ⟨RL, "tileAt", "(LTileWordBoard;II[J)I"⟩
abbrev cL_onRack : ByteArray := method_10_code
def yL_onRack : MethodName := ⟨RL, "onRack", "(LTileWordBoard;II[J)I"⟩
abbrev cL_score : ByteArray := method_11_code
def yL_score : MethodName := ⟨RL, "score", "(LTileWordBoard;I[J)I"⟩
abbrev cL_crossSet : ByteArray := method_12_code
def yL_crossSet : MethodName := ⟨RL, "crossSet", "(LTileWordBoard;III[J)I"⟩
abbrev cL_isAnchor : ByteArray := method_13_code
def yL_isAnchor : MethodName := ⟨RL, "isAnchor", "(LTileWordBoard;II[J)I"⟩
abbrev cL_check : ByteArray := method_14_code
def yL_check : MethodName := ⟨RL, "check", "(LTileWordBoard;IIII[J)I"⟩
abbrev cL_play : ByteArray := method_15_code
def yL_play : MethodName := ⟨RL, "play", "(LTileWordBoard;IIII[J)I"⟩
abbrev cL_plays : ByteArray := method_16_code
def yL_plays : MethodName := ⟨RL, "plays", "(LTileWordBoard;I[J)I"⟩
abbrev cL_playAt : ByteArray := method_17_code
def yL_playAt : MethodName := ⟨RL, "playAt", "(LTileWordBoard;III[J)I"⟩
abbrev cL_bestPlay : ByteArray := method_18_code
def yL_bestPlay : MethodName := ⟨RL, "bestPlay", "(LTileWordBoard;I[J)I"⟩
abbrev cL_playBest : ByteArray := method_19_code
def yL_playBest : MethodName := ⟨RL, "playBest", "(LTileWordBoard;I[J)I"⟩
abbrev cL_endgame : ByteArray := method_20_code
def yL_endgame : MethodName := ⟨RL, "endgame", "(LTileWordBoard;I[J)I"⟩
abbrev cL_undo : ByteArray := method_21_code
def yL_undo : MethodName := ⟨RL, "undo", "(LTileWordBoard;[J)I"⟩
abbrev cL_law : ByteArray := code
def yL_law : MethodName := ⟨RL, "law", "([I)Z"⟩
abbrev vwCl : List vw_C := [(RX0, TX0, 3), (RX1, TX1, 2), (RX2, TX2, 3), (RX3, TX3, 3), (RX5, TX5, 1), (RX7, TX7, 6), (RX9, TX9, 5), (RX10, TX10, 25)]
end
section
/-! ===== the V layer: a run of one method inside a world, by rules with few premises ===== -/
def tblG : List Cond := lw_tbl.filter goodWord
theorem tin {w : Cond} (i : Nat) (h : tables_1[i]? = some w) (hg : goodWord w = true) : w ∈ tblG :=
  List.mem_filter.mpr ⟨List.mem_append_right _ (List.mem_of_getElem? h), hg⟩
theorem tsel {q : MethodName × Nat} (h : q ∈ lw_privs) : Cond.selects q.1.cls q.1 q.1 ∈ tblG :=
  List.mem_filter.mpr ⟨List.mem_append_left _ (List.mem_map.mpr ⟨q, h, rfl⟩), rfl⟩
theorem goodT {ws : List Cond} (h : ∀ w ∈ ws, w ∈ tblG) : GoodIn tblG ws := fun w hw => ⟨h w hw, good_of_word (List.mem_filter.mp (h w hw)).2⟩
def nestL : List Cond := [.fieldLinkNest "TileWordBoard$Rules" 15 "TileWordBoard$Table" "words" "LTileWordBoard$Dictionary;" "TileWordBoard",
  .fieldLinkNest "TileWordBoard" 68 "TileWordBoard$Table" "words" "LTileWordBoard$Dictionary;" "TileWordBoard",
  .fieldLinkNest "TileWordBoard$Rules" 66 "TileWordBoard$Table" "board" "LTileWordBoard$Board;" "TileWordBoard",
  .fieldLinkNest "TileWordBoard$Endgame" 70 "TileWordBoard$Table" "board" "LTileWordBoard$Board;" "TileWordBoard",
  .fieldLinkNest "TileWordBoard" 118 "TileWordBoard$Table" "board" "LTileWordBoard$Board;" "TileWordBoard",
  .methodLinkNest "TileWordBoard$Table" 38 ⟨"TileWordBoard", "isLetter", "(I)Z"⟩ "TileWordBoard",
  .methodLinkNest "TileWordBoard$Table" 42 ⟨"TileWordBoard", "isPlayer", "(I)Z"⟩ "TileWordBoard",
  .methodLinkNest "TileWordBoard" 233 ⟨"TileWordBoard$Endgame", "bestDifference", "(III)I"⟩ "TileWordBoard"]
def va_NN (U : State) : Prop := ∀ w ∈ nestL, va_Nw w U
theorem NN_warm {s U : State} (hW : s.WarmedH U.vm) (h : va_NN s) : va_NN U := by
  intro w hw
  have h1 := h w hw
  simp only [nestL, List.mem_cons, List.not_mem_nil, or_false] at hw
  rcases hw with rfl | rfl | rfl | rfl | rfl | rfl | rfl | rfl <;> first | exact va_Nw.warmF hW h1 | exact va_Nw.warmM hW h1
theorem nest_tab : ∀ w ∈ nestL, w.onTables = true := by decide +kernel
theorem NN_same {u U : State} (e : u.vm = U.vm) (h : va_NN u) : va_NN U := fun w hw => va_Nw.same (nest_tab w hw) e (h w hw)
abbrev Gv : Type := va_G × (ClassId × (ClassId × ClassId))
abbrev tyG (G : Gv) : List (ClassId × FieldType) := [(G.2.1, .int), (G.2.2.1, .object RX7), (G.2.2.2, .long)]
def rmG (d mc ms : Nat) : Room := { frames := d, cells := mc, slots := ms, locals := 60 * d }
/-- what a method finds -/
def KB (G : Gv) (ws : va_W) (sz : Nat) (U : State) : Prop := U.heap.size = sz ∧ va_P G.1 vwCl ws U.heap ∧ va_K G.1 vwCl (tyG G) U ∧ va_D (fun _ => True) ws ∧ va_NN U
/-- what it leaves -/
def KQ (G : Gv) (ws : va_W) (sz : Nat) (post : Option Value → va_W → Prop) : Array Value → State → Outcome → State → Prop := fun _ st oc t =>
  (∃ (ro : Option Value) (w1 : va_W), oc = .returned ro ∧ post ro w1 ∧ va_P G.1 vwCl w1 t.heap ∧ va_K G.1 vwCl (tyG G) t ∧ va_D (va_A ws sz) w1) ∧ va_F (va_A ws sz) st t
theorem KB_blind {G : Gv} {ws : va_W} {sz : Nat} {av : List Value} : FrameBlind (va_Pc av (KB G ws sz)) := fun a U g mk q => by
  obtain ⟨q0, q1, qP, qK, qD, qN⟩ := q
  exact ⟨q0, q1, qP, va_K.moved (u := U) (U := U.calling g mk a) (Vm.Alike.refl U.vm) qK, qD, NN_same (u := U) (U := U.calling g mk a) rfl qN⟩
/-- a method's contract: from the world ws with the arguments av it returns, and post holds of the answer and the new world -/
def K (l : Launch) (G : Gv) (y : MethodName) (cc : ByteArray) (nL : Nat) (ret : Option FieldType) (d mc ms : Nat) (av : List Value) (ws : va_W) (post : Option Value → va_W → Prop) : Prop :=
  ∀ sz : Nat, Met l y (.code y cc nL ret :: tblG) (rmG d mc ms) (va_Pc av (KB G ws sz)) (KQ G ws sz post) mc ms (va_A ws sz)
/-- what stays the same while a method runs -/
def Cx (p : Program) (R : Room) (s : State) (m : MethodId) (args : Array Value) (meth : Method) (c : Code) (y : MethodName) (cc : ByteArray) (nL : Nat) (ret : Option FieldType) (G : Gv) (w0 : va_W) : Prop :=
  (p.tables.exec = Jvm.exec ∧ c.code = cc ∧ c.maxLocals = nL ∧ s.vm.findClass y.cls = some m.cls ∧ ∀ w ∈ tblG, w.before args s = true) ∧ (va_K G.1 vwCl (tyG G) s ∧ va_NN s) ∧ (meth.locks = false ∧ meth.sig.returnType = ret ∧ meth.name = y.name)
abbrev pD (v : Option Value) (w1 : va_W) : Option Value → va_W → Prop := fun ro w => ro = v ∧ w = w1
/-- from here on the method comes to its end as post says -/
def VV (l : Launch) (G : Gv) (y : MethodName) (cc : ByteArray) (nL : Nat) (ret : Option FieldType) (d mc ms : Nat) (av : List Value) (w0 : va_W) (post : Option Value → va_W → Prop) (ce sl : Nat) (ws : va_W) (pc : Nat) (lv : List (Nat × Value)) (st : List Value) : Prop :=
  ∀ (p : Program) (e : Env) (s : State) (m : MethodId) (below : List Frame) (meth : Method) (c : Code), Cx p (rmG d mc ms) s m av.toArray meth c y cc nL ret G w0 →
  ∀ (H : Heap) (locs : List Loc) (ls : Array Slot), va_P G.1 vwCl ws H → va_D (va_A w0 s.heap.size) ws → va_S (va_A w0 s.heap.size) s.heap H locs → lv_has ls nL lv →
    W p l e (rmG d mc ms) s m av.toArray below meth c H locs ce sl (MQ below (KQ G w0 s.heap.size post) av.toArray s mc ms (va_A w0 s.heap.size)) (F0 m pc ls st)
section VR
variable {l : Launch} {G : Gv} {y : MethodName} {cc : ByteArray} {nL : Nat} {ret : Option FieldType} {d mc ms : Nat} {av : List Value} {w0 : va_W} {post : Option Value → va_W → Prop} {ce sl : Nat} {ws : va_W} {pc : Nat} {lv : List (Nat × Value)} {st : List Value}
theorem K_intro (hy : plainName y.cls = true) (hn : (lg_sl av).length ≤ nL) (body : VV l G y cc nL ret d mc ms av w0 post 0 0 w0 0 (lv_args 0 av) []) : K l G y cc nL ret d mc ms av w0 post := by
  intro sz
  refine Met.ofW (cc := cc) (maxL := nL) (ret := ret) hy rfl ?_
  intro p e s m args below meth c s₁ B hml hv
  obtain ⟨rfl, hsz, hP, hK, hD0, hN⟩ := hv
  have hx := B.exec
  have hb := B.bytes
  have hr := B.returns
  have hts := atoms_spec (ws := Cond.code y cc nL ret :: tblG) B.pre
  have hown : s.vm.findClass y.cls = some m.cls := findClass_of_methodNamed B.named
  have hlocks := B.notSynchronized
  have hin : meth.name = y.name := (name_of_methodNamed B.named B.method).1
  subst hsz
  have hD := hD0.self (sz := s.heap.size)
  have hl := lv_entry av (n := nL) hn
  rw [lg_entry_eq]
  exact body p e s m below meth c ⟨⟨hx, hb, hml, hown, fun w hw => hts w (List.mem_cons_of_mem _ hw)⟩, ⟨hK, hN⟩, hlocks, hr, hin⟩ s.heap [] _ hP hD va_S.rf hl
abbrev JJ (l : Launch) (G : Gv) (y : MethodName) (cc : ByteArray) (nL : Nat) (ret : Option FieldType) (d mc ms : Nat) (av : List Value) (w0 : va_W) (post : Option Value → va_W → Prop) (ce sl : Nat) (ws : va_W) (pc : Nat) (lv : List (Nat × Value)) (st : List Value) : Prop := VV l G y cc nL ret d mc ms av w0 post ce sl ws pc lv st

theorem V_iadd {x z : Int32} (dg : decode cc pc = .ok (.iadd, 1)) (K : VV l G y cc nL ret d mc ms av w0 post ce sl ws (pc + 1) lv (.int (x + z) :: st)) : VV l G y cc nL ret d mc ms av w0 post ce sl ws pc lv (.int z :: .int x :: st) := fun p e s m below meth c C H locs ls hP hD hS hl => lv_iadd C.1.1 C.1.2.1 dg (K p e s m below meth c C H locs ls hP hD hS hl)
theorem V_isub {x z : Int32} (dg : decode cc pc = .ok (.isub, 1)) (K : VV l G y cc nL ret d mc ms av w0 post ce sl ws (pc + 1) lv (.int (x - z) :: st)) : VV l G y cc nL ret d mc ms av w0 post ce sl ws pc lv (.int z :: .int x :: st) := fun p e s m below meth c C H locs ls hP hD hS hl => lv_isub C.1.1 C.1.2.1 dg (K p e s m below meth c C H locs ls hP hD hS hl)
theorem V_imul {x z : Int32} (dg : decode cc pc = .ok (.imul, 1)) (K : VV l G y cc nL ret d mc ms av w0 post ce sl ws (pc + 1) lv (.int (x * z) :: st)) : VV l G y cc nL ret d mc ms av w0 post ce sl ws pc lv (.int z :: .int x :: st) := fun p e s m below meth c C H locs ls hP hD hS hl => lv_imul C.1.1 C.1.2.1 dg (K p e s m below meth c C H locs ls hP hD hS hl)
theorem V_iand {x z : Int32} (dg : decode cc pc = .ok (.iand, 1)) (K : VV l G y cc nL ret d mc ms av w0 post ce sl ws (pc + 1) lv (.int (x &&& z) :: st)) : VV l G y cc nL ret d mc ms av w0 post ce sl ws pc lv (.int z :: .int x :: st) := fun p e s m below meth c C H locs ls hP hD hS hl => lv_iand C.1.1 C.1.2.1 dg (K p e s m below meth c C H locs ls hP hD hS hl)
theorem V_ior {x z : Int32} (dg : decode cc pc = .ok (.ior, 1)) (K : VV l G y cc nL ret d mc ms av w0 post ce sl ws (pc + 1) lv (.int (x ||| z) :: st)) : VV l G y cc nL ret d mc ms av w0 post ce sl ws pc lv (.int z :: .int x :: st) := fun p e s m below meth c C H locs ls hP hD hS hl => lv_ior C.1.1 C.1.2.1 dg (K p e s m below meth c C H locs ls hP hD hS hl)
theorem V_ishl {x z : Int32} (dg : decode cc pc = .ok (.ishl, 1)) (K : VV l G y cc nL ret d mc ms av w0 post ce sl ws (pc + 1) lv (.int (x <<< (z &&& 31)) :: st)) : VV l G y cc nL ret d mc ms av w0 post ce sl ws pc lv (.int z :: .int x :: st) := fun p e s m below meth c C H locs ls hP hD hS hl => lv_ishl C.1.1 C.1.2.1 dg (K p e s m below meth c C H locs ls hP hD hS hl)
theorem V_ishr {x z : Int32} (dg : decode cc pc = .ok (.ishr, 1)) (K : VV l G y cc nL ret d mc ms av w0 post ce sl ws (pc + 1) lv (.int (x >>> (z &&& 31)) :: st)) : VV l G y cc nL ret d mc ms av w0 post ce sl ws pc lv (.int z :: .int x :: st) := fun p e s m below meth c C H locs ls hP hD hS hl => lv_ishr C.1.1 C.1.2.1 dg (K p e s m below meth c C H locs ls hP hD hS hl)
theorem V_ladd {x z : Int64} (dg : decode cc pc = .ok (.ladd, 1)) (K : VV l G y cc nL ret d mc ms av w0 post ce sl ws (pc + 1) lv (.long (x + z) :: st)) : VV l G y cc nL ret d mc ms av w0 post ce sl ws pc lv (.long z :: .long x :: st) := fun p e s m below meth c C H locs ls hP hD hS hl => lv_ladd C.1.1 C.1.2.1 dg (K p e s m below meth c C H locs ls hP hD hS hl)
theorem V_lsub {x z : Int64} (dg : decode cc pc = .ok (.lsub, 1)) (K : VV l G y cc nL ret d mc ms av w0 post ce sl ws (pc + 1) lv (.long (x - z) :: st)) : VV l G y cc nL ret d mc ms av w0 post ce sl ws pc lv (.long z :: .long x :: st) := fun p e s m below meth c C H locs ls hP hD hS hl => lv_lsub C.1.1 C.1.2.1 dg (K p e s m below meth c C H locs ls hP hD hS hl)
theorem V_lmul {x z : Int64} (dg : decode cc pc = .ok (.lmul, 1)) (K : VV l G y cc nL ret d mc ms av w0 post ce sl ws (pc + 1) lv (.long (x * z) :: st)) : VV l G y cc nL ret d mc ms av w0 post ce sl ws pc lv (.long z :: .long x :: st) := fun p e s m below meth c C H locs ls hP hD hS hl => lv_lmul C.1.1 C.1.2.1 dg (K p e s m below meth c C H locs ls hP hD hS hl)
theorem V_land {x z : Int64} (dg : decode cc pc = .ok (.land, 1)) (K : VV l G y cc nL ret d mc ms av w0 post ce sl ws (pc + 1) lv (.long (x &&& z) :: st)) : VV l G y cc nL ret d mc ms av w0 post ce sl ws pc lv (.long z :: .long x :: st) := fun p e s m below meth c C H locs ls hP hD hS hl => lv_land C.1.1 C.1.2.1 dg (K p e s m below meth c C H locs ls hP hD hS hl)
theorem V_lor {x z : Int64} (dg : decode cc pc = .ok (.lor, 1)) (K : VV l G y cc nL ret d mc ms av w0 post ce sl ws (pc + 1) lv (.long (x ||| z) :: st)) : VV l G y cc nL ret d mc ms av w0 post ce sl ws pc lv (.long z :: .long x :: st) := fun p e s m below meth c C H locs ls hP hD hS hl => lv_lor C.1.1 C.1.2.1 dg (K p e s m below meth c C H locs ls hP hD hS hl)
theorem V_lxor {x z : Int64} (dg : decode cc pc = .ok (.lxor, 1)) (K : VV l G y cc nL ret d mc ms av w0 post ce sl ws (pc + 1) lv (.long (x ^^^ z) :: st)) : VV l G y cc nL ret d mc ms av w0 post ce sl ws pc lv (.long z :: .long x :: st) := fun p e s m below meth c C H locs ls hP hD hS hl => lv_lxor C.1.1 C.1.2.1 dg (K p e s m below meth c C H locs ls hP hD hS hl)
theorem V_idiv {x z : Int32} (dg : decode cc pc = .ok (.idiv, 1)) (hne : ¬ z = 0) (K : VV l G y cc nL ret d mc ms av w0 post ce sl ws (pc + 1) lv (.int (x / z) :: st)) : VV l G y cc nL ret d mc ms av w0 post ce sl ws pc lv (.int z :: .int x :: st) := fun p e s m below meth c C H locs ls hP hD hS hl => lv_idiv C.1.1 C.1.2.1 dg hne (K p e s m below meth c C H locs ls hP hD hS hl)
theorem V_irem {x z : Int32} (dg : decode cc pc = .ok (.irem, 1)) (hne : ¬ z = 0) (K : VV l G y cc nL ret d mc ms av w0 post ce sl ws (pc + 1) lv (.int (x - x / z * z) :: st)) : VV l G y cc nL ret d mc ms av w0 post ce sl ws pc lv (.int z :: .int x :: st) := fun p e s m below meth c C H locs ls hP hD hS hl => lv_irem C.1.1 C.1.2.1 dg hne (K p e s m below meth c C H locs ls hP hD hS hl)
theorem V_ineg {x : Int32} (dg : decode cc pc = .ok (.ineg, 1)) (K : VV l G y cc nL ret d mc ms av w0 post ce sl ws (pc + 1) lv (.int (-x) :: st)) : VV l G y cc nL ret d mc ms av w0 post ce sl ws pc lv (.int x :: st) := fun p e s m below meth c C H locs ls hP hD hS hl => lv_ineg C.1.1 C.1.2.1 dg (K p e s m below meth c C H locs ls hP hD hS hl)
theorem V_i2l {x : Int32} (dg : decode cc pc = .ok (.i2l, 1)) (K : VV l G y cc nL ret d mc ms av w0 post ce sl ws (pc + 1) lv (.long x.toInt64 :: st)) : VV l G y cc nL ret d mc ms av w0 post ce sl ws pc lv (.int x :: st) := fun p e s m below meth c C H locs ls hP hD hS hl => lv_i2l C.1.1 C.1.2.1 dg rfl (K p e s m below meth c C H locs ls hP hD hS hl)
theorem V_l2i {x : Int64} (dg : decode cc pc = .ok (.l2i, 1)) (K : VV l G y cc nL ret d mc ms av w0 post ce sl ws (pc + 1) lv (.int x.toInt32 :: st)) : VV l G y cc nL ret d mc ms av w0 post ce sl ws pc lv (.long x :: st) := fun p e s m below meth c C H locs ls hP hD hS hl => lv_l2i C.1.1 C.1.2.1 dg rfl (K p e s m below meth c C H locs ls hP hD hS hl)
theorem V_iushr {x z : Int32} (dg : decode cc pc = .ok (.iushr, 1)) (K : VV l G y cc nL ret d mc ms av w0 post ce sl ws (pc + 1) lv (.int (x.toUInt32 >>> (z.toUInt32 &&& Int32.toUInt32 31)).toInt32 :: st)) : VV l G y cc nL ret d mc ms av w0 post ce sl ws pc lv (.int z :: .int x :: st) := fun p e s m below meth c C H locs ls hP hD hS hl => lv_iushr C.1.1 C.1.2.1 dg rfl (K p e s m below meth c C H locs ls hP hD hS hl)
theorem V_lushr {x : Int64} {z : Int32} (dg : decode cc pc = .ok (.lushr, 1)) (K : VV l G y cc nL ret d mc ms av w0 post ce sl ws (pc + 1) lv (.long (x.toUInt64 >>> (z.toInt64.toUInt64 &&& Int64.toUInt64 63)).toInt64 :: st)) : VV l G y cc nL ret d mc ms av w0 post ce sl ws pc lv (.int z :: .long x :: st) := fun p e s m below meth c C H locs ls hP hD hS hl => lv_lushr C.1.1 C.1.2.1 dg rfl (K p e s m below meth c C H locs ls hP hD hS hl)
theorem V_lshl {x : Int64} {z : Int32} (dg : decode cc pc = .ok (.lshl, 1)) (K : VV l G y cc nL ret d mc ms av w0 post ce sl ws (pc + 1) lv (.long (x <<< (z.toInt64 &&& 63)) :: st)) : VV l G y cc nL ret d mc ms av w0 post ce sl ws pc lv (.int z :: .long x :: st) := fun p e s m below meth c C H locs ls hP hD hS hl => lv_lshl C.1.1 C.1.2.1 dg rfl (K p e s m below meth c C H locs ls hP hD hS hl)
theorem V_lcmp {x z : Int64} (dg : decode cc pc = .ok (.lcmp, 1)) (K : VV l G y cc nL ret d mc ms av w0 post ce sl ws (pc + 1) lv (.int (lg_cmp x z) :: st)) : VV l G y cc nL ret d mc ms av w0 post ce sl ws pc lv (.long z :: .long x :: st) := fun p e s m below meth c C H locs ls hP hD hS hl => W.lcmp C.1.1 C.1.2.1 dg (K p e s m below meth c C H locs ls hP hD hS hl)
theorem V_iconst {n : Int} (v : Int32) (dg : decode cc pc = .ok (.iconst n, 1)) (hv : Int32.ofInt n = v) (K : VV l G y cc nL ret d mc ms av w0 post ce sl ws (pc + 1) lv (.int v :: st)) : VV l G y cc nL ret d mc ms av w0 post ce sl ws pc lv st := fun p e s m below meth c C H locs ls hP hD hS hl => lv_iconst C.1.1 C.1.2.1 dg hv (K p e s m below meth c C H locs ls hP hD hS hl)
theorem V_bipush {n : Int} (v : Int32) (dg : decode cc pc = .ok (.bipush n, 2)) (hv : (Int8.ofInt n).toInt32 = v) (K : VV l G y cc nL ret d mc ms av w0 post ce sl ws (pc + 2) lv (.int v :: st)) : VV l G y cc nL ret d mc ms av w0 post ce sl ws pc lv st := fun p e s m below meth c C H locs ls hP hD hS hl => lv_bipush C.1.1 C.1.2.1 dg hv (K p e s m below meth c C H locs ls hP hD hS hl)
theorem V_sipush {n : Int} (v : Int32) (dg : decode cc pc = .ok (.sipush n, 3)) (hv : (Int16.ofInt n).toInt32 = v) (K : VV l G y cc nL ret d mc ms av w0 post ce sl ws (pc + 3) lv (.int v :: st)) : VV l G y cc nL ret d mc ms av w0 post ce sl ws pc lv st := fun p e s m below meth c C H locs ls hP hD hS hl => lv_sipush C.1.1 C.1.2.1 dg hv (K p e s m below meth c C H locs ls hP hD hS hl)
theorem V_lconst {n : Fin 2} (v : Int64) (dg : decode cc pc = .ok (.lconst n, 1)) (hv : Int64.ofNat (n : Nat) = v) (K : VV l G y cc nL ret d mc ms av w0 post ce sl ws (pc + 1) lv (.long v :: st)) : VV l G y cc nL ret d mc ms av w0 post ce sl ws pc lv st := fun p e s m below meth c C H locs ls hP hD hS hl => lv_lconst C.1.1 C.1.2.1 dg hv (K p e s m below meth c C H locs ls hP hD hS hl)
theorem V_ldc {idx : Nat} (v : Int32) (hc : Cond.constant y.cls idx v ∈ tblG) (dg : decode cc pc = .ok (.ldc idx, 2)) (K : VV l G y cc nL ret d mc ms av w0 post ce sl ws (pc + 2) lv (.int v :: st)) : VV l G y cc nL ret d mc ms av w0 post ce sl ws pc lv st := fun p e s m below meth c C H locs ls hP hD hS hl => lv_ldc C.1.1 C.1.2.1 C.1.2.2.2.1 (C.1.2.2.2.2 _ hc) dg (K p e s m below meth c C H locs ls hP hD hS hl)
theorem V_ldcw {idx : Nat} (v : Int32) (hc : Cond.constant y.cls idx v ∈ tblG) (dg : decode cc pc = .ok (.ldc_w idx, 3)) (K : VV l G y cc nL ret d mc ms av w0 post ce sl ws (pc + 3) lv (.int v :: st)) : VV l G y cc nL ret d mc ms av w0 post ce sl ws pc lv st := fun p e s m below meth c C H locs ls hP hD hS hl => lv_ldcw C.1.1 C.1.2.1 C.1.2.2.2.1 (C.1.2.2.2.2 _ hc) dg (K p e s m below meth c C H locs ls hP hD hS hl)
theorem V_ldc2 {idx : Nat} (v : Int64) (hc : Cond.constantLong y.cls idx v ∈ tblG) (dg : decode cc pc = .ok (.ldc2_w idx, 3)) (K : VV l G y cc nL ret d mc ms av w0 post ce sl ws (pc + 3) lv (.long v :: st)) : VV l G y cc nL ret d mc ms av w0 post ce sl ws pc lv st := fun p e s m below meth c C H locs ls hP hD hS hl => lv_ldc2 C.1.1 C.1.2.1 C.1.2.2.2.1 (C.1.2.2.2.2 _ hc) dg (K p e s m below meth c C H locs ls hP hD hS hl)
theorem V_iload {i : Nat} {x : Int32} (k : Nat) (h : lv[k]? = some (i, .int x)) (dg : decode cc pc = .ok (.iload i, 2)) (K : VV l G y cc nL ret d mc ms av w0 post ce sl ws (pc + 2) lv (.int x :: st)) : VV l G y cc nL ret d mc ms av w0 post ce sl ws pc lv st := fun p e s m below meth c C H locs ls hP hD hS hl => lv_iload C.1.1 C.1.2.1 dg (lv_at hl k h) (K p e s m below meth c C H locs ls hP hD hS hl)
theorem V_iload_n {j : Fin 4} {i : Nat} {x : Int32} (k : Nat) (h : lv[k]? = some (i, .int x)) (dg : decode cc pc = .ok (.iload_n j, 1)) (hi : (j : Nat) = i) (K : VV l G y cc nL ret d mc ms av w0 post ce sl ws (pc + 1) lv (.int x :: st)) : VV l G y cc nL ret d mc ms av w0 post ce sl ws pc lv st := fun p e s m below meth c C H locs ls hP hD hS hl => lv_iload_n C.1.1 C.1.2.1 dg hi (lv_at hl k h) (K p e s m below meth c C H locs ls hP hD hS hl)
theorem V_istore {i : Nat} {x : Int32} (lv1 : List (Nat × Value)) (ks : List Nat) (dg : decode cc pc = .ok (.istore i, 2)) (hn : i < nL) (h1 : lv_pick ((i, Value.int x) :: lv.filter (fun q => !(q.1 == i) && !(q.1 + 1 == i && q.2.category == 2))) ks = lv1) (K : VV l G y cc nL ret d mc ms av w0 post ce sl ws (pc + 2) lv1 st) : VV l G y cc nL ret d mc ms av w0 post ce sl ws pc lv (.int x :: st) := fun p e s m below meth c C H locs ls hP hD hS hl => lv_istore C.1.1 C.1.2.1 dg hl hn rfl (fun ls1 hl1 => K p e s m below meth c C H locs ls1 hP hD hS (lv_sub hl1 ks h1))
theorem V_istore_n {j : Fin 4} {i : Nat} {x : Int32} (lv1 : List (Nat × Value)) (ks : List Nat) (dg : decode cc pc = .ok (.istore_n j, 1)) (hi : (j : Nat) = i) (hn : i < nL) (h1 : lv_pick ((i, Value.int x) :: lv.filter (fun q => !(q.1 == i) && !(q.1 + 1 == i && q.2.category == 2))) ks = lv1) (K : VV l G y cc nL ret d mc ms av w0 post ce sl ws (pc + 1) lv1 st) : VV l G y cc nL ret d mc ms av w0 post ce sl ws pc lv (.int x :: st) := fun p e s m below meth c C H locs ls hP hD hS hl => lv_istore_n C.1.1 C.1.2.1 dg hi hl hn rfl (fun ls1 hl1 => K p e s m below meth c C H locs ls1 hP hD hS (lv_sub hl1 ks h1))
theorem V_lload {i : Nat} {x : Int64} (k : Nat) (h : lv[k]? = some (i, .long x)) (dg : decode cc pc = .ok (.lload i, 2)) (K : VV l G y cc nL ret d mc ms av w0 post ce sl ws (pc + 2) lv (.long x :: st)) : VV l G y cc nL ret d mc ms av w0 post ce sl ws pc lv st := fun p e s m below meth c C H locs ls hP hD hS hl => lv_lload C.1.1 C.1.2.1 dg (lv_at hl k h) (K p e s m below meth c C H locs ls hP hD hS hl)
theorem V_lload_n {j : Fin 4} {i : Nat} {x : Int64} (k : Nat) (h : lv[k]? = some (i, .long x)) (dg : decode cc pc = .ok (.lload_n j, 1)) (hi : (j : Nat) = i) (K : VV l G y cc nL ret d mc ms av w0 post ce sl ws (pc + 1) lv (.long x :: st)) : VV l G y cc nL ret d mc ms av w0 post ce sl ws pc lv st := fun p e s m below meth c C H locs ls hP hD hS hl => lv_lload_n C.1.1 C.1.2.1 dg hi (lv_at hl k h) (K p e s m below meth c C H locs ls hP hD hS hl)
theorem V_lstore {i : Nat} {x : Int64} (lv1 : List (Nat × Value)) (ks : List Nat) (dg : decode cc pc = .ok (.lstore i, 2)) (hn : i + 1 < nL) (h1 : lv_pick ((i, Value.long x) :: lv.filter (fun q => !(q.1 == i) && (!(q.1 == i + 1) && !(q.1 + 1 == i && q.2.category == 2)))) ks = lv1) (K : VV l G y cc nL ret d mc ms av w0 post ce sl ws (pc + 2) lv1 st) : VV l G y cc nL ret d mc ms av w0 post ce sl ws pc lv (.long x :: st) := fun p e s m below meth c C H locs ls hP hD hS hl => lv_lstore C.1.1 C.1.2.1 dg hl hn rfl (fun ls1 hl1 => K p e s m below meth c C H locs ls1 hP hD hS (lv_sub hl1 ks h1))
theorem V_lstore_n {j : Fin 4} {i : Nat} {x : Int64} (lv1 : List (Nat × Value)) (ks : List Nat) (dg : decode cc pc = .ok (.lstore_n j, 1)) (hi : (j : Nat) = i) (hn : i + 1 < nL) (h1 : lv_pick ((i, Value.long x) :: lv.filter (fun q => !(q.1 == i) && (!(q.1 == i + 1) && !(q.1 + 1 == i && q.2.category == 2)))) ks = lv1) (K : VV l G y cc nL ret d mc ms av w0 post ce sl ws (pc + 1) lv1 st) : VV l G y cc nL ret d mc ms av w0 post ce sl ws pc lv (.long x :: st) := fun p e s m below meth c C H locs ls hP hD hS hl => lv_lstore_n C.1.1 C.1.2.1 dg hi hl hn rfl (fun ls1 hl1 => K p e s m below meth c C H locs ls1 hP hD hS (lv_sub hl1 ks h1))
theorem V_aload {i : Nat} {x : Nat} (k : Nat) (h : lv[k]? = some (i, .ref x)) (dg : decode cc pc = .ok (.aload i, 2)) (K : VV l G y cc nL ret d mc ms av w0 post ce sl ws (pc + 2) lv (.ref x :: st)) : VV l G y cc nL ret d mc ms av w0 post ce sl ws pc lv st := fun p e s m below meth c C H locs ls hP hD hS hl => lv_aload C.1.1 C.1.2.1 dg (lv_at hl k h) (K p e s m below meth c C H locs ls hP hD hS hl)
theorem V_aload_n {j : Fin 4} {i : Nat} {x : Nat} (k : Nat) (h : lv[k]? = some (i, .ref x)) (dg : decode cc pc = .ok (.aload_n j, 1)) (hi : (j : Nat) = i) (K : VV l G y cc nL ret d mc ms av w0 post ce sl ws (pc + 1) lv (.ref x :: st)) : VV l G y cc nL ret d mc ms av w0 post ce sl ws pc lv st := fun p e s m below meth c C H locs ls hP hD hS hl => lv_aload_n C.1.1 C.1.2.1 dg hi (lv_at hl k h) (K p e s m below meth c C H locs ls hP hD hS hl)
theorem V_astore {i : Nat} {x : Nat} (lv1 : List (Nat × Value)) (ks : List Nat) (dg : decode cc pc = .ok (.astore i, 2)) (hn : i < nL) (h1 : lv_pick ((i, Value.ref x) :: lv.filter (fun q => !(q.1 == i) && !(q.1 + 1 == i && q.2.category == 2))) ks = lv1) (K : VV l G y cc nL ret d mc ms av w0 post ce sl ws (pc + 2) lv1 st) : VV l G y cc nL ret d mc ms av w0 post ce sl ws pc lv (.ref x :: st) := fun p e s m below meth c C H locs ls hP hD hS hl => lv_astore C.1.1 C.1.2.1 dg hl hn rfl (fun ls1 hl1 => K p e s m below meth c C H locs ls1 hP hD hS (lv_sub hl1 ks h1))
theorem V_astore_n {j : Fin 4} {i : Nat} {x : Nat} (lv1 : List (Nat × Value)) (ks : List Nat) (dg : decode cc pc = .ok (.astore_n j, 1)) (hi : (j : Nat) = i) (hn : i < nL) (h1 : lv_pick ((i, Value.ref x) :: lv.filter (fun q => !(q.1 == i) && !(q.1 + 1 == i && q.2.category == 2))) ks = lv1) (K : VV l G y cc nL ret d mc ms av w0 post ce sl ws (pc + 1) lv1 st) : VV l G y cc nL ret d mc ms av w0 post ce sl ws pc lv (.ref x :: st) := fun p e s m below meth c C H locs ls hP hD hS hl => lv_astore_n C.1.1 C.1.2.1 dg hi hl hn rfl (fun ls1 hl1 => K p e s m below meth c C H locs ls1 hP hD hS (lv_sub hl1 ks h1))
theorem V_iinc {i : Nat} {n : Int} {x : Int32} (v : Int32) (k : Nat) (lv1 : List (Nat × Value)) (ks : List Nat) (dg : decode cc pc = .ok (.iinc i n, 3)) (hk : lv[k]? = some (i, .int x)) (hv : Int32.ofInt n = v) (hn : i < nL) (h1 : lv_pick ((i, Value.int (x + v)) :: lv.filter (fun q => !(q.1 == i) && !(q.1 + 1 == i && q.2.category == 2))) ks = lv1) (K : VV l G y cc nL ret d mc ms av w0 post ce sl ws (pc + 3) lv1 st) : VV l G y cc nL ret d mc ms av w0 post ce sl ws pc lv st := fun p e s m below meth c C H locs ls hP hD hS hl => lv_iinc C.1.1 C.1.2.1 dg hl hk (congrArg (fun w => x + w) hv) hn rfl (fun ls1 hl1 => K p e s m below meth c C H locs ls1 hP hD hS (lv_sub hl1 ks h1))
theorem V_dup {a : Value} (ha : a.category = 1) (dg : decode cc pc = .ok (.dup, 1)) (K : VV l G y cc nL ret d mc ms av w0 post ce sl ws (pc + 1) lv (a :: a :: st)) : VV l G y cc nL ret d mc ms av w0 post ce sl ws pc lv (a :: st) := fun p e s m below meth c C H locs ls hP hD hS hl => lv_dup C.1.1 C.1.2.1 dg ha (K p e s m below meth c C H locs ls hP hD hS hl)
theorem V_dup2 {a b : Value} (ha : a.category = 1) (hb : b.category = 1) (dg : decode cc pc = .ok (.dup2, 1)) (K : VV l G y cc nL ret d mc ms av w0 post ce sl ws (pc + 1) lv (a :: b :: a :: b :: st)) : VV l G y cc nL ret d mc ms av w0 post ce sl ws pc lv (a :: b :: st) := fun p e s m below meth c C H locs ls hP hD hS hl => lv_dup2_11 C.1.1 C.1.2.1 dg ha hb (K p e s m below meth c C H locs ls hP hD hS hl)
theorem V_pop2 {a : Value} (ha : a.category = 2) (dg : decode cc pc = .ok (.pop2, 1)) (K : VV l G y cc nL ret d mc ms av w0 post ce sl ws (pc + 1) lv st) : VV l G y cc nL ret d mc ms av w0 post ce sl ws pc lv (a :: st) := fun p e s m below meth c C H locs ls hP hD hS hl => lv_pop2_2 C.1.1 C.1.2.1 dg ha (K p e s m below meth c C H locs ls hP hD hS hl)
theorem V_goto {off : Int} (tgt : Nat) (dg : decode cc pc = .ok (.goto off, 3)) (ht : (pc : Int) + off = (tgt : Int)) (K : VV l G y cc nL ret d mc ms av w0 post ce sl ws tgt lv st) : VV l G y cc nL ret d mc ms av w0 post ce sl ws pc lv st := fun p e s m below meth c C H locs ls hP hD hS hl => lv_goto C.1.1 C.1.2.1 dg ht (K p e s m below meth c C H locs ls hP hD hS hl)
theorem V_if_eq {x : Int32} {off : Int} (tgt : Nat) (dg : decode cc pc = .ok (.ifCond .eq off, 3)) (ht : (pc : Int) + off = (tgt : Int)) (Kt : x = 0 → VV l G y cc nL ret d mc ms av w0 post ce sl ws tgt lv st) (Kf : ¬ x = 0 → VV l G y cc nL ret d mc ms av w0 post ce sl ws (pc + 3) lv st) : VV l G y cc nL ret d mc ms av w0 post ce sl ws pc lv (.int x :: st) := fun p e s m below meth c C H locs ls hP hD hS hl => lv_if_eq C.1.1 C.1.2.1 dg ht (fun h => Kt h p e s m below meth c C H locs ls hP hD hS hl) (fun h => Kf h p e s m below meth c C H locs ls hP hD hS hl)
theorem V_icmp_eq {x z : Int32} {off : Int} (tgt : Nat) (dg : decode cc pc = .ok (.if_icmp .eq off, 3)) (ht : (pc : Int) + off = (tgt : Int)) (Kt : x = z → VV l G y cc nL ret d mc ms av w0 post ce sl ws tgt lv st) (Kf : ¬ x = z → VV l G y cc nL ret d mc ms av w0 post ce sl ws (pc + 3) lv st) : VV l G y cc nL ret d mc ms av w0 post ce sl ws pc lv (.int z :: .int x :: st) := fun p e s m below meth c C H locs ls hP hD hS hl => lv_icmp_eq C.1.1 C.1.2.1 dg ht (fun h => Kt h p e s m below meth c C H locs ls hP hD hS hl) (fun h => Kf h p e s m below meth c C H locs ls hP hD hS hl)
theorem V_if_ne {x : Int32} {off : Int} (tgt : Nat) (dg : decode cc pc = .ok (.ifCond .ne off, 3)) (ht : (pc : Int) + off = (tgt : Int)) (Kt : ¬ x = 0 → VV l G y cc nL ret d mc ms av w0 post ce sl ws tgt lv st) (Kf : x = 0 → VV l G y cc nL ret d mc ms av w0 post ce sl ws (pc + 3) lv st) : VV l G y cc nL ret d mc ms av w0 post ce sl ws pc lv (.int x :: st) := fun p e s m below meth c C H locs ls hP hD hS hl => lv_if_ne C.1.1 C.1.2.1 dg ht (fun h => Kt h p e s m below meth c C H locs ls hP hD hS hl) (fun h => Kf h p e s m below meth c C H locs ls hP hD hS hl)
theorem V_icmp_ne {x z : Int32} {off : Int} (tgt : Nat) (dg : decode cc pc = .ok (.if_icmp .ne off, 3)) (ht : (pc : Int) + off = (tgt : Int)) (Kt : ¬ x = z → VV l G y cc nL ret d mc ms av w0 post ce sl ws tgt lv st) (Kf : x = z → VV l G y cc nL ret d mc ms av w0 post ce sl ws (pc + 3) lv st) : VV l G y cc nL ret d mc ms av w0 post ce sl ws pc lv (.int z :: .int x :: st) := fun p e s m below meth c C H locs ls hP hD hS hl => lv_icmp_ne C.1.1 C.1.2.1 dg ht (fun h => Kt h p e s m below meth c C H locs ls hP hD hS hl) (fun h => Kf h p e s m below meth c C H locs ls hP hD hS hl)
theorem V_if_lt {x : Int32} {off : Int} (tgt : Nat) (dg : decode cc pc = .ok (.ifCond .lt off, 3)) (ht : (pc : Int) + off = (tgt : Int)) (Kt : x < 0 → VV l G y cc nL ret d mc ms av w0 post ce sl ws tgt lv st) (Kf : ¬ x < 0 → VV l G y cc nL ret d mc ms av w0 post ce sl ws (pc + 3) lv st) : VV l G y cc nL ret d mc ms av w0 post ce sl ws pc lv (.int x :: st) := fun p e s m below meth c C H locs ls hP hD hS hl => lv_if_lt C.1.1 C.1.2.1 dg ht (fun h => Kt h p e s m below meth c C H locs ls hP hD hS hl) (fun h => Kf h p e s m below meth c C H locs ls hP hD hS hl)
theorem V_icmp_lt {x z : Int32} {off : Int} (tgt : Nat) (dg : decode cc pc = .ok (.if_icmp .lt off, 3)) (ht : (pc : Int) + off = (tgt : Int)) (Kt : x < z → VV l G y cc nL ret d mc ms av w0 post ce sl ws tgt lv st) (Kf : ¬ x < z → VV l G y cc nL ret d mc ms av w0 post ce sl ws (pc + 3) lv st) : VV l G y cc nL ret d mc ms av w0 post ce sl ws pc lv (.int z :: .int x :: st) := fun p e s m below meth c C H locs ls hP hD hS hl => lv_icmp_lt C.1.1 C.1.2.1 dg ht (fun h => Kt h p e s m below meth c C H locs ls hP hD hS hl) (fun h => Kf h p e s m below meth c C H locs ls hP hD hS hl)
theorem V_if_ge {x : Int32} {off : Int} (tgt : Nat) (dg : decode cc pc = .ok (.ifCond .ge off, 3)) (ht : (pc : Int) + off = (tgt : Int)) (Kt : 0 ≤ x → VV l G y cc nL ret d mc ms av w0 post ce sl ws tgt lv st) (Kf : ¬ 0 ≤ x → VV l G y cc nL ret d mc ms av w0 post ce sl ws (pc + 3) lv st) : VV l G y cc nL ret d mc ms av w0 post ce sl ws pc lv (.int x :: st) := fun p e s m below meth c C H locs ls hP hD hS hl => lv_if_ge C.1.1 C.1.2.1 dg ht (fun h => Kt h p e s m below meth c C H locs ls hP hD hS hl) (fun h => Kf h p e s m below meth c C H locs ls hP hD hS hl)
theorem V_icmp_ge {x z : Int32} {off : Int} (tgt : Nat) (dg : decode cc pc = .ok (.if_icmp .ge off, 3)) (ht : (pc : Int) + off = (tgt : Int)) (Kt : z ≤ x → VV l G y cc nL ret d mc ms av w0 post ce sl ws tgt lv st) (Kf : ¬ z ≤ x → VV l G y cc nL ret d mc ms av w0 post ce sl ws (pc + 3) lv st) : VV l G y cc nL ret d mc ms av w0 post ce sl ws pc lv (.int z :: .int x :: st) := fun p e s m below meth c C H locs ls hP hD hS hl => lv_icmp_ge C.1.1 C.1.2.1 dg ht (fun h => Kt h p e s m below meth c C H locs ls hP hD hS hl) (fun h => Kf h p e s m below meth c C H locs ls hP hD hS hl)
theorem V_if_gt {x : Int32} {off : Int} (tgt : Nat) (dg : decode cc pc = .ok (.ifCond .gt off, 3)) (ht : (pc : Int) + off = (tgt : Int)) (Kt : 0 < x → VV l G y cc nL ret d mc ms av w0 post ce sl ws tgt lv st) (Kf : ¬ 0 < x → VV l G y cc nL ret d mc ms av w0 post ce sl ws (pc + 3) lv st) : VV l G y cc nL ret d mc ms av w0 post ce sl ws pc lv (.int x :: st) := fun p e s m below meth c C H locs ls hP hD hS hl => lv_if_gt C.1.1 C.1.2.1 dg ht (fun h => Kt h p e s m below meth c C H locs ls hP hD hS hl) (fun h => Kf h p e s m below meth c C H locs ls hP hD hS hl)
theorem V_icmp_gt {x z : Int32} {off : Int} (tgt : Nat) (dg : decode cc pc = .ok (.if_icmp .gt off, 3)) (ht : (pc : Int) + off = (tgt : Int)) (Kt : z < x → VV l G y cc nL ret d mc ms av w0 post ce sl ws tgt lv st) (Kf : ¬ z < x → VV l G y cc nL ret d mc ms av w0 post ce sl ws (pc + 3) lv st) : VV l G y cc nL ret d mc ms av w0 post ce sl ws pc lv (.int z :: .int x :: st) := fun p e s m below meth c C H locs ls hP hD hS hl => lv_icmp_gt C.1.1 C.1.2.1 dg ht (fun h => Kt h p e s m below meth c C H locs ls hP hD hS hl) (fun h => Kf h p e s m below meth c C H locs ls hP hD hS hl)
theorem V_if_le {x : Int32} {off : Int} (tgt : Nat) (dg : decode cc pc = .ok (.ifCond .le off, 3)) (ht : (pc : Int) + off = (tgt : Int)) (Kt : x ≤ 0 → VV l G y cc nL ret d mc ms av w0 post ce sl ws tgt lv st) (Kf : ¬ x ≤ 0 → VV l G y cc nL ret d mc ms av w0 post ce sl ws (pc + 3) lv st) : VV l G y cc nL ret d mc ms av w0 post ce sl ws pc lv (.int x :: st) := fun p e s m below meth c C H locs ls hP hD hS hl => lv_if_le C.1.1 C.1.2.1 dg ht (fun h => Kt h p e s m below meth c C H locs ls hP hD hS hl) (fun h => Kf h p e s m below meth c C H locs ls hP hD hS hl)
theorem V_icmp_le {x z : Int32} {off : Int} (tgt : Nat) (dg : decode cc pc = .ok (.if_icmp .le off, 3)) (ht : (pc : Int) + off = (tgt : Int)) (Kt : x ≤ z → VV l G y cc nL ret d mc ms av w0 post ce sl ws tgt lv st) (Kf : ¬ x ≤ z → VV l G y cc nL ret d mc ms av w0 post ce sl ws (pc + 3) lv st) : VV l G y cc nL ret d mc ms av w0 post ce sl ws pc lv (.int z :: .int x :: st) := fun p e s m below meth c C H locs ls hP hD hS hl => lv_icmp_le C.1.1 C.1.2.1 dg ht (fun h => Kt h p e s m below meth c C H locs ls hP hD hS hl) (fun h => Kf h p e s m below meth c C H locs ls hP hD hS hl)
theorem V_tabIn {x : Int32} {dflt lo hi : Int} {offs : Array Int} {len : Nat} {off : Int} (tgt : Nat) (dg : decode cc pc = .ok (.tableswitch dflt lo hi offs, len)) (h1 : ¬ x.toInt < lo) (h2 : ¬ hi < x.toInt) (ho : offs[(x.toInt - lo).toNat]? = some off) (ht : (pc : Int) + off = (tgt : Int)) (K : VV l G y cc nL ret d mc ms av w0 post ce sl ws tgt lv st) : VV l G y cc nL ret d mc ms av w0 post ce sl ws pc lv (.int x :: st) := fun p e s m below meth c C H locs ls hP hD hS hl => lv_tableIn C.1.1 C.1.2.1 dg h1 h2 ho ht (K p e s m below meth c C H locs ls hP hD hS hl)
theorem V_tabOut {x : Int32} {dflt lo hi : Int} {offs : Array Int} {len : Nat} (tgt : Nat) (dg : decode cc pc = .ok (.tableswitch dflt lo hi offs, len)) (h : x.toInt < lo ∨ hi < x.toInt) (ht : (pc : Int) + dflt = (tgt : Int)) (K : VV l G y cc nL ret d mc ms av w0 post ce sl ws tgt lv st) : VV l G y cc nL ret d mc ms av w0 post ce sl ws pc lv (.int x :: st) := fun p e s m below meth c C H locs ls hP hD hS hl => lv_tableOut C.1.1 C.1.2.1 dg h ht (K p e s m below meth c C H locs ls hP hD hS hl)
theorem V_look {x : Int32} {dflt : Int} {ps : Array (Int × Int)} {len : Nat} {off : Int} (tgt : Nat) (dg : decode cc pc = .ok (.lookupswitch dflt ps, len)) (hp : (ps.toList.zip (ps.toList.drop 1)).all (fun (a, next) => a.1 < next.1) = true) (ho : Op.lookupswitch.offset ps.toList dflt x.toInt = off) (ht : (pc : Int) + off = (tgt : Int)) (K : VV l G y cc nL ret d mc ms av w0 post ce sl ws tgt lv st) : VV l G y cc nL ret d mc ms av w0 post ce sl ws pc lv (.int x :: st) := fun p e s m below meth c C H locs ls hP hD hS hl => lv_lookup C.1.1 C.1.2.1 dg hp ho ht (K p e s m below meth c C H locs ls hP hD hS hl)
/-- the rows of a class: its place among the classes, its words -/
def RC (ci : Nat) (C : String) (T : u_T) (N : Nat) (ty : Nat → FieldType) : Prop := vwCl[ci]? = some (C, T, N) ∧ (∀ w ∈ u_ws C T N, w ∈ tblG) ∧ (∀ k, k < N → parseFieldDescriptor (T k).2.2.1 = some (ty k)) ∧ ∀ a, a < N → ∀ b, b < N → a ≠ b → (T a).2.1 ≠ (T b).2.1
theorem V_get {ci : Nat} {C1 : String} {T : u_T} {N : Nat} {ty : Nat → FieldType} {idx a k : Nat} {fs : List Value} {v : Value} (hc : RC ci C1 T N ty) (hlk : Cond.fieldLink y.cls idx C1 (T k).2.1 (T k).2.2.1 ∈ tblG) (hT : (T k).1 = C1) (hk : k < N) (dg : decode cc pc = .ok (.getfield idx, 3)) (q : Nat) (he : ws[q]? = some (a, .inr (ci, fs))) (hv : fs[k]? = some v) (K : VV l G y cc nL ret d mc ms av w0 post ce sl ws (pc + 3) lv (v :: st)) : VV l G y cc nL ret d mc ms av w0 post ce sl ws pc lv (.ref a :: st) :=
  fun p e s m below meth c C H locs ls hP hD hS hl => va_get (D := G.1) C.1.1 C.1.2.1 C.1.2.2.2.2 hc.2.1 C.1.2.2.2.1 C.2.1.1 hP q he hc.1 k hk (C.1.2.2.2.2 _ hlk) (fun x hx => by rw [hT] at hx; exact hx) hv dg (K p e s m below meth c C H locs ls hP hD hS hl)
theorem V_getN {ci : Nat} {C1 host : String} {T : u_T} {N : Nat} {ty : Nat → FieldType} {idx a k : Nat} {fs : List Value} {v : Value} (hc : RC ci C1 T N ty) (hlk : Cond.fieldLinkNest y.cls idx C1 (T k).2.1 (T k).2.2.1 host ∈ nestL) (hT : (T k).1 = C1) (hk : k < N) (dg : decode cc pc = .ok (.getfield idx, 3)) (q : Nat) (he : ws[q]? = some (a, .inr (ci, fs))) (hv : fs[k]? = some v) (K : VV l G y cc nL ret d mc ms av w0 post ce sl ws (pc + 3) lv (v :: st)) : VV l G y cc nL ret d mc ms av w0 post ce sl ws pc lv (.ref a :: st) :=
  fun p e s m below meth c C H locs ls hP hD hS hl => va_getN (D := G.1) C.1.1 C.1.2.1 C.1.2.2.2.2 hc.2.1 C.1.2.2.2.1 C.2.1.1 hP q he hc.1 k hk (va_Nw.use rfl (C.2.1.2 _ hlk)) (fun x hx => by rw [hT] at hx; exact hx) hv dg (K p e s m below meth c C H locs ls hP hD hS hl)
theorem V_put {ci : Nat} {C1 : String} {T : u_T} {N : Nat} {ty : Nat → FieldType} {idx a k : Nat} {fs : List Value} {v : Value} (hc : RC ci C1 T N ty) (hlk : Cond.fieldLink y.cls idx C1 (T k).2.1 (T k).2.2.1 ∈ tblG) (hT : (T k).1 = C1) (hk : k < N) (hfin : (T k).2.2.2 = false) (dg : decode cc pc = .ok (.putfield idx, 3)) (q : Nat) (he : ws[q]? = some (a, .inr (ci, fs))) (hl0 : k < fs.length) (hn : narrow (ty k) v = v) (hfit : fits (ty k) v = true) (ws1 : va_W) (h1 : ws.set q (a, .inr (ci, fs.set k v)) = ws1) (K : VV l G y cc nL ret d mc ms av w0 post ce sl ws1 (pc + 3) lv st) : VV l G y cc nL ret d mc ms av w0 post ce sl ws pc lv (v :: .ref a :: st) :=
  fun p e s m below meth c C H locs ls hP hD hS hl => va_put (D := G.1) C.1.1 C.1.2.1 C.1.2.2.2.2 hc.2.1 ty hc.2.2.1 hc.2.2.2 C.1.2.2.2.1 C.2.1.1 hP hD hS q he hc.1 k hk (C.1.2.2.2.2 _ hlk) (fun x hx => by rw [hT] at hx; exact hx) hfin (hc.2.2.1 k hk) hn hfit hl0 dg (fun H1 locs1 hP1 hD1 hS1 => K p e s m below meth c C H1 locs1 ls (h1 ▸ hP1) (h1 ▸ hD1) hS1 hl)
theorem V_putF {ci : Nat} {C1 : String} {T : u_T} {N : Nat} {ty : Nat → FieldType} {idx a k : Nat} {fs : List Value} {v : Value} (hc : RC ci C1 T N ty) (hlk : Cond.fieldLink y.cls idx C1 (T k).2.1 (T k).2.2.1 ∈ tblG) (hT : (T k).1 = C1) (hk : k < N) (hfin : (T k).2.2.2 = true) (hcl : y.cls = C1) (hin : y.name = "<init>") (dg : decode cc pc = .ok (.putfield idx, 3)) (q : Nat) (he : ws[q]? = some (a, .inr (ci, fs))) (hl0 : k < fs.length) (hn : narrow (ty k) v = v) (hfit : fits (ty k) v = true) (ws1 : va_W) (h1 : ws.set q (a, .inr (ci, fs.set k v)) = ws1) (K : VV l G y cc nL ret d mc ms av w0 post ce sl ws1 (pc + 3) lv st) : VV l G y cc nL ret d mc ms av w0 post ce sl ws pc lv (v :: .ref a :: st) :=
  fun p e s m below meth c C H locs ls hP hD hS hl => va_putF (D := G.1) C.1.1 C.1.2.1 C.1.2.2.2.2 hc.2.1 ty hc.2.2.1 hc.2.2.2 (hcl ▸ C.1.2.2.2.1) C.2.1.1 hP hD hS q he hc.1 k hk (C.1.2.2.2.2 _ (hcl ▸ hlk)) (fun x hx => by rw [hT] at hx; exact hx) hfin (C.2.2.2.2.trans hin) (hT.trans rfl) (hc.2.2.1 k hk) hn hfit hl0 dg (fun H1 locs1 hP1 hD1 hS1 => K p e s m below meth c C H1 locs1 ls (h1 ▸ hP1) (h1 ▸ hD1) hS1 hl)
theorem V_iaload {a n : Nat} {f : Nat → Int32} {i : Int32} (dg : decode cc pc = .ok (.iaload, 1)) (q : Nat) (he : ws[q]? = some (a, .inl (G.2.1, n, .inl f))) (hi : vp_in i n) (K : VV l G y cc nL ret d mc ms av w0 post ce sl ws (pc + 1) lv (.int (f i.toNatClampNeg) :: st)) : VV l G y cc nL ret d mc ms av w0 post ce sl ws pc lv (.int i :: .ref a :: st) :=
  fun p e s m below meth c C H locs ls hP hD hS hl => va_iald (D := G.1) C.1.1 C.1.2.1 C.2.1.1 hP q 0 he rfl hi dg (K p e s m below meth c C H locs ls hP hD hS hl)
theorem V_iastore {a n : Nat} {f : Nat → Int32} {i x : Int32} (dg : decode cc pc = .ok (.iastore, 1)) (q : Nat) (he : ws[q]? = some (a, .inl (G.2.1, n, .inl f))) (hi : vp_in i n) (ws1 : va_W) (h1 : ws.set q (a, .inl (G.2.1, n, .inl (upd f i.toNatClampNeg x))) = ws1) (K : VV l G y cc nL ret d mc ms av w0 post ce sl ws1 (pc + 1) lv st) : VV l G y cc nL ret d mc ms av w0 post ce sl ws pc lv (.int x :: .int i :: .ref a :: st) :=
  fun p e s m below meth c C H locs ls hP hD hS hl => va_iast (D := G.1) C.1.1 C.1.2.1 C.2.1.1 hP hD hS q 0 he rfl hi dg (fun H1 locs1 hP1 hD1 hS1 => K p e s m below meth c C H1 locs1 ls (h1 ▸ hP1) (h1 ▸ hD1) hS1 hl)
theorem V_lastore {a n : Nat} {f : Nat → Int64} {i : Int32} {x : Int64} (dg : decode cc pc = .ok (.lastore, 1)) (q : Nat) (he : ws[q]? = some (a, .inl (G.2.2.2, n, .inr (.inl f)))) (hi : vp_in i n) (ws1 : va_W) (h1 : ws.set q (a, .inl (G.2.2.2, n, .inr (.inl (vp_updL f i.toNatClampNeg x)))) = ws1) (K : VV l G y cc nL ret d mc ms av w0 post ce sl ws1 (pc + 1) lv st) : VV l G y cc nL ret d mc ms av w0 post ce sl ws pc lv (.long x :: .int i :: .ref a :: st) :=
  fun p e s m below meth c C H locs ls hP hD hS hl => va_last (D := G.1) C.1.1 C.1.2.1 C.2.1.1 hP hD hS q 2 he rfl hi dg (fun H1 locs1 hP1 hD1 hS1 => K p e s m below meth c C H1 locs1 ls (h1 ▸ hP1) (h1 ▸ hD1) hS1 hl)

theorem V_iret {x : Int32} (hr : ret = some .int) (dg : decode cc pc = .ok (.ireturn, 1)) (hp : post (some (.int x)) ws) : VV l G y cc nL ret d mc ms av w0 post mc ms ws pc lv [.int x] := fun p e s m below meth c C H locs ls hP hD hS hl => W.iret (v := x) C.1.1 C.1.2.1 (C.2.2.2.1.trans hr) (fun t ht hW => ⟨⟨_, ws, rfl, hp, by rw [ht]; exact hP, va_K.moved hW.alike C.2.1.1, hD⟩, hS.F ht⟩) hS.2.2 dg C.2.2.1
theorem V_lret {x : Int64} (hr : ret = some .long) (dg : decode cc pc = .ok (.lreturn, 1)) (hp : post (some (.long x)) ws) : VV l G y cc nL ret d mc ms av w0 post mc ms ws pc lv [.long x] := fun p e s m below meth c C H locs ls hP hD hS hl => W.lret (v := x) C.1.1 C.1.2.1 (C.2.2.2.1.trans hr) (fun t ht hW => ⟨⟨_, ws, rfl, hp, by rw [ht]; exact hP, va_K.moved hW.alike C.2.1.1, hD⟩, hS.F ht⟩) hS.2.2 dg C.2.2.1
theorem V_zret {x : Int32} {ty : FieldType} (hr : ret = some ty) (hx : narrow ty (.int x) = .int x) (dg : decode cc pc = .ok (.ireturn, 1)) (hp : post (some (.int x)) ws) : VV l G y cc nL ret d mc ms av w0 post mc ms ws pc lv [.int x] := fun p e s m below meth c C H locs ls hP hD hS hl => W.zret (v := x) C.1.1 C.1.2.1 (C.2.2.2.1.trans hr) hx (fun t ht hW => ⟨⟨_, ws, rfl, hp, by rw [ht]; exact hP, va_K.moved hW.alike C.2.1.1, hD⟩, hS.F ht⟩) hS.2.2 dg C.2.2.1
theorem V_vret (hr : ret = none) (dg : decode cc pc = .ok (.return_, 1)) (hp : post none ws) : VV l G y cc nL ret d mc ms av w0 post mc ms ws pc lv [] := fun p e s m below meth c C H locs ls hP hD hS hl => W.vret C.1.1 C.1.2.1 (C.2.2.2.1.trans hr) (fun t ht hW => ⟨⟨_, ws, rfl, hp, by rw [ht]; exact hP, va_K.moved hW.alike C.2.1.1, hD⟩, hS.F ht⟩) hS.2.2 dg C.2.2.1
theorem V_widen {ce1 sl1 : Nat} (h1 : ce ≤ ce1) (h2 : sl ≤ sl1) (K : VV l G y cc nL ret d mc ms av w0 post ce1 sl1 ws pc lv st) : VV l G y cc nL ret d mc ms av w0 post ce sl ws pc lv st := fun p e s m below meth c C H locs ls hP hD hS hl => W.widen h1 h2 (K p e s m below meth c C H locs ls hP hD hS hl)
end VR
theorem va_callK {p : Program} {l : Launch} {e : Env} {R : Room} {s : State} {m : MethodId} {args : Array Value} {below : List Frame} {meth : Method} {c : Code} {H : Heap} {locs : List Loc} {ce sl mc2 ms2 : Nat} {Q : State → Prop} {G : Gv} {wc : va_W} {post : Option Value → va_W → Prop} {a : Array Value} {pc : Nat} {ls : Array Slot} {st0 rest : List Value} {A0 : Nat → Prop} {H0 : Heap}
    (hr : va_Run p l e R s m args below meth c H locs ce sl mc2 ms2 (F0 m pc ls st0) rest (KQ G wc H.size post a) (va_A wc H.size)) (hS : va_S A0 H0 H locs) (hA : ∀ q, va_A wc H.size q → A0 q)
    (kk : ∀ (ro : Option Value) (w1 : va_W) (H1 : Heap) (locs1 : List Loc), post ro w1 → va_P G.1 vwCl w1 H1 → va_D (va_A wc H.size) w1 → (∀ q : Nat, q < H.size → ¬ va_A wc H.size q → H1[q]? = H[q]?) → va_S A0 H0 H1 locs1 → W p l e R s m args below meth c H1 locs1 (ce + mc2) (sl + ms2) Q (F0 m (pc + 3) ls (ro.toList ++ rest))) : W p l e R s m args below meth c H locs ce sl Q (F0 m pc ls st0) := by
  intro T hT X
  obtain ⟨v, st₀, t, T', L, h0, X', hL, e1, e2, ⟨⟨ro, w1, hv, hp, hP1, hK1, hD1⟩, hz, hk⟩, st⟩ := hr T hT X
  cases hv
  rw [h0] at hz hk
  obtain ⟨t2, a1, b1⟩ := kk v w1 T'.heap (locs ++ L) hp (by rw [e1]; exact hP1) hD1 (fun q h1 h2 => by rw [e1]; exact hk q h1 h2)
    ⟨Nat.le_trans hS.1 (by rw [e1]; exact hz), fun q h1 h2 => by rw [e1, hk q (Nat.lt_of_lt_of_le h1 hS.1) (fun z => h2 (hA q z))]; exact hS.2.1 q h1 h2, fun q hq => by
      rcases List.mem_append.mp hq with h | h
      · exact hS.2.2 q h
      · exact hA _ (hL q h)⟩ T' rfl X'
  exact ⟨t2, st t2 a1, b1⟩
/-- what the tables say of a callee -/
def LB (y2 : MethodName) (cc2 : ByteArray) (nL2 : Nat) (ret2 : Option FieldType) (n : Nat) : Prop := Cond.code y2 cc2 nL2 ret2 ∈ tblG ∧ Cond.initialized y2.cls ∈ tblG ∧ nL2 ≤ 41 ∧ (y2.cls ≠ "java/lang/invoke/MethodHandle" ∧ y2.cls ≠ "java/lang/invoke/VarHandle" ∧ (parseMethodDescriptor y2.desc).map (fun d => d.parameters.length) = some n)
theorem LB.ws {y2 : MethodName} {cc2 : ByteArray} {nL2 : Nat} {ret2 : Option FieldType} {n : Nat} (h : LB y2 cc2 nL2 ret2 n) : GoodIn tblG (Cond.code y2 cc2 nL2 ret2 :: tblG) := goodT fun w hw => by
  rcases List.mem_cons.mp hw with rfl | h1
  · exact h.1
  · exact h1
theorem callB_G {R : Room} {s : State} {args : Array Value} {own : String} {idx : Nat} {y2 : MethodName} {cc2 : ByteArray} {nL2 : Nat} {ret2 : Option FieldType} {n d2 mc2 ms2 : Nat} (hts : ∀ w ∈ tblG, w.before args s = true) (h : LB y2 cc2 nL2 ret2 n) (hl : Cond.methodLink own idx y2 ∈ tblG) (hR : d2 + 1 ≤ R.frames) (hR2 : 60 * d2 + 60 ≤ R.locals) : CallB R s args own idx y2 cc2 nL2 ret2 (Cond.code y2 cc2 nL2 ret2 :: tblG) (rmG d2 mc2 ms2) mc2 ms2 n :=
  callB_of n hts h.ws rfl rfl rfl (hts _ h.2.1) (hts _ hl) h.2.2.2 ⟨hR, by have := h.2.2.1; show 8 + (nL2 + 11) + 60 * d2 ≤ R.locals; omega⟩
def va_perm (ws : va_W) (is : List Nat) (w1 : va_W) : Prop := is.map (fun i => ws[i]?) = w1.map some
section VC
variable {l : Launch} {G : Gv} {y : MethodName} {cc : ByteArray} {nL : Nat} {ret : Option FieldType} {d mc ms : Nat} {av : List Value} {w0 : va_W} {post : Option Value → va_W → Prop} {ce sl : Nat} {ws : va_W} {pc : Nat} {lv : List (Nat × Value)} {st : List Value}
variable {y2 : MethodName} {cc2 : ByteArray} {nL2 : Nat} {ret2 : Option FieldType} {n d2 mc2 ms2 idx : Nat} {post2 : Option Value → va_W → Prop} {wc wr : va_W}

theorem va_sub_eq {ws wc : va_W} {is : List Nat} (h : va_perm ws is wc) : is.filterMap (fun i => ws[i]?) = wc := by
  have h1 : (is.map (fun i => ws[i]?)).filterMap id = (wc.map some).filterMap id := by rw [h]
  rw [List.filterMap_map, List.filterMap_map] at h1
  simpa [Function.comp_def] using h1
theorem V_callV {a ci : Nat} {As rest : List Value} {qc : vw_C} {fs : List Value} (hK : K l G y2 cc2 nL2 ret2 d2 mc2 ms2 (.ref a :: As) wc post2) (hB : LB y2 cc2 nL2 ret2 n) (hlk : Cond.methodLink y.cls idx y2 ∈ tblG ∧ Cond.instanceMethod y2 ∈ tblG ∧ Cond.selects y2.cls y2 y2 ∈ tblG) (hd : d2 + 1 ≤ d) (dg : decode cc pc = .ok (.invokevirtual idx, 3)) (hst : st = As.reverse ++ .ref a :: rest) (hn : As.length = n) (hrest : (rest.map fun v => v.category).sum ≤ 8) (hcs : ce + mc2 ≤ mc ∧ sl + ms2 ≤ ms) (q : Nat) (hq : wc[q]? = some (a, .inr (ci, fs))) (hqc : vwCl[ci]? = some qc ∧ qc.1 = y2.cls)
    (isC isR : List Nat) (hC : va_perm ws isC wc) (hRr : va_perm ws isR wr) (hndC : va_nd isC = true) (hnd : va_nd isR = true) (hdis : ∀ i ∈ isR, i ∉ isC)
    (k : ∀ (ro : Option Value) (w1 : va_W), post2 ro w1 → VV l G y cc nL ret d mc ms av w0 post (ce + mc2) (sl + ms2) (wr ++ w1) (pc + 3) lv (ro.toList ++ rest)) : VV l G y cc nL ret d mc ms av w0 post ce sl ws pc lv st := by
  intro p e s m below meth c C H locs ls hP hD hS hl
  subst hst
  have hPc := hP.sub (ws' := wc) isC (va_sub_eq hC)
  have hFc := va_free (wc := wc) hD hS (fun q h => Or.inr h) isC hC
  have hDc : va_D (fun _ => True) wc := (hD.sub isC hndC hC).weaken (fun _ _ _ _ => trivial)
  have hR2 : 60 * d2 + 60 ≤ (rmG d mc ms).locals := by show 60 * d2 + 60 ≤ 60 * d; omega
  refine va_callK (va_runV (As := As) (rest := rest) C.1 (hK H.size) ⟨callB_G C.1.2.2.2.2 hB hlk.1 hd hR2, C.1.2.2.2.2 _ hlk.2.1, C.1.2.2.2.2 _ hlk.2.2⟩ ⟨KB_blind, hqc.2 ▸ va_recv C.2.1.1 hPc hqc.1 hq, fun U hU hW => ⟨rfl, by rw [hU], by rw [hU]; exact hPc, va_K.moved hW.alike C.2.1.1, hDc, NN_warm hW C.2.1.2⟩⟩ rfl hn (hl.1) rfl (lv_room hrest) dg hcs) hS hFc (fun ro w1 H1 locs1 hp hP1 hD1 hk1 hS1 => ?_)
  obtain ⟨hP2, hD2⟩ := va_join (wr := wr) (w1 := w1) hP hD isC isR hC hRr hnd hdis hk1 hFc hP1 hD1
  exact k ro w1 hp p e s m below meth c C H1 locs1 ls hP2 hD2 hS1 hl
theorem V_callS {As rest : List Value} (hK : K l G y2 cc2 nL2 ret2 d2 mc2 ms2 As wc post2) (hB : LB y2 cc2 nL2 ret2 n) (hlk : Cond.methodLink y.cls idx y2 ∈ tblG ∧ Cond.static y2 ∈ tblG) (hd : d2 + 1 ≤ d) (dg : decode cc pc = .ok (.invokestatic idx, 3)) (hst : st = As.reverse ++ rest) (hn : As.length = n) (hrest : (rest.map fun v => v.category).sum ≤ 8) (hcs : ce + mc2 ≤ mc ∧ sl + ms2 ≤ ms)
    (isC isR : List Nat) (hC : va_perm ws isC wc) (hRr : va_perm ws isR wr) (hndC : va_nd isC = true) (hnd : va_nd isR = true) (hdis : ∀ i ∈ isR, i ∉ isC)
    (k : ∀ (ro : Option Value) (w1 : va_W), post2 ro w1 → VV l G y cc nL ret d mc ms av w0 post (ce + mc2) (sl + ms2) (wr ++ w1) (pc + 3) lv (ro.toList ++ rest)) : VV l G y cc nL ret d mc ms av w0 post ce sl ws pc lv st := by
  intro p e s m below meth c C H locs ls hP hD hS hl
  subst hst
  have hPc := hP.sub (ws' := wc) isC (va_sub_eq hC)
  have hFc := va_free (wc := wc) hD hS (fun q h => Or.inr h) isC hC
  have hDc : va_D (fun _ => True) wc := (hD.sub isC hndC hC).weaken (fun _ _ _ _ => trivial)
  have hR2 : 60 * d2 + 60 ≤ (rmG d mc ms).locals := by show 60 * d2 + 60 ≤ 60 * d; omega
  refine va_callK (va_runS (As := As) (rest := rest) C.1 (hK H.size) ⟨callB_G C.1.2.2.2.2 hB hlk.1 hd hR2, C.1.2.2.2.2 _ hlk.2⟩ ⟨KB_blind, fun U hU hW => ⟨rfl, by rw [hU], by rw [hU]; exact hPc, va_K.moved hW.alike C.2.1.1, hDc, NN_warm hW C.2.1.2⟩⟩ rfl hn (hl.1) rfl (lv_room hrest) dg hcs) hS hFc (fun ro w1 H1 locs1 hp hP1 hD1 hk1 hS1 => ?_)
  obtain ⟨hP2, hD2⟩ := va_join (wr := wr) (w1 := w1) hP hD isC isR hC hRr hnd hdis hk1 hFc hP1 hD1
  exact k ro w1 hp p e s m below meth c C H1 locs1 ls hP2 hD2 hS1 hl
theorem V_callI {a : Nat} {As rest : List Value} (hK : K l G y2 cc2 nL2 none d2 mc2 ms2 (.ref a :: As) wc post2) (hB : LB y2 cc2 nL2 none n) (hlk : Cond.methodLink y.cls idx y2 ∈ tblG ∧ Cond.instanceMethod y2 ∈ tblG ∧ y2.name = "<init>") (hd : d2 + 1 ≤ d) (dg : decode cc pc = .ok (.invokespecial idx, 3)) (hst : st = As.reverse ++ .ref a :: rest) (hn : As.length = n) (hrest : (rest.map fun v => v.category).sum ≤ 8) (hcs : ce + mc2 ≤ mc ∧ sl + ms2 ≤ ms)
    (isC isR : List Nat) (hC : va_perm ws isC wc) (hRr : va_perm ws isR wr) (hndC : va_nd isC = true) (hnd : va_nd isR = true) (hdis : ∀ i ∈ isR, i ∉ isC)
    (k : ∀ (ro : Option Value) (w1 : va_W), post2 ro w1 → VV l G y cc nL ret d mc ms av w0 post (ce + mc2) (sl + ms2) (wr ++ w1) (pc + 3) lv (ro.toList ++ rest)) : VV l G y cc nL ret d mc ms av w0 post ce sl ws pc lv st := by
  intro p e s m below meth c C H locs ls hP hD hS hl
  subst hst
  have hPc := hP.sub (ws' := wc) isC (va_sub_eq hC)
  have hFc := va_free (wc := wc) hD hS (fun q h => Or.inr h) isC hC
  have hDc : va_D (fun _ => True) wc := (hD.sub isC hndC hC).weaken (fun _ _ _ _ => trivial)
  have hR2 : 60 * d2 + 60 ≤ (rmG d mc ms).locals := by show 60 * d2 + 60 ≤ 60 * d; omega
  refine va_callK (va_runI (As := As) (rest := rest) C.1 (hK H.size) ⟨callB_G C.1.2.2.2.2 hB hlk.1 hd hR2, hlk.2.2, C.1.2.2.2.2 _ hlk.2.1⟩ ⟨KB_blind, fun U hU hW => ⟨rfl, by rw [hU], by rw [hU]; exact hPc, va_K.moved hW.alike C.2.1.1, hDc, NN_warm hW C.2.1.2⟩⟩ rfl hn (hl.1) rfl (lv_room hrest) dg hcs) hS hFc (fun ro w1 H1 locs1 hp hP1 hD1 hk1 hS1 => ?_)
  obtain ⟨hP2, hD2⟩ := va_join (wr := wr) (w1 := w1) hP hD isC isR hC hRr hnd hdis hk1 hFc hP1 hD1
  exact k ro w1 hp p e s m below meth c C H1 locs1 ls hP2 hD2 hS1 hl
end VC
end
section
/-! ===== the state of the two systems as numbers; small combinators; calls that keep the whole world ===== -/
abbrev St : Type := (Nat → Int32) × ((Nat → Nat → Int32) × (Nat → Int64))
def gi (σ : St) (k : Nat) : Int32 := σ.1 k
def ga (σ : St) (k : Nat) : Nat → Int32 := σ.2.1 k
def gl (σ : St) (k : Nat) : Int64 := σ.2.2 k
def si (σ : St) (k : Nat) (v : Int32) : St := (fun j => if j = k then v else σ.1 j, σ.2)
def sa (σ : St) (k : Nat) (f : Nat → Int32) : St := (σ.1, (fun j => if j = k then f else σ.2.1 j, σ.2.2))
def sl (σ : St) (k : Nat) (v : Int64) : St := (σ.1, (σ.2.1, fun j => if j = k then v else σ.2.2 j))
def lt {α β : Type} (a : α) (k : α → Option β) : Option β := k a
def bno {α β : Type} (x : Option α) (k : α → Option β) : Option β := match x with
  | none => none
  | some a => k a
def ixo {α : Type} (i : Int32) (n : Nat) (k : Option α) : Option α := if i < 0 then none else if n ≤ i.toNatClampNeg then none else k
def b2i (b : Bool) : Int32 := match b with
  | true => 1
  | false => 0
def i2b (x : Int32) : Option Bool := if x = 1 then some true else if x = 0 then some false else none
def iush (x z : Int32) : Int32 := (x.toUInt32 >>> (z.toUInt32 &&& Int32.toUInt32 31)).toInt32
def lush (x : Int64) (z : Int32) : Int64 := (x.toUInt64 >>> (z.toInt64.toUInt64 &&& Int64.toUInt64 63)).toInt64
def lshl (x : Int64) (z : Int32) : Int64 := x <<< (z.toInt64 &&& 63)
def FU : Nat := 2147483648
theorem lt_some {α β : Type} {a : α} {k : α → Option β} {r : β} (h : lt a k = some r) : ∃ b, b = a ∧ k b = some r := ⟨a, rfl, h⟩
theorem bno_some {α β : Type} {x : Option α} {k : α → Option β} {r : β} (h : bno x k = some r) : ∃ a, x = some a ∧ k a = some r := by
  cases x with
  | none => cases h
  | some a => exact ⟨a, rfl, h⟩
theorem ixo_some {α : Type} {i : Int32} {n : Nat} {k : Option α} {r : α} (h : ixo i n k = some r) : vp_in i n ∧ k = some r := by
  unfold ixo at h
  by_cases h1 : i < 0
  · rw [if_pos h1] at h; cases h
  · rw [if_neg h1] at h
    by_cases h2 : n ≤ i.toNatClampNeg
    · rw [if_pos h2] at h; cases h
    · rw [if_neg h2] at h
      exact ⟨fun q => q.elim h1 h2, h⟩
theorem i2b_some {x : Int32} {b : Bool} (h : i2b x = some b) : x = b2i b := by
  unfold i2b at h
  by_cases h1 : x = 1
  · rw [if_pos h1] at h; cases h; exact h1
  · rw [if_neg h1] at h
    by_cases h2 : x = 0
    · rw [if_pos h2] at h; cases h; exact h2
    · rw [if_neg h2] at h; cases h
theorem narrow_b2i (b : Bool) : narrow .boolean (.int (b2i b)) = .int (b2i b) := by cases b <;> rfl
theorem sw_out5 {x : Int32} (h0 : ¬ x = 0) (h1 : ¬ x = 1) (h2 : ¬ x = 2) (h3 : ¬ x = 3) (h4 : ¬ x = 4) : x.toInt < 0 ∨ 4 < x.toInt := by
  have e : ∀ k : Int32, ¬ x = k → x.toInt ≠ k.toInt := fun k h q => h (Int32.toInt_inj.mp q)
  have e0 := e 0 h0
  have e1 := e 1 h1
  have e2 := e 2 h2
  have e3 := e 3 h3
  have e4 := e 4 h4
  have z0 : (0 : Int32).toInt = 0 := rfl
  have z1 : (1 : Int32).toInt = 1 := rfl
  have z2 : (2 : Int32).toInt = 2 := rfl
  have z3 : (3 : Int32).toInt = 3 := rfl
  have z4 : (4 : Int32).toInt = 4 := rfl
  omega
def wC (G : Gv) (ad : Nat → Nat) (σ : St) : va_W := [(ad 0, .inr (6, [.int (gi σ 0), .ref (ad 1), .ref (ad 11), .ref (ad 12), .ref (ad 13)])),
  (ad 1, .inr (5, [.ref (ad 2), .ref (ad 4), .ref (ad 7), .ref (ad 8), .ref (ad 9), .ref (ad 10)])),
  (ad 2, .inr (1, [.ref (ad 3), .int (gi σ 1)])),
  (ad 3, .inl (G.2.1, 30, .inl (ga σ 0))),
  (ad 4, .inr (0, [.ref (ad 5), .ref (ad 6), .long (gl σ 0)])),
  (ad 5, .inl (G.2.1, 64, .inl (ga σ 1))),
  (ad 6, .inl (G.2.1, 64, .inl (ga σ 2))),
  (ad 7, .inl (G.2.1, 8, .inl (ga σ 3))),
  (ad 8, .inl (G.2.1, 8, .inl (ga σ 4))),
  (ad 9, .inl (G.2.1, 2, .inl (ga σ 5))),
  (ad 10, .inl (G.2.1, 2, .inl (ga σ 6))),
  (ad 11, .inr (4, [.ref (ad 1)])),
  (ad 12, .inr (2, [.ref (ad 1), .ref (ad 11), .int (gi σ 2)]))]
def wM (G : Gv) (ad : Nat → Nat) (σ : St) : va_W := [(ad 0, .inr (7, [.ref (ad 1), .ref (ad 2), .int (gi σ 2), .int (gi σ 3), .ref (ad 3), .int (gi σ 5), .ref (ad 4), .int (gi σ 7), .ref (ad 5), .ref (ad 6), .int (gi σ 10), .int (gi σ 11), .int (gi σ 12), .ref (ad 7), .int (gi σ 14), .ref (ad 8), .int (gi σ 16), .int (gi σ 17), .ref (ad 9), .ref (ad 10), .ref (ad 11), .ref (ad 12), .ref (ad 13), .ref (ad 14), .int (gi σ 24)])),
  (ad 1, .inl (G.2.1, 373, .inl (ga σ 0))),
  (ad 2, .inl (G.2.1, 1492, .inl (ga σ 1))),
  (ad 3, .inl (G.2.1, 7, .inl (ga σ 4))),
  (ad 4, .inl (G.2.1, 7, .inl (ga σ 6))),
  (ad 5, .inl (G.2.1, 49, .inl (ga σ 8))),
  (ad 6, .inl (G.2.1, 16, .inl (ga σ 9))),
  (ad 7, .inl (G.2.1, 7, .inl (ga σ 13))),
  (ad 8, .inl (G.2.1, 8, .inl (ga σ 15))),
  (ad 9, .inl (G.2.1, 1274, .inl (ga σ 18))),
  (ad 10, .inl (G.2.1, 416, .inl (ga σ 19))),
  (ad 11, .inl (G.2.1, 26, .inl (ga σ 20))),
  (ad 12, .inl (G.2.1, 26, .inl (ga σ 21))),
  (ad 13, .inl (G.2.1, 26, .inl (ga σ 22))),
  (ad 14, .inl (G.2.1, 26, .inl (ga σ 23)))]
theorem wi_X0 : ∀ w ∈ u_ws RX0 TX0 3, w ∈ tblG := by
  intro w hw
  obtain ⟨k, hk, rfl⟩ := List.mem_map.mp hw
  have hk := List.mem_range.mp hk
  match k, hk with
  | 0, _ => exact tin 58 (by decide +kernel) (by decide +kernel)
  | 1, _ => exact tin 60 (by decide +kernel) (by decide +kernel)
  | 2, _ => exact tin 62 (by decide +kernel) (by decide +kernel)
  | k + 3, h => exact absurd h (by omega)
theorem RC_X0 : RC 0 RX0 TX0 3 tyX0 := ⟨rfl, wi_X0, tyX0_ok, nmX0⟩
theorem wi_X1 : ∀ w ∈ u_ws RX1 TX1 2, w ∈ tblG := by
  intro w hw
  obtain ⟨k, hk, rfl⟩ := List.mem_map.mp hw
  have hk := List.mem_range.mp hk
  match k, hk with
  | 0, _ => exact tin 43 (by decide +kernel) (by decide +kernel)
  | 1, _ => exact tin 45 (by decide +kernel) (by decide +kernel)
  | k + 2, h => exact absurd h (by omega)
theorem RC_X1 : RC 1 RX1 TX1 2 tyX1 := ⟨rfl, wi_X1, tyX1_ok, nmX1⟩
theorem wi_X2 : ∀ w ∈ u_ws RX2 TX2 3, w ∈ tblG := by
  intro w hw
  obtain ⟨k, hk, rfl⟩ := List.mem_map.mp hw
  have hk := List.mem_range.mp hk
  match k, hk with
  | 0, _ => exact tin 108 (by decide +kernel) (by decide +kernel)
  | 1, _ => exact tin 110 (by decide +kernel) (by decide +kernel)
  | 2, _ => exact tin 112 (by decide +kernel) (by decide +kernel)
  | k + 3, h => exact absurd h (by omega)
theorem RC_X2 : RC 2 RX2 TX2 3 tyX2 := ⟨rfl, wi_X2, tyX2_ok, nmX2⟩
theorem wi_X3 : ∀ w ∈ u_ws RX3 TX3 3, w ∈ tblG := by
  intro w hw
  obtain ⟨k, hk, rfl⟩ := List.mem_map.mp hw
  have hk := List.mem_range.mp hk
  match k, hk with
  | 0, _ => exact tin 126 (by decide +kernel) (by decide +kernel)
  | 1, _ => exact tin 128 (by decide +kernel) (by decide +kernel)
  | 2, _ => exact tin 130 (by decide +kernel) (by decide +kernel)
  | k + 3, h => exact absurd h (by omega)
theorem RC_X3 : RC 3 RX3 TX3 3 tyX3 := ⟨rfl, wi_X3, tyX3_ok, nmX3⟩
theorem wi_X5 : ∀ w ∈ u_ws RX5 TX5 1, w ∈ tblG := by
  intro w hw
  obtain ⟨k, hk, rfl⟩ := List.mem_map.mp hw
  have hk := List.mem_range.mp hk
  match k, hk with
  | 0, _ => exact tin 96 (by decide +kernel) (by decide +kernel)
  | k + 1, h => exact absurd h (by omega)
theorem RC_X5 : RC 4 RX5 TX5 1 tyX5 := ⟨rfl, wi_X5, tyX5_ok, nmX5⟩
theorem wi_X7 : ∀ w ∈ u_ws RX7 TX7 6, w ∈ tblG := by
  intro w hw
  obtain ⟨k, hk, rfl⟩ := List.mem_map.mp hw
  have hk := List.mem_range.mp hk
  match k, hk with
  | 0, _ => exact tin 76 (by decide +kernel) (by decide +kernel)
  | 1, _ => exact tin 78 (by decide +kernel) (by decide +kernel)
  | 2, _ => exact tin 80 (by decide +kernel) (by decide +kernel)
  | 3, _ => exact tin 82 (by decide +kernel) (by decide +kernel)
  | 4, _ => exact tin 84 (by decide +kernel) (by decide +kernel)
  | 5, _ => exact tin 86 (by decide +kernel) (by decide +kernel)
  | k + 6, h => exact absurd h (by omega)
theorem RC_X7 : RC 5 RX7 TX7 6 tyX7 := ⟨rfl, wi_X7, tyX7_ok, nmX7⟩
theorem wi_X9 : ∀ w ∈ u_ws RX9 TX9 5, w ∈ tblG := by
  intro w hw
  obtain ⟨k, hk, rfl⟩ := List.mem_map.mp hw
  have hk := List.mem_range.mp hk
  match k, hk with
  | 0, _ => exact tin 138 (by decide +kernel) (by decide +kernel)
  | 1, _ => exact tin 140 (by decide +kernel) (by decide +kernel)
  | 2, _ => exact tin 142 (by decide +kernel) (by decide +kernel)
  | 3, _ => exact tin 144 (by decide +kernel) (by decide +kernel)
  | 4, _ => exact tin 146 (by decide +kernel) (by decide +kernel)
  | k + 5, h => exact absurd h (by omega)
theorem RC_X9 : RC 6 RX9 TX9 5 tyX9 := ⟨rfl, wi_X9, tyX9_ok, nmX9⟩
theorem wi_X10 : ∀ w ∈ u_ws RX10 TX10 25, w ∈ tblG := by
  intro w hw
  obtain ⟨k, hk, rfl⟩ := List.mem_map.mp hw
  have hk := List.mem_range.mp hk
  match k, hk with
  | 0, _ => exact tin 846 (by decide +kernel) (by decide +kernel)
  | 1, _ => exact tin 848 (by decide +kernel) (by decide +kernel)
  | 2, _ => exact tin 850 (by decide +kernel) (by decide +kernel)
  | 3, _ => exact tin 852 (by decide +kernel) (by decide +kernel)
  | 4, _ => exact tin 854 (by decide +kernel) (by decide +kernel)
  | 5, _ => exact tin 856 (by decide +kernel) (by decide +kernel)
  | 6, _ => exact tin 858 (by decide +kernel) (by decide +kernel)
  | 7, _ => exact tin 860 (by decide +kernel) (by decide +kernel)
  | 8, _ => exact tin 862 (by decide +kernel) (by decide +kernel)
  | 9, _ => exact tin 864 (by decide +kernel) (by decide +kernel)
  | 10, _ => exact tin 866 (by decide +kernel) (by decide +kernel)
  | 11, _ => exact tin 868 (by decide +kernel) (by decide +kernel)
  | 12, _ => exact tin 870 (by decide +kernel) (by decide +kernel)
  | 13, _ => exact tin 872 (by decide +kernel) (by decide +kernel)
  | 14, _ => exact tin 874 (by decide +kernel) (by decide +kernel)
  | 15, _ => exact tin 876 (by decide +kernel) (by decide +kernel)
  | 16, _ => exact tin 878 (by decide +kernel) (by decide +kernel)
  | 17, _ => exact tin 880 (by decide +kernel) (by decide +kernel)
  | 18, _ => exact tin 882 (by decide +kernel) (by decide +kernel)
  | 19, _ => exact tin 884 (by decide +kernel) (by decide +kernel)
  | 20, _ => exact tin 886 (by decide +kernel) (by decide +kernel)
  | 21, _ => exact tin 888 (by decide +kernel) (by decide +kernel)
  | 22, _ => exact tin 890 (by decide +kernel) (by decide +kernel)
  | 23, _ => exact tin 892 (by decide +kernel) (by decide +kernel)
  | 24, _ => exact tin 894 (by decide +kernel) (by decide +kernel)
  | k + 25, h => exact absurd h (by omega)
theorem RC_X10 : RC 7 RX10 TX10 25 tyX10 := ⟨rfl, wi_X10, tyX10_ok, nmX10⟩
theorem perm_all (ws : va_W) : va_perm ws (List.range ws.length) ws := by
  unfold va_perm
  apply List.ext_getElem?
  intro i
  rw [List.getElem?_map, List.getElem?_map]
  by_cases h : i < ws.length
  · rw [List.getElem?_range h, Option.map_some, List.getElem?_eq_getElem h, Option.map_some]
  · rw [List.getElem?_eq_none (by simp; omega), List.getElem?_eq_none (by omega)]; rfl
theorem nd_of {l : List Nat} (h : l.Nodup) : va_nd l = true := by
  induction l with
  | nil => rfl
  | cons a l ih =>
    obtain ⟨h1, h2⟩ := List.nodup_cons.mp h
    simp [va_nd, h1, ih h2]
theorem nd_range (n : Nat) : va_nd (List.range n) = true := nd_of List.nodup_range
section VD
variable {l : Launch} {G : Gv} {y : MethodName} {cc : ByteArray} {nL : Nat} {ret : Option FieldType} {d mc ms : Nat} {av : List Value} {w0 : va_W} {post : Option Value → va_W → Prop} {ce sl : Nat} {ws : va_W} {pc : Nat} {lv : List (Nat × Value)} {st : List Value}
variable {y2 : MethodName} {cc2 : ByteArray} {nL2 : Nat} {ret2 : Option FieldType} {n d2 mc2 ms2 idx : Nat} {post2 : Option Value → va_W → Prop} {wc wr : va_W}
theorem V_lv (lv1 : List (Nat × Value)) (ks : List Nat) (h1 : lv_pick lv ks = lv1) (K : VV l G y cc nL ret d mc ms av w0 post ce sl ws pc lv1 st) : VV l G y cc nL ret d mc ms av w0 post ce sl ws pc lv st := fun p e s m below meth c C H locs ls hP hD hS hl => K p e s m below meth c C H locs ls hP hD hS (lv_sub hl ks h1)
theorem V_topi {x z : Int32} (h : x = z) (K : VV l G y cc nL ret d mc ms av w0 post ce sl ws pc lv (.int x :: st)) : VV l G y cc nL ret d mc ms av w0 post ce sl ws pc lv (.int z :: st) := h ▸ K
theorem V_topl {x z : Int64} (h : x = z) (K : VV l G y cc nL ret d mc ms av w0 post ce sl ws pc lv (.long x :: st)) : VV l G y cc nL ret d mc ms av w0 post ce sl ws pc lv (.long z :: st) := h ▸ K
theorem V_ws {ws1 : va_W} (h : ws = ws1) (K : VV l G y cc nL ret d mc ms av w0 post ce sl ws1 pc lv st) : VV l G y cc nL ret d mc ms av w0 post ce sl ws pc lv st := h ▸ K
theorem V_cV {a ci : Nat} {As rest : List Value} {qc : vw_C} {fs : List Value} {v : Option Value} {w1 : va_W} (hK : K l G y2 cc2 nL2 ret2 d2 0 0 (.ref a :: As) ws (pD v w1)) (hB : LB y2 cc2 nL2 ret2 n) (hlk : Cond.methodLink y.cls idx y2 ∈ tblG ∧ Cond.instanceMethod y2 ∈ tblG ∧ Cond.selects y2.cls y2 y2 ∈ tblG) (hd : d2 + 1 ≤ d) (dg : decode cc pc = .ok (.invokevirtual idx, 3)) (hst : st = As.reverse ++ .ref a :: rest) (hn : As.length = n) (hrest : (rest.map fun v => v.category).sum ≤ 8) (hc1 : ce ≤ mc) (hc2 : sl ≤ ms) (q : Nat) (hq : ws[q]? = some (a, .inr (ci, fs))) (hqc : vwCl[ci]? = some qc ∧ qc.1 = y2.cls) (st1 : List Value) (hs1 : v.toList ++ rest = st1) (k : VV l G y cc nL ret d mc ms av w0 post ce sl w1 (pc + 3) lv st1) : VV l G y cc nL ret d mc ms av w0 post ce sl ws pc lv st :=
  V_callV hK hB hlk hd dg hst hn hrest ⟨hc1, hc2⟩ q hq hqc (List.range ws.length) [] (perm_all ws) (wr := []) rfl (nd_range _) rfl (fun _ h => absurd h List.not_mem_nil) (fun ro w hp => by obtain ⟨rfl, rfl⟩ := hp; subst hs1; exact k)
theorem V_cS {As rest : List Value} {v : Option Value} {w1 : va_W} (hK : K l G y2 cc2 nL2 ret2 d2 0 0 As ws (pD v w1)) (hB : LB y2 cc2 nL2 ret2 n) (hlk : Cond.methodLink y.cls idx y2 ∈ tblG ∧ Cond.static y2 ∈ tblG) (hd : d2 + 1 ≤ d) (dg : decode cc pc = .ok (.invokestatic idx, 3)) (hst : st = As.reverse ++ rest) (hn : As.length = n) (hrest : (rest.map fun v => v.category).sum ≤ 8) (hc1 : ce ≤ mc) (hc2 : sl ≤ ms) (st1 : List Value) (hs1 : v.toList ++ rest = st1) (k : VV l G y cc nL ret d mc ms av w0 post ce sl w1 (pc + 3) lv st1) : VV l G y cc nL ret d mc ms av w0 post ce sl ws pc lv st :=
  V_callS hK hB hlk hd dg hst hn hrest ⟨hc1, hc2⟩ (List.range ws.length) [] (perm_all ws) (wr := []) rfl (nd_range _) rfl (fun _ h => absurd h List.not_mem_nil) (fun ro w hp => by obtain ⟨rfl, rfl⟩ := hp; subst hs1; exact k)
theorem V_callSN {host : String} {As rest : List Value} (hK : K l G y2 cc2 nL2 ret2 d2 mc2 ms2 As wc post2) (hB : LB y2 cc2 nL2 ret2 n) (hlk : Cond.methodLinkNest y.cls idx y2 host ∈ nestL ∧ Cond.static y2 ∈ tblG) (hd : d2 + 1 ≤ d) (dg : decode cc pc = .ok (.invokestatic idx, 3)) (hst : st = As.reverse ++ rest) (hn : As.length = n) (hrest : (rest.map fun v => v.category).sum ≤ 8) (hcs : ce + mc2 ≤ mc ∧ sl + ms2 ≤ ms)
    (isC isR : List Nat) (hC : va_perm ws isC wc) (hRr : va_perm ws isR wr) (hndC : va_nd isC = true) (hnd : va_nd isR = true) (hdis : ∀ i ∈ isR, i ∉ isC)
    (k : ∀ (ro : Option Value) (w1 : va_W), post2 ro w1 → VV l G y cc nL ret d mc ms av w0 post (ce + mc2) (sl + ms2) (wr ++ w1) (pc + 3) lv (ro.toList ++ rest)) : VV l G y cc nL ret d mc ms av w0 post ce sl ws pc lv st := by
  intro p e s m below meth c C H locs ls hP hD hS hl
  subst hst
  have hPc := hP.sub (ws' := wc) isC (va_sub_eq hC)
  have hFc := va_free (wc := wc) hD hS (fun q h => Or.inr h) isC hC
  have hDc : va_D (fun _ => True) wc := (hD.sub isC hndC hC).weaken (fun _ _ _ _ => trivial)
  have hR2 : 60 * d2 + 60 ≤ (rmG d mc ms).locals := by show 60 * d2 + 60 ≤ 60 * d; omega
  have hR3 : 8 + (nL2 + 11) + 60 * d2 ≤ (rmG d mc ms).locals := by have := hB.2.2.1; omega
  refine va_callK (va_runSN (As := As) (rest := rest) C.1 (hK H.size) ⟨va_cnB n C.1.2.2.2.2 hB.ws rfl rfl rfl (C.2.1.2 _ hlk.1) (C.1.2.2.2.2 _ hB.2.1) hB.2.2.2 ⟨hd, hR3⟩, C.1.2.2.2.2 _ hlk.2, trivial⟩ ⟨KB_blind, fun U hU hW => ⟨rfl, by rw [hU], by rw [hU]; exact hPc, va_K.moved hW.alike C.2.1.1, hDc, NN_warm hW C.2.1.2⟩⟩ rfl hn (hl.1) rfl (lv_room hrest) dg hcs) hS hFc (fun ro w1 H1 locs1 hp hP1 hD1 hk1 hS1 => ?_)
  obtain ⟨hP2, hD2⟩ := va_join (wr := wr) (w1 := w1) hP hD isC isR hC hRr hnd hdis hk1 hFc hP1 hD1
  exact k ro w1 hp p e s m below meth c C H1 locs1 ls hP2 hD2 hS1 hl
theorem V_cSN {host : String} {As rest : List Value} {v : Option Value} {w1 : va_W} (hK : K l G y2 cc2 nL2 ret2 d2 0 0 As ws (pD v w1)) (hB : LB y2 cc2 nL2 ret2 n) (hlk : Cond.methodLinkNest y.cls idx y2 host ∈ nestL ∧ Cond.static y2 ∈ tblG) (hd : d2 + 1 ≤ d) (dg : decode cc pc = .ok (.invokestatic idx, 3)) (hst : st = As.reverse ++ rest) (hn : As.length = n) (hrest : (rest.map fun v => v.category).sum ≤ 8) (hc1 : ce ≤ mc) (hc2 : sl ≤ ms) (st1 : List Value) (hs1 : v.toList ++ rest = st1) (k : VV l G y cc nL ret d mc ms av w0 post ce sl w1 (pc + 3) lv st1) : VV l G y cc nL ret d mc ms av w0 post ce sl ws pc lv st :=
  V_callSN hK hB hlk hd dg hst hn hrest ⟨hc1, hc2⟩ (List.range ws.length) [] (perm_all ws) (wr := []) rfl (nd_range _) rfl (fun _ h => absurd h List.not_mem_nil) (fun ro w hp => by obtain ⟨rfl, rfl⟩ := hp; subst hs1; exact k)
end VD
end
