-- ===== PART A: goes FIRST, ahead of the names: the tables' words, and 'selects' of the private methods out of them =====
/-- a private method of a class that the tables say can be made, by its rows of tables_1 -/
def lw_okq (q : MethodName × Nat) : Prop := (q.1.cls ≠ "java/lang/invoke/MethodHandle" ∧ q.1.cls ≠ "java/lang/invoke/VarHandle") ∧ Cond.instantiable q.1.cls q.2 ∈ tables_1 ∧ Cond.privateMethod q.1 ∈ tables_1 ∧ Cond.instanceMethod q.1 ∈ tables_1
theorem lw_p0 : lw_okq (⟨"WhichWayRound", "refuse", "(I)I"⟩, 11) := ⟨⟨by decide +kernel, by decide +kernel⟩, List.mem_of_getElem? (i := 13) (by decide +kernel), List.mem_of_getElem? (i := 220) (by decide +kernel), List.mem_of_getElem? (i := 221) (by decide +kernel)⟩
theorem lw_p1 : lw_okq (⟨"WhichWayRound$Letters", "firstWrongLetter", "()I"⟩, 2) := ⟨⟨by decide +kernel, by decide +kernel⟩, List.mem_of_getElem? (i := 118) (by decide +kernel), List.mem_of_getElem? (i := 250) (by decide +kernel), List.mem_of_getElem? (i := 251) (by decide +kernel)⟩
theorem lw_p2 : lw_okq (⟨"WhichWayRound$Letters", "runStatement", "(LWhichWayRound$Town;I)I"⟩, 2) := ⟨⟨by decide +kernel, by decide +kernel⟩, List.mem_of_getElem? (i := 118) (by decide +kernel), List.mem_of_getElem? (i := 258) (by decide +kernel), List.mem_of_getElem? (i := 259) (by decide +kernel)⟩
theorem lw_p3 : lw_okq (⟨"WhichWayRound", "grown", "(I)I"⟩, 11) := ⟨⟨by decide +kernel, by decide +kernel⟩, List.mem_of_getElem? (i := 13) (by decide +kernel), List.mem_of_getElem? (i := 358) (by decide +kernel), List.mem_of_getElem? (i := 359) (by decide +kernel)⟩
theorem lw_p4 : lw_okq (⟨"WhichWayRound", "changed", "(I)I"⟩, 11) := ⟨⟨by decide +kernel, by decide +kernel⟩, List.mem_of_getElem? (i := 13) (by decide +kernel), List.mem_of_getElem? (i := 383) (by decide +kernel), List.mem_of_getElem? (i := 384) (by decide +kernel)⟩
theorem lw_p5 : lw_okq (⟨"WhichWayRound$OfOne", "knownOf", "(I)I"⟩, 1) := ⟨⟨by decide +kernel, by decide +kernel⟩, List.mem_of_getElem? (i := 159) (by decide +kernel), List.mem_of_getElem? (i := 495) (by decide +kernel), List.mem_of_getElem? (i := 496) (by decide +kernel)⟩
theorem lw_p6 : lw_okq (⟨"WhichWayRound$OfOne", "passesAll", "(IIII)Z"⟩, 1) := ⟨⟨by decide +kernel, by decide +kernel⟩, List.mem_of_getElem? (i := 159) (by decide +kernel), List.mem_of_getElem? (i := 506) (by decide +kernel), List.mem_of_getElem? (i := 507) (by decide +kernel)⟩
theorem lw_p7 : lw_okq (⟨"WhichWayRound$OfOne", "skillOf", "(I)I"⟩, 1) := ⟨⟨by decide +kernel, by decide +kernel⟩, List.mem_of_getElem? (i := 159) (by decide +kernel), List.mem_of_getElem? (i := 510) (by decide +kernel), List.mem_of_getElem? (i := 511) (by decide +kernel)⟩
theorem lw_p8 : lw_okq (⟨"WhichWayRound", "refuseLong", "(I)J"⟩, 11) := ⟨⟨by decide +kernel, by decide +kernel⟩, List.mem_of_getElem? (i := 13) (by decide +kernel), List.mem_of_getElem? (i := 519) (by decide +kernel), List.mem_of_getElem? (i := 520) (by decide +kernel)⟩
theorem lw_p9 : lw_okq (⟨"WhichWayRound$OfWays", "kindsOfTwo", "(II)I"⟩, 1) := ⟨⟨by decide +kernel, by decide +kernel⟩, List.mem_of_getElem? (i := 149) (by decide +kernel), List.mem_of_getElem? (i := 604) (by decide +kernel), List.mem_of_getElem? (i := 605) (by decide +kernel)⟩
theorem lw_p10 : lw_okq (⟨"WhichWayRound$Told", "highestLimit", "(I)I"⟩, 3) := ⟨⟨by decide +kernel, by decide +kernel⟩, List.mem_of_getElem? (i := 132) (by decide +kernel), List.mem_of_getElem? (i := 621) (by decide +kernel), List.mem_of_getElem? (i := 622) (by decide +kernel)⟩
theorem lw_p11 : lw_okq (⟨"WhichWayRound$Told", "limitOf", "(III)I"⟩, 3) := ⟨⟨by decide +kernel, by decide +kernel⟩, List.mem_of_getElem? (i := 132) (by decide +kernel), List.mem_of_getElem? (i := 625) (by decide +kernel), List.mem_of_getElem? (i := 626) (by decide +kernel)⟩
theorem lw_p12 : lw_okq (⟨"WhichWayRound$Told", "lowestLimit", "(I)I"⟩, 3) := ⟨⟨by decide +kernel, by decide +kernel⟩, List.mem_of_getElem? (i := 132) (by decide +kernel), List.mem_of_getElem? (i := 631) (by decide +kernel), List.mem_of_getElem? (i := 632) (by decide +kernel)⟩
theorem lw_p13 : lw_okq (⟨"WhichWayRound$Told", "isSoAt", "(II)Z"⟩, 3) := ⟨⟨by decide +kernel, by decide +kernel⟩, List.mem_of_getElem? (i := 132) (by decide +kernel), List.mem_of_getElem? (i := 645) (by decide +kernel), List.mem_of_getElem? (i := 646) (by decide +kernel)⟩
theorem lw_p14 : lw_okq (⟨"WhichWayRound$OfAll", "findMostOfLast", "(I)V"⟩, 2) := ⟨⟨by decide +kernel, by decide +kernel⟩, List.mem_of_getElem? (i := 169) (by decide +kernel), List.mem_of_getElem? (i := 658) (by decide +kernel), List.mem_of_getElem? (i := 659) (by decide +kernel)⟩
theorem lw_p15 : lw_okq (⟨"WhichWayRound$OfAll", "mostWithNext", "(IIII)I"⟩, 2) := ⟨⟨by decide +kernel, by decide +kernel⟩, List.mem_of_getElem? (i := 169) (by decide +kernel), List.mem_of_getElem? (i := 665) (by decide +kernel), List.mem_of_getElem? (i := 666) (by decide +kernel)⟩
def lw_privs_1 : List (MethodName × Nat) := [(⟨"WhichWayRound", "refuse", "(I)I"⟩, 11), (⟨"WhichWayRound$Letters", "firstWrongLetter", "()I"⟩, 2), (⟨"WhichWayRound$Letters", "runStatement", "(LWhichWayRound$Town;I)I"⟩, 2), (⟨"WhichWayRound", "grown", "(I)I"⟩, 11), (⟨"WhichWayRound", "changed", "(I)I"⟩, 11), (⟨"WhichWayRound$OfOne", "knownOf", "(I)I"⟩, 1), (⟨"WhichWayRound$OfOne", "passesAll", "(IIII)Z"⟩, 1), (⟨"WhichWayRound$OfOne", "skillOf", "(I)I"⟩, 1), (⟨"WhichWayRound", "refuseLong", "(I)J"⟩, 11), (⟨"WhichWayRound$OfWays", "kindsOfTwo", "(II)I"⟩, 1), (⟨"WhichWayRound$Told", "highestLimit", "(I)I"⟩, 3), (⟨"WhichWayRound$Told", "limitOf", "(III)I"⟩, 3), (⟨"WhichWayRound$Told", "lowestLimit", "(I)I"⟩, 3), (⟨"WhichWayRound$Told", "isSoAt", "(II)Z"⟩, 3), (⟨"WhichWayRound$OfAll", "findMostOfLast", "(I)V"⟩, 2), (⟨"WhichWayRound$OfAll", "mostWithNext", "(IIII)I"⟩, 2)]
theorem lw_r1 : ∀ q ∈ lw_privs_1, lw_okq q := List.forall_mem_cons.mpr ⟨lw_p0, List.forall_mem_cons.mpr ⟨lw_p1, List.forall_mem_cons.mpr ⟨lw_p2, List.forall_mem_cons.mpr ⟨lw_p3, List.forall_mem_cons.mpr ⟨lw_p4, List.forall_mem_cons.mpr ⟨lw_p5, List.forall_mem_cons.mpr ⟨lw_p6, List.forall_mem_cons.mpr ⟨lw_p7, List.forall_mem_cons.mpr ⟨lw_p8, List.forall_mem_cons.mpr ⟨lw_p9, List.forall_mem_cons.mpr ⟨lw_p10, List.forall_mem_cons.mpr ⟨lw_p11, List.forall_mem_cons.mpr ⟨lw_p12, List.forall_mem_cons.mpr ⟨lw_p13, List.forall_mem_cons.mpr ⟨lw_p14, List.forall_mem_cons.mpr ⟨lw_p15, fun _ h => absurd h List.not_mem_nil⟩⟩⟩⟩⟩⟩⟩⟩⟩⟩⟩⟩⟩⟩⟩⟩
theorem lw_p16 : lw_okq (⟨"WhichWayRound$OfAll", "nextOf", "(III)I"⟩, 2) := ⟨⟨by decide +kernel, by decide +kernel⟩, List.mem_of_getElem? (i := 169) (by decide +kernel), List.mem_of_getElem? (i := 672) (by decide +kernel), List.mem_of_getElem? (i := 673) (by decide +kernel)⟩
theorem lw_p17 : lw_okq (⟨"WhichWayRound$OfOne", "passesWithBalls", "(III)Z"⟩, 1) := ⟨⟨by decide +kernel, by decide +kernel⟩, List.mem_of_getElem? (i := 159) (by decide +kernel), List.mem_of_getElem? (i := 692) (by decide +kernel), List.mem_of_getElem? (i := 693) (by decide +kernel)⟩
theorem lw_p18 : lw_okq (⟨"WhichWayRound$OfAll", "aheadOf", "(II)I"⟩, 2) := ⟨⟨by decide +kernel, by decide +kernel⟩, List.mem_of_getElem? (i := 169) (by decide +kernel), List.mem_of_getElem? (i := 723) (by decide +kernel), List.mem_of_getElem? (i := 724) (by decide +kernel)⟩
theorem lw_p19 : lw_okq (⟨"WhichWayRound$OfOne", "passedKnowing", "(II)I"⟩, 1) := ⟨⟨by decide +kernel, by decide +kernel⟩, List.mem_of_getElem? (i := 159) (by decide +kernel), List.mem_of_getElem? (i := 770) (by decide +kernel), List.mem_of_getElem? (i := 771) (by decide +kernel)⟩
theorem lw_p20 : lw_okq (⟨"WhichWayRound$OfAll", "waysOf", "(I)I"⟩, 2) := ⟨⟨by decide +kernel, by decide +kernel⟩, List.mem_of_getElem? (i := 169) (by decide +kernel), List.mem_of_getElem? (i := 806) (by decide +kernel), List.mem_of_getElem? (i := 807) (by decide +kernel)⟩
theorem lw_p21 : lw_okq (⟨"WhichWayRoundModel", "no", "(I)I"⟩, 29) := ⟨⟨by decide +kernel, by decide +kernel⟩, List.mem_of_getElem? (i := 875) (by decide +kernel), List.mem_of_getElem? (i := 976) (by decide +kernel), List.mem_of_getElem? (i := 977) (by decide +kernel)⟩
theorem lw_p22 : lw_okq (⟨"WhichWayRoundModel", "statement", "()Z"⟩, 29) := ⟨⟨by decide +kernel, by decide +kernel⟩, List.mem_of_getElem? (i := 875) (by decide +kernel), List.mem_of_getElem? (i := 984) (by decide +kernel), List.mem_of_getElem? (i := 985) (by decide +kernel)⟩
theorem lw_p23 : lw_okq (⟨"WhichWayRoundModel", "next", "()I"⟩, 29) := ⟨⟨by decide +kernel, by decide +kernel⟩, List.mem_of_getElem? (i := 875) (by decide +kernel), List.mem_of_getElem? (i := 988) (by decide +kernel), List.mem_of_getElem? (i := 989) (by decide +kernel)⟩
theorem lw_p24 : lw_okq (⟨"WhichWayRoundModel", "readsAll", "(II)Z"⟩, 29) := ⟨⟨by decide +kernel, by decide +kernel⟩, List.mem_of_getElem? (i := 875) (by decide +kernel), List.mem_of_getElem? (i := 995) (by decide +kernel), List.mem_of_getElem? (i := 996) (by decide +kernel)⟩
theorem lw_p25 : lw_okq (⟨"WhichWayRoundModel", "readsDigits", "(II)Z"⟩, 29) := ⟨⟨by decide +kernel, by decide +kernel⟩, List.mem_of_getElem? (i := 875) (by decide +kernel), List.mem_of_getElem? (i := 999) (by decide +kernel), List.mem_of_getElem? (i := 1000) (by decide +kernel)⟩
theorem lw_p26 : lw_okq (⟨"WhichWayRoundModel", "passesAll", "(IZ)V"⟩, 29) := ⟨⟨by decide +kernel, by decide +kernel⟩, List.mem_of_getElem? (i := 875) (by decide +kernel), List.mem_of_getElem? (i := 1006) (by decide +kernel), List.mem_of_getElem? (i := 1007) (by decide +kernel)⟩
theorem lw_p27 : lw_okq (⟨"WhichWayRoundModel", "passes", "([I)V"⟩, 29) := ⟨⟨by decide +kernel, by decide +kernel⟩, List.mem_of_getElem? (i := 875) (by decide +kernel), List.mem_of_getElem? (i := 1010) (by decide +kernel), List.mem_of_getElem? (i := 1011) (by decide +kernel)⟩
theorem lw_p28 : lw_okq (⟨"WhichWayRoundModel", "passOne", "(I)I"⟩, 29) := ⟨⟨by decide +kernel, by decide +kernel⟩, List.mem_of_getElem? (i := 875) (by decide +kernel), List.mem_of_getElem? (i := 1014) (by decide +kernel), List.mem_of_getElem? (i := 1015) (by decide +kernel)⟩
theorem lw_p29 : lw_okq (⟨"WhichWayRoundModel", "comes", "(I)Z"⟩, 29) := ⟨⟨by decide +kernel, by decide +kernel⟩, List.mem_of_getElem? (i := 875) (by decide +kernel), List.mem_of_getElem? (i := 1018) (by decide +kernel), List.mem_of_getElem? (i := 1019) (by decide +kernel)⟩
theorem lw_p30 : lw_okq (⟨"WhichWayRoundModel", "comesOne", "(III)Z"⟩, 29) := ⟨⟨by decide +kernel, by decide +kernel⟩, List.mem_of_getElem? (i := 875) (by decide +kernel), List.mem_of_getElem? (i := 1022) (by decide +kernel), List.mem_of_getElem? (i := 1023) (by decide +kernel)⟩
theorem lw_p31 : lw_okq (⟨"WhichWayRoundModel", "isLearner", "(I)Z"⟩, 29) := ⟨⟨by decide +kernel, by decide +kernel⟩, List.mem_of_getElem? (i := 875) (by decide +kernel), List.mem_of_getElem? (i := 1026) (by decide +kernel), List.mem_of_getElem? (i := 1027) (by decide +kernel)⟩
def lw_privs_2 : List (MethodName × Nat) := [(⟨"WhichWayRound$OfAll", "nextOf", "(III)I"⟩, 2), (⟨"WhichWayRound$OfOne", "passesWithBalls", "(III)Z"⟩, 1), (⟨"WhichWayRound$OfAll", "aheadOf", "(II)I"⟩, 2), (⟨"WhichWayRound$OfOne", "passedKnowing", "(II)I"⟩, 1), (⟨"WhichWayRound$OfAll", "waysOf", "(I)I"⟩, 2), (⟨"WhichWayRoundModel", "no", "(I)I"⟩, 29), (⟨"WhichWayRoundModel", "statement", "()Z"⟩, 29), (⟨"WhichWayRoundModel", "next", "()I"⟩, 29), (⟨"WhichWayRoundModel", "readsAll", "(II)Z"⟩, 29), (⟨"WhichWayRoundModel", "readsDigits", "(II)Z"⟩, 29), (⟨"WhichWayRoundModel", "passesAll", "(IZ)V"⟩, 29), (⟨"WhichWayRoundModel", "passes", "([I)V"⟩, 29), (⟨"WhichWayRoundModel", "passOne", "(I)I"⟩, 29), (⟨"WhichWayRoundModel", "comes", "(I)Z"⟩, 29), (⟨"WhichWayRoundModel", "comesOne", "(III)Z"⟩, 29), (⟨"WhichWayRoundModel", "isLearner", "(I)Z"⟩, 29)]
theorem lw_r2 : ∀ q ∈ lw_privs_2, lw_okq q := List.forall_mem_cons.mpr ⟨lw_p16, List.forall_mem_cons.mpr ⟨lw_p17, List.forall_mem_cons.mpr ⟨lw_p18, List.forall_mem_cons.mpr ⟨lw_p19, List.forall_mem_cons.mpr ⟨lw_p20, List.forall_mem_cons.mpr ⟨lw_p21, List.forall_mem_cons.mpr ⟨lw_p22, List.forall_mem_cons.mpr ⟨lw_p23, List.forall_mem_cons.mpr ⟨lw_p24, List.forall_mem_cons.mpr ⟨lw_p25, List.forall_mem_cons.mpr ⟨lw_p26, List.forall_mem_cons.mpr ⟨lw_p27, List.forall_mem_cons.mpr ⟨lw_p28, List.forall_mem_cons.mpr ⟨lw_p29, List.forall_mem_cons.mpr ⟨lw_p30, List.forall_mem_cons.mpr ⟨lw_p31, fun _ h => absurd h List.not_mem_nil⟩⟩⟩⟩⟩⟩⟩⟩⟩⟩⟩⟩⟩⟩⟩⟩
theorem lw_p32 : lw_okq (⟨"WhichWayRoundModel", "isStreet", "(I)Z"⟩, 29) := ⟨⟨by decide +kernel, by decide +kernel⟩, List.mem_of_getElem? (i := 875) (by decide +kernel), List.mem_of_getElem? (i := 1030) (by decide +kernel), List.mem_of_getElem? (i := 1031) (by decide +kernel)⟩
theorem lw_p33 : lw_okq (⟨"WhichWayRoundModel", "isWay", "(I)Z"⟩, 29) := ⟨⟨by decide +kernel, by decide +kernel⟩, List.mem_of_getElem? (i := 875) (by decide +kernel), List.mem_of_getElem? (i := 1034) (by decide +kernel), List.mem_of_getElem? (i := 1035) (by decide +kernel)⟩
theorem lw_p34 : lw_okq (⟨"WhichWayRoundModel", "goesDay", "()V"⟩, 29) := ⟨⟨by decide +kernel, by decide +kernel⟩, List.mem_of_getElem? (i := 875) (by decide +kernel), List.mem_of_getElem? (i := 1041) (by decide +kernel), List.mem_of_getElem? (i := 1042) (by decide +kernel)⟩
theorem lw_p35 : lw_okq (⟨"WhichWayRoundModel", "comesNew", "(II)Z"⟩, 29) := ⟨⟨by decide +kernel, by decide +kernel⟩, List.mem_of_getElem? (i := 875) (by decide +kernel), List.mem_of_getElem? (i := 1048) (by decide +kernel), List.mem_of_getElem? (i := 1049) (by decide +kernel)⟩
theorem lw_p36 : lw_okq (⟨"WhichWayRoundModel", "addsStreet", "(III)V"⟩, 29) := ⟨⟨by decide +kernel, by decide +kernel⟩, List.mem_of_getElem? (i := 875) (by decide +kernel), List.mem_of_getElem? (i := 1052) (by decide +kernel), List.mem_of_getElem? (i := 1053) (by decide +kernel)⟩
theorem lw_p37 : lw_okq (⟨"WhichWayRoundModel", "addsLearner", "(I)V"⟩, 29) := ⟨⟨by decide +kernel, by decide +kernel⟩, List.mem_of_getElem? (i := 875) (by decide +kernel), List.mem_of_getElem? (i := 1056) (by decide +kernel), List.mem_of_getElem? (i := 1057) (by decide +kernel)⟩
theorem lw_p38 : lw_okq (⟨"WhichWayRoundModel", "hardOf", "(II)I"⟩, 29) := ⟨⟨by decide +kernel, by decide +kernel⟩, List.mem_of_getElem? (i := 875) (by decide +kernel), List.mem_of_getElem? (i := 1076) (by decide +kernel), List.mem_of_getElem? (i := 1077) (by decide +kernel)⟩
theorem lw_p39 : lw_okq (⟨"WhichWayRoundModel", "ballOf", "(I)I"⟩, 29) := ⟨⟨by decide +kernel, by decide +kernel⟩, List.mem_of_getElem? (i := 875) (by decide +kernel), List.mem_of_getElem? (i := 1080) (by decide +kernel), List.mem_of_getElem? (i := 1081) (by decide +kernel)⟩
theorem lw_p40 : lw_okq (⟨"WhichWayRoundModel", "keepsBack", "()V"⟩, 29) := ⟨⟨by decide +kernel, by decide +kernel⟩, List.mem_of_getElem? (i := 875) (by decide +kernel), List.mem_of_getElem? (i := 1104) (by decide +kernel), List.mem_of_getElem? (i := 1105) (by decide +kernel)⟩
theorem lw_p41 : lw_okq (⟨"WhichWayRoundModel", "passesWay", "(III)Z"⟩, 29) := ⟨⟨by decide +kernel, by decide +kernel⟩, List.mem_of_getElem? (i := 875) (by decide +kernel), List.mem_of_getElem? (i := 1108) (by decide +kernel), List.mem_of_getElem? (i := 1109) (by decide +kernel)⟩
theorem lw_p42 : lw_okq (⟨"WhichWayRoundModel", "isPassed", "(III)Z"⟩, 29) := ⟨⟨by decide +kernel, by decide +kernel⟩, List.mem_of_getElem? (i := 875) (by decide +kernel), List.mem_of_getElem? (i := 1112) (by decide +kernel), List.mem_of_getElem? (i := 1113) (by decide +kernel)⟩
theorem lw_p43 : lw_okq (⟨"WhichWayRoundModel", "faultsIn", "(III)I"⟩, 29) := ⟨⟨by decide +kernel, by decide +kernel⟩, List.mem_of_getElem? (i := 875) (by decide +kernel), List.mem_of_getElem? (i := 1116) (by decide +kernel), List.mem_of_getElem? (i := 1117) (by decide +kernel)⟩
theorem lw_p44 : lw_okq (⟨"WhichWayRoundModel", "faultsOn", "(III)I"⟩, 29) := ⟨⟨by decide +kernel, by decide +kernel⟩, List.mem_of_getElem? (i := 875) (by decide +kernel), List.mem_of_getElem? (i := 1120) (by decide +kernel), List.mem_of_getElem? (i := 1121) (by decide +kernel)⟩
theorem lw_p45 : lw_okq (⟨"WhichWayRoundModel", "minutesOf", "(I)I"⟩, 29) := ⟨⟨by decide +kernel, by decide +kernel⟩, List.mem_of_getElem? (i := 875) (by decide +kernel), List.mem_of_getElem? (i := 1140) (by decide +kernel), List.mem_of_getElem? (i := 1141) (by decide +kernel)⟩
theorem lw_p46 : lw_okq (⟨"WhichWayRoundModel", "hardOn", "(II)I"⟩, 29) := ⟨⟨by decide +kernel, by decide +kernel⟩, List.mem_of_getElem? (i := 875) (by decide +kernel), List.mem_of_getElem? (i := 1144) (by decide +kernel), List.mem_of_getElem? (i := 1145) (by decide +kernel)⟩
theorem lw_p47 : lw_okq (⟨"WhichWayRoundModel", "kindsOf", "(I)I"⟩, 29) := ⟨⟨by decide +kernel, by decide +kernel⟩, List.mem_of_getElem? (i := 875) (by decide +kernel), List.mem_of_getElem? (i := 1148) (by decide +kernel), List.mem_of_getElem? (i := 1149) (by decide +kernel)⟩
def lw_privs_3 : List (MethodName × Nat) := [(⟨"WhichWayRoundModel", "isStreet", "(I)Z"⟩, 29), (⟨"WhichWayRoundModel", "isWay", "(I)Z"⟩, 29), (⟨"WhichWayRoundModel", "goesDay", "()V"⟩, 29), (⟨"WhichWayRoundModel", "comesNew", "(II)Z"⟩, 29), (⟨"WhichWayRoundModel", "addsStreet", "(III)V"⟩, 29), (⟨"WhichWayRoundModel", "addsLearner", "(I)V"⟩, 29), (⟨"WhichWayRoundModel", "hardOf", "(II)I"⟩, 29), (⟨"WhichWayRoundModel", "ballOf", "(I)I"⟩, 29), (⟨"WhichWayRoundModel", "keepsBack", "()V"⟩, 29), (⟨"WhichWayRoundModel", "passesWay", "(III)Z"⟩, 29), (⟨"WhichWayRoundModel", "isPassed", "(III)Z"⟩, 29), (⟨"WhichWayRoundModel", "faultsIn", "(III)I"⟩, 29), (⟨"WhichWayRoundModel", "faultsOn", "(III)I"⟩, 29), (⟨"WhichWayRoundModel", "minutesOf", "(I)I"⟩, 29), (⟨"WhichWayRoundModel", "hardOn", "(II)I"⟩, 29), (⟨"WhichWayRoundModel", "kindsOf", "(I)I"⟩, 29)]
theorem lw_r3 : ∀ q ∈ lw_privs_3, lw_okq q := List.forall_mem_cons.mpr ⟨lw_p32, List.forall_mem_cons.mpr ⟨lw_p33, List.forall_mem_cons.mpr ⟨lw_p34, List.forall_mem_cons.mpr ⟨lw_p35, List.forall_mem_cons.mpr ⟨lw_p36, List.forall_mem_cons.mpr ⟨lw_p37, List.forall_mem_cons.mpr ⟨lw_p38, List.forall_mem_cons.mpr ⟨lw_p39, List.forall_mem_cons.mpr ⟨lw_p40, List.forall_mem_cons.mpr ⟨lw_p41, List.forall_mem_cons.mpr ⟨lw_p42, List.forall_mem_cons.mpr ⟨lw_p43, List.forall_mem_cons.mpr ⟨lw_p44, List.forall_mem_cons.mpr ⟨lw_p45, List.forall_mem_cons.mpr ⟨lw_p46, List.forall_mem_cons.mpr ⟨lw_p47, fun _ h => absurd h List.not_mem_nil⟩⟩⟩⟩⟩⟩⟩⟩⟩⟩⟩⟩⟩⟩⟩⟩
theorem lw_p48 : lw_okq (⟨"WhichWayRoundModel", "areAll", "(III)Z"⟩, 29) := ⟨⟨by decide +kernel, by decide +kernel⟩, List.mem_of_getElem? (i := 875) (by decide +kernel), List.mem_of_getElem? (i := 1156) (by decide +kernel), List.mem_of_getElem? (i := 1157) (by decide +kernel)⟩
theorem lw_p49 : lw_okq (⟨"WhichWayRoundModel", "mostFaults", "(III)I"⟩, 29) := ⟨⟨by decide +kernel, by decide +kernel⟩, List.mem_of_getElem? (i := 875) (by decide +kernel), List.mem_of_getElem? (i := 1160) (by decide +kernel), List.mem_of_getElem? (i := 1161) (by decide +kernel)⟩
theorem lw_p50 : lw_okq (⟨"WhichWayRoundModel", "passedWays", "(II)I"⟩, 29) := ⟨⟨by decide +kernel, by decide +kernel⟩, List.mem_of_getElem? (i := 875) (by decide +kernel), List.mem_of_getElem? (i := 1172) (by decide +kernel), List.mem_of_getElem? (i := 1173) (by decide +kernel)⟩
theorem lw_p51 : lw_okq (⟨"WhichWayRoundModel", "passesKnowing", "(IIII)Z"⟩, 29) := ⟨⟨by decide +kernel, by decide +kernel⟩, List.mem_of_getElem? (i := 875) (by decide +kernel), List.mem_of_getElem? (i := 1183) (by decide +kernel), List.mem_of_getElem? (i := 1184) (by decide +kernel)⟩
theorem lw_p52 : lw_okq (⟨"WhichWayRoundModel", "lowest", "(I)J"⟩, 29) := ⟨⟨by decide +kernel, by decide +kernel⟩, List.mem_of_getElem? (i := 875) (by decide +kernel), List.mem_of_getElem? (i := 1191) (by decide +kernel), List.mem_of_getElem? (i := 1192) (by decide +kernel)⟩
theorem lw_p53 : lw_okq (⟨"WhichWayRoundModel", "mostApart", "(II)I"⟩, 29) := ⟨⟨by decide +kernel, by decide +kernel⟩, List.mem_of_getElem? (i := 875) (by decide +kernel), List.mem_of_getElem? (i := 1214) (by decide +kernel), List.mem_of_getElem? (i := 1215) (by decide +kernel)⟩
theorem lw_p54 : lw_okq (⟨"WhichWayRoundModel", "followed", "(I)I"⟩, 29) := ⟨⟨by decide +kernel, by decide +kernel⟩, List.mem_of_getElem? (i := 875) (by decide +kernel), List.mem_of_getElem? (i := 1225) (by decide +kernel), List.mem_of_getElem? (i := 1226) (by decide +kernel)⟩
theorem lw_p55 : lw_okq (⟨"WhichWayRoundModel", "notTold", "()I"⟩, 29) := ⟨⟨by decide +kernel, by decide +kernel⟩, List.mem_of_getElem? (i := 875) (by decide +kernel), List.mem_of_getElem? (i := 1241) (by decide +kernel), List.mem_of_getElem? (i := 1242) (by decide +kernel)⟩
theorem lw_p56 : lw_okq (⟨"WhichWayRoundModel", "whenSo", "(I)I"⟩, 29) := ⟨⟨by decide +kernel, by decide +kernel⟩, List.mem_of_getElem? (i := 875) (by decide +kernel), List.mem_of_getElem? (i := 1245) (by decide +kernel), List.mem_of_getElem? (i := 1246) (by decide +kernel)⟩
theorem lw_p57 : lw_okq (⟨"WhichWayRoundModel", "isSo", "(II)Z"⟩, 29) := ⟨⟨by decide +kernel, by decide +kernel⟩, List.mem_of_getElem? (i := 875) (by decide +kernel), List.mem_of_getElem? (i := 1249) (by decide +kernel), List.mem_of_getElem? (i := 1250) (by decide +kernel)⟩
theorem lw_p58 : lw_okq (⟨"WhichWayRoundModel", "findQueue", "(I)V"⟩, 29) := ⟨⟨by decide +kernel, by decide +kernel⟩, List.mem_of_getElem? (i := 875) (by decide +kernel), List.mem_of_getElem? (i := 1257) (by decide +kernel), List.mem_of_getElem? (i := 1258) (by decide +kernel)⟩
theorem lw_p59 : lw_okq (⟨"WhichWayRoundModel", "passesLater", "(III)I"⟩, 29) := ⟨⟨by decide +kernel, by decide +kernel⟩, List.mem_of_getElem? (i := 875) (by decide +kernel), List.mem_of_getElem? (i := 1261) (by decide +kernel), List.mem_of_getElem? (i := 1262) (by decide +kernel)⟩
theorem lw_p60 : lw_okq (⟨"WhichWayRoundModel", "passesBalls", "(III)Z"⟩, 29) := ⟨⟨by decide +kernel, by decide +kernel⟩, List.mem_of_getElem? (i := 875) (by decide +kernel), List.mem_of_getElem? (i := 1273) (by decide +kernel), List.mem_of_getElem? (i := 1274) (by decide +kernel)⟩
theorem lw_p61 : lw_okq (⟨"WhichWayRoundModel", "waysWith", "(I)I"⟩, 29) := ⟨⟨by decide +kernel, by decide +kernel⟩, List.mem_of_getElem? (i := 875) (by decide +kernel), List.mem_of_getElem? (i := 1281) (by decide +kernel), List.mem_of_getElem? (i := 1282) (by decide +kernel)⟩
theorem lw_p62 : lw_okq (⟨"WhichWayRoundModel", "aheadOf", "(II)I"⟩, 29) := ⟨⟨by decide +kernel, by decide +kernel⟩, List.mem_of_getElem? (i := 875) (by decide +kernel), List.mem_of_getElem? (i := 1289) (by decide +kernel), List.mem_of_getElem? (i := 1290) (by decide +kernel)⟩
theorem lw_p63 : lw_okq (⟨"WhichWayRoundModel", "allPass", "()Z"⟩, 29) := ⟨⟨by decide +kernel, by decide +kernel⟩, List.mem_of_getElem? (i := 875) (by decide +kernel), List.mem_of_getElem? (i := 1301) (by decide +kernel), List.mem_of_getElem? (i := 1302) (by decide +kernel)⟩
def lw_privs_4 : List (MethodName × Nat) := [(⟨"WhichWayRoundModel", "areAll", "(III)Z"⟩, 29), (⟨"WhichWayRoundModel", "mostFaults", "(III)I"⟩, 29), (⟨"WhichWayRoundModel", "passedWays", "(II)I"⟩, 29), (⟨"WhichWayRoundModel", "passesKnowing", "(IIII)Z"⟩, 29), (⟨"WhichWayRoundModel", "lowest", "(I)J"⟩, 29), (⟨"WhichWayRoundModel", "mostApart", "(II)I"⟩, 29), (⟨"WhichWayRoundModel", "followed", "(I)I"⟩, 29), (⟨"WhichWayRoundModel", "notTold", "()I"⟩, 29), (⟨"WhichWayRoundModel", "whenSo", "(I)I"⟩, 29), (⟨"WhichWayRoundModel", "isSo", "(II)Z"⟩, 29), (⟨"WhichWayRoundModel", "findQueue", "(I)V"⟩, 29), (⟨"WhichWayRoundModel", "passesLater", "(III)I"⟩, 29), (⟨"WhichWayRoundModel", "passesBalls", "(III)Z"⟩, 29), (⟨"WhichWayRoundModel", "waysWith", "(I)I"⟩, 29), (⟨"WhichWayRoundModel", "aheadOf", "(II)I"⟩, 29), (⟨"WhichWayRoundModel", "allPass", "()Z"⟩, 29)]
theorem lw_r4 : ∀ q ∈ lw_privs_4, lw_okq q := List.forall_mem_cons.mpr ⟨lw_p48, List.forall_mem_cons.mpr ⟨lw_p49, List.forall_mem_cons.mpr ⟨lw_p50, List.forall_mem_cons.mpr ⟨lw_p51, List.forall_mem_cons.mpr ⟨lw_p52, List.forall_mem_cons.mpr ⟨lw_p53, List.forall_mem_cons.mpr ⟨lw_p54, List.forall_mem_cons.mpr ⟨lw_p55, List.forall_mem_cons.mpr ⟨lw_p56, List.forall_mem_cons.mpr ⟨lw_p57, List.forall_mem_cons.mpr ⟨lw_p58, List.forall_mem_cons.mpr ⟨lw_p59, List.forall_mem_cons.mpr ⟨lw_p60, List.forall_mem_cons.mpr ⟨lw_p61, List.forall_mem_cons.mpr ⟨lw_p62, List.forall_mem_cons.mpr ⟨lw_p63, fun _ h => absurd h List.not_mem_nil⟩⟩⟩⟩⟩⟩⟩⟩⟩⟩⟩⟩⟩⟩⟩⟩
theorem lw_p64 : lw_okq (⟨"WhichWayRoundModel", "manyPass", "(II)I"⟩, 29) := ⟨⟨by decide +kernel, by decide +kernel⟩, List.mem_of_getElem? (i := 875) (by decide +kernel), List.mem_of_getElem? (i := 1309) (by decide +kernel), List.mem_of_getElem? (i := 1310) (by decide +kernel)⟩
theorem lw_p65 : lw_okq (⟨"WhichWayRoundModel", "newPasses", "(II)Z"⟩, 29) := ⟨⟨by decide +kernel, by decide +kernel⟩, List.mem_of_getElem? (i := 875) (by decide +kernel), List.mem_of_getElem? (i := 1317) (by decide +kernel), List.mem_of_getElem? (i := 1318) (by decide +kernel)⟩
theorem lw_p66 : lw_okq (⟨"WhichWayRoundModel", "gainOf", "(II)I"⟩, 29) := ⟨⟨by decide +kernel, by decide +kernel⟩, List.mem_of_getElem? (i := 875) (by decide +kernel), List.mem_of_getElem? (i := 1325) (by decide +kernel), List.mem_of_getElem? (i := 1326) (by decide +kernel)⟩
theorem lw_p67 : lw_okq (⟨"WhichWayRoundModel", "passedAtAll", "(I)I"⟩, 29) := ⟨⟨by decide +kernel, by decide +kernel⟩, List.mem_of_getElem? (i := 875) (by decide +kernel), List.mem_of_getElem? (i := 1329) (by decide +kernel), List.mem_of_getElem? (i := 1330) (by decide +kernel)⟩
theorem lw_p68 : lw_okq (⟨"WhichWayRoundModel", "draw", "(I)I"⟩, 29) := ⟨⟨by decide +kernel, by decide +kernel⟩, List.mem_of_getElem? (i := 875) (by decide +kernel), List.mem_of_getElem? (i := 1365) (by decide +kernel), List.mem_of_getElem? (i := 1366) (by decide +kernel)⟩
def lw_privs_5 : List (MethodName × Nat) := [(⟨"WhichWayRoundModel", "manyPass", "(II)I"⟩, 29), (⟨"WhichWayRoundModel", "newPasses", "(II)Z"⟩, 29), (⟨"WhichWayRoundModel", "gainOf", "(II)I"⟩, 29), (⟨"WhichWayRoundModel", "passedAtAll", "(I)I"⟩, 29), (⟨"WhichWayRoundModel", "draw", "(I)I"⟩, 29)]
theorem lw_r5 : ∀ q ∈ lw_privs_5, lw_okq q := List.forall_mem_cons.mpr ⟨lw_p64, List.forall_mem_cons.mpr ⟨lw_p65, List.forall_mem_cons.mpr ⟨lw_p66, List.forall_mem_cons.mpr ⟨lw_p67, List.forall_mem_cons.mpr ⟨lw_p68, fun _ h => absurd h List.not_mem_nil⟩⟩⟩⟩⟩
def lw_privs : List (MethodName × Nat) := lw_privs_1 ++ (lw_privs_2 ++ (lw_privs_3 ++ (lw_privs_4 ++ (lw_privs_5))))
def lw_tbl : List Cond := k2_sels lw_privs ++ tables_1
theorem lw_privs_ok : ∀ q ∈ lw_privs, lw_okq q := by
  show ∀ q ∈ lw_privs_1 ++ (lw_privs_2 ++ (lw_privs_3 ++ (lw_privs_4 ++ (lw_privs_5)))), lw_okq q
  exact List.forall_mem_append.mpr ⟨lw_r1, List.forall_mem_append.mpr ⟨lw_r2, List.forall_mem_append.mpr ⟨lw_r3, List.forall_mem_append.mpr ⟨lw_r4, lw_r5⟩⟩⟩⟩
/-! ===== BEGIN printed: names, fields, word lists, decode rows ===== -/
def RX0 : String := "WhichWayRound$Letters"
def TX0 : u_T := fun k => match k with
  | 0 => ("WhichWayRound$Letters", "size", "I", false)
  | _ => ("WhichWayRound$Letters", "signs", "[I", true)
def tyX0 : Nat → FieldType := fun k => match k with
  | 0 => .int
  | _ => .array .int
abbrev wsX00 : List Cond := u_ws RX0 TX0 2
theorem nmX0 : ∀ a, a < 2 → ∀ b, b < 2 → a ≠ b → (TX0 a).2.1 ≠ (TX0 b).2.1 := by decide +kernel
theorem tyX0_ok : ∀ k, k < 2 → parseFieldDescriptor (TX0 k).2.2.1 = some (tyX0 k) := by decide +kernel
abbrev cX0_init : ByteArray := prog_2_method_1_code
def yX0_init : MethodName := ⟨RX0, "<init>", "()V"⟩
abbrev cX0_add : ByteArray := prog_2_method_2_code
def yX0_add : MethodName := ⟨RX0, "add", "(I)I"⟩
abbrev cX0_runOn : ByteArray := prog_2_method_3_code
def yX0_runOn : MethodName := ⟨RX0, "runOn", "(LWhichWayRound$Town;)I"⟩
abbrev cX0_firstWrongLetter : ByteArray := prog_2_method_4_code
def yX0_firstWrongLetter : MethodName := ⟨RX0, "firstWrongLetter", "()I"⟩
abbrev cX0_digitsBehind : ByteArray := prog_2_method_5_code
def yX0_digitsBehind : MethodName := ⟨RX0, "digitsBehind", "(I)I"⟩
abbrev cX0_runStatement : ByteArray := prog_2_method_6_code
def yX0_runStatement : MethodName := ⟨RX0, "runStatement", "(LWhichWayRound$Town;I)I"⟩
def RX1 : String := "WhichWayRound$OfAll"
def TX1 : u_T := fun k => match k with
  | 0 => ("WhichWayRound$OfAll", "town", "LWhichWayRound$Town;", true)
  | _ => ("WhichWayRound$OfAll", "mostOfLast", "[I", true)
def tyX1 : Nat → FieldType := fun k => match k with
  | 0 => .object "WhichWayRound$Town"
  | _ => .array .int
abbrev wsX10 : List Cond := u_ws RX1 TX1 2
theorem nmX1 : ∀ a, a < 2 → ∀ b, b < 2 → a ≠ b → (TX1 a).2.1 ≠ (TX1 b).2.1 := by decide +kernel
theorem tyX1_ok : ∀ k, k < 2 → parseFieldDescriptor (TX1 k).2.2.1 = some (tyX1 k) := by decide +kernel
abbrev cX1_init : ByteArray := prog_3_method_1_code
def yX1_init : MethodName := ⟨RX1, "<init>", "(LWhichWayRound$Town;)V"⟩
abbrev cX1_allKnown : ByteArray := prog_3_method_2_code
def yX1_allKnown : MethodName := ⟨RX1, "allKnown", "()I"⟩
abbrev cX1_queued : ByteArray := prog_3_method_3_code
def yX1_queued : MethodName := ⟨RX1, "queued", "(II)I"⟩
abbrev cX1_findMostOfLast : ByteArray := prog_3_method_4_code
def yX1_findMostOfLast : MethodName := ⟨RX1, "findMostOfLast", "(I)V"⟩
abbrev cX1_mostWithNext : ByteArray := prog_3_method_5_code
def yX1_mostWithNext : MethodName := ⟨RX1, "mostWithNext", "(IIII)I"⟩
abbrev cX1_nextOf : ByteArray := prog_3_method_6_code
def yX1_nextOf : MethodName := ⟨RX1, "nextOf", "(III)I"⟩
abbrev cX1_ranked : ByteArray := prog_3_method_7_code
def yX1_ranked : MethodName := ⟨RX1, "ranked", "(II)I"⟩
abbrev cX1_aheadOf : ByteArray := prog_3_method_8_code
def yX1_aheadOf : MethodName := ⟨RX1, "aheadOf", "(II)I"⟩
abbrev cX1_leastLimit : ByteArray := prog_3_method_9_code
def yX1_leastLimit : MethodName := ⟨RX1, "leastLimit", "()I"⟩
abbrev cX1_passersAt : ByteArray := prog_3_method_10_code
def yX1_passersAt : MethodName := ⟨RX1, "passersAt", "(II)I"⟩
abbrev cX1_hourOfMost : ByteArray := prog_3_method_11_code
def yX1_hourOfMost : MethodName := ⟨RX1, "hourOfMost", "(I)I"⟩
abbrev cX1_twosAlike : ByteArray := prog_3_method_12_code
def yX1_twosAlike : MethodName := ⟨RX1, "twosAlike", "()I"⟩
abbrev cX1_waysOf : ByteArray := prog_3_method_13_code
def yX1_waysOf : MethodName := ⟨RX1, "waysOf", "(I)I"⟩
abbrev cX1_byLot : ByteArray := prog_3_method_14_code
def yX1_byLot : MethodName := ⟨RX1, "byLot", "(III)I"⟩
abbrev cX1_drawn : ByteArray := prog_3_method_15_code
def yX1_drawn : MethodName := ⟨RX1, "drawn", "(I)I"⟩
abbrev cX1_below : ByteArray := prog_3_method_16_code
def yX1_below : MethodName := ⟨RX1, "below", "(II)I"⟩
def RX2 : String := "WhichWayRound$OfOne"
def TX2 : u_T := fun k => match k with
  | _ => ("WhichWayRound$OfOne", "town", "LWhichWayRound$Town;", true)
def tyX2 : Nat → FieldType := fun k => match k with
  | _ => .object "WhichWayRound$Town"
abbrev wsX20 : List Cond := u_ws RX2 TX2 1
theorem nmX2 : ∀ a, a < 1 → ∀ b, b < 1 → a ≠ b → (TX2 a).2.1 ≠ (TX2 b).2.1 := by decide +kernel
theorem tyX2_ok : ∀ k, k < 1 → parseFieldDescriptor (TX2 k).2.2.1 = some (tyX2 k) := by decide +kernel
abbrev cX2_init : ByteArray := prog_4_method_1_code
def yX2_init : MethodName := ⟨RX2, "<init>", "(LWhichWayRound$Town;)V"⟩
abbrev cX2_skillOf : ByteArray := prog_4_method_2_code
def yX2_skillOf : MethodName := ⟨RX2, "skillOf", "(I)I"⟩
abbrev cX2_knownOf : ByteArray := prog_4_method_3_code
def yX2_knownOf : MethodName := ⟨RX2, "knownOf", "(I)I"⟩
abbrev cX2_worstStreet : ByteArray := prog_4_method_4_code
def yX2_worstStreet : MethodName := ⟨RX2, "worstStreet", "(III)I"⟩
abbrev cX2_hourOfFewest : ByteArray := prog_4_method_5_code
def yX2_hourOfFewest : MethodName := ⟨RX2, "hourOfFewest", "(II)I"⟩
abbrev cX2_hoursPassed : ByteArray := prog_4_method_6_code
def yX2_hoursPassed : MethodName := ⟨RX2, "hoursPassed", "(II)I"⟩
abbrev cX2_wayOfFewest : ByteArray := prog_4_method_7_code
def yX2_wayOfFewest : MethodName := ⟨RX2, "wayOfFewest", "(II)I"⟩
abbrev cX2_toLearn : ByteArray := prog_4_method_8_code
def yX2_toLearn : MethodName := ⟨RX2, "toLearn", "(III)I"⟩
abbrev cX2_passesAll : ByteArray := prog_4_method_9_code
def yX2_passesAll : MethodName := ⟨RX2, "passesAll", "(IIII)Z"⟩
abbrev cX2_lessonsToPass : ByteArray := prog_4_method_10_code
def yX2_lessonsToPass : MethodName := ⟨RX2, "lessonsToPass", "(III)I"⟩
abbrev cX2_leastSkill : ByteArray := prog_4_method_11_code
def yX2_leastSkill : MethodName := ⟨RX2, "leastSkill", "(III)I"⟩
abbrev cX2_chancesWithBalls : ByteArray := prog_4_method_12_code
def yX2_chancesWithBalls : MethodName := ⟨RX2, "chancesWithBalls", "(III)J"⟩
abbrev cX2_passesWithBalls : ByteArray := prog_4_method_13_code
def yX2_passesWithBalls : MethodName := ⟨RX2, "passesWithBalls", "(III)Z"⟩
abbrev cX2_passedKnowing : ByteArray := prog_4_method_14_code
def yX2_passedKnowing : MethodName := ⟨RX2, "passedKnowing", "(II)I"⟩
abbrev cX2_gained : ByteArray := prog_4_method_15_code
def yX2_gained : MethodName := ⟨RX2, "gained", "(II)I"⟩
abbrev cX2_bestLesson : ByteArray := prog_4_method_16_code
def yX2_bestLesson : MethodName := ⟨RX2, "bestLesson", "(I)I"⟩
abbrev cX2_passedInRow : ByteArray := prog_4_method_17_code
def yX2_passedInRow : MethodName := ⟨RX2, "passedInRow", "(II)I"⟩
def RX3 : String := "WhichWayRound$OfWays"
def TX3 : u_T := fun k => match k with
  | _ => ("WhichWayRound$OfWays", "town", "LWhichWayRound$Town;", true)
def tyX3 : Nat → FieldType := fun k => match k with
  | _ => .object "WhichWayRound$Town"
abbrev wsX30 : List Cond := u_ws RX3 TX3 1
theorem nmX3 : ∀ a, a < 1 → ∀ b, b < 1 → a ≠ b → (TX3 a).2.1 ≠ (TX3 b).2.1 := by decide +kernel
theorem tyX3_ok : ∀ k, k < 1 → parseFieldDescriptor (TX3 k).2.2.1 = some (tyX3 k) := by decide +kernel
abbrev cX3_init : ByteArray := prog_5_method_1_code
def yX3_init : MethodName := ⟨RX3, "<init>", "(LWhichWayRound$Town;)V"⟩
abbrev cX3_sharedBy : ByteArray := prog_5_method_2_code
def yX3_sharedBy : MethodName := ⟨RX3, "sharedBy", "(II)I"⟩
abbrev cX3_mostAlikeTwo : ByteArray := prog_5_method_3_code
def yX3_mostAlikeTwo : MethodName := ⟨RX3, "mostAlikeTwo", "()I"⟩
abbrev cX3_mostUnlikeTwo : ByteArray := prog_5_method_4_code
def yX3_mostUnlikeTwo : MethodName := ⟨RX3, "mostUnlikeTwo", "()I"⟩
abbrev cX3_kindsOfTwo : ByteArray := prog_5_method_5_code
def yX3_kindsOfTwo : MethodName := ⟨RX3, "kindsOfTwo", "(II)I"⟩
abbrev cX3_apart : ByteArray := prog_5_method_6_code
def yX3_apart : MethodName := ⟨RX3, "apart", "(II)I"⟩
abbrev cX3_fairestSet : ByteArray := prog_5_method_7_code
def yX3_fairestSet : MethodName := ⟨RX3, "fairestSet", "(II)I"⟩
abbrev cX3_followed : ByteArray := prog_5_method_8_code
def yX3_followed : MethodName := ⟨RX3, "followed", "(I)I"⟩
abbrev cX3_testsToFollow : ByteArray := prog_5_method_9_code
def yX3_testsToFollow : MethodName := ⟨RX3, "testsToFollow", "()I"⟩
abbrev cX3_nearestSet : ByteArray := prog_5_method_10_code
def yX3_nearestSet : MethodName := ⟨RX3, "nearestSet", "(III)I"⟩
abbrev cX3_waysThrough : ByteArray := prog_5_method_11_code
def yX3_waysThrough : MethodName := ⟨RX3, "waysThrough", "(I)I"⟩
abbrev cX3_mostCrowded : ByteArray := prog_5_method_12_code
def yX3_mostCrowded : MethodName := ⟨RX3, "mostCrowded", "()I"⟩
abbrev cX3_hardestHour : ByteArray := prog_5_method_13_code
def yX3_hardestHour : MethodName := ⟨RX3, "hardestHour", "(I)I"⟩
abbrev cX3_longestWay : ByteArray := prog_5_method_14_code
def yX3_longestWay : MethodName := ⟨RX3, "longestWay", "()I"⟩
def RX4 : String := "WhichWayRound$Past"
def TX4 : u_T := fun k => match k with
  | 0 => ("WhichWayRound$Past", "size", "I", false)
  | 1 => ("WhichWayRound$Past", "place", "I", false)
  | _ => ("WhichWayRound$Past", "held", "[I", true)
def tyX4 : Nat → FieldType := fun k => match k with
  | 0 => .int
  | 1 => .int
  | _ => .array .int
abbrev wsX40 : List Cond := u_ws RX4 TX4 3
theorem nmX4 : ∀ a, a < 3 → ∀ b, b < 3 → a ≠ b → (TX4 a).2.1 ≠ (TX4 b).2.1 := by decide +kernel
theorem tyX4_ok : ∀ k, k < 3 → parseFieldDescriptor (TX4 k).2.2.1 = some (tyX4 k) := by decide +kernel
abbrev cX4_init : ByteArray := prog_6_method_1_code
def yX4_init : MethodName := ⟨RX4, "<init>", "()V"⟩
abbrev cX4_hold : ByteArray := prog_6_method_2_code
def yX4_hold : MethodName := ⟨RX4, "hold", "(LWhichWayRound$Town;)V"⟩
abbrev cX4_keep : ByteArray := prog_6_method_3_code
def yX4_keep : MethodName := ⟨RX4, "keep", "()V"⟩
abbrev cX4_takeBack : ByteArray := prog_6_method_4_code
def yX4_takeBack : MethodName := ⟨RX4, "takeBack", "(LWhichWayRound$Town;)I"⟩
def RX5 : String := "WhichWayRound$Told"
def TX5 : u_T := fun k => match k with
  | 0 => ("WhichWayRound$Told", "size", "I", false)
  | 1 => ("WhichWayRound$Told", "numbers", "[I", true)
  | _ => ("WhichWayRound$Told", "town", "LWhichWayRound$Town;", true)
def tyX5 : Nat → FieldType := fun k => match k with
  | 0 => .int
  | 1 => .array .int
  | _ => .object "WhichWayRound$Town"
abbrev wsX50 : List Cond := u_ws RX5 TX5 3
theorem nmX5 : ∀ a, a < 3 → ∀ b, b < 3 → a ≠ b → (TX5 a).2.1 ≠ (TX5 b).2.1 := by decide +kernel
theorem tyX5_ok : ∀ k, k < 3 → parseFieldDescriptor (TX5 k).2.2.1 = some (tyX5 k) := by decide +kernel
abbrev cX5_init : ByteArray := prog_7_method_1_code
def yX5_init : MethodName := ⟨RX5, "<init>", "(LWhichWayRound$Town;)V"⟩
abbrev cX5_add : ByteArray := prog_7_method_2_code
def yX5_add : MethodName := ⟨RX5, "add", "(I)I"⟩
abbrev cX5_tellsWhoPassed : ByteArray := prog_7_method_3_code
def yX5_tellsWhoPassed : MethodName := ⟨RX5, "tellsWhoPassed", "()Z"⟩
abbrev cX5_leastLimitSo : ByteArray := prog_7_method_4_code
def yX5_leastLimitSo : MethodName := ⟨RX5, "leastLimitSo", "(I)I"⟩
abbrev cX5_limitsSo : ByteArray := prog_7_method_5_code
def yX5_limitsSo : MethodName := ⟨RX5, "limitsSo", "(I)I"⟩
abbrev cX5_lowestLimit : ByteArray := prog_7_method_6_code
def yX5_lowestLimit : MethodName := ⟨RX5, "lowestLimit", "(I)I"⟩
abbrev cX5_highestLimit : ByteArray := prog_7_method_7_code
def yX5_highestLimit : MethodName := ⟨RX5, "highestLimit", "(I)I"⟩
abbrev cX5_limitOf : ByteArray := prog_7_method_8_code
def yX5_limitOf : MethodName := ⟨RX5, "limitOf", "(III)I"⟩
abbrev cX5_hoursSo : ByteArray := prog_7_method_9_code
def yX5_hoursSo : MethodName := ⟨RX5, "hoursSo", "(I)I"⟩
abbrev cX5_isSoAt : ByteArray := prog_7_method_10_code
def yX5_isSoAt : MethodName := ⟨RX5, "isSoAt", "(II)Z"⟩
abbrev cX5_firstNotSo : ByteArray := prog_7_method_11_code
def yX5_firstNotSo : MethodName := ⟨RX5, "firstNotSo", "(I)I"⟩
def RX6 : String := "WhichWayRound$Town"
def TX6 : u_T := fun k => match k with
  | 0 => ("WhichWayRound$Town", "streets", "I", false)
  | 1 => ("WhichWayRound$Town", "ways", "I", false)
  | 2 => ("WhichWayRound$Town", "learners", "I", false)
  | 3 => ("WhichWayRound$Town", "hour", "I", false)
  | 4 => ("WhichWayRound$Town", "limit", "I", false)
  | 5 => ("WhichWayRound$Town", "day", "I", false)
  | 6 => ("WhichWayRound$Town", "kindOf", "[I", true)
  | 7 => ("WhichWayRound$Town", "figureOf", "[I", true)
  | 8 => ("WhichWayRound$Town", "minutesOf", "[I", true)
  | 9 => ("WhichWayRound$Town", "streetsOf", "[I", true)
  | 10 => ("WhichWayRound$Town", "skillOf", "[I", true)
  | _ => ("WhichWayRound$Town", "knownOf", "[I", true)
def tyX6 : Nat → FieldType := fun k => match k with
  | 0 => .int
  | 1 => .int
  | 2 => .int
  | 3 => .int
  | 4 => .int
  | 5 => .int
  | 6 => .array .int
  | 7 => .array .int
  | 8 => .array .int
  | 9 => .array .int
  | 10 => .array .int
  | _ => .array .int
abbrev wsX60 : List Cond := u_ws RX6 TX6 12
theorem nmX6 : ∀ a, a < 12 → ∀ b, b < 12 → a ≠ b → (TX6 a).2.1 ≠ (TX6 b).2.1 := by decide +kernel
theorem tyX6_ok : ∀ k, k < 12 → parseFieldDescriptor (TX6 k).2.2.1 = some (tyX6 k) := by decide +kernel
abbrev cX6_init : ByteArray := prog_8_method_1_code
def yX6_init : MethodName := ⟨RX6, "<init>", "()V"⟩
abbrev cX6_copyFrom : ByteArray := prog_8_method_2_code
def yX6_copyFrom : MethodName := ⟨RX6, "copyFrom", "(LWhichWayRound$Town;)V"⟩
abbrev cX6_hasStreet : ByteArray := prog_8_method_3_code
def yX6_hasStreet : MethodName := ⟨RX6, "hasStreet", "(I)Z"⟩
abbrev cX6_hasWay : ByteArray := prog_8_method_4_code
def yX6_hasWay : MethodName := ⟨RX6, "hasWay", "(I)Z"⟩
abbrev cX6_hasLearner : ByteArray := prog_8_method_5_code
def yX6_hasLearner : MethodName := ⟨RX6, "hasLearner", "(I)Z"⟩
abbrev cX6_allStreets : ByteArray := prog_8_method_6_code
def yX6_allStreets : MethodName := ⟨RX6, "allStreets", "()I"⟩
abbrev cX6_allWays : ByteArray := prog_8_method_7_code
def yX6_allWays : MethodName := ⟨RX6, "allWays", "()I"⟩
abbrev cX6_addStreet : ByteArray := prog_8_method_8_code
def yX6_addStreet : MethodName := ⟨RX6, "addStreet", "(III)I"⟩
abbrev cX6_addWay : ByteArray := prog_8_method_9_code
def yX6_addWay : MethodName := ⟨RX6, "addWay", "(I)I"⟩
abbrev cX6_addLearner : ByteArray := prog_8_method_10_code
def yX6_addLearner : MethodName := ⟨RX6, "addLearner", "(I)I"⟩
abbrev cX6_test : ByteArray := prog_8_method_11_code
def yX6_test : MethodName := ⟨RX6, "test", "(II)I"⟩
abbrev cX6_turnKnown : ByteArray := prog_8_method_12_code
def yX6_turnKnown : MethodName := ⟨RX6, "turnKnown", "(II)I"⟩
abbrev cX6_change : ByteArray := prog_8_method_13_code
def yX6_change : MethodName := ⟨RX6, "change", "(II)I"⟩
abbrev cX6_nextDay : ByteArray := prog_8_method_14_code
def yX6_nextDay : MethodName := ⟨RX6, "nextDay", "()I"⟩
abbrev cX6_withoutGreatest : ByteArray := prog_8_method_15_code
def yX6_withoutGreatest : MethodName := ⟨RX6, "withoutGreatest", "(I)I"⟩
abbrev cX6_hardOf : ByteArray := prog_8_method_16_code
def yX6_hardOf : MethodName := ⟨RX6, "hardOf", "(II)I"⟩
abbrev cX6_ringMore : ByteArray := prog_8_method_17_code
def yX6_ringMore : MethodName := ⟨RX6, "ringMore", "(I)I"⟩
abbrev cX6_ballOf : ByteArray := prog_8_method_18_code
def yX6_ballOf : MethodName := ⟨RX6, "ballOf", "(I)I"⟩
abbrev cX6_minutesOn : ByteArray := prog_8_method_19_code
def yX6_minutesOn : MethodName := ⟨RX6, "minutesOn", "(I)I"⟩
abbrev cX6_hardOn : ByteArray := prog_8_method_20_code
def yX6_hardOn : MethodName := ⟨RX6, "hardOn", "(II)I"⟩
abbrev cX6_kindsOn : ByteArray := prog_8_method_21_code
def yX6_kindsOn : MethodName := ⟨RX6, "kindsOn", "(I)I"⟩
abbrev cX6_faultsFor : ByteArray := prog_8_method_22_code
def yX6_faultsFor : MethodName := ⟨RX6, "faultsFor", "(IIZ)I"⟩
abbrev cX6_faultsIn : ByteArray := prog_8_method_23_code
def yX6_faultsIn : MethodName := ⟨RX6, "faultsIn", "(III)I"⟩
abbrev cX6_faultsOn : ByteArray := prog_8_method_24_code
def yX6_faultsOn : MethodName := ⟨RX6, "faultsOn", "(III)I"⟩
abbrev cX6_limitToPass : ByteArray := prog_8_method_25_code
def yX6_limitToPass : MethodName := ⟨RX6, "limitToPass", "(IIII)I"⟩
abbrev cX6_passes : ByteArray := prog_8_method_26_code
def yX6_passes : MethodName := ⟨RX6, "passes", "(III)Z"⟩
abbrev cX6_waysPassed : ByteArray := prog_8_method_27_code
def yX6_waysPassed : MethodName := ⟨RX6, "waysPassed", "(III)I"⟩
def RX7 : String := "WhichWayRound"
def TX7 : u_T := fun k => match k with
  | 0 => ("WhichWayRound", "now", "LWhichWayRound$Town;", true)
  | 1 => ("WhichWayRound", "kept", "LWhichWayRound$Town;", true)
  | 2 => ("WhichWayRound", "trial", "LWhichWayRound$Town;", true)
  | 3 => ("WhichWayRound", "past", "LWhichWayRound$Past;", true)
  | 4 => ("WhichWayRound", "letters", "LWhichWayRound$Letters;", true)
  | 5 => ("WhichWayRound", "told", "LWhichWayRound$Told;", true)
  | 6 => ("WhichWayRound", "ofWays", "LWhichWayRound$OfWays;", true)
  | 7 => ("WhichWayRound", "ofOne", "LWhichWayRound$OfOne;", true)
  | 8 => ("WhichWayRound", "ofAll", "LWhichWayRound$OfAll;", true)
  | 9 => ("WhichWayRound", "refusals", "[I", true)
  | _ => ("WhichWayRound", "imageTaken", "Z", false)
def tyX7 : Nat → FieldType := fun k => match k with
  | 0 => .object "WhichWayRound$Town"
  | 1 => .object "WhichWayRound$Town"
  | 2 => .object "WhichWayRound$Town"
  | 3 => .object "WhichWayRound$Past"
  | 4 => .object "WhichWayRound$Letters"
  | 5 => .object "WhichWayRound$Told"
  | 6 => .object "WhichWayRound$OfWays"
  | 7 => .object "WhichWayRound$OfOne"
  | 8 => .object "WhichWayRound$OfAll"
  | 9 => .array .int
  | _ => .boolean
abbrev wsX70 : List Cond := u_ws RX7 TX7 11
theorem nmX7 : ∀ a, a < 11 → ∀ b, b < 11 → a ≠ b → (TX7 a).2.1 ≠ (TX7 b).2.1 := by decide +kernel
theorem tyX7_ok : ∀ k, k < 11 → parseFieldDescriptor (TX7 k).2.2.1 = some (tyX7 k) := by decide +kernel
abbrev cX7_init : ByteArray := prog_1_method_1_code
def yX7_init : MethodName := ⟨RX7, "<init>", "()V"⟩
abbrev cX7_feed : ByteArray := prog_1_method_2_code
def yX7_feed : MethodName := ⟨RX7, "feed", "(I)I"⟩
abbrev cX7_town : ByteArray := prog_1_method_3_code
def yX7_town : MethodName := ⟨RX7, "town", "()I"⟩
abbrev cX7_streetOf : ByteArray := prog_1_method_4_code
def yX7_streetOf : MethodName := ⟨RX7, "streetOf", "(II)I"⟩
abbrev cX7_learnerOf : ByteArray := prog_1_method_5_code
def yX7_learnerOf : MethodName := ⟨RX7, "learnerOf", "(II)I"⟩
abbrev cX7_street : ByteArray := prog_1_method_6_code
def yX7_street : MethodName := ⟨RX7, "street", "(III)I"⟩
abbrev cX7_way : ByteArray := prog_1_method_7_code
def yX7_way : MethodName := ⟨RX7, "way", "(I)I"⟩
abbrev cX7_learner : ByteArray := prog_1_method_8_code
def yX7_learner : MethodName := ⟨RX7, "learner", "(I)I"⟩
abbrev cX7_tests : ByteArray := prog_1_method_9_code
def yX7_tests : MethodName := ⟨RX7, "tests", "(II)I"⟩
abbrev cX7_knows : ByteArray := prog_1_method_10_code
def yX7_knows : MethodName := ⟨RX7, "knows", "(II)I"⟩
abbrev cX7_sets : ByteArray := prog_1_method_11_code
def yX7_sets : MethodName := ⟨RX7, "sets", "(II)I"⟩
abbrev cX7_day : ByteArray := prog_1_method_12_code
def yX7_day : MethodName := ⟨RX7, "day", "()I"⟩
abbrev cX7_back : ByteArray := prog_1_method_13_code
def yX7_back : MethodName := ⟨RX7, "back", "()I"⟩
abbrev cX7_wayOf : ByteArray := prog_1_method_14_code
def yX7_wayOf : MethodName := ⟨RX7, "wayOf", "(III)I"⟩
abbrev cX7_faults : ByteArray := prog_1_method_15_code
def yX7_faults : MethodName := ⟨RX7, "faults", "(IIII)I"⟩
abbrev cX7_bestHour : ByteArray := prog_1_method_16_code
def yX7_bestHour : MethodName := ⟨RX7, "bestHour", "(III)I"⟩
abbrev cX7_easiest : ByteArray := prog_1_method_17_code
def yX7_easiest : MethodName := ⟨RX7, "easiest", "(III)I"⟩
abbrev cX7_learn : ByteArray := prog_1_method_18_code
def yX7_learn : MethodName := ⟨RX7, "learn", "(III)I"⟩
abbrev cX7_drawnWay : ByteArray := prog_1_method_19_code
def yX7_drawnWay : MethodName := ⟨RX7, "drawnWay", "(III)J"⟩
abbrev cX7_alike : ByteArray := prog_1_method_20_code
def yX7_alike : MethodName := ⟨RX7, "alike", "(II)I"⟩
abbrev cX7_mostAlike : ByteArray := prog_1_method_21_code
def yX7_mostAlike : MethodName := ⟨RX7, "mostAlike", "()I"⟩
abbrev cX7_fair : ByteArray := prog_1_method_22_code
def yX7_fair : MethodName := ⟨RX7, "fair", "(II)I"⟩
abbrev cX7_moped : ByteArray := prog_1_method_23_code
def yX7_moped : MethodName := ⟨RX7, "moped", "(II)I"⟩
abbrev cX7_made : ByteArray := prog_1_method_24_code
def yX7_made : MethodName := ⟨RX7, "made", "(III)I"⟩
abbrev cX7_unlike : ByteArray := prog_1_method_25_code
def yX7_unlike : MethodName := ⟨RX7, "unlike", "()I"⟩
abbrev cX7_strict : ByteArray := prog_1_method_26_code
def yX7_strict : MethodName := ⟨RX7, "strict", "(II)I"⟩
abbrev cX7_queue : ByteArray := prog_1_method_27_code
def yX7_queue : MethodName := ⟨RX7, "queue", "(II)I"⟩
abbrev cX7_lessons : ByteArray := prog_1_method_28_code
def yX7_lessons : MethodName := ⟨RX7, "lessons", "(III)I"⟩
abbrev cX7_ball : ByteArray := prog_1_method_29_code
def yX7_ball : MethodName := ⟨RX7, "ball", "(IIII)J"⟩
abbrev cX7_crowded : ByteArray := prog_1_method_30_code
def yX7_crowded : MethodName := ⟨RX7, "crowded", "(I)I"⟩
abbrev cX7_rank : ByteArray := prog_1_method_31_code
def yX7_rank : MethodName := ⟨RX7, "rank", "(II)I"⟩
abbrev cX7_skillWanted : ByteArray := prog_1_method_32_code
def yX7_skillWanted : MethodName := ⟨RX7, "skillWanted", "(III)I"⟩
abbrev cX7_limitWanted : ByteArray := prog_1_method_33_code
def yX7_limitWanted : MethodName := ⟨RX7, "limitWanted", "()I"⟩
abbrev cX7_rush : ByteArray := prog_1_method_34_code
def yX7_rush : MethodName := ⟨RX7, "rush", "(II)I"⟩
abbrev cX7_newcomer : ByteArray := prog_1_method_35_code
def yX7_newcomer : MethodName := ⟨RX7, "newcomer", "(I)I"⟩
abbrev cX7_gain : ByteArray := prog_1_method_36_code
def yX7_gain : MethodName := ⟨RX7, "gain", "(II)I"⟩
abbrev cX7_career : ByteArray := prog_1_method_37_code
def yX7_career : MethodName := ⟨RX7, "career", "(II)I"⟩
abbrev cX7_toughest : ByteArray := prog_1_method_38_code
def yX7_toughest : MethodName := ⟨RX7, "toughest", "(I)I"⟩
abbrev cX7_equal : ByteArray := prog_1_method_39_code
def yX7_equal : MethodName := ⟨RX7, "equal", "()I"⟩
abbrev cX7_longest : ByteArray := prog_1_method_40_code
def yX7_longest : MethodName := ⟨RX7, "longest", "(I)I"⟩
abbrev cX7_row : ByteArray := prog_1_method_41_code
def yX7_row : MethodName := ⟨RX7, "row", "(I)I"⟩
abbrev cX7_judge : ByteArray := prog_1_method_42_code
def yX7_judge : MethodName := ⟨RX7, "judge", "(I)I"⟩
abbrev cX7_clear : ByteArray := prog_1_method_43_code
def yX7_clear : MethodName := ⟨RX7, "clear", "()I"⟩
abbrev cX7_lots : ByteArray := prog_1_method_44_code
def yX7_lots : MethodName := ⟨RX7, "lots", "(III)I"⟩
abbrev cX7_image : ByteArray := prog_1_method_45_code
def yX7_image : MethodName := ⟨RX7, "image", "()I"⟩
abbrev cX7_restore : ByteArray := prog_1_method_46_code
def yX7_restore : MethodName := ⟨RX7, "restore", "()I"⟩
abbrev cX7_count : ByteArray := prog_1_method_47_code
def yX7_count : MethodName := ⟨RX7, "count", "(I)I"⟩
abbrev cX7_refuse : ByteArray := prog_1_method_48_code
def yX7_refuse : MethodName := ⟨RX7, "refuse", "(I)I"⟩
abbrev cX7_refuseLong : ByteArray := prog_1_method_49_code
def yX7_refuseLong : MethodName := ⟨RX7, "refuseLong", "(I)J"⟩
abbrev cX7_grown : ByteArray := prog_1_method_50_code
def yX7_grown : MethodName := ⟨RX7, "grown", "(I)I"⟩
abbrev cX7_changed : ByteArray := prog_1_method_51_code
def yX7_changed : MethodName := ⟨RX7, "changed", "(I)I"⟩
abbrev cX7_at : ByteArray := prog_1_method_52_code
def yX7_at : MethodName := ⟨RX7, "at", "([II)I"⟩
abbrev cX7_store : ByteArray := prog_1_method_53_code
def yX7_store : MethodName := ⟨RX7, "store", "([III)V"⟩
abbrev cX7_copyRow : ByteArray := prog_1_method_54_code
def yX7_copyRow : MethodName := ⟨RX7, "copyRow", "([I[II)V"⟩
abbrev cX7_has : ByteArray := prog_1_method_55_code
def yX7_has : MethodName := ⟨RX7, "has", "(II)Z"⟩
abbrev cX7_isHour : ByteArray := prog_1_method_56_code
def yX7_isHour : MethodName := ⟨RX7, "isHour", "(I)Z"⟩
abbrev cX7_isEither : ByteArray := prog_1_method_57_code
def yX7_isEither : MethodName := ⟨RX7, "isEither", "(I)Z"⟩
abbrev cX7_remainder : ByteArray := prog_1_method_58_code
def yX7_remainder : MethodName := ⟨RX7, "remainder", "(II)I"⟩
abbrev cX7_power : ByteArray := prog_1_method_59_code
def yX7_power : MethodName := ⟨RX7, "power", "(II)J"⟩
abbrev cX7_partOf : ByteArray := prog_1_method_60_code
def yX7_partOf : MethodName := ⟨RX7, "partOf", "(JJI)J"⟩
abbrev cX7_greatestDivisor : ByteArray := prog_1_method_61_code
def yX7_greatestDivisor : MethodName := ⟨RX7, "greatestDivisor", "(JJ)J"⟩
def RX8 : String := "WhichWayRoundModel"
def TX8 : u_T := fun k => match k with
  | 0 => ("WhichWayRoundModel", "refused", "[I", true)
  | 1 => ("WhichWayRoundModel", "kind", "[I", true)
  | 2 => ("WhichWayRoundModel", "figure", "[I", true)
  | 3 => ("WhichWayRoundModel", "minutes", "[I", true)
  | 4 => ("WhichWayRoundModel", "through", "[I", true)
  | 5 => ("WhichWayRoundModel", "skill", "[I", true)
  | 6 => ("WhichWayRoundModel", "known", "[I", true)
  | 7 => ("WhichWayRoundModel", "streets", "I", false)
  | 8 => ("WhichWayRoundModel", "ways", "I", false)
  | 9 => ("WhichWayRoundModel", "learners", "I", false)
  | 10 => ("WhichWayRoundModel", "hour", "I", false)
  | 11 => ("WhichWayRoundModel", "limit", "I", false)
  | 12 => ("WhichWayRoundModel", "day", "I", false)
  | 13 => ("WhichWayRoundModel", "tape", "[I", true)
  | 14 => ("WhichWayRoundModel", "letter", "[I", true)
  | 15 => ("WhichWayRoundModel", "letterAt", "[I", true)
  | 16 => ("WhichWayRoundModel", "told", "[I", true)
  | 17 => ("WhichWayRoundModel", "taped", "I", false)
  | 18 => ("WhichWayRoundModel", "at", "I", false)
  | 19 => ("WhichWayRoundModel", "statements", "I", false)
  | 20 => ("WhichWayRoundModel", "kept", "[I", true)
  | 21 => ("WhichWayRoundModel", "hasImage", "Z", false)
  | 22 => ("WhichWayRoundModel", "isKeeping", "Z", false)
  | 23 => ("WhichWayRoundModel", "cursor", "I", false)
  | 24 => ("WhichWayRoundModel", "backs", "I", false)
  | 25 => ("WhichWayRoundModel", "row", "[I", true)
  | 26 => ("WhichWayRoundModel", "rowMany", "I", false)
  | 27 => ("WhichWayRoundModel", "mostBy", "[I", true)
  | _ => ("WhichWayRoundModel", "lots", "I", false)
def tyX8 : Nat → FieldType := fun k => match k with
  | 0 => .array .int
  | 1 => .array .int
  | 2 => .array .int
  | 3 => .array .int
  | 4 => .array .int
  | 5 => .array .int
  | 6 => .array .int
  | 7 => .int
  | 8 => .int
  | 9 => .int
  | 10 => .int
  | 11 => .int
  | 12 => .int
  | 13 => .array .int
  | 14 => .array .int
  | 15 => .array .int
  | 16 => .array .int
  | 17 => .int
  | 18 => .int
  | 19 => .int
  | 20 => .array .int
  | 21 => .boolean
  | 22 => .boolean
  | 23 => .int
  | 24 => .int
  | 25 => .array .int
  | 26 => .int
  | 27 => .array .int
  | _ => .int
abbrev wsX80 : List Cond := u_ws RX8 TX8 29
theorem nmX8 : ∀ a, a < 29 → ∀ b, b < 29 → a ≠ b → (TX8 a).2.1 ≠ (TX8 b).2.1 := by decide +kernel
theorem tyX8_ok : ∀ k, k < 29 → parseFieldDescriptor (TX8 k).2.2.1 = some (tyX8 k) := by decide +kernel
abbrev cX8_init : ByteArray := prog_10_method_1_code
def yX8_init : MethodName := ⟨RX8, "<init>", "()V"⟩
abbrev cX8_no : ByteArray := prog_10_method_2_code
def yX8_no : MethodName := ⟨RX8, "no", "(I)I"⟩
abbrev cX8_lowest : ByteArray := prog_10_method_3_code
def yX8_lowest : MethodName := ⟨RX8, "lowest", "(I)J"⟩
abbrev cX8_isIn : ByteArray := prog_10_method_4_code
def yX8_isIn : MethodName := ⟨RX8, "isIn", "(III)Z"⟩
abbrev cX8_bound : ByteArray := prog_10_method_5_code
def yX8_bound : MethodName := ⟨RX8, "bound", "(III)I"⟩
abbrev cX8_has : ByteArray := prog_10_method_6_code
def yX8_has : MethodName := ⟨RX8, "has", "(II)Z"⟩
abbrev cX8_bits : ByteArray := prog_10_method_7_code
def yX8_bits : MethodName := ⟨RX8, "bits", "(I)I"⟩
abbrev cX8_apart : ByteArray := prog_10_method_8_code
def yX8_apart : MethodName := ⟨RX8, "apart", "(II)I"⟩
abbrev cX8_isStreet : ByteArray := prog_10_method_9_code
def yX8_isStreet : MethodName := ⟨RX8, "isStreet", "(I)Z"⟩
abbrev cX8_isWay : ByteArray := prog_10_method_10_code
def yX8_isWay : MethodName := ⟨RX8, "isWay", "(I)Z"⟩
abbrev cX8_isLearner : ByteArray := prog_10_method_11_code
def yX8_isLearner : MethodName := ⟨RX8, "isLearner", "(I)Z"⟩
abbrev cX8_isHour : ByteArray := prog_10_method_12_code
def yX8_isHour : MethodName := ⟨RX8, "isHour", "(I)Z"⟩
abbrev cX8_feed : ByteArray := prog_10_method_13_code
def yX8_feed : MethodName := ⟨RX8, "feed", "(I)I"⟩
abbrev cX8_next : ByteArray := prog_10_method_14_code
def yX8_next : MethodName := ⟨RX8, "next", "()I"⟩
abbrev cX8_readsDigits : ByteArray := prog_10_method_15_code
def yX8_readsDigits : MethodName := ⟨RX8, "readsDigits", "(II)Z"⟩
abbrev cX8_readsAll : ByteArray := prog_10_method_16_code
def yX8_readsAll : MethodName := ⟨RX8, "readsAll", "(II)Z"⟩
abbrev cX8_isLetter : ByteArray := prog_10_method_17_code
def yX8_isLetter : MethodName := ⟨RX8, "isLetter", "(I)Z"⟩
abbrev cX8_statement : ByteArray := prog_10_method_18_code
def yX8_statement : MethodName := ⟨RX8, "statement", "()Z"⟩
abbrev cX8_comesNew : ByteArray := prog_10_method_19_code
def yX8_comesNew : MethodName := ⟨RX8, "comesNew", "(II)Z"⟩
abbrev cX8_comesOne : ByteArray := prog_10_method_20_code
def yX8_comesOne : MethodName := ⟨RX8, "comesOne", "(III)Z"⟩
abbrev cX8_comes : ByteArray := prog_10_method_21_code
def yX8_comes : MethodName := ⟨RX8, "comes", "(I)Z"⟩
abbrev cX8_town : ByteArray := prog_10_method_22_code
def yX8_town : MethodName := ⟨RX8, "town", "()I"⟩
abbrev cX8_passes : ByteArray := prog_10_method_23_code
def yX8_passes : MethodName := ⟨RX8, "passes", "([I)V"⟩
abbrev cX8_passOne : ByteArray := prog_10_method_24_code
def yX8_passOne : MethodName := ⟨RX8, "passOne", "(I)I"⟩
abbrev cX8_passesAll : ByteArray := prog_10_method_25_code
def yX8_passesAll : MethodName := ⟨RX8, "passesAll", "(IZ)V"⟩
abbrev cX8_keepsBack : ByteArray := prog_10_method_26_code
def yX8_keepsBack : MethodName := ⟨RX8, "keepsBack", "()V"⟩
abbrev cX8_back : ByteArray := prog_10_method_27_code
def yX8_back : MethodName := ⟨RX8, "back", "()I"⟩
abbrev cX8_image : ByteArray := prog_10_method_28_code
def yX8_image : MethodName := ⟨RX8, "image", "()I"⟩
abbrev cX8_restore : ByteArray := prog_10_method_29_code
def yX8_restore : MethodName := ⟨RX8, "restore", "()I"⟩
abbrev cX8_addsStreet : ByteArray := prog_10_method_30_code
def yX8_addsStreet : MethodName := ⟨RX8, "addsStreet", "(III)V"⟩
abbrev cX8_addsLearner : ByteArray := prog_10_method_31_code
def yX8_addsLearner : MethodName := ⟨RX8, "addsLearner", "(I)V"⟩
abbrev cX8_hardOf : ByteArray := prog_10_method_32_code
def yX8_hardOf : MethodName := ⟨RX8, "hardOf", "(II)I"⟩
abbrev cX8_ballOf : ByteArray := prog_10_method_33_code
def yX8_ballOf : MethodName := ⟨RX8, "ballOf", "(I)I"⟩
abbrev cX8_faultsIn : ByteArray := prog_10_method_34_code
def yX8_faultsIn : MethodName := ⟨RX8, "faultsIn", "(III)I"⟩
abbrev cX8_faultsOn : ByteArray := prog_10_method_35_code
def yX8_faultsOn : MethodName := ⟨RX8, "faultsOn", "(III)I"⟩
abbrev cX8_isPassed : ByteArray := prog_10_method_36_code
def yX8_isPassed : MethodName := ⟨RX8, "isPassed", "(III)Z"⟩
abbrev cX8_passesWay : ByteArray := prog_10_method_37_code
def yX8_passesWay : MethodName := ⟨RX8, "passesWay", "(III)Z"⟩
abbrev cX8_passedWays : ByteArray := prog_10_method_38_code
def yX8_passedWays : MethodName := ⟨RX8, "passedWays", "(II)I"⟩
abbrev cX8_goesDay : ByteArray := prog_10_method_39_code
def yX8_goesDay : MethodName := ⟨RX8, "goesDay", "()V"⟩
abbrev cX8_streetOf : ByteArray := prog_10_method_40_code
def yX8_streetOf : MethodName := ⟨RX8, "streetOf", "(II)I"⟩
abbrev cX8_learnerOf : ByteArray := prog_10_method_41_code
def yX8_learnerOf : MethodName := ⟨RX8, "learnerOf", "(II)I"⟩
abbrev cX8_street : ByteArray := prog_10_method_42_code
def yX8_street : MethodName := ⟨RX8, "street", "(III)I"⟩
abbrev cX8_way : ByteArray := prog_10_method_43_code
def yX8_way : MethodName := ⟨RX8, "way", "(I)I"⟩
abbrev cX8_learner : ByteArray := prog_10_method_44_code
def yX8_learner : MethodName := ⟨RX8, "learner", "(I)I"⟩
abbrev cX8_tests : ByteArray := prog_10_method_45_code
def yX8_tests : MethodName := ⟨RX8, "tests", "(II)I"⟩
abbrev cX8_knows : ByteArray := prog_10_method_46_code
def yX8_knows : MethodName := ⟨RX8, "knows", "(II)I"⟩
abbrev cX8_sets : ByteArray := prog_10_method_47_code
def yX8_sets : MethodName := ⟨RX8, "sets", "(II)I"⟩
abbrev cX8_day : ByteArray := prog_10_method_48_code
def yX8_day : MethodName := ⟨RX8, "day", "()I"⟩
abbrev cX8_minutesOf : ByteArray := prog_10_method_49_code
def yX8_minutesOf : MethodName := ⟨RX8, "minutesOf", "(I)I"⟩
abbrev cX8_hardOn : ByteArray := prog_10_method_50_code
def yX8_hardOn : MethodName := ⟨RX8, "hardOn", "(II)I"⟩
abbrev cX8_kindsOf : ByteArray := prog_10_method_51_code
def yX8_kindsOf : MethodName := ⟨RX8, "kindsOf", "(I)I"⟩
abbrev cX8_wayOf : ByteArray := prog_10_method_52_code
def yX8_wayOf : MethodName := ⟨RX8, "wayOf", "(III)I"⟩
abbrev cX8_mostFaults : ByteArray := prog_10_method_53_code
def yX8_mostFaults : MethodName := ⟨RX8, "mostFaults", "(III)I"⟩
abbrev cX8_areAll : ByteArray := prog_10_method_54_code
def yX8_areAll : MethodName := ⟨RX8, "areAll", "(III)Z"⟩
abbrev cX8_faults : ByteArray := prog_10_method_55_code
def yX8_faults : MethodName := ⟨RX8, "faults", "(IIII)I"⟩
abbrev cX8_bestHour : ByteArray := prog_10_method_56_code
def yX8_bestHour : MethodName := ⟨RX8, "bestHour", "(III)I"⟩
abbrev cX8_easiest : ByteArray := prog_10_method_57_code
def yX8_easiest : MethodName := ⟨RX8, "easiest", "(III)I"⟩
abbrev cX8_passesKnowing : ByteArray := prog_10_method_58_code
def yX8_passesKnowing : MethodName := ⟨RX8, "passesKnowing", "(IIII)Z"⟩
abbrev cX8_learn : ByteArray := prog_10_method_59_code
def yX8_learn : MethodName := ⟨RX8, "learn", "(III)I"⟩
abbrev cX8_divisor : ByteArray := prog_10_method_60_code
def yX8_divisor : MethodName := ⟨RX8, "divisor", "(JJ)J"⟩
abbrev cX8_partOf : ByteArray := prog_10_method_61_code
def yX8_partOf : MethodName := ⟨RX8, "partOf", "(JJI)J"⟩
abbrev cX8_drawnWay : ByteArray := prog_10_method_62_code
def yX8_drawnWay : MethodName := ⟨RX8, "drawnWay", "(III)J"⟩
abbrev cX8_alike : ByteArray := prog_10_method_63_code
def yX8_alike : MethodName := ⟨RX8, "alike", "(II)I"⟩
abbrev cX8_mostAlike : ByteArray := prog_10_method_64_code
def yX8_mostAlike : MethodName := ⟨RX8, "mostAlike", "()I"⟩
abbrev cX8_mostApart : ByteArray := prog_10_method_65_code
def yX8_mostApart : MethodName := ⟨RX8, "mostApart", "(II)I"⟩
abbrev cX8_fair : ByteArray := prog_10_method_66_code
def yX8_fair : MethodName := ⟨RX8, "fair", "(II)I"⟩
abbrev cX8_followed : ByteArray := prog_10_method_67_code
def yX8_followed : MethodName := ⟨RX8, "followed", "(I)I"⟩
abbrev cX8_moped : ByteArray := prog_10_method_68_code
def yX8_moped : MethodName := ⟨RX8, "moped", "(II)I"⟩
abbrev cX8_made : ByteArray := prog_10_method_69_code
def yX8_made : MethodName := ⟨RX8, "made", "(III)I"⟩
abbrev cX8_unlike : ByteArray := prog_10_method_70_code
def yX8_unlike : MethodName := ⟨RX8, "unlike", "()I"⟩
abbrev cX8_isSo : ByteArray := prog_10_method_71_code
def yX8_isSo : MethodName := ⟨RX8, "isSo", "(II)Z"⟩
abbrev cX8_notTold : ByteArray := prog_10_method_72_code
def yX8_notTold : MethodName := ⟨RX8, "notTold", "()I"⟩
abbrev cX8_whenSo : ByteArray := prog_10_method_73_code
def yX8_whenSo : MethodName := ⟨RX8, "whenSo", "(I)I"⟩
abbrev cX8_strict : ByteArray := prog_10_method_74_code
def yX8_strict : MethodName := ⟨RX8, "strict", "(II)I"⟩
abbrev cX8_passesLater : ByteArray := prog_10_method_75_code
def yX8_passesLater : MethodName := ⟨RX8, "passesLater", "(III)I"⟩
abbrev cX8_findQueue : ByteArray := prog_10_method_76_code
def yX8_findQueue : MethodName := ⟨RX8, "findQueue", "(I)V"⟩
abbrev cX8_queue : ByteArray := prog_10_method_77_code
def yX8_queue : MethodName := ⟨RX8, "queue", "(II)I"⟩
abbrev cX8_lessons : ByteArray := prog_10_method_78_code
def yX8_lessons : MethodName := ⟨RX8, "lessons", "(III)I"⟩
abbrev cX8_passesBalls : ByteArray := prog_10_method_79_code
def yX8_passesBalls : MethodName := ⟨RX8, "passesBalls", "(III)Z"⟩
abbrev cX8_ball : ByteArray := prog_10_method_80_code
def yX8_ball : MethodName := ⟨RX8, "ball", "(IIII)J"⟩
abbrev cX8_waysWith : ByteArray := prog_10_method_81_code
def yX8_waysWith : MethodName := ⟨RX8, "waysWith", "(I)I"⟩
abbrev cX8_crowded : ByteArray := prog_10_method_82_code
def yX8_crowded : MethodName := ⟨RX8, "crowded", "(I)I"⟩
abbrev cX8_aheadOf : ByteArray := prog_10_method_83_code
def yX8_aheadOf : MethodName := ⟨RX8, "aheadOf", "(II)I"⟩
abbrev cX8_rank : ByteArray := prog_10_method_84_code
def yX8_rank : MethodName := ⟨RX8, "rank", "(II)I"⟩
abbrev cX8_skillWanted : ByteArray := prog_10_method_85_code
def yX8_skillWanted : MethodName := ⟨RX8, "skillWanted", "(III)I"⟩
abbrev cX8_allPass : ByteArray := prog_10_method_86_code
def yX8_allPass : MethodName := ⟨RX8, "allPass", "()Z"⟩
abbrev cX8_limitWanted : ByteArray := prog_10_method_87_code
def yX8_limitWanted : MethodName := ⟨RX8, "limitWanted", "()I"⟩
abbrev cX8_manyPass : ByteArray := prog_10_method_88_code
def yX8_manyPass : MethodName := ⟨RX8, "manyPass", "(II)I"⟩
abbrev cX8_rush : ByteArray := prog_10_method_89_code
def yX8_rush : MethodName := ⟨RX8, "rush", "(II)I"⟩
abbrev cX8_newPasses : ByteArray := prog_10_method_90_code
def yX8_newPasses : MethodName := ⟨RX8, "newPasses", "(II)Z"⟩
abbrev cX8_newcomer : ByteArray := prog_10_method_91_code
def yX8_newcomer : MethodName := ⟨RX8, "newcomer", "(I)I"⟩
abbrev cX8_passedAtAll : ByteArray := prog_10_method_92_code
def yX8_passedAtAll : MethodName := ⟨RX8, "passedAtAll", "(I)I"⟩
abbrev cX8_gainOf : ByteArray := prog_10_method_93_code
def yX8_gainOf : MethodName := ⟨RX8, "gainOf", "(II)I"⟩
abbrev cX8_gain : ByteArray := prog_10_method_94_code
def yX8_gain : MethodName := ⟨RX8, "gain", "(II)I"⟩
abbrev cX8_career : ByteArray := prog_10_method_95_code
def yX8_career : MethodName := ⟨RX8, "career", "(II)I"⟩
abbrev cX8_toughest : ByteArray := prog_10_method_96_code
def yX8_toughest : MethodName := ⟨RX8, "toughest", "(I)I"⟩
abbrev cX8_equal : ByteArray := prog_10_method_97_code
def yX8_equal : MethodName := ⟨RX8, "equal", "()I"⟩
abbrev cX8_longest : ByteArray := prog_10_method_98_code
def yX8_longest : MethodName := ⟨RX8, "longest", "(I)I"⟩
abbrev cX8_row : ByteArray := prog_10_method_99_code
def yX8_row : MethodName := ⟨RX8, "row", "(I)I"⟩
abbrev cX8_judge : ByteArray := prog_10_method_100_code
def yX8_judge : MethodName := ⟨RX8, "judge", "(I)I"⟩
abbrev cX8_clear : ByteArray := prog_10_method_101_code
def yX8_clear : MethodName := ⟨RX8, "clear", "()I"⟩
abbrev cX8_draw : ByteArray := prog_10_method_102_code
def yX8_draw : MethodName := ⟨RX8, "draw", "(I)I"⟩
abbrev cX8_lots : ByteArray := prog_10_method_103_code
def yX8_lots : MethodName := ⟨RX8, "lots", "(III)I"⟩
abbrev cX8_count : ByteArray := prog_10_method_104_code
def yX8_count : MethodName := ⟨RX8, "count", "(I)I"⟩
def RJ6 : String := "java/lang/Integer"
def TJ6 : u_T := fun k => match k with
  | _ => ("", "", "", false)
def tyJ6 : Nat → FieldType := fun k => match k with
  | _ => .int
abbrev wsJ60 : List Cond := u_ws RJ6 TJ6 0
theorem nmJ6 : ∀ a, a < 0 → ∀ b, b < 0 → a ≠ b → (TJ6 a).2.1 ≠ (TJ6 b).2.1 := by decide +kernel
theorem tyJ6_ok : ∀ k, k < 0 → parseFieldDescriptor (TJ6 k).2.2.1 = some (tyJ6 k) := by decide +kernel
abbrev cJ6_bitCount_0f7a4 : ByteArray := prog_11_method_49_code
def yJ6_bitCount_0f7a4 : MethodName := ⟨RJ6, "bitCount", "(I)I"⟩
def RJ9 : String := "java/lang/Math"
def TJ9 : u_T := fun k => match k with
  | _ => ("", "", "", false)
def tyJ9 : Nat → FieldType := fun k => match k with
  | _ => .int
abbrev wsJ90 : List Cond := u_ws RJ9 TJ9 0
theorem nmJ9 : ∀ a, a < 0 → ∀ b, b < 0 → a ≠ b → (TJ9 a).2.1 ≠ (TJ9 b).2.1 := by decide +kernel
theorem tyJ9_ok : ∀ k, k < 0 → parseFieldDescriptor (TJ9 k).2.2.1 = some (tyJ9 k) := by decide +kernel
abbrev cJ9_abs_0f7a4 : ByteArray := prog_12_method_59_code
def yJ9_abs_0f7a4 : MethodName := ⟨RJ9, "abs", "(I)I"⟩
abbrev cJ9_max_7cf53 : ByteArray := prog_12_method_65_code
def yJ9_max_7cf53 : MethodName := ⟨RJ9, "max", "(II)I"⟩
abbrev cJ9_min_7cf53 : ByteArray := prog_12_method_69_code
def yJ9_min_7cf53 : MethodName := ⟨RJ9, "min", "(II)I"⟩
def RL : String := "WhichWayRoundLaw"
abbrev cL_law : ByteArray := code
def yL_law : MethodName := ⟨RL, "law", "([I)Z"⟩
abbrev vwCl : List vw_C := [(RX0, TX0, 2), (RX1, TX1, 2), (RX2, TX2, 1), (RX3, TX3, 1), (RX4, TX4, 3), (RX5, TX5, 3), (RX6, TX6, 12), (RX7, TX7, 11), (RX8, TX8, 29)]

def GW : List Cond := lw_tbl.filter goodWord
theorem gw_mem {w : Cond} (i : Nat) (h : lw_tbl[i]? = some w) (hg : goodWord w = true) : w ∈ GW := List.mem_filter.mpr ⟨List.mem_of_getElem? h, hg⟩
theorem gw_sub {ws : List Cond} (ps : List Nat) (hp : ws = ps.filterMap (fun i => lw_tbl[i]?)) (h : ws.all goodWord = true) : ∀ w ∈ ws, w ∈ GW := by
  intro w hw
  have h1 := List.all_eq_true.mp h w hw
  rw [hp] at hw
  obtain ⟨i, -, hi⟩ := List.mem_filterMap.mp hw
  exact List.mem_filter.mpr ⟨List.mem_of_getElem? hi, h1⟩
theorem gw_pay {args : Array Value} {s : State} {y : MethodName} {b : ByteArray} {mL : Nat} {ret : Option FieldType} (hts : ∀ w ∈ GW, w.before args s = true) (hc : Cond.code y b mL ret ∈ GW) : ∀ w ∈ (Cond.code y b mL ret :: GW), ∀ (a' : Array Value) (U : State), s.WarmedH U.vm → w.before a' U = true := by
  refine pay_in hts (fun w hw => ?_)
  have hm : w ∈ GW := by
    rcases List.mem_cons.mp hw with h | h
    · rw [h]; exact hc
    · exact h
  exact ⟨hm, good_of_word (List.mem_filter.mp hm).2⟩
def nwL : List (String × Nat × MethodName × String) := [("WhichWayRound$Letters", 19, ⟨"WhichWayRound", "store", "([III)V"⟩, "WhichWayRound"), ("WhichWayRound$Town", 49, ⟨"WhichWayRound", "copyRow", "([I[II)V"⟩, "WhichWayRound"), ("WhichWayRound$Letters", 31, ⟨"WhichWayRound", "at", "([II)I"⟩, "WhichWayRound"), ("WhichWayRound$Town", 53, ⟨"WhichWayRound", "store", "([III)V"⟩, "WhichWayRound"), ("WhichWayRound$Town", 72, ⟨"WhichWayRound", "at", "([II)I"⟩, "WhichWayRound"), ("WhichWayRound$Town", 79, ⟨"WhichWayRound", "has", "(II)Z"⟩, "WhichWayRound"), ("WhichWayRound$Town", 83, ⟨"WhichWayRound", "isEither", "(I)Z"⟩, "WhichWayRound"), ("WhichWayRound$Past", 27, ⟨"WhichWayRound", "store", "([III)V"⟩, "WhichWayRound"), ("WhichWayRound$Past", 40, ⟨"WhichWayRound", "at", "([II)I"⟩, "WhichWayRound"), ("WhichWayRound$OfOne", 21, ⟨"WhichWayRound", "at", "([II)I"⟩, "WhichWayRound"), ("WhichWayRound$OfOne", 35, ⟨"WhichWayRound", "has", "(II)Z"⟩, "WhichWayRound"), ("WhichWayRound$OfWays", 21, ⟨"WhichWayRound", "at", "([II)I"⟩, "WhichWayRound"), ("WhichWayRound$OfWays", 49, ⟨"WhichWayRound", "has", "(II)Z"⟩, "WhichWayRound"), ("WhichWayRound$Told", 32, ⟨"WhichWayRound", "at", "([II)I"⟩, "WhichWayRound"), ("WhichWayRound$OfAll", 46, ⟨"WhichWayRound", "store", "([III)V"⟩, "WhichWayRound"), ("WhichWayRound$OfAll", 50, ⟨"WhichWayRound", "has", "(II)Z"⟩, "WhichWayRound"), ("WhichWayRound$OfAll", 28, ⟨"WhichWayRound", "at", "([II)I"⟩, "WhichWayRound"), ("WhichWayRound$OfOne", 81, ⟨"WhichWayRound", "power", "(II)J"⟩, "WhichWayRound"), ("WhichWayRound$OfOne", 98, ⟨"WhichWayRound", "remainder", "(II)I"⟩, "WhichWayRound"), ("WhichWayRound$Told", 23, ⟨"WhichWayRound", "store", "([III)V"⟩, "WhichWayRound"), ("WhichWayRound$OfAll", 95, ⟨"WhichWayRound", "remainder", "(II)I"⟩, "WhichWayRound")]
