section
/-! Tables and names: PART A of the skeleton, the printed names, and the tables of links that the machine of part 02 reads. Written by gen/p01.py. -/
-- ===== PART A: goes FIRST, ahead of the names: the tables' words, and 'selects' of the private methods out of them =====
/-- a private method of a class that the tables say can be made, by its rows of tables_1 -/
def lw_okq (q : MethodName × Nat) : Prop := (q.1.cls ≠ "java/lang/invoke/MethodHandle" ∧ q.1.cls ≠ "java/lang/invoke/VarHandle") ∧ Cond.instantiable q.1.cls q.2 ∈ tables_1 ∧ Cond.privateMethod q.1 ∈ tables_1 ∧ Cond.instanceMethod q.1 ∈ tables_1
theorem lw_p0 : lw_okq (⟨"PairingHall", "askWorth", "(I)I"⟩, 15) := ⟨⟨by decide +kernel, by decide +kernel⟩, List.mem_of_getElem? (i := 15) (by decide +kernel), List.mem_of_getElem? (i := 403) (by decide +kernel), List.mem_of_getElem? (i := 404) (by decide +kernel)⟩
theorem lw_p1 : lw_okq (⟨"PairingHall$Roster", "soloWorth", "(ILPairingHall$Log;)I"⟩, 5) := ⟨⟨by decide +kernel, by decide +kernel⟩, List.mem_of_getElem? (i := 43) (by decide +kernel), List.mem_of_getElem? (i := 412) (by decide +kernel), List.mem_of_getElem? (i := 413) (by decide +kernel)⟩
theorem lw_p2 : lw_okq (⟨"PairingHall", "openNext", "()I"⟩, 15) := ⟨⟨by decide +kernel, by decide +kernel⟩, List.mem_of_getElem? (i := 15) (by decide +kernel), List.mem_of_getElem? (i := 446) (by decide +kernel), List.mem_of_getElem? (i := 447) (by decide +kernel)⟩
theorem lw_p3 : lw_okq (⟨"PairingHall", "isTournament", "(I)Z"⟩, 15) := ⟨⟨by decide +kernel, by decide +kernel⟩, List.mem_of_getElem? (i := 15) (by decide +kernel), List.mem_of_getElem? (i := 454) (by decide +kernel), List.mem_of_getElem? (i := 455) (by decide +kernel)⟩
theorem lw_p4 : lw_okq (⟨"PairingHall", "drawRound", "(II)I"⟩, 15) := ⟨⟨by decide +kernel, by decide +kernel⟩, List.mem_of_getElem? (i := 15) (by decide +kernel), List.mem_of_getElem? (i := 482) (by decide +kernel), List.mem_of_getElem? (i := 483) (by decide +kernel)⟩
theorem lw_p5 : lw_okq (⟨"PairingHall$Drawing", "recallPair", "(II)V"⟩, 13) := ⟨⟨by decide +kernel, by decide +kernel⟩, List.mem_of_getElem? (i := 113) (by decide +kernel), List.mem_of_getElem? (i := 523) (by decide +kernel), List.mem_of_getElem? (i := 524) (by decide +kernel)⟩
theorem lw_p6 : lw_okq (⟨"PairingHall$Drawing", "recallSpot", "(II)V"⟩, 13) := ⟨⟨by decide +kernel, by decide +kernel⟩, List.mem_of_getElem? (i := 113) (by decide +kernel), List.mem_of_getElem? (i := 527) (by decide +kernel), List.mem_of_getElem? (i := 528) (by decide +kernel)⟩
theorem lw_p7 : lw_okq (⟨"PairingHall$Drawing", "recallColour", "(II)V"⟩, 13) := ⟨⟨by decide +kernel, by decide +kernel⟩, List.mem_of_getElem? (i := 113) (by decide +kernel), List.mem_of_getElem? (i := 531) (by decide +kernel), List.mem_of_getElem? (i := 532) (by decide +kernel)⟩
theorem lw_p8 : lw_okq (⟨"PairingHall$Drawing", "basePrice", "(III)I"⟩, 13) := ⟨⟨by decide +kernel, by decide +kernel⟩, List.mem_of_getElem? (i := 113) (by decide +kernel), List.mem_of_getElem? (i := 541) (by decide +kernel), List.mem_of_getElem? (i := 542) (by decide +kernel)⟩
theorem lw_p9 : lw_okq (⟨"PairingHall$Drawing", "priceTwo", "(III)V"⟩, 13) := ⟨⟨by decide +kernel, by decide +kernel⟩, List.mem_of_getElem? (i := 113) (by decide +kernel), List.mem_of_getElem? (i := 546) (by decide +kernel), List.mem_of_getElem? (i := 547) (by decide +kernel)⟩
theorem lw_p10 : lw_okq (⟨"PairingHall$Drawing", "colourPrice", "(II)I"⟩, 13) := ⟨⟨by decide +kernel, by decide +kernel⟩, List.mem_of_getElem? (i := 113) (by decide +kernel), List.mem_of_getElem? (i := 550) (by decide +kernel), List.mem_of_getElem? (i := 551) (by decide +kernel)⟩
theorem lw_p11 : lw_okq (⟨"PairingHall$Drawing", "search", "(IZI)V"⟩, 13) := ⟨⟨by decide +kernel, by decide +kernel⟩, List.mem_of_getElem? (i := 113) (by decide +kernel), List.mem_of_getElem? (i := 561) (by decide +kernel), List.mem_of_getElem? (i := 562) (by decide +kernel)⟩
theorem lw_p12 : lw_okq (⟨"PairingHall$Drawing", "firstFree", "()I"⟩, 13) := ⟨⟨by decide +kernel, by decide +kernel⟩, List.mem_of_getElem? (i := 113) (by decide +kernel), List.mem_of_getElem? (i := 565) (by decide +kernel), List.mem_of_getElem? (i := 566) (by decide +kernel)⟩
theorem lw_p13 : lw_okq (⟨"PairingHall$Tournament", "hasLikeRounds", "(LPairingHall$Tournament;)Z"⟩, 17) := ⟨⟨by decide +kernel, by decide +kernel⟩, List.mem_of_getElem? (i := 212) (by decide +kernel), List.mem_of_getElem? (i := 617) (by decide +kernel), List.mem_of_getElem? (i := 618) (by decide +kernel)⟩
theorem lw_p14 : lw_okq (⟨"PairingHall$Tournament", "hasLikeEntries", "(LPairingHall$Tournament;)Z"⟩, 17) := ⟨⟨by decide +kernel, by decide +kernel⟩, List.mem_of_getElem? (i := 212) (by decide +kernel), List.mem_of_getElem? (i := 621) (by decide +kernel), List.mem_of_getElem? (i := 622) (by decide +kernel)⟩
theorem lw_p15 : lw_okq (⟨"PairingHall", "refuseAsking", "(IIII)I"⟩, 15) := ⟨⟨by decide +kernel, by decide +kernel⟩, List.mem_of_getElem? (i := 15) (by decide +kernel), List.mem_of_getElem? (i := 646) (by decide +kernel), List.mem_of_getElem? (i := 647) (by decide +kernel)⟩
def lw_privs_1 : List (MethodName × Nat) := [(⟨"PairingHall", "askWorth", "(I)I"⟩, 15), (⟨"PairingHall$Roster", "soloWorth", "(ILPairingHall$Log;)I"⟩, 5), (⟨"PairingHall", "openNext", "()I"⟩, 15), (⟨"PairingHall", "isTournament", "(I)Z"⟩, 15), (⟨"PairingHall", "drawRound", "(II)I"⟩, 15), (⟨"PairingHall$Drawing", "recallPair", "(II)V"⟩, 13), (⟨"PairingHall$Drawing", "recallSpot", "(II)V"⟩, 13), (⟨"PairingHall$Drawing", "recallColour", "(II)V"⟩, 13), (⟨"PairingHall$Drawing", "basePrice", "(III)I"⟩, 13), (⟨"PairingHall$Drawing", "priceTwo", "(III)V"⟩, 13), (⟨"PairingHall$Drawing", "colourPrice", "(II)I"⟩, 13), (⟨"PairingHall$Drawing", "search", "(IZI)V"⟩, 13), (⟨"PairingHall$Drawing", "firstFree", "()I"⟩, 13), (⟨"PairingHall$Tournament", "hasLikeRounds", "(LPairingHall$Tournament;)Z"⟩, 17), (⟨"PairingHall$Tournament", "hasLikeEntries", "(LPairingHall$Tournament;)Z"⟩, 17), (⟨"PairingHall", "refuseAsking", "(IIII)I"⟩, 15)]
theorem lw_r1 : ∀ q ∈ lw_privs_1, lw_okq q := List.forall_mem_cons.mpr ⟨lw_p0, List.forall_mem_cons.mpr ⟨lw_p1, List.forall_mem_cons.mpr ⟨lw_p2, List.forall_mem_cons.mpr ⟨lw_p3, List.forall_mem_cons.mpr ⟨lw_p4, List.forall_mem_cons.mpr ⟨lw_p5, List.forall_mem_cons.mpr ⟨lw_p6, List.forall_mem_cons.mpr ⟨lw_p7, List.forall_mem_cons.mpr ⟨lw_p8, List.forall_mem_cons.mpr ⟨lw_p9, List.forall_mem_cons.mpr ⟨lw_p10, List.forall_mem_cons.mpr ⟨lw_p11, List.forall_mem_cons.mpr ⟨lw_p12, List.forall_mem_cons.mpr ⟨lw_p13, List.forall_mem_cons.mpr ⟨lw_p14, List.forall_mem_cons.mpr ⟨lw_p15, fun _ h => absurd h List.not_mem_nil⟩⟩⟩⟩⟩⟩⟩⟩⟩⟩⟩⟩⟩⟩⟩⟩
theorem lw_p16 : lw_okq (⟨"PairingHall", "makeTable", "(III)V"⟩, 15) := ⟨⟨by decide +kernel, by decide +kernel⟩, List.mem_of_getElem? (i := 15) (by decide +kernel), List.mem_of_getElem? (i := 654) (by decide +kernel), List.mem_of_getElem? (i := 655) (by decide +kernel)⟩
theorem lw_p17 : lw_okq (⟨"PairingHall$Table", "tallyPair", "(III)V"⟩, 11) := ⟨⟨by decide +kernel, by decide +kernel⟩, List.mem_of_getElem? (i := 69) (by decide +kernel), List.mem_of_getElem? (i := 662) (by decide +kernel), List.mem_of_getElem? (i := 663) (by decide +kernel)⟩
theorem lw_p18 : lw_okq (⟨"PairingHall$Table", "addFoe", "(II)V"⟩, 11) := ⟨⟨by decide +kernel, by decide +kernel⟩, List.mem_of_getElem? (i := 69) (by decide +kernel), List.mem_of_getElem? (i := 666) (by decide +kernel), List.mem_of_getElem? (i := 667) (by decide +kernel)⟩
theorem lw_p19 : lw_okq (⟨"PairingHall$Table", "lesserAlike", "(LPairingHall$Tournament;I)I"⟩, 11) := ⟨⟨by decide +kernel, by decide +kernel⟩, List.mem_of_getElem? (i := 69) (by decide +kernel), List.mem_of_getElem? (i := 703) (by decide +kernel), List.mem_of_getElem? (i := 704) (by decide +kernel)⟩
theorem lw_p20 : lw_okq (⟨"PairingHall$Table", "isOutscored", "(LPairingHall$Tournament;I)Z"⟩, 11) := ⟨⟨by decide +kernel, by decide +kernel⟩, List.mem_of_getElem? (i := 69) (by decide +kernel), List.mem_of_getElem? (i := 770) (by decide +kernel), List.mem_of_getElem? (i := 771) (by decide +kernel)⟩
theorem lw_p21 : lw_okq (⟨"PairingHall", "keepFound", "(I)V"⟩, 15) := ⟨⟨by decide +kernel, by decide +kernel⟩, List.mem_of_getElem? (i := 15) (by decide +kernel), List.mem_of_getElem? (i := 775) (by decide +kernel), List.mem_of_getElem? (i := 776) (by decide +kernel)⟩
theorem lw_p22 : lw_okq (⟨"PairingHall", "save", "()V"⟩, 15) := ⟨⟨by decide +kernel, by decide +kernel⟩, List.mem_of_getElem? (i := 15) (by decide +kernel), List.mem_of_getElem? (i := 806) (by decide +kernel), List.mem_of_getElem? (i := 807) (by decide +kernel)⟩
theorem lw_p23 : lw_okq (⟨"PairingHall", "runSteps", "(I)Z"⟩, 15) := ⟨⟨by decide +kernel, by decide +kernel⟩, List.mem_of_getElem? (i := 15) (by decide +kernel), List.mem_of_getElem? (i := 819) (by decide +kernel), List.mem_of_getElem? (i := 820) (by decide +kernel)⟩
theorem lw_p24 : lw_okq (⟨"PairingHall", "perform", "(I)I"⟩, 15) := ⟨⟨by decide +kernel, by decide +kernel⟩, List.mem_of_getElem? (i := 15) (by decide +kernel), List.mem_of_getElem? (i := 824) (by decide +kernel), List.mem_of_getElem? (i := 825) (by decide +kernel)⟩
theorem lw_p25 : lw_okq (⟨"PairingHall", "need", "(IIII)I"⟩, 15) := ⟨⟨by decide +kernel, by decide +kernel⟩, List.mem_of_getElem? (i := 15) (by decide +kernel), List.mem_of_getElem? (i := 836) (by decide +kernel), List.mem_of_getElem? (i := 837) (by decide +kernel)⟩
theorem lw_p26 : lw_okq (⟨"PairingHall", "restore", "()V"⟩, 15) := ⟨⟨by decide +kernel, by decide +kernel⟩, List.mem_of_getElem? (i := 15) (by decide +kernel), List.mem_of_getElem? (i := 848) (by decide +kernel), List.mem_of_getElem? (i := 849) (by decide +kernel)⟩
theorem lw_p27 : lw_okq (⟨"PairingHall", "tellOf", "(II)I"⟩, 15) := ⟨⟨by decide +kernel, by decide +kernel⟩, List.mem_of_getElem? (i := 15) (by decide +kernel), List.mem_of_getElem? (i := 864) (by decide +kernel), List.mem_of_getElem? (i := 865) (by decide +kernel)⟩
theorem lw_p28 : lw_okq (⟨"PairingHallModel", "isPlayer", "(I)Z"⟩, 43) := ⟨⟨by decide +kernel, by decide +kernel⟩, List.mem_of_getElem? (i := 868) (by decide +kernel), List.mem_of_getElem? (i := 1015) (by decide +kernel), List.mem_of_getElem? (i := 1016) (by decide +kernel)⟩
theorem lw_p29 : lw_okq (⟨"PairingHallModel", "meets", "(I)I"⟩, 43) := ⟨⟨by decide +kernel, by decide +kernel⟩, List.mem_of_getElem? (i := 868) (by decide +kernel), List.mem_of_getElem? (i := 1019) (by decide +kernel), List.mem_of_getElem? (i := 1020) (by decide +kernel)⟩
theorem lw_p30 : lw_okq (⟨"PairingHallModel", "worthOf", "(I)I"⟩, 43) := ⟨⟨by decide +kernel, by decide +kernel⟩, List.mem_of_getElem? (i := 868) (by decide +kernel), List.mem_of_getElem? (i := 1035) (by decide +kernel), List.mem_of_getElem? (i := 1036) (by decide +kernel)⟩
theorem lw_p31 : lw_okq (⟨"PairingHallModel", "soloWorth", "(I)I"⟩, 43) := ⟨⟨by decide +kernel, by decide +kernel⟩, List.mem_of_getElem? (i := 868) (by decide +kernel), List.mem_of_getElem? (i := 1039) (by decide +kernel), List.mem_of_getElem? (i := 1040) (by decide +kernel)⟩
def lw_privs_2 : List (MethodName × Nat) := [(⟨"PairingHall", "makeTable", "(III)V"⟩, 15), (⟨"PairingHall$Table", "tallyPair", "(III)V"⟩, 11), (⟨"PairingHall$Table", "addFoe", "(II)V"⟩, 11), (⟨"PairingHall$Table", "lesserAlike", "(LPairingHall$Tournament;I)I"⟩, 11), (⟨"PairingHall$Table", "isOutscored", "(LPairingHall$Tournament;I)Z"⟩, 11), (⟨"PairingHall", "keepFound", "(I)V"⟩, 15), (⟨"PairingHall", "save", "()V"⟩, 15), (⟨"PairingHall", "runSteps", "(I)Z"⟩, 15), (⟨"PairingHall", "perform", "(I)I"⟩, 15), (⟨"PairingHall", "need", "(IIII)I"⟩, 15), (⟨"PairingHall", "restore", "()V"⟩, 15), (⟨"PairingHall", "tellOf", "(II)I"⟩, 15), (⟨"PairingHallModel", "isPlayer", "(I)Z"⟩, 43), (⟨"PairingHallModel", "meets", "(I)I"⟩, 43), (⟨"PairingHallModel", "worthOf", "(I)I"⟩, 43), (⟨"PairingHallModel", "soloWorth", "(I)I"⟩, 43)]
theorem lw_r2 : ∀ q ∈ lw_privs_2, lw_okq q := List.forall_mem_cons.mpr ⟨lw_p16, List.forall_mem_cons.mpr ⟨lw_p17, List.forall_mem_cons.mpr ⟨lw_p18, List.forall_mem_cons.mpr ⟨lw_p19, List.forall_mem_cons.mpr ⟨lw_p20, List.forall_mem_cons.mpr ⟨lw_p21, List.forall_mem_cons.mpr ⟨lw_p22, List.forall_mem_cons.mpr ⟨lw_p23, List.forall_mem_cons.mpr ⟨lw_p24, List.forall_mem_cons.mpr ⟨lw_p25, List.forall_mem_cons.mpr ⟨lw_p26, List.forall_mem_cons.mpr ⟨lw_p27, List.forall_mem_cons.mpr ⟨lw_p28, List.forall_mem_cons.mpr ⟨lw_p29, List.forall_mem_cons.mpr ⟨lw_p30, List.forall_mem_cons.mpr ⟨lw_p31, fun _ h => absurd h List.not_mem_nil⟩⟩⟩⟩⟩⟩⟩⟩⟩⟩⟩⟩⟩⟩⟩⟩
theorem lw_p32 : lw_okq (⟨"PairingHallModel", "began", "(I)V"⟩, 43) := ⟨⟨by decide +kernel, by decide +kernel⟩, List.mem_of_getElem? (i := 868) (by decide +kernel), List.mem_of_getElem? (i := 1043) (by decide +kernel), List.mem_of_getElem? (i := 1044) (by decide +kernel)⟩
theorem lw_p33 : lw_okq (⟨"PairingHallModel", "stepFor", "(I)I"⟩, 43) := ⟨⟨by decide +kernel, by decide +kernel⟩, List.mem_of_getElem? (i := 868) (by decide +kernel), List.mem_of_getElem? (i := 1051) (by decide +kernel), List.mem_of_getElem? (i := 1052) (by decide +kernel)⟩
theorem lw_p34 : lw_okq (⟨"PairingHallModel", "another", "()I"⟩, 43) := ⟨⟨by decide +kernel, by decide +kernel⟩, List.mem_of_getElem? (i := 868) (by decide +kernel), List.mem_of_getElem? (i := 1063) (by decide +kernel), List.mem_of_getElem? (i := 1064) (by decide +kernel)⟩
theorem lw_p35 : lw_okq (⟨"PairingHallModel", "lay", "(III)V"⟩, 43) := ⟨⟨by decide +kernel, by decide +kernel⟩, List.mem_of_getElem? (i := 868) (by decide +kernel), List.mem_of_getElem? (i := 1067) (by decide +kernel), List.mem_of_getElem? (i := 1068) (by decide +kernel)⟩
theorem lw_p36 : lw_okq (⟨"PairingHallModel", "isTournament", "(I)Z"⟩, 43) := ⟨⟨by decide +kernel, by decide +kernel⟩, List.mem_of_getElem? (i := 868) (by decide +kernel), List.mem_of_getElem? (i := 1075) (by decide +kernel), List.mem_of_getElem? (i := 1076) (by decide +kernel)⟩
theorem lw_p37 : lw_okq (⟨"PairingHallModel", "placeOf", "(II)I"⟩, 43) := ⟨⟨by decide +kernel, by decide +kernel⟩, List.mem_of_getElem? (i := 868) (by decide +kernel), List.mem_of_getElem? (i := 1079) (by decide +kernel), List.mem_of_getElem? (i := 1080) (by decide +kernel)⟩
theorem lw_p38 : lw_okq (⟨"PairingHallModel", "cell", "(II)I"⟩, 43) := ⟨⟨by decide +kernel, by decide +kernel⟩, List.mem_of_getElem? (i := 868) (by decide +kernel), List.mem_of_getElem? (i := 1083) (by decide +kernel), List.mem_of_getElem? (i := 1084) (by decide +kernel)⟩
theorem lw_p39 : lw_okq (⟨"PairingHallModel", "drawOf", "(II)I"⟩, 43) := ⟨⟨by decide +kernel, by decide +kernel⟩, List.mem_of_getElem? (i := 868) (by decide +kernel), List.mem_of_getElem? (i := 1099) (by decide +kernel), List.mem_of_getElem? (i := 1100) (by decide +kernel)⟩
theorem lw_p40 : lw_okq (⟨"PairingHallModel", "gather", "(IZ)V"⟩, 43) := ⟨⟨by decide +kernel, by decide +kernel⟩, List.mem_of_getElem? (i := 868) (by decide +kernel), List.mem_of_getElem? (i := 1103) (by decide +kernel), List.mem_of_getElem? (i := 1104) (by decide +kernel)⟩
theorem lw_p41 : lw_okq (⟨"PairingHallModel", "askWorths", "()I"⟩, 43) := ⟨⟨by decide +kernel, by decide +kernel⟩, List.mem_of_getElem? (i := 868) (by decide +kernel), List.mem_of_getElem? (i := 1107) (by decide +kernel), List.mem_of_getElem? (i := 1108) (by decide +kernel)⟩
theorem lw_p42 : lw_okq (⟨"PairingHallModel", "pointsOf", "(IIII)I"⟩, 43) := ⟨⟨by decide +kernel, by decide +kernel⟩, List.mem_of_getElem? (i := 868) (by decide +kernel), List.mem_of_getElem? (i := 1111) (by decide +kernel), List.mem_of_getElem? (i := 1112) (by decide +kernel)⟩
theorem lw_p43 : lw_okq (⟨"PairingHallModel", "pairOf", "(III)I"⟩, 43) := ⟨⟨by decide +kernel, by decide +kernel⟩, List.mem_of_getElem? (i := 868) (by decide +kernel), List.mem_of_getElem? (i := 1115) (by decide +kernel), List.mem_of_getElem? (i := 1116) (by decide +kernel)⟩
theorem lw_p44 : lw_okq (⟨"PairingHallModel", "isWithNobody", "(II)Z"⟩, 43) := ⟨⟨by decide +kernel, by decide +kernel⟩, List.mem_of_getElem? (i := 868) (by decide +kernel), List.mem_of_getElem? (i := 1119) (by decide +kernel), List.mem_of_getElem? (i := 1120) (by decide +kernel)⟩
theorem lw_p45 : lw_okq (⟨"PairingHallModel", "outcomeOf", "(IIII)I"⟩, 43) := ⟨⟨by decide +kernel, by decide +kernel⟩, List.mem_of_getElem? (i := 868) (by decide +kernel), List.mem_of_getElem? (i := 1123) (by decide +kernel), List.mem_of_getElem? (i := 1124) (by decide +kernel)⟩
theorem lw_p46 : lw_okq (⟨"PairingHallModel", "entryOf", "(III)I"⟩, 43) := ⟨⟨by decide +kernel, by decide +kernel⟩, List.mem_of_getElem? (i := 868) (by decide +kernel), List.mem_of_getElem? (i := 1127) (by decide +kernel), List.mem_of_getElem? (i := 1128) (by decide +kernel)⟩
theorem lw_p47 : lw_okq (⟨"PairingHallModel", "search", "(I)V"⟩, 43) := ⟨⟨by decide +kernel, by decide +kernel⟩, List.mem_of_getElem? (i := 868) (by decide +kernel), List.mem_of_getElem? (i := 1134) (by decide +kernel), List.mem_of_getElem? (i := 1135) (by decide +kernel)⟩
def lw_privs_3 : List (MethodName × Nat) := [(⟨"PairingHallModel", "began", "(I)V"⟩, 43), (⟨"PairingHallModel", "stepFor", "(I)I"⟩, 43), (⟨"PairingHallModel", "another", "()I"⟩, 43), (⟨"PairingHallModel", "lay", "(III)V"⟩, 43), (⟨"PairingHallModel", "isTournament", "(I)Z"⟩, 43), (⟨"PairingHallModel", "placeOf", "(II)I"⟩, 43), (⟨"PairingHallModel", "cell", "(II)I"⟩, 43), (⟨"PairingHallModel", "drawOf", "(II)I"⟩, 43), (⟨"PairingHallModel", "gather", "(IZ)V"⟩, 43), (⟨"PairingHallModel", "askWorths", "()I"⟩, 43), (⟨"PairingHallModel", "pointsOf", "(IIII)I"⟩, 43), (⟨"PairingHallModel", "pairOf", "(III)I"⟩, 43), (⟨"PairingHallModel", "isWithNobody", "(II)Z"⟩, 43), (⟨"PairingHallModel", "outcomeOf", "(IIII)I"⟩, 43), (⟨"PairingHallModel", "entryOf", "(III)I"⟩, 43), (⟨"PairingHallModel", "search", "(I)V"⟩, 43)]
theorem lw_r3 : ∀ q ∈ lw_privs_3, lw_okq q := List.forall_mem_cons.mpr ⟨lw_p32, List.forall_mem_cons.mpr ⟨lw_p33, List.forall_mem_cons.mpr ⟨lw_p34, List.forall_mem_cons.mpr ⟨lw_p35, List.forall_mem_cons.mpr ⟨lw_p36, List.forall_mem_cons.mpr ⟨lw_p37, List.forall_mem_cons.mpr ⟨lw_p38, List.forall_mem_cons.mpr ⟨lw_p39, List.forall_mem_cons.mpr ⟨lw_p40, List.forall_mem_cons.mpr ⟨lw_p41, List.forall_mem_cons.mpr ⟨lw_p42, List.forall_mem_cons.mpr ⟨lw_p43, List.forall_mem_cons.mpr ⟨lw_p44, List.forall_mem_cons.mpr ⟨lw_p45, List.forall_mem_cons.mpr ⟨lw_p46, List.forall_mem_cons.mpr ⟨lw_p47, fun _ h => absurd h List.not_mem_nil⟩⟩⟩⟩⟩⟩⟩⟩⟩⟩⟩⟩⟩⟩⟩⟩
theorem lw_p48 : lw_okq (⟨"PairingHallModel", "costOf", "(IIIZ)I"⟩, 43) := ⟨⟨by decide +kernel, by decide +kernel⟩, List.mem_of_getElem? (i := 868) (by decide +kernel), List.mem_of_getElem? (i := 1138) (by decide +kernel), List.mem_of_getElem? (i := 1139) (by decide +kernel)⟩
theorem lw_p49 : lw_okq (⟨"PairingHallModel", "wasWith", "(III)Z"⟩, 43) := ⟨⟨by decide +kernel, by decide +kernel⟩, List.mem_of_getElem? (i := 868) (by decide +kernel), List.mem_of_getElem? (i := 1142) (by decide +kernel), List.mem_of_getElem? (i := 1143) (by decide +kernel)⟩
theorem lw_p50 : lw_okq (⟨"PairingHallModel", "otherOf", "(III)I"⟩, 43) := ⟨⟨by decide +kernel, by decide +kernel⟩, List.mem_of_getElem? (i := 868) (by decide +kernel), List.mem_of_getElem? (i := 1146) (by decide +kernel), List.mem_of_getElem? (i := 1147) (by decide +kernel)⟩
theorem lw_p51 : lw_okq (⟨"PairingHallModel", "colourCost", "(IIZ)I"⟩, 43) := ⟨⟨by decide +kernel, by decide +kernel⟩, List.mem_of_getElem? (i := 868) (by decide +kernel), List.mem_of_getElem? (i := 1151) (by decide +kernel), List.mem_of_getElem? (i := 1152) (by decide +kernel)⟩
theorem lw_p52 : lw_okq (⟨"PairingHallModel", "colours", "(II)V"⟩, 43) := ⟨⟨by decide +kernel, by decide +kernel⟩, List.mem_of_getElem? (i := 868) (by decide +kernel), List.mem_of_getElem? (i := 1155) (by decide +kernel), List.mem_of_getElem? (i := 1156) (by decide +kernel)⟩
theorem lw_p53 : lw_okq (⟨"PairingHallModel", "costAlone", "(II)I"⟩, 43) := ⟨⟨by decide +kernel, by decide +kernel⟩, List.mem_of_getElem? (i := 868) (by decide +kernel), List.mem_of_getElem? (i := 1159) (by decide +kernel), List.mem_of_getElem? (i := 1160) (by decide +kernel)⟩
theorem lw_p54 : lw_okq (⟨"PairingHallModel", "pairUp", "(II)V"⟩, 43) := ⟨⟨by decide +kernel, by decide +kernel⟩, List.mem_of_getElem? (i := 868) (by decide +kernel), List.mem_of_getElem? (i := 1164) (by decide +kernel), List.mem_of_getElem? (i := 1165) (by decide +kernel)⟩
theorem lw_p55 : lw_okq (⟨"PairingHallModel", "against", "(III)I"⟩, 43) := ⟨⟨by decide +kernel, by decide +kernel⟩, List.mem_of_getElem? (i := 868) (by decide +kernel), List.mem_of_getElem? (i := 1172) (by decide +kernel), List.mem_of_getElem? (i := 1173) (by decide +kernel)⟩
theorem lw_p56 : lw_okq (⟨"PairingHallModel", "refused", "(IIII)I"⟩, 43) := ⟨⟨by decide +kernel, by decide +kernel⟩, List.mem_of_getElem? (i := 868) (by decide +kernel), List.mem_of_getElem? (i := 1196) (by decide +kernel), List.mem_of_getElem? (i := 1197) (by decide +kernel)⟩
theorem lw_p57 : lw_okq (⟨"PairingHallModel", "sumOf", "(IIIII)I"⟩, 43) := ⟨⟨by decide +kernel, by decide +kernel⟩, List.mem_of_getElem? (i := 868) (by decide +kernel), List.mem_of_getElem? (i := 1204) (by decide +kernel), List.mem_of_getElem? (i := 1205) (by decide +kernel)⟩
theorem lw_p58 : lw_okq (⟨"PairingHallModel", "ahead", "(IIII)I"⟩, 43) := ⟨⟨by decide +kernel, by decide +kernel⟩, List.mem_of_getElem? (i := 868) (by decide +kernel), List.mem_of_getElem? (i := 1212) (by decide +kernel), List.mem_of_getElem? (i := 1213) (by decide +kernel)⟩
theorem lw_p59 : lw_okq (⟨"PairingHallModel", "parting", "(IIIII)I"⟩, 43) := ⟨⟨by decide +kernel, by decide +kernel⟩, List.mem_of_getElem? (i := 868) (by decide +kernel), List.mem_of_getElem? (i := 1216) (by decide +kernel), List.mem_of_getElem? (i := 1217) (by decide +kernel)⟩
theorem lw_p60 : lw_okq (⟨"PairingHallModel", "rate", "(IIII)V"⟩, 43) := ⟨⟨by decide +kernel, by decide +kernel⟩, List.mem_of_getElem? (i := 868) (by decide +kernel), List.mem_of_getElem? (i := 1232) (by decide +kernel), List.mem_of_getElem? (i := 1233) (by decide +kernel)⟩
theorem lw_p61 : lw_okq (⟨"PairingHallModel", "isFirst", "(IIII)Z"⟩, 43) := ⟨⟨by decide +kernel, by decide +kernel⟩, List.mem_of_getElem? (i := 868) (by decide +kernel), List.mem_of_getElem? (i := 1248) (by decide +kernel), List.mem_of_getElem? (i := 1249) (by decide +kernel)⟩
theorem lw_p62 : lw_okq (⟨"PairingHallModel", "keep", "()V"⟩, 43) := ⟨⟨by decide +kernel, by decide +kernel⟩, List.mem_of_getElem? (i := 868) (by decide +kernel), List.mem_of_getElem? (i := 1268) (by decide +kernel), List.mem_of_getElem? (i := 1269) (by decide +kernel)⟩
theorem lw_p63 : lw_okq (⟨"PairingHallModel", "fails", "(III)V"⟩, 43) := ⟨⟨by decide +kernel, by decide +kernel⟩, List.mem_of_getElem? (i := 868) (by decide +kernel), List.mem_of_getElem? (i := 1272) (by decide +kernel), List.mem_of_getElem? (i := 1273) (by decide +kernel)⟩
def lw_privs_4 : List (MethodName × Nat) := [(⟨"PairingHallModel", "costOf", "(IIIZ)I"⟩, 43), (⟨"PairingHallModel", "wasWith", "(III)Z"⟩, 43), (⟨"PairingHallModel", "otherOf", "(III)I"⟩, 43), (⟨"PairingHallModel", "colourCost", "(IIZ)I"⟩, 43), (⟨"PairingHallModel", "colours", "(II)V"⟩, 43), (⟨"PairingHallModel", "costAlone", "(II)I"⟩, 43), (⟨"PairingHallModel", "pairUp", "(II)V"⟩, 43), (⟨"PairingHallModel", "against", "(III)I"⟩, 43), (⟨"PairingHallModel", "refused", "(IIII)I"⟩, 43), (⟨"PairingHallModel", "sumOf", "(IIIII)I"⟩, 43), (⟨"PairingHallModel", "ahead", "(IIII)I"⟩, 43), (⟨"PairingHallModel", "parting", "(IIIII)I"⟩, 43), (⟨"PairingHallModel", "rate", "(IIII)V"⟩, 43), (⟨"PairingHallModel", "isFirst", "(IIII)Z"⟩, 43), (⟨"PairingHallModel", "keep", "()V"⟩, 43), (⟨"PairingHallModel", "fails", "(III)V"⟩, 43)]
theorem lw_r4 : ∀ q ∈ lw_privs_4, lw_okq q := List.forall_mem_cons.mpr ⟨lw_p48, List.forall_mem_cons.mpr ⟨lw_p49, List.forall_mem_cons.mpr ⟨lw_p50, List.forall_mem_cons.mpr ⟨lw_p51, List.forall_mem_cons.mpr ⟨lw_p52, List.forall_mem_cons.mpr ⟨lw_p53, List.forall_mem_cons.mpr ⟨lw_p54, List.forall_mem_cons.mpr ⟨lw_p55, List.forall_mem_cons.mpr ⟨lw_p56, List.forall_mem_cons.mpr ⟨lw_p57, List.forall_mem_cons.mpr ⟨lw_p58, List.forall_mem_cons.mpr ⟨lw_p59, List.forall_mem_cons.mpr ⟨lw_p60, List.forall_mem_cons.mpr ⟨lw_p61, List.forall_mem_cons.mpr ⟨lw_p62, List.forall_mem_cons.mpr ⟨lw_p63, fun _ h => absurd h List.not_mem_nil⟩⟩⟩⟩⟩⟩⟩⟩⟩⟩⟩⟩⟩⟩⟩⟩
theorem lw_p64 : lw_okq (⟨"PairingHallModel", "goes", "(I)Z"⟩, 43) := ⟨⟨by decide +kernel, by decide +kernel⟩, List.mem_of_getElem? (i := 868) (by decide +kernel), List.mem_of_getElem? (i := 1276) (by decide +kernel), List.mem_of_getElem? (i := 1277) (by decide +kernel)⟩
theorem lw_p65 : lw_okq (⟨"PairingHallModel", "answer", "(I)I"⟩, 43) := ⟨⟨by decide +kernel, by decide +kernel⟩, List.mem_of_getElem? (i := 868) (by decide +kernel), List.mem_of_getElem? (i := 1280) (by decide +kernel), List.mem_of_getElem? (i := 1281) (by decide +kernel)⟩
theorem lw_p66 : lw_okq (⟨"PairingHallModel", "need", "(IIII)I"⟩, 43) := ⟨⟨by decide +kernel, by decide +kernel⟩, List.mem_of_getElem? (i := 868) (by decide +kernel), List.mem_of_getElem? (i := 1292) (by decide +kernel), List.mem_of_getElem? (i := 1293) (by decide +kernel)⟩
theorem lw_p67 : lw_okq (⟨"PairingHallModel", "back", "()V"⟩, 43) := ⟨⟨by decide +kernel, by decide +kernel⟩, List.mem_of_getElem? (i := 868) (by decide +kernel), List.mem_of_getElem? (i := 1297) (by decide +kernel), List.mem_of_getElem? (i := 1298) (by decide +kernel)⟩
def lw_privs_5 : List (MethodName × Nat) := [(⟨"PairingHallModel", "goes", "(I)Z"⟩, 43), (⟨"PairingHallModel", "answer", "(I)I"⟩, 43), (⟨"PairingHallModel", "need", "(IIII)I"⟩, 43), (⟨"PairingHallModel", "back", "()V"⟩, 43)]
theorem lw_r5 : ∀ q ∈ lw_privs_5, lw_okq q := List.forall_mem_cons.mpr ⟨lw_p64, List.forall_mem_cons.mpr ⟨lw_p65, List.forall_mem_cons.mpr ⟨lw_p66, List.forall_mem_cons.mpr ⟨lw_p67, fun _ h => absurd h List.not_mem_nil⟩⟩⟩⟩
def lw_privs : List (MethodName × Nat) := lw_privs_1 ++ (lw_privs_2 ++ (lw_privs_3 ++ (lw_privs_4 ++ (lw_privs_5))))
def lw_tbl : List Cond := k2_sels lw_privs ++ tables_1
theorem lw_privs_ok : ∀ q ∈ lw_privs, lw_okq q := by
  show ∀ q ∈ lw_privs_1 ++ (lw_privs_2 ++ (lw_privs_3 ++ (lw_privs_4 ++ (lw_privs_5)))), lw_okq q
  exact List.forall_mem_append.mpr ⟨lw_r1, List.forall_mem_append.mpr ⟨lw_r2, List.forall_mem_append.mpr ⟨lw_r3, List.forall_mem_append.mpr ⟨lw_r4, lw_r5⟩⟩⟩⟩
def RX0 : String := "PairingHall$Drawing"
def TX0 : u_T := fun k => match k with
  | 0 => ("PairingHall$Drawing", "who", "[I", true)
  | 1 => ("PairingHall$Drawing", "spotOf", "[I", true)
  | 2 => ("PairingHall$Drawing", "worths", "[I", true)
  | 3 => ("PairingHall$Drawing", "balance", "[I", true)
  | 4 => ("PairingHall$Drawing", "latest", "[I", true)
  | 5 => ("PairingHall$Drawing", "latestButOne", "[I", true)
  | 6 => ("PairingHall$Drawing", "pairedBefore", "[Z", true)
  | 7 => ("PairingHall$Drawing", "isTurned", "[Z", true)
  | 8 => ("PairingHall$Drawing", "prices", "[I", true)
  | 9 => ("PairingHall$Drawing", "partner", "[I", true)
  | 10 => ("PairingHall$Drawing", "bestPartner", "[I", true)
  | 11 => ("PairingHall$Drawing", "size", "I", false)
  | _ => ("PairingHall$Drawing", "bestCost", "I", false)
def tyX0 : Nat → FieldType := fun k => match k with
  | 0 => .array .int
  | 1 => .array .int
  | 2 => .array .int
  | 3 => .array .int
  | 4 => .array .int
  | 5 => .array .int
  | 6 => .array .boolean
  | 7 => .array .boolean
  | 8 => .array .int
  | 9 => .array .int
  | 10 => .array .int
  | 11 => .int
  | _ => .int
abbrev wsX00 : List Cond := u_ws RX0 TX0 13
theorem nmX0 : ∀ a, a < 13 → ∀ b, b < 13 → a ≠ b → (TX0 a).2.1 ≠ (TX0 b).2.1 := by decide +kernel
theorem tyX0_ok : ∀ k, k < 13 → parseFieldDescriptor (TX0 k).2.2.1 = some (tyX0 k) := by decide +kernel
abbrev cX0_init : ByteArray := prog_2_method_1_code
def yX0_init : MethodName := ⟨RX0, "<init>", "()V"⟩
abbrev cX0_brokenIn : ByteArray := prog_2_method_2_code
def yX0_brokenIn : MethodName := ⟨RX0, "brokenIn", "(I)I"⟩
abbrev cX0_gather : ByteArray := prog_2_method_3_code
def yX0_gather : MethodName := ⟨RX0, "gather", "(LPairingHall$Tournament;)I"⟩
abbrev cX0_askWorths : ByteArray := prog_2_method_4_code
def yX0_askWorths : MethodName := ⟨RX0, "askWorths", "(LPairingHall$Roster;LPairingHall$Log;)Z"⟩
abbrev cX0_recall : ByteArray := prog_2_method_5_code
def yX0_recall : MethodName := ⟨RX0, "recall", "(LPairingHall$Tournament;)V"⟩
abbrev cX0_recallPair : ByteArray := prog_2_method_6_code
def yX0_recallPair : MethodName := ⟨RX0, "recallPair", "(II)V"⟩
abbrev cX0_recallSpot : ByteArray := prog_2_method_7_code
def yX0_recallSpot : MethodName := ⟨RX0, "recallSpot", "(II)V"⟩
abbrev cX0_recallColour : ByteArray := prog_2_method_8_code
def yX0_recallColour : MethodName := ⟨RX0, "recallColour", "(II)V"⟩
abbrev cX0_priceAll : ByteArray := prog_2_method_9_code
def yX0_priceAll : MethodName := ⟨RX0, "priceAll", "([I)V"⟩
abbrev cX0_basePrice : ByteArray := prog_2_method_10_code
def yX0_basePrice : MethodName := ⟨RX0, "basePrice", "(III)I"⟩
abbrev cX0_priceTwo : ByteArray := prog_2_method_11_code
def yX0_priceTwo : MethodName := ⟨RX0, "priceTwo", "(III)V"⟩
abbrev cX0_colourPrice : ByteArray := prog_2_method_12_code
def yX0_colourPrice : MethodName := ⟨RX0, "colourPrice", "(II)I"⟩
abbrev cX0_findWay : ByteArray := prog_2_method_13_code
def yX0_findWay : MethodName := ⟨RX0, "findWay", "()V"⟩
abbrev cX0_search : ByteArray := prog_2_method_14_code
def yX0_search : MethodName := ⟨RX0, "search", "(IZI)V"⟩
abbrev cX0_firstFree : ByteArray := prog_2_method_15_code
def yX0_firstFree : MethodName := ⟨RX0, "firstFree", "()I"⟩
abbrev cX0_writeRound : ByteArray := prog_2_method_16_code
def yX0_writeRound : MethodName := ⟨RX0, "writeRound", "(LPairingHall$Tournament;I)I"⟩
def RX1 : String := "PairingHall$Log"
def TX1 : u_T := fun k => match k with
  | 0 => ("PairingHall$Log", "numbers", "[I", true)
  | 1 => ("PairingHall$Log", "length", "I", false)
  | _ => ("PairingHall$Log", "latest", "I", false)
def tyX1 : Nat → FieldType := fun k => match k with
  | 0 => .array .int
  | 1 => .int
  | _ => .int
abbrev wsX10 : List Cond := u_ws RX1 TX1 3
theorem nmX1 : ∀ a, a < 3 → ∀ b, b < 3 → a ≠ b → (TX1 a).2.1 ≠ (TX1 b).2.1 := by decide +kernel
theorem tyX1_ok : ∀ k, k < 3 → parseFieldDescriptor (TX1 k).2.2.1 = some (tyX1 k) := by decide +kernel
abbrev cX1_init : ByteArray := prog_3_method_1_code
def yX1_init : MethodName := ⟨RX1, "<init>", "()V"⟩
abbrev cX1_clear : ByteArray := prog_3_method_2_code
def yX1_clear : MethodName := ⟨RX1, "clear", "()V"⟩
abbrev cX1_write : ByteArray := prog_3_method_3_code
def yX1_write : MethodName := ⟨RX1, "write", "(I)V"⟩
abbrev cX1_met : ByteArray := prog_3_method_4_code
def yX1_met : MethodName := ⟨RX1, "met", "(I)I"⟩
def RX2 : String := "PairingHall$Plans"
def TX2 : u_T := fun k => match k with
  | 0 => ("PairingHall$Plans", "lengths", "[I", true)
  | 1 => ("PairingHall$Plans", "tries", "[I", true)
  | _ => ("PairingHall$Plans", "rows", "[I", true)
def tyX2 : Nat → FieldType := fun k => match k with
  | 0 => .array .int
  | 1 => .array .int
  | _ => .array .int
abbrev wsX20 : List Cond := u_ws RX2 TX2 3
theorem nmX2 : ∀ a, a < 3 → ∀ b, b < 3 → a ≠ b → (TX2 a).2.1 ≠ (TX2 b).2.1 := by decide +kernel
theorem tyX2_ok : ∀ k, k < 3 → parseFieldDescriptor (TX2 k).2.2.1 = some (tyX2 k) := by decide +kernel
abbrev cX2_init : ByteArray := prog_4_method_1_code
def yX2_init : MethodName := ⟨RX2, "<init>", "()V"⟩
abbrev cX2_rowOf : ByteArray := prog_4_method_2_code
def yX2_rowOf : MethodName := ⟨RX2, "rowOf", "(II)I"⟩
abbrev cX2_openRow : ByteArray := prog_4_method_3_code
def yX2_openRow : MethodName := ⟨RX2, "openRow", "(I)I"⟩
def RX3 : String := "PairingHall$Ratings"
def TX3 : u_T := fun k => match k with
  | _ => ("PairingHall$Ratings", "values", "[I", true)
def tyX3 : Nat → FieldType := fun k => match k with
  | _ => .array .int
abbrev wsX30 : List Cond := u_ws RX3 TX3 1
theorem nmX3 : ∀ a, a < 1 → ∀ b, b < 1 → a ≠ b → (TX3 a).2.1 ≠ (TX3 b).2.1 := by decide +kernel
theorem tyX3_ok : ∀ k, k < 1 → parseFieldDescriptor (TX3 k).2.2.1 = some (tyX3 k) := by decide +kernel
abbrev cX3_init : ByteArray := prog_5_method_1_code
def yX3_init : MethodName := ⟨RX3, "<init>", "()V"⟩
abbrev cX3_begin : ByteArray := prog_5_method_2_code
def yX3_begin : MethodName := ⟨RX3, "begin", "(LPairingHall$Tournament;LPairingHall$Roster;LPairingHall$Log;)Z"⟩
abbrev cX3_total : ByteArray := prog_5_method_3_code
def yX3_total : MethodName := ⟨RX3, "total", "(LPairingHall$Tournament;)I"⟩
abbrev cX3_goThrough : ByteArray := prog_5_method_4_code
def yX3_goThrough : MethodName := ⟨RX3, "goThrough", "(LPairingHall$Tournament;I[ILPairingHall$Roster;LPairingHall$Log;)V"⟩
abbrev cX3_gain : ByteArray := prog_5_method_5_code
def yX3_gain : MethodName := ⟨RX3, "gain", "(III)I"⟩
abbrev cX3_roundThousandths : ByteArray := prog_5_method_6_code
def yX3_roundThousandths : MethodName := ⟨RX3, "roundThousandths", "(I)I"⟩
def RX4 : String := "PairingHall$Report"
def TX4 : u_T := fun k => match k with
  | 0 => ("PairingHall$Report", "answer", "I", false)
  | 1 => ("PairingHall$Report", "plan", "I", false)
  | 2 => ("PairingHall$Report", "at", "I", false)
  | _ => ("PairingHall$Report", "done", "I", false)
def tyX4 : Nat → FieldType := fun k => match k with
  | 0 => .int
  | 1 => .int
  | 2 => .int
  | _ => .int
abbrev wsX40 : List Cond := u_ws RX4 TX4 4
theorem nmX4 : ∀ a, a < 4 → ∀ b, b < 4 → a ≠ b → (TX4 a).2.1 ≠ (TX4 b).2.1 := by decide +kernel
theorem tyX4_ok : ∀ k, k < 4 → parseFieldDescriptor (TX4 k).2.2.1 = some (tyX4 k) := by decide +kernel
abbrev cX4_init : ByteArray := prog_6_method_1_code
def yX4_init : MethodName := ⟨RX4, "<init>", "()V"⟩
abbrev cX4_begin : ByteArray := prog_6_method_2_code
def yX4_begin : MethodName := ⟨RX4, "begin", "()V"⟩
abbrev cX4_tellFailure : ByteArray := prog_6_method_3_code
def yX4_tellFailure : MethodName := ⟨RX4, "tellFailure", "(III)V"⟩
def RX5 : String := "PairingHall$Roster"
def TX5 : u_T := fun k => match k with
  | 0 => ("PairingHall$Roster", "kinds", "[I", true)
  | 1 => ("PairingHall$Roster", "bases", "[I", true)
  | 2 => ("PairingHall$Roster", "sizes", "[I", true)
  | 3 => ("PairingHall$Roster", "chairs", "[I", true)
  | _ => ("PairingHall$Roster", "count", "I", false)
def tyX5 : Nat → FieldType := fun k => match k with
  | 0 => .array .int
  | 1 => .array .int
  | 2 => .array .int
  | 3 => .array .int
  | _ => .int
abbrev wsX50 : List Cond := u_ws RX5 TX5 5
theorem nmX5 : ∀ a, a < 5 → ∀ b, b < 5 → a ≠ b → (TX5 a).2.1 ≠ (TX5 b).2.1 := by decide +kernel
theorem tyX5_ok : ∀ k, k < 5 → parseFieldDescriptor (TX5 k).2.2.1 = some (tyX5 k) := by decide +kernel
abbrev cX5_init : ByteArray := prog_7_method_1_code
def yX5_init : MethodName := ⟨RX5, "<init>", "()V"⟩
abbrev cX5_has : ByteArray := prog_7_method_2_code
def yX5_has : MethodName := ⟨RX5, "has", "(I)Z"⟩
abbrev cX5_isTeam : ByteArray := prog_7_method_3_code
def yX5_isTeam : MethodName := ⟨RX5, "isTeam", "(I)Z"⟩
abbrev cX5_isRated : ByteArray := prog_7_method_4_code
def yX5_isRated : MethodName := ⟨RX5, "isRated", "(I)Z"⟩
abbrev cX5_add : ByteArray := prog_7_method_5_code
def yX5_add : MethodName := ⟨RX5, "add", "(II)I"⟩
abbrev cX5_setPlaces : ByteArray := prog_7_method_6_code
def yX5_setPlaces : MethodName := ⟨RX5, "setPlaces", "(II)V"⟩
abbrev cX5_chairOf : ByteArray := prog_7_method_7_code
def yX5_chairOf : MethodName := ⟨RX5, "chairOf", "(IILPairingHall$Log;)I"⟩
abbrev cX5_worthFor : ByteArray := prog_7_method_8_code
def yX5_worthFor : MethodName := ⟨RX5, "worthFor", "(ILPairingHall$Log;)I"⟩
abbrev cX5_soloWorth : ByteArray := prog_7_method_9_code
def yX5_soloWorth : MethodName := ⟨RX5, "soloWorth", "(ILPairingHall$Log;)I"⟩
abbrev cX5_stepFor : ByteArray := prog_7_method_10_code
def yX5_stepFor : MethodName := ⟨RX5, "stepFor", "(ILPairingHall$Log;)I"⟩
abbrev cX5_takeOver : ByteArray := prog_7_method_11_code
def yX5_takeOver : MethodName := ⟨RX5, "takeOver", "(LPairingHall$Roster;)V"⟩
def RX6 : String := "PairingHall$Table"
def TX6 : u_T := fun k => match k with
  | 0 => ("PairingHall$Table", "counting", "[I", true)
  | 1 => ("PairingHall$Table", "outcomes", "[I", true)
  | 2 => ("PairingHall$Table", "open", "[I", true)
  | 3 => ("PairingHall$Table", "scores", "[I", true)
  | 4 => ("PairingHall$Table", "foeCount", "[I", true)
  | 5 => ("PairingHall$Table", "foeTotal", "[I", true)
  | 6 => ("PairingHall$Table", "foeLeast", "[I", true)
  | 7 => ("PairingHall$Table", "foeMost", "[I", true)
  | 8 => ("PairingHall$Table", "wins", "[I", true)
  | 9 => ("PairingHall$Table", "levelHalves", "[I", true)
  | _ => ("PairingHall$Table", "blacks", "[I", true)
def tyX6 : Nat → FieldType := fun k => match k with
  | 0 => .array .int
  | 1 => .array .int
  | 2 => .array .int
  | 3 => .array .int
  | 4 => .array .int
  | 5 => .array .int
  | 6 => .array .int
  | 7 => .array .int
  | 8 => .array .int
  | 9 => .array .int
  | _ => .array .int
abbrev wsX60 : List Cond := u_ws RX6 TX6 11
theorem nmX6 : ∀ a, a < 11 → ∀ b, b < 11 → a ≠ b → (TX6 a).2.1 ≠ (TX6 b).2.1 := by decide +kernel
theorem tyX6_ok : ∀ k, k < 11 → parseFieldDescriptor (TX6 k).2.2.1 = some (tyX6 k) := by decide +kernel
abbrev cX6_init : ByteArray := prog_8_method_1_code
def yX6_init : MethodName := ⟨RX6, "<init>", "()V"⟩
abbrev cX6_read : ByteArray := prog_8_method_2_code
def yX6_read : MethodName := ⟨RX6, "read", "(LPairingHall$Tournament;II)V"⟩
abbrev cX6_score : ByteArray := prog_8_method_3_code
def yX6_score : MethodName := ⟨RX6, "score", "(LPairingHall$Tournament;I)V"⟩
abbrev cX6_whiteHalves : ByteArray := prog_8_method_4_code
def yX6_whiteHalves : MethodName := ⟨RX6, "whiteHalves", "(I)I"⟩
abbrev cX6_blackHalves : ByteArray := prog_8_method_5_code
def yX6_blackHalves : MethodName := ⟨RX6, "blackHalves", "(I)I"⟩
abbrev cX6_isPlayed : ByteArray := prog_8_method_6_code
def yX6_isPlayed : MethodName := ⟨RX6, "isPlayed", "(I)Z"⟩
abbrev cX6_tally : ByteArray := prog_8_method_7_code
def yX6_tally : MethodName := ⟨RX6, "tally", "(LPairingHall$Tournament;)V"⟩
abbrev cX6_tallyPair : ByteArray := prog_8_method_8_code
def yX6_tallyPair : MethodName := ⟨RX6, "tallyPair", "(III)V"⟩
abbrev cX6_addFoe : ByteArray := prog_8_method_9_code
def yX6_addFoe : MethodName := ⟨RX6, "addFoe", "(II)V"⟩
abbrev cX6_amountOf : ByteArray := prog_8_method_10_code
def yX6_amountOf : MethodName := ⟨RX6, "amountOf", "(II)I"⟩
abbrev cX6_parting : ByteArray := prog_8_method_11_code
def yX6_parting : MethodName := ⟨RX6, "parting", "(LPairingHall$Tournament;II)I"⟩
abbrev cX6_aheadOf : ByteArray := prog_8_method_12_code
def yX6_aheadOf : MethodName := ⟨RX6, "aheadOf", "(LPairingHall$Tournament;I)I"⟩
abbrev cX6_whoIs : ByteArray := prog_8_method_13_code
def yX6_whoIs : MethodName := ⟨RX6, "whoIs", "(LPairingHall$Tournament;I)I"⟩
abbrev cX6_lesserAlike : ByteArray := prog_8_method_14_code
def yX6_lesserAlike : MethodName := ⟨RX6, "lesserAlike", "(LPairingHall$Tournament;I)I"⟩
abbrev cX6_listOpen : ByteArray := prog_8_method_15_code
def yX6_listOpen : MethodName := ⟨RX6, "listOpen", "(LPairingHall$Tournament;)I"⟩
abbrev cX6_suppose : ByteArray := prog_8_method_16_code
def yX6_suppose : MethodName := ⟨RX6, "suppose", "(II)V"⟩
abbrev cX6_isOutscored : ByteArray := prog_8_method_17_code
def yX6_isOutscored : MethodName := ⟨RX6, "isOutscored", "(LPairingHall$Tournament;I)Z"⟩
abbrev cX6_isFirst : ByteArray := prog_8_method_18_code
def yX6_isFirst : MethodName := ⟨RX6, "isFirst", "(LPairingHall$Tournament;IZ)Z"⟩
def RX7 : String := "PairingHall$Tournament"
def TX7 : u_T := fun k => match k with
  | 0 => ("PairingHall$Tournament", "serial", "I", false)
  | 1 => ("PairingHall$Tournament", "inCount", "I", false)
  | 2 => ("PairingHall$Tournament", "roundCount", "I", false)
  | 3 => ("PairingHall$Tournament", "entryCount", "I", false)
  | 4 => ("PairingHall$Tournament", "came", "[I", true)
  | 5 => ("PairingHall$Tournament", "status", "[I", true)
  | 6 => ("PairingHall$Tournament", "sorts", "[I", true)
  | 7 => ("PairingHall$Tournament", "days", "[I", true)
  | 8 => ("PairingHall$Tournament", "sizes", "[I", true)
  | 9 => ("PairingHall$Tournament", "costs", "[I", true)
  | 10 => ("PairingHall$Tournament", "white", "[I", true)
  | 11 => ("PairingHall$Tournament", "black", "[I", true)
  | 12 => ("PairingHall$Tournament", "entryCell", "[I", true)
  | 13 => ("PairingHall$Tournament", "entryOutcome", "[I", true)
  | 14 => ("PairingHall$Tournament", "entryDay", "[I", true)
  | 15 => ("PairingHall$Tournament", "entryKnown", "[I", true)
  | _ => ("PairingHall$Tournament", "entryBack", "[I", true)
def tyX7 : Nat → FieldType := fun k => match k with
  | 0 => .int
  | 1 => .int
  | 2 => .int
  | 3 => .int
  | 4 => .array .int
  | 5 => .array .int
  | 6 => .array .int
  | 7 => .array .int
  | 8 => .array .int
  | 9 => .array .int
  | 10 => .array .int
  | 11 => .array .int
  | 12 => .array .int
  | 13 => .array .int
  | 14 => .array .int
  | 15 => .array .int
  | _ => .array .int
abbrev wsX70 : List Cond := u_ws RX7 TX7 17
theorem nmX7 : ∀ a, a < 17 → ∀ b, b < 17 → a ≠ b → (TX7 a).2.1 ≠ (TX7 b).2.1 := by decide +kernel
theorem tyX7_ok : ∀ k, k < 17 → parseFieldDescriptor (TX7 k).2.2.1 = some (tyX7 k) := by decide +kernel
abbrev cX7_init : ByteArray := prog_9_method_1_code
def yX7_init : MethodName := ⟨RX7, "<init>", "()V"⟩
abbrev cX7_clear : ByteArray := prog_9_method_2_code
def yX7_clear : MethodName := ⟨RX7, "clear", "()V"⟩
abbrev cX7_hasIn : ByteArray := prog_9_method_3_code
def yX7_hasIn : MethodName := ⟨RX7, "hasIn", "(I)Z"⟩
abbrev cX7_letIn : ByteArray := prog_9_method_4_code
def yX7_letIn : MethodName := ⟨RX7, "letIn", "(I)I"⟩
abbrev cX7_latestDay : ByteArray := prog_9_method_5_code
def yX7_latestDay : MethodName := ⟨RX7, "latestDay", "()I"⟩
abbrev cX7_roundOf : ByteArray := prog_9_method_6_code
def yX7_roundOf : MethodName := ⟨RX7, "roundOf", "(ILPairingHall$Log;)I"⟩
abbrev cX7_cellOf : ByteArray := prog_9_method_7_code
def yX7_cellOf : MethodName := ⟨RX7, "cellOf", "(IILPairingHall$Log;)I"⟩
abbrev cX7_addEntry : ByteArray := prog_9_method_8_code
def yX7_addEntry : MethodName := ⟨RX7, "addEntry", "(IIII)I"⟩
abbrev cX7_isKnown : ByteArray := prog_9_method_9_code
def yX7_isKnown : MethodName := ⟨RX7, "isKnown", "(II)Z"⟩
abbrev cX7_takeOver : ByteArray := prog_9_method_10_code
def yX7_takeOver : MethodName := ⟨RX7, "takeOver", "(LPairingHall$Tournament;)V"⟩
abbrev cX7_isLike : ByteArray := prog_9_method_11_code
def yX7_isLike : MethodName := ⟨RX7, "isLike", "(LPairingHall$Tournament;)Z"⟩
abbrev cX7_hasLikeRounds : ByteArray := prog_9_method_12_code
def yX7_hasLikeRounds : MethodName := ⟨RX7, "hasLikeRounds", "(LPairingHall$Tournament;)Z"⟩
abbrev cX7_hasLikeEntries : ByteArray := prog_9_method_13_code
def yX7_hasLikeEntries : MethodName := ⟨RX7, "hasLikeEntries", "(LPairingHall$Tournament;)Z"⟩
abbrev cX7_isSame : ByteArray := prog_9_method_14_code
def yX7_isSame : MethodName := ⟨RX7, "isSame", "([I[III)Z"⟩
def RX8 : String := "PairingHall"
def TX8 : u_T := fun k => match k with
  | 0 => ("PairingHall", "log", "LPairingHall$Log;", true)
  | 1 => ("PairingHall", "roster", "LPairingHall$Roster;", true)
  | 2 => ("PairingHall", "savedRoster", "LPairingHall$Roster;", true)
  | 3 => ("PairingHall", "tournaments", "[LPairingHall$Tournament;", true)
  | 4 => ("PairingHall", "savedTournaments", "[LPairingHall$Tournament;", true)
  | 5 => ("PairingHall", "table", "LPairingHall$Table;", true)
  | 6 => ("PairingHall", "drawing", "LPairingHall$Drawing;", true)
  | 7 => ("PairingHall", "ratings", "LPairingHall$Ratings;", true)
  | 8 => ("PairingHall", "plans", "LPairingHall$Plans;", true)
  | 9 => ("PairingHall", "report", "LPairingHall$Report;", true)
  | 10 => ("PairingHall", "foundRow", "[I", true)
  | 11 => ("PairingHall", "foundLength", "I", false)
  | 12 => ("PairingHall", "tournamentCount", "I", false)
  | 13 => ("PairingHall", "savedCount", "I", false)
  | _ => ("PairingHall", "latestSerial", "I", false)
def tyX8 : Nat → FieldType := fun k => match k with
  | 0 => .object "PairingHall$Log"
  | 1 => .object "PairingHall$Roster"
  | 2 => .object "PairingHall$Roster"
  | 3 => .array (.object "PairingHall$Tournament")
  | 4 => .array (.object "PairingHall$Tournament")
  | 5 => .object "PairingHall$Table"
  | 6 => .object "PairingHall$Drawing"
  | 7 => .object "PairingHall$Ratings"
  | 8 => .object "PairingHall$Plans"
  | 9 => .object "PairingHall$Report"
  | 10 => .array .int
  | 11 => .int
  | 12 => .int
  | 13 => .int
  | _ => .int
abbrev wsX80 : List Cond := u_ws RX8 TX8 15
theorem nmX8 : ∀ a, a < 15 → ∀ b, b < 15 → a ≠ b → (TX8 a).2.1 ≠ (TX8 b).2.1 := by decide +kernel
theorem tyX8_ok : ∀ k, k < 15 → parseFieldDescriptor (TX8 k).2.2.1 = some (tyX8 k) := by decide +kernel
abbrev cX8_init : ByteArray := prog_1_method_1_code
def yX8_init : MethodName := ⟨RX8, "<init>", "()V"⟩
abbrev cX8_player : ByteArray := prog_1_method_2_code
def yX8_player : MethodName := ⟨RX8, "player", "(II)I"⟩
abbrev cX8_places : ByteArray := prog_1_method_3_code
def yX8_places : MethodName := ⟨RX8, "places", "(II)I"⟩
abbrev cX8_seat : ByteArray := prog_1_method_4_code
def yX8_seat : MethodName := ⟨RX8, "seat", "(III)I"⟩
abbrev cX8_held : ByteArray := prog_1_method_5_code
def yX8_held : MethodName := ⟨RX8, "held", "(II)I"⟩
abbrev cX8_worth : ByteArray := prog_1_method_6_code
def yX8_worth : MethodName := ⟨RX8, "worth", "(I)I"⟩
abbrev cX8_stepOf : ByteArray := prog_1_method_7_code
def yX8_stepOf : MethodName := ⟨RX8, "stepOf", "(I)I"⟩
abbrev cX8_trace : ByteArray := prog_1_method_8_code
def yX8_trace : MethodName := ⟨RX8, "trace", "(I)I"⟩
abbrev cX8_askWorth : ByteArray := prog_1_method_9_code
def yX8_askWorth : MethodName := ⟨RX8, "askWorth", "(I)I"⟩
abbrev cX8_tournament : ByteArray := prog_1_method_10_code
def yX8_tournament : MethodName := ⟨RX8, "tournament", "()I"⟩
abbrev cX8_enter : ByteArray := prog_1_method_11_code
def yX8_enter : MethodName := ⟨RX8, "enter", "(II)I"⟩
abbrev cX8_withdraw : ByteArray := prog_1_method_12_code
def yX8_withdraw : MethodName := ⟨RX8, "withdraw", "(II)I"⟩
abbrev cX8_rule : ByteArray := prog_1_method_13_code
def yX8_rule : MethodName := ⟨RX8, "rule", "(III)I"⟩
abbrev cX8_draw : ByteArray := prog_1_method_14_code
def yX8_draw : MethodName := ⟨RX8, "draw", "(II)I"⟩
abbrev cX8_pair : ByteArray := prog_1_method_15_code
def yX8_pair : MethodName := ⟨RX8, "pair", "(IIII)I"⟩
abbrev cX8_round : ByteArray := prog_1_method_16_code
def yX8_round : MethodName := ⟨RX8, "round", "(III)I"⟩
abbrev cX8_copy : ByteArray := prog_1_method_17_code
def yX8_copy : MethodName := ⟨RX8, "copy", "(I)I"⟩
abbrev cX8_alike : ByteArray := prog_1_method_18_code
def yX8_alike : MethodName := ⟨RX8, "alike", "(II)I"⟩
abbrev cX8_isTournament : ByteArray := prog_1_method_19_code
def yX8_isTournament : MethodName := ⟨RX8, "isTournament", "(I)Z"⟩
abbrev cX8_openNext : ByteArray := prog_1_method_20_code
def yX8_openNext : MethodName := ⟨RX8, "openNext", "()I"⟩
abbrev cX8_drawRound : ByteArray := prog_1_method_21_code
def yX8_drawRound : MethodName := ⟨RX8, "drawRound", "(II)I"⟩
abbrev cX8_tell : ByteArray := prog_1_method_22_code
def yX8_tell : MethodName := ⟨RX8, "tell", "(IIIIII)I"⟩
abbrev cX8_takeBack : ByteArray := prog_1_method_23_code
def yX8_takeBack : MethodName := ⟨RX8, "takeBack", "(III)I"⟩
abbrev cX8_counts : ByteArray := prog_1_method_24_code
def yX8_counts : MethodName := ⟨RX8, "counts", "(IIII)I"⟩
abbrev cX8_points : ByteArray := prog_1_method_25_code
def yX8_points : MethodName := ⟨RX8, "points", "(IIII)I"⟩
abbrev cX8_sum : ByteArray := prog_1_method_26_code
def yX8_sum : MethodName := ⟨RX8, "sum", "(IIIII)I"⟩
abbrev cX8_place : ByteArray := prog_1_method_27_code
def yX8_place : MethodName := ⟨RX8, "place", "(IIII)I"⟩
abbrev cX8_standing : ByteArray := prog_1_method_28_code
def yX8_standing : MethodName := ⟨RX8, "standing", "(IIII)I"⟩
abbrev cX8_why : ByteArray := prog_1_method_29_code
def yX8_why : MethodName := ⟨RX8, "why", "(IIIII)I"⟩
abbrev cX8_refuseAsking : ByteArray := prog_1_method_30_code
def yX8_refuseAsking : MethodName := ⟨RX8, "refuseAsking", "(IIII)I"⟩
abbrev cX8_makeTable : ByteArray := prog_1_method_31_code
def yX8_makeTable : MethodName := ⟨RX8, "makeTable", "(III)V"⟩
abbrev cX8_rated : ByteArray := prog_1_method_32_code
def yX8_rated : MethodName := ⟨RX8, "rated", "(IIII)I"⟩
abbrev cX8_mean : ByteArray := prog_1_method_33_code
def yX8_mean : MethodName := ⟨RX8, "mean", "(I)I"⟩
abbrev cX8_could : ByteArray := prog_1_method_34_code
def yX8_could : MethodName := ⟨RX8, "could", "(IIII)I"⟩
abbrev cX8_found : ByteArray := prog_1_method_35_code
def yX8_found : MethodName := ⟨RX8, "found", "(I)I"⟩
abbrev cX8_keepFound : ByteArray := prog_1_method_36_code
def yX8_keepFound : MethodName := ⟨RX8, "keepFound", "(I)V"⟩
abbrev cX8_step : ByteArray := prog_1_method_37_code
def yX8_step : MethodName := ⟨RX8, "step", "(IIIIII)I"⟩
abbrev cX8_empty : ByteArray := prog_1_method_38_code
def yX8_empty : MethodName := ⟨RX8, "empty", "(I)I"⟩
abbrev cX8_run : ByteArray := prog_1_method_39_code
def yX8_run : MethodName := ⟨RX8, "run", "(I)I"⟩
abbrev cX8_ran : ByteArray := prog_1_method_40_code
def yX8_ran : MethodName := ⟨RX8, "ran", "(I)I"⟩
abbrev cX8_isPlan : ByteArray := prog_1_method_41_code
def yX8_isPlan : MethodName := ⟨RX8, "isPlan", "(I)Z"⟩
abbrev cX8_fails : ByteArray := prog_1_method_42_code
def yX8_fails : MethodName := ⟨RX8, "fails", "(I)Z"⟩
abbrev cX8_save : ByteArray := prog_1_method_43_code
def yX8_save : MethodName := ⟨RX8, "save", "()V"⟩
abbrev cX8_restore : ByteArray := prog_1_method_44_code
def yX8_restore : MethodName := ⟨RX8, "restore", "()V"⟩
abbrev cX8_runSteps : ByteArray := prog_1_method_45_code
def yX8_runSteps : MethodName := ⟨RX8, "runSteps", "(I)Z"⟩
abbrev cX8_perform : ByteArray := prog_1_method_46_code
def yX8_perform : MethodName := ⟨RX8, "perform", "(I)I"⟩
abbrev cX8_need : ByteArray := prog_1_method_47_code
def yX8_need : MethodName := ⟨RX8, "need", "(IIII)I"⟩
abbrev cX8_finding : ByteArray := prog_1_method_48_code
def yX8_finding : MethodName := ⟨RX8, "finding", "()I"⟩
abbrev cX8_told : ByteArray := prog_1_method_49_code
def yX8_told : MethodName := ⟨RX8, "told", "(I)I"⟩
abbrev cX8_tellOf : ByteArray := prog_1_method_50_code
def yX8_tellOf : MethodName := ⟨RX8, "tellOf", "(II)I"⟩
def RX9 : String := "PairingHallModel"
def TX9 : u_T := fun k => match k with
  | 0 => ("PairingHallModel", "finding", "I", false)
  | 1 => ("PairingHallModel", "trace", "[I", true)
  | 2 => ("PairingHallModel", "traced", "I", false)
  | 3 => ("PairingHallModel", "players", "I", false)
  | 4 => ("PairingHallModel", "kind", "[I", true)
  | 5 => ("PairingHallModel", "base", "[I", true)
  | 6 => ("PairingHallModel", "places", "[I", true)
  | 7 => ("PairingHallModel", "held", "[I", true)
  | 8 => ("PairingHallModel", "tournaments", "I", false)
  | 9 => ("PairingHallModel", "rows", "[I", true)
  | 10 => ("PairingHallModel", "serial", "I", false)
  | 11 => ("PairingHallModel", "wasPlayers", "I", false)
  | 12 => ("PairingHallModel", "wasKind", "[I", true)
  | 13 => ("PairingHallModel", "wasBase", "[I", true)
  | 14 => ("PairingHallModel", "wasPlaces", "[I", true)
  | 15 => ("PairingHallModel", "wasHeld", "[I", true)
  | 16 => ("PairingHallModel", "wasTournaments", "I", false)
  | 17 => ("PairingHallModel", "wasRows", "[I", true)
  | 18 => ("PairingHallModel", "steps", "[I", true)
  | 19 => ("PairingHallModel", "stepMany", "[I", true)
  | 20 => ("PairingHallModel", "tries", "[I", true)
  | 21 => ("PairingHallModel", "answered", "I", false)
  | 22 => ("PairingHallModel", "ofPlan", "I", false)
  | 23 => ("PairingHallModel", "atPlace", "I", false)
  | 24 => ("PairingHallModel", "done", "I", false)
  | 25 => ("PairingHallModel", "isAssumed", "Z", false)
  | 26 => ("PairingHallModel", "assumed", "[I", true)
  | 27 => ("PairingHallModel", "who", "[I", true)
  | 28 => ("PairingHallModel", "worths", "[I", true)
  | 29 => ("PairingHallModel", "points", "[I", true)
  | 30 => ("PairingHallModel", "many", "I", false)
  | 31 => ("PairingHallModel", "breaks", "I", false)
  | 32 => ("PairingHallModel", "balance", "I", false)
  | 33 => ("PairingHallModel", "latest", "I", false)
  | 34 => ("PairingHallModel", "before", "I", false)
  | 35 => ("PairingHallModel", "best", "[I", true)
  | 36 => ("PairingHallModel", "with", "[I", true)
  | 37 => ("PairingHallModel", "costs", "[I", true)
  | 38 => ("PairingHallModel", "ratings", "[I", true)
  | 39 => ("PairingHallModel", "ahead", "[I", true)
  | 40 => ("PairingHallModel", "open", "[I", true)
  | 41 => ("PairingHallModel", "foundOutcomes", "[I", true)
  | _ => ("PairingHallModel", "foundMany", "I", false)
def tyX9 : Nat → FieldType := fun k => match k with
  | 0 => .int
  | 1 => .array .int
  | 2 => .int
  | 3 => .int
  | 4 => .array .int
  | 5 => .array .int
  | 6 => .array .int
  | 7 => .array .int
  | 8 => .int
  | 9 => .array .int
  | 10 => .int
  | 11 => .int
  | 12 => .array .int
  | 13 => .array .int
  | 14 => .array .int
  | 15 => .array .int
  | 16 => .int
  | 17 => .array .int
  | 18 => .array .int
  | 19 => .array .int
  | 20 => .array .int
  | 21 => .int
  | 22 => .int
  | 23 => .int
  | 24 => .int
  | 25 => .boolean
  | 26 => .array .int
  | 27 => .array .int
  | 28 => .array .int
  | 29 => .array .int
  | 30 => .int
  | 31 => .int
  | 32 => .int
  | 33 => .int
  | 34 => .int
  | 35 => .array .int
  | 36 => .array .int
  | 37 => .array .int
  | 38 => .array .int
  | 39 => .array .int
  | 40 => .array .int
  | 41 => .array .int
  | _ => .int
abbrev wsX90 : List Cond := u_ws RX9 TX9 43
theorem nmX9 : ∀ a, a < 43 → ∀ b, b < 43 → a ≠ b → (TX9 a).2.1 ≠ (TX9 b).2.1 := by decide +kernel
theorem tyX9_ok : ∀ k, k < 43 → parseFieldDescriptor (TX9 k).2.2.1 = some (tyX9 k) := by decide +kernel
abbrev cX9_init : ByteArray := prog_11_method_1_code
def yX9_init : MethodName := ⟨RX9, "<init>", "()V"⟩
abbrev cX9_in : ByteArray := prog_11_method_3_code
def yX9_in : MethodName := ⟨RX9, "in", "(III)Z"⟩
abbrev cX9_meets : ByteArray := prog_11_method_4_code
def yX9_meets : MethodName := ⟨RX9, "meets", "(I)I"⟩
abbrev cX9_began : ByteArray := prog_11_method_5_code
def yX9_began : MethodName := ⟨RX9, "began", "(I)V"⟩
abbrev cX9_isPlayer : ByteArray := prog_11_method_6_code
def yX9_isPlayer : MethodName := ⟨RX9, "isPlayer", "(I)Z"⟩
abbrev cX9_isTournament : ByteArray := prog_11_method_7_code
def yX9_isTournament : MethodName := ⟨RX9, "isTournament", "(I)Z"⟩
abbrev cX9_cell : ByteArray := prog_11_method_8_code
def yX9_cell : MethodName := ⟨RX9, "cell", "(II)I"⟩
abbrev cX9_lay : ByteArray := prog_11_method_9_code
def yX9_lay : MethodName := ⟨RX9, "lay", "(III)V"⟩
abbrev cX9_player : ByteArray := prog_11_method_10_code
def yX9_player : MethodName := ⟨RX9, "player", "(II)I"⟩
abbrev cX9_places : ByteArray := prog_11_method_11_code
def yX9_places : MethodName := ⟨RX9, "places", "(II)I"⟩
abbrev cX9_seat : ByteArray := prog_11_method_12_code
def yX9_seat : MethodName := ⟨RX9, "seat", "(III)I"⟩
abbrev cX9_held : ByteArray := prog_11_method_13_code
def yX9_held : MethodName := ⟨RX9, "held", "(II)I"⟩
abbrev cX9_soloWorth : ByteArray := prog_11_method_14_code
def yX9_soloWorth : MethodName := ⟨RX9, "soloWorth", "(I)I"⟩
abbrev cX9_worthOf : ByteArray := prog_11_method_15_code
def yX9_worthOf : MethodName := ⟨RX9, "worthOf", "(I)I"⟩
abbrev cX9_worth : ByteArray := prog_11_method_16_code
def yX9_worth : MethodName := ⟨RX9, "worth", "(I)I"⟩
abbrev cX9_stepFor : ByteArray := prog_11_method_17_code
def yX9_stepFor : MethodName := ⟨RX9, "stepFor", "(I)I"⟩
abbrev cX9_stepOf : ByteArray := prog_11_method_18_code
def yX9_stepOf : MethodName := ⟨RX9, "stepOf", "(I)I"⟩
abbrev cX9_trace : ByteArray := prog_11_method_19_code
def yX9_trace : MethodName := ⟨RX9, "trace", "(I)I"⟩
abbrev cX9_another : ByteArray := prog_11_method_20_code
def yX9_another : MethodName := ⟨RX9, "another", "()I"⟩
abbrev cX9_tournament : ByteArray := prog_11_method_21_code
def yX9_tournament : MethodName := ⟨RX9, "tournament", "()I"⟩
abbrev cX9_placeOf : ByteArray := prog_11_method_22_code
def yX9_placeOf : MethodName := ⟨RX9, "placeOf", "(II)I"⟩
abbrev cX9_enter : ByteArray := prog_11_method_23_code
def yX9_enter : MethodName := ⟨RX9, "enter", "(II)I"⟩
abbrev cX9_withdraw : ByteArray := prog_11_method_24_code
def yX9_withdraw : MethodName := ⟨RX9, "withdraw", "(II)I"⟩
abbrev cX9_rule : ByteArray := prog_11_method_25_code
def yX9_rule : MethodName := ⟨RX9, "rule", "(III)I"⟩
abbrev cX9_entryOf : ByteArray := prog_11_method_26_code
def yX9_entryOf : MethodName := ⟨RX9, "entryOf", "(III)I"⟩
abbrev cX9_outcomeOf : ByteArray := prog_11_method_27_code
def yX9_outcomeOf : MethodName := ⟨RX9, "outcomeOf", "(IIII)I"⟩
abbrev cX9_halves : ByteArray := prog_11_method_28_code
def yX9_halves : MethodName := ⟨RX9, "halves", "(IZ)I"⟩
abbrev cX9_pairOf : ByteArray := prog_11_method_29_code
def yX9_pairOf : MethodName := ⟨RX9, "pairOf", "(III)I"⟩
abbrev cX9_isWithNobody : ByteArray := prog_11_method_30_code
def yX9_isWithNobody : MethodName := ⟨RX9, "isWithNobody", "(II)Z"⟩
abbrev cX9_otherOf : ByteArray := prog_11_method_31_code
def yX9_otherOf : MethodName := ⟨RX9, "otherOf", "(III)I"⟩
abbrev cX9_pointsOf : ByteArray := prog_11_method_32_code
def yX9_pointsOf : MethodName := ⟨RX9, "pointsOf", "(IIII)I"⟩
abbrev cX9_sumOf : ByteArray := prog_11_method_33_code
def yX9_sumOf : MethodName := ⟨RX9, "sumOf", "(IIIII)I"⟩
abbrev cX9_parting : ByteArray := prog_11_method_34_code
def yX9_parting : MethodName := ⟨RX9, "parting", "(IIIII)I"⟩
abbrev cX9_colours : ByteArray := prog_11_method_35_code
def yX9_colours : MethodName := ⟨RX9, "colours", "(II)V"⟩
abbrev cX9_colourCost : ByteArray := prog_11_method_36_code
def yX9_colourCost : MethodName := ⟨RX9, "colourCost", "(IIZ)I"⟩
abbrev cX9_wasWith : ByteArray := prog_11_method_37_code
def yX9_wasWith : MethodName := ⟨RX9, "wasWith", "(III)Z"⟩
abbrev cX9_costAlone : ByteArray := prog_11_method_38_code
def yX9_costAlone : MethodName := ⟨RX9, "costAlone", "(II)I"⟩
abbrev cX9_costOf : ByteArray := prog_11_method_39_code
def yX9_costOf : MethodName := ⟨RX9, "costOf", "(IIIZ)I"⟩
abbrev cX9_search : ByteArray := prog_11_method_40_code
def yX9_search : MethodName := ⟨RX9, "search", "(I)V"⟩
abbrev cX9_pairUp : ByteArray := prog_11_method_41_code
def yX9_pairUp : MethodName := ⟨RX9, "pairUp", "(II)V"⟩
abbrev cX9_gather : ByteArray := prog_11_method_42_code
def yX9_gather : MethodName := ⟨RX9, "gather", "(IZ)V"⟩
abbrev cX9_askWorths : ByteArray := prog_11_method_43_code
def yX9_askWorths : MethodName := ⟨RX9, "askWorths", "()I"⟩
abbrev cX9_drawOf : ByteArray := prog_11_method_44_code
def yX9_drawOf : MethodName := ⟨RX9, "drawOf", "(II)I"⟩
abbrev cX9_draw : ByteArray := prog_11_method_45_code
def yX9_draw : MethodName := ⟨RX9, "draw", "(II)I"⟩
abbrev cX9_against : ByteArray := prog_11_method_46_code
def yX9_against : MethodName := ⟨RX9, "against", "(III)I"⟩
abbrev cX9_pair : ByteArray := prog_11_method_47_code
def yX9_pair : MethodName := ⟨RX9, "pair", "(IIII)I"⟩
abbrev cX9_round : ByteArray := prog_11_method_48_code
def yX9_round : MethodName := ⟨RX9, "round", "(III)I"⟩
abbrev cX9_tell : ByteArray := prog_11_method_49_code
def yX9_tell : MethodName := ⟨RX9, "tell", "(IIIIII)I"⟩
abbrev cX9_takeBack : ByteArray := prog_11_method_50_code
def yX9_takeBack : MethodName := ⟨RX9, "takeBack", "(III)I"⟩
abbrev cX9_counts : ByteArray := prog_11_method_51_code
def yX9_counts : MethodName := ⟨RX9, "counts", "(IIII)I"⟩
abbrev cX9_refused : ByteArray := prog_11_method_52_code
def yX9_refused : MethodName := ⟨RX9, "refused", "(IIII)I"⟩
abbrev cX9_points : ByteArray := prog_11_method_53_code
def yX9_points : MethodName := ⟨RX9, "points", "(IIII)I"⟩
abbrev cX9_sum : ByteArray := prog_11_method_54_code
def yX9_sum : MethodName := ⟨RX9, "sum", "(IIIII)I"⟩
abbrev cX9_ahead : ByteArray := prog_11_method_55_code
def yX9_ahead : MethodName := ⟨RX9, "ahead", "(IIII)I"⟩
abbrev cX9_place : ByteArray := prog_11_method_56_code
def yX9_place : MethodName := ⟨RX9, "place", "(IIII)I"⟩
abbrev cX9_standing : ByteArray := prog_11_method_57_code
def yX9_standing : MethodName := ⟨RX9, "standing", "(IIII)I"⟩
abbrev cX9_why : ByteArray := prog_11_method_58_code
def yX9_why : MethodName := ⟨RX9, "why", "(IIIII)I"⟩
abbrev cX9_rounded : ByteArray := prog_11_method_59_code
def yX9_rounded : MethodName := ⟨RX9, "rounded", "(I)I"⟩
abbrev cX9_rate : ByteArray := prog_11_method_60_code
def yX9_rate : MethodName := ⟨RX9, "rate", "(IIII)V"⟩
abbrev cX9_rated : ByteArray := prog_11_method_61_code
def yX9_rated : MethodName := ⟨RX9, "rated", "(IIII)I"⟩
abbrev cX9_mean : ByteArray := prog_11_method_62_code
def yX9_mean : MethodName := ⟨RX9, "mean", "(I)I"⟩
abbrev cX9_isFirst : ByteArray := prog_11_method_63_code
def yX9_isFirst : MethodName := ⟨RX9, "isFirst", "(IIII)Z"⟩
abbrev cX9_could : ByteArray := prog_11_method_64_code
def yX9_could : MethodName := ⟨RX9, "could", "(IIII)I"⟩
abbrev cX9_found : ByteArray := prog_11_method_65_code
def yX9_found : MethodName := ⟨RX9, "found", "(I)I"⟩
abbrev cX9_step : ByteArray := prog_11_method_66_code
def yX9_step : MethodName := ⟨RX9, "step", "(IIIIII)I"⟩
abbrev cX9_empty : ByteArray := prog_11_method_67_code
def yX9_empty : MethodName := ⟨RX9, "empty", "(I)I"⟩
abbrev cX9_need : ByteArray := prog_11_method_68_code
def yX9_need : MethodName := ⟨RX9, "need", "(IIII)I"⟩
abbrev cX9_answer : ByteArray := prog_11_method_69_code
def yX9_answer : MethodName := ⟨RX9, "answer", "(I)I"⟩
abbrev cX9_fails : ByteArray := prog_11_method_70_code
def yX9_fails : MethodName := ⟨RX9, "fails", "(III)V"⟩
abbrev cX9_goes : ByteArray := prog_11_method_71_code
def yX9_goes : MethodName := ⟨RX9, "goes", "(I)Z"⟩
abbrev cX9_keep : ByteArray := prog_11_method_72_code
def yX9_keep : MethodName := ⟨RX9, "keep", "()V"⟩
abbrev cX9_back : ByteArray := prog_11_method_73_code
def yX9_back : MethodName := ⟨RX9, "back", "()V"⟩
abbrev cX9_run : ByteArray := prog_11_method_74_code
def yX9_run : MethodName := ⟨RX9, "run", "(I)I"⟩
abbrev cX9_ran : ByteArray := prog_11_method_75_code
def yX9_ran : MethodName := ⟨RX9, "ran", "(I)I"⟩
abbrev cX9_copy : ByteArray := prog_11_method_76_code
def yX9_copy : MethodName := ⟨RX9, "copy", "(I)I"⟩
abbrev cX9_alike : ByteArray := prog_11_method_77_code
def yX9_alike : MethodName := ⟨RX9, "alike", "(II)I"⟩
abbrev cX9_finding : ByteArray := prog_11_method_78_code
def yX9_finding : MethodName := ⟨RX9, "finding", "()I"⟩
abbrev cX9_told : ByteArray := prog_11_method_79_code
def yX9_told : MethodName := ⟨RX9, "told", "(I)I"⟩
def RJ9 : String := "java/lang/Math"
abbrev cJ9_floorDiv_7cf53 : ByteArray := prog_12_method_47_code
def yJ9_floorDiv_7cf53 : MethodName := ⟨RJ9, "floorDiv", "(II)I"⟩
abbrev cJ9_floorMod_7cf53 : ByteArray := prog_12_method_50_code
def yJ9_floorMod_7cf53 : MethodName := ⟨RJ9, "floorMod", "(II)I"⟩
abbrev cJ9_abs_0f7a4 : ByteArray := prog_12_method_59_code
def yJ9_abs_0f7a4 : MethodName := ⟨RJ9, "abs", "(I)I"⟩
abbrev cJ9_max_7cf53 : ByteArray := prog_12_method_65_code
def yJ9_max_7cf53 : MethodName := ⟨RJ9, "max", "(II)I"⟩
abbrev cJ9_min_7cf53 : ByteArray := prog_12_method_69_code
def yJ9_min_7cf53 : MethodName := ⟨RJ9, "min", "(II)I"⟩
def RJ10 : String := "java/lang/System"
def RJ7 : String := "java/util/Arrays"
abbrev cJ7_fill_53178 : ByteArray := prog_14_method_103_code
def yJ7_fill_53178 : MethodName := ⟨RJ7, "fill", "([II)V"⟩
def RL : String := "PairingHallLaw"
abbrev cL_law : ByteArray := code
def yL_law : MethodName := ⟨RL, "law", "([I)Z"⟩
def RL2 : String := "java/util/Arrays"
def am_R (o : Nat) : String := match o with
  | 0 => RX0
  | 1 => RX1
  | 2 => RX2
  | 3 => RX3
  | 4 => RX4
  | 5 => RX5
  | 6 => RX6
  | 7 => RX7
  | 8 => RX8
  | 9 => RX9
  | 10 => RL
  | 11 => RJ9
  | 12 => RJ7
  | _ => ""
abbrev am_cl : List vw_C := [(RX0, TX0, 13), (RX1, TX1, 3), (RX2, TX2, 3), (RX3, TX3, 1), (RX4, TX4, 4), (RX5, TX5, 5), (RX6, TX6, 11), (RX7, TX7, 17), (RX8, TX8, 15), (RX9, TX9, 43)]
def am_tb : List Cond := lw_tbl.filter goodWord
theorem am_mem (i : Nat) {w : Cond} (h : lw_tbl[i]? = some w) (hg : goodWord w = true) : w ∈ am_tb := List.mem_filter.mpr ⟨List.mem_of_getElem? h, hg⟩
theorem am_good : GoodIn am_tb am_tb := fun w h => ⟨h, good_of_word (List.mem_filter.mp h).2⟩
theorem am_in0 : ∀ w ∈ u_ws RX0 TX0 13, w ∈ am_tb := fun w h => List.mem_filter.mpr ⟨(by decide +kernel : ∀ w ∈ u_ws RX0 TX0 13, w ∈ lw_tbl) w h, (by decide +kernel : ∀ w ∈ u_ws RX0 TX0 13, goodWord w = true) w h⟩
theorem am_in1 : ∀ w ∈ u_ws RX1 TX1 3, w ∈ am_tb := fun w h => List.mem_filter.mpr ⟨(by decide +kernel : ∀ w ∈ u_ws RX1 TX1 3, w ∈ lw_tbl) w h, (by decide +kernel : ∀ w ∈ u_ws RX1 TX1 3, goodWord w = true) w h⟩
theorem am_in2 : ∀ w ∈ u_ws RX2 TX2 3, w ∈ am_tb := fun w h => List.mem_filter.mpr ⟨(by decide +kernel : ∀ w ∈ u_ws RX2 TX2 3, w ∈ lw_tbl) w h, (by decide +kernel : ∀ w ∈ u_ws RX2 TX2 3, goodWord w = true) w h⟩
theorem am_in3 : ∀ w ∈ u_ws RX3 TX3 1, w ∈ am_tb := fun w h => List.mem_filter.mpr ⟨(by decide +kernel : ∀ w ∈ u_ws RX3 TX3 1, w ∈ lw_tbl) w h, (by decide +kernel : ∀ w ∈ u_ws RX3 TX3 1, goodWord w = true) w h⟩
theorem am_in4 : ∀ w ∈ u_ws RX4 TX4 4, w ∈ am_tb := fun w h => List.mem_filter.mpr ⟨(by decide +kernel : ∀ w ∈ u_ws RX4 TX4 4, w ∈ lw_tbl) w h, (by decide +kernel : ∀ w ∈ u_ws RX4 TX4 4, goodWord w = true) w h⟩
theorem am_in5 : ∀ w ∈ u_ws RX5 TX5 5, w ∈ am_tb := fun w h => List.mem_filter.mpr ⟨(by decide +kernel : ∀ w ∈ u_ws RX5 TX5 5, w ∈ lw_tbl) w h, (by decide +kernel : ∀ w ∈ u_ws RX5 TX5 5, goodWord w = true) w h⟩
theorem am_in6 : ∀ w ∈ u_ws RX6 TX6 11, w ∈ am_tb := fun w h => List.mem_filter.mpr ⟨(by decide +kernel : ∀ w ∈ u_ws RX6 TX6 11, w ∈ lw_tbl) w h, (by decide +kernel : ∀ w ∈ u_ws RX6 TX6 11, goodWord w = true) w h⟩
theorem am_in7 : ∀ w ∈ u_ws RX7 TX7 17, w ∈ am_tb := fun w h => List.mem_filter.mpr ⟨(by decide +kernel : ∀ w ∈ u_ws RX7 TX7 17, w ∈ lw_tbl) w h, (by decide +kernel : ∀ w ∈ u_ws RX7 TX7 17, goodWord w = true) w h⟩
theorem am_in8 : ∀ w ∈ u_ws RX8 TX8 15, w ∈ am_tb := fun w h => List.mem_filter.mpr ⟨(by decide +kernel : ∀ w ∈ u_ws RX8 TX8 15, w ∈ lw_tbl) w h, (by decide +kernel : ∀ w ∈ u_ws RX8 TX8 15, goodWord w = true) w h⟩
theorem am_in9 : ∀ w ∈ u_ws RX9 TX9 43, w ∈ am_tb := fun w h => List.mem_filter.mpr ⟨(by decide +kernel : ∀ w ∈ u_ws RX9 TX9 43, w ∈ lw_tbl) w h, (by decide +kernel : ∀ w ∈ u_ws RX9 TX9 43, goodWord w = true) w h⟩
def am_nw : List Cond := [(Cond.methodLinkNest "PairingHall" (9 : Nat) ({ cls := "PairingHall$Log", name := "<init>", desc := "()V" } : MethodName) "PairingHall"), (Cond.methodLinkNest "PairingHall" (18 : Nat) ({ cls := "PairingHall$Roster", name := "<init>", desc := "()V" } : MethodName) "PairingHall"), (Cond.methodLinkNest "PairingHall" (37 : Nat) ({ cls := "PairingHall$Table", name := "<init>", desc := "()V" } : MethodName) "PairingHall"), (Cond.methodLinkNest "PairingHall" (44 : Nat) ({ cls := "PairingHall$Drawing", name := "<init>", desc := "()V" } : MethodName) "PairingHall"), (Cond.methodLinkNest "PairingHall" (51 : Nat) ({ cls := "PairingHall$Ratings", name := "<init>", desc := "()V" } : MethodName) "PairingHall"), (Cond.methodLinkNest "PairingHall" (58 : Nat) ({ cls := "PairingHall$Plans", name := "<init>", desc := "()V" } : MethodName) "PairingHall"), (Cond.methodLinkNest "PairingHall" (65 : Nat) ({ cls := "PairingHall$Report", name := "<init>", desc := "()V" } : MethodName) "PairingHall"), (Cond.methodLinkNest "PairingHall" (87 : Nat) ({ cls := "PairingHall$Tournament", name := "<init>", desc := "()V" } : MethodName) "PairingHall"), Cond.arrayOver (.object RX7)]
end
section
/-! THE MACHINE IN SMALL: a world of cells numbered 0, 1, .. (cell k lies at b + k), values whose references are such numbers, locals as a list, a judgement am_V that stands for W, a contract am_X that stands for Met. A float stands for the script (the law alone has it). -/
abbrev am_H : Type := (Nat → va_E) × Nat × Nat
/-- a method: name, bytes, locals, answer's type, class, instructions (instruction, length, next place, targets) -/
abbrev am_M : Type := MethodName × ByteArray × Nat × Option FieldType × Nat × (Nat → Option (Instr × Nat × Nat × List Nat))
def am_v (b bs : Nat) : Value → Value
  | .ref k => .ref (b + k)
  | .float _ => .ref bs
  | v => v
def am_x (b : Nat) : vp_A → vp_A
  | (n, .inr (.inr (.inr (.inr f)))) => (n, .inr (.inr (.inr (.inr (fun j => (f j).map (fun k => b + k))))))
  | x => x
def am_e (b bs : Nat) (cA : Nat → ClassId) : va_E → va_E
  | .inl a => .inl (cA a.1, am_x b a.2)
  | .inr o => .inr (o.1, o.2.map (am_v b bs))
def am_u (h : am_H) (k : Nat) (e : va_E) : am_H := (fun j => if j = k then e else h.1 j, h.2)
def am_n (h : am_H) (e : va_E) (w : Nat) : am_H := (fun j => if j = h.2.1 then e else h.1 j, h.2.1 + 1, h.2.2 + w)
def am_P (D : va_G) (cA : Nat → ClassId) (b bs : Nat) (h : am_H) (H : Heap) : Prop := H.size = b + h.2.1 ∧ ∀ k, k < h.2.1 → va_at D am_cl (b + k, am_e b bs cA (h.1 k)) H
def am_K (D : va_G) (cA : Nat → ClassId) (U : State) : Prop := va_K D am_cl [(cA 0, .int), (cA 1, .boolean), (cA 2, .object RX7)] U ∧ ∀ w ∈ am_nw, va_Nw w U
def am_L (b bs nL : Nat) (L : List (Option Value)) (ls : Array Slot) : Prop := ls.size = nL ∧ lv_wf ls ∧ ∀ (i : Nat) (v : Value), L[i]? = some (some v) → v.category = 1 ∧ ls[i]? = some (.val (am_v b bs v))
def am_off : Instr → List Int
  | .goto o => [o]
  | .if_icmp _ o => [o]
  | .ifCond _ o => [o]
  | .tableswitch d _ _ os => d :: os.toList
  | _ => []
def am_ok (M : am_M) : Prop := ∀ (pc : Nat) (q : Instr × Nat × Nat × List Nat), M.2.2.2.2.2 pc = some q → decode M.2.1 pc = .ok (q.1, q.2.1) ∧ q.2.2.1 = pc + q.2.1 ∧ q.2.2.2.map (fun t : Nat => (t : Int)) = (am_off q.1).map (fun o : Int => (pc : Int) + o)
def am_rm (d mc ms : Nat) : Room := { frames := d, cells := mc, slots := ms, locals := 40 * d }
def am_r (ret : Option FieldType) (r : Int32) : Option Value := match ret with
  | none => none
  | some _ => some (.int r)
def am_Q (ret : Option FieldType) (D : va_G) (cA : Nat → ClassId) (b bs n z : Nat) (post : Int32 → am_H → Prop) : Array Value → State → Outcome → State → Prop := fun _ st oc t =>
  (∃ (r : Int32) (h : am_H), oc = .returned (am_r ret r) ∧ post r h ∧ h.2.1 = n ∧ h.2.2 = z ∧ am_P D cA b bs h t.heap ∧ am_K D cA t) ∧ va_F (fun q => b ≤ q) st t
/-- all that is known of a run of M at a place: budgets, tables, world, locals -/
def am_Re (M : am_M) (sc : Nat × (Nat → Int32)) (d mc ms n0 z0 : Nat) (p : Program) (R : Room) (s : State) (m : MethodId) (args : Array Value) (meth : Method) (c : Code) (D : va_G) (cA : Nat → ClassId) (b bs : Nat) (H : Heap) (locs : List Loc) (ls : Array Slot) (cells slots : Nat) (L : List (Option Value)) (h : am_H) : Prop :=
  (am_ok M ∧ p.tables.exec = Jvm.exec ∧ c.code = M.2.1 ∧ meth.sig.returnType = M.2.2.2.1 ∧ c.maxLocals = M.2.2.1 ∧ s.vm.findClass (am_R M.2.2.2.2.1) = some m.cls ∧ meth.locks = false ∧ meth.name = M.1.name ∧ (∀ w ∈ am_tb, w.before args s = true)) ∧
  (d ≤ R.frames ∧ 40 * d ≤ R.locals ∧ mc ≤ R.cells ∧ ms ≤ R.slots) ∧ am_K D cA s ∧ (M.2.2.2.2.1 = 10 → va_X bs sc.1 sc.2 s s.heap ∧ bs < s.heap.size ∧ bs < b) ∧ (b ≤ s.heap.size ∧ s.heap.size = b + n0) ∧
  am_P D cA b bs h H ∧ va_S (fun q => b ≤ q) s.heap H locs ∧ am_L b bs M.2.2.1 L ls ∧ cells + n0 = h.2.1 ∧ slots + z0 = h.2.2 ∧ h.2.1 ≤ n0 + mc ∧ h.2.2 ≤ z0 + ms
/-- what is asked of a return: Q behind it -/
def am_End (M : am_M) (mc ms n0 z0 : Nat) (post : Int32 → am_H → Prop) (p : Program) (l : Launch) (e : Env) (R : Room) (s : State) (m : MethodId) (args : Array Value) (below : List Frame) (meth : Method) (c : Code) (D : va_G) (cA : Nat → ClassId) (b bs : Nat) (Q : State → Prop) : Prop :=
  ∀ (r : Int32) (h : am_H) (pc : Nat) (H : Heap) (locs : List Loc) (ls : Array Slot) (cells slots : Nat), decode M.2.1 pc = .ok (match M.2.2.2.1 with | none => Instr.return_ | some _ => Instr.ireturn, 1) → post r h → h.2.1 = n0 + mc → h.2.2 = z0 + ms → cells = mc → slots = ms →
    (M.2.2.2.1 = some .boolean → r = 0 ∨ r = 1) → am_P D cA b bs h H → va_S (fun q => b ≤ q) s.heap H locs → W p l e R s m args below meth c H locs cells slots Q (F0 m pc ls (am_r M.2.2.2.1 r).toList)
def am_V (M : am_M) (sc : Nat × (Nat → Int32)) (d mc ms n0 z0 : Nat) (post : Int32 → am_H → Prop) (pc : Nat) (L : List (Option Value)) (st : List Value) (h : am_H) : Prop :=
  ∀ (p : Program) (l : Launch) (e : Env) (R : Room) (s : State) (m : MethodId) (args : Array Value) (below : List Frame) (meth : Method) (c : Code) (D : va_G) (cA : Nat → ClassId) (b bs : Nat) (H : Heap) (locs : List Loc) (ls : Array Slot) (cells slots : Nat) (Q : State → Prop),
    am_Re M sc d mc ms n0 z0 p R s m args meth c D cA b bs H locs ls cells slots L h → am_End M mc ms n0 z0 post p l e R s m args below meth c D cA b bs Q → W p l e R s m args below meth c H locs cells slots Q (F0 m pc ls (st.map (am_v b bs)))
/-- the contract of M: from these values and this world it comes to an end, with post of answer and world -/
def am_X (M : am_M) (d mc ms : Nat) (As : List Value) (h : am_H) (post : Int32 → am_H → Prop) : Prop :=
  ∃ d', d' ≤ d ∧ ∀ (l : Launch) (D : va_G) (cA : Nat → ClassId) (b bs : Nat), Met l M.1 (.code M.1 M.2.1 M.2.2.1 M.2.2.2.1 :: am_tb) (am_rm d' mc ms) (va_Pc (As.map (am_v b bs)) (fun U => am_P D cA b bs h U.heap ∧ am_K D cA U)) (am_Q M.2.2.2.1 D cA b bs (h.2.1 + mc) (h.2.2 + ms) post) mc ms (fun q => b ≤ q)
theorem am_X.mono {M : am_M} {d d2 mc ms : Nat} {As : List Value} {h : am_H} {post : Int32 → am_H → Prop} (hX : am_X M d mc ms As h post) (hd : d ≤ d2) : am_X M d2 mc ms As h post := by
  obtain ⟨d', h1, h2⟩ := hX
  exact ⟨d', Nat.le_trans h1 hd, h2⟩
theorem am_P.put {D : va_G} {cA : Nat → ClassId} {b bs k : Nat} {h : am_H} {H H1 : Heap} {e : va_E} (hP : am_P D cA b bs h H) (he : va_at D am_cl (b + k, am_e b bs cA e) H1) (z : H1.size = H.size) (oq : ∀ q : Nat, q ≠ b + k → H1[q]? = H[q]?) : am_P D cA b bs (am_u h k e) H1 := by
  refine ⟨z.trans hP.1, fun j hj => ?_⟩
  show va_at D am_cl (b + j, am_e b bs cA (if j = k then e else h.1 j)) H1
  by_cases hjk : j = k
  · subst hjk
    rw [if_pos rfl]
    exact he
  · rw [if_neg hjk]
    exact (hP.2 j hj).kept (oq _ (by show b + j ≠ b + k; omega))
theorem am_P.new {D : va_G} {cA : Nat → ClassId} {b bs w : Nat} {h : am_H} {H H1 : Heap} {e : va_E} (hP : am_P D cA b bs h H) (he : va_at D am_cl (H.size, am_e b bs cA e) H1) (z : H1.size = H.size + 1) (oq : ∀ q : Nat, q < H.size → H1[q]? = H[q]?) : am_P D cA b bs (am_n h e w) H1 := by
  refine ⟨?_, fun j hj => ?_⟩
  · show H1.size = b + (h.2.1 + 1)
    rw [z, hP.1]
    omega
  · have hj : j < h.2.1 + 1 := hj
    show va_at D am_cl (b + j, am_e b bs cA (if j = h.2.1 then e else h.1 j)) H1
    by_cases hjk : j = h.2.1
    · subst hjk
      rw [if_pos rfl, ← hP.1]
      exact he
    · rw [if_neg hjk]
      exact (hP.2 j (by omega)).kept (oq _ (by show b + j < H.size; rw [hP.1]; omega))
theorem am_nw_moved {s U : State} (hW : s.WarmedH U.vm) (h : ∀ w ∈ am_nw, va_Nw w s) : ∀ w ∈ am_nw, va_Nw w U := by
  intro w hw
  have h1 := h w hw
  simp only [am_nw, List.mem_cons, List.not_mem_nil, or_false] at hw
  rcases hw with rfl | rfl | rfl | rfl | rfl | rfl | rfl | rfl | rfl
  all_goals first | exact va_Nw.warmM hW h1 | exact va_AO.moved hW.alike h1
theorem am_nw_same {u U : State} (hv : u.vm = U.vm) (h : ∀ w ∈ am_nw, va_Nw w u) : ∀ w ∈ am_nw, va_Nw w U := by
  intro w hw
  have h1 := h w hw
  simp only [am_nw, List.mem_cons, List.not_mem_nil, or_false] at hw
  rcases hw with rfl | rfl | rfl | rfl | rfl | rfl | rfl | rfl | rfl
  all_goals first | exact va_Nw.same rfl hv h1 | exact va_AO.moved (hv ▸ Vm.Alike.refl u.vm) h1
theorem am_K.moved {D : va_G} {cA : Nat → ClassId} {s U : State} (hW : s.WarmedH U.vm) (h : am_K D cA s) : am_K D cA U := ⟨va_K.moved hW.alike h.1, am_nw_moved hW h.2⟩
theorem am_K.same {D : va_G} {cA : Nat → ClassId} {u U : State} (hv : u.vm = U.vm) (h : am_K D cA u) : am_K D cA U := ⟨va_K.moved (hv ▸ Vm.Alike.refl u.vm) h.1, am_nw_same hv h.2⟩
/-- the locals as the kit lists them -/
def am_l (b bs : Nat) : Nat → List (Option Value) → List (Nat × Value)
  | _, [] => []
  | i, none :: L => am_l b bs (i + 1) L
  | i, some v :: L => (i, am_v b bs v) :: am_l b bs (i + 1) L
theorem am_l_mem {b bs : Nat} : ∀ (L : List (Option Value)) (i : Nat) (q : Nat × Value), q ∈ am_l b bs i L ↔ ∃ (j : Nat) (v : Value), L[j]? = some (some v) ∧ q = (i + j, am_v b bs v)
  | [], i, q => by simp [am_l]
  | none :: L, i, q => by
    rw [am_l, am_l_mem L (i + 1) q]
    constructor
    · rintro ⟨j, v, h1, h2⟩
      exact ⟨j + 1, v, by simpa using h1, by rw [h2]; congr 1; omega⟩
    · rintro ⟨j, v, h1, h2⟩
      cases j with
      | zero => simp at h1
      | succ j => exact ⟨j, v, by simpa using h1, by rw [h2]; congr 1; omega⟩
  | some w :: L, i, q => by
    rw [am_l, List.mem_cons, am_l_mem L (i + 1) q]
    constructor
    · rintro (h | ⟨j, v, h1, h2⟩)
      · exact ⟨0, w, by simp, by rw [h]; rfl⟩
      · exact ⟨j + 1, v, by simpa using h1, by rw [h2]; congr 1; omega⟩
    · rintro ⟨j, v, h1, h2⟩
      cases j with
      | zero =>
        simp at h1
        subst h1
        exact Or.inl h2
      | succ j => exact Or.inr ⟨j, v, by simpa using h1, by rw [h2]; congr 1; omega⟩
theorem am_cat {b bs : Nat} {v : Value} (h : v.category = 1) : (am_v b bs v).category = 1 := by
  cases v <;> first | exact h | rfl
theorem am_L.has {b bs nL : Nat} {L : List (Option Value)} {ls : Array Slot} (h : am_L b bs nL L ls) : lv_has ls nL (am_l b bs 0 L) := by
  refine ⟨h.1, h.2.1, fun q hq => ?_⟩
  obtain ⟨j, v, h1, rfl⟩ := (am_l_mem L 0 q).mp hq
  rw [Nat.zero_add]
  exact (h.2.2 j v h1).2
theorem am_L.get {b bs nL : Nat} {L : List (Option Value)} {ls : Array Slot} (h : am_L b bs nL L ls) {i : Nat} {v : Value} (hi : L[i]? = some (some v)) : ls[i]? = some (.val (am_v b bs v)) := (h.2.2 i v hi).2
theorem am_L.set {b bs nL i : Nat} {L : List (Option Value)} {ls ls' : Array Slot} {v : Value} (h : am_L b bs nL L ls) (hc : v.category = 1) (h' : lv_has ls' nL ((i, am_v b bs v) :: (am_l b bs 0 L).filter (fun q => !(q.1 == i) && !(q.1 + 1 == i && q.2.category == 2)))) : am_L b bs nL (L.set i (some v)) ls' := by
  refine ⟨h'.1, h'.2.1, fun j w hj => ?_⟩
  by_cases hij : j = i
  · subst hij
    have hw : w = v := by
      by_cases hl : j < L.length
      · rw [List.getElem?_set_self hl] at hj
        exact (Option.some.inj (Option.some.inj hj)).symm
      · rw [List.getElem?_eq_none (by simp; omega)] at hj
        cases hj
    subst hw
    exact ⟨hc, h'.2.2 _ List.mem_cons_self⟩
  · rw [List.getElem?_set_ne (Ne.symm hij)] at hj
    refine ⟨(h.2.2 j w hj).1, h'.2.2 (j, am_v b bs w) (List.mem_cons_of_mem _ (List.mem_filter.mpr ⟨(am_l_mem L 0 _).mpr ⟨j, w, hj, by rw [Nat.zero_add]⟩, ?_⟩))⟩
    simp [hij, am_cat (h.2.2 j w hj).1]
theorem am_S_lt {b : Nat} {H0 H : Heap} {locs : List Loc} (h : va_S (fun q => b ≤ q) H0 H locs) : H0.size ≤ H.size := h.1
end
section
/-! The rows of the small machine: one an instruction; goal first. Written by gen/p03.py. -/
section AMV
variable {M : am_M} {sc : Nat × (Nat → Int32)} {d mc ms n0 z0 : Nat} {post : Int32 → am_H → Prop} {pc nx : Nat} {L : List (Option Value)} {st : List Value} {h : am_H}
theorem am_iconst {n : Int} (hc : M.2.2.2.2.2 pc = some (.iconst n, 1, nx, [])) (k : am_V M sc d mc ms n0 z0 post nx L (.int (Int32.ofInt n) :: st) h) : am_V M sc d mc ms n0 z0 post pc L (st) h := by
  intro p l e R s m args below meth c D cA b bs H locs ls cells slots Q Re En
  obtain ⟨h1, h2, h3⟩ := Re.1.1 pc _ hc
  have h2 : nx = pc + 1 := h2
  subst h2
  exact lv_iconst Re.1.2.1 Re.1.2.2.1 h1 rfl (k p l e R s m args below meth c D cA b bs H locs ls cells slots Q Re En)
theorem am_bipush {n : Int} (hc : M.2.2.2.2.2 pc = some (.bipush n, 2, nx, [])) (k : am_V M sc d mc ms n0 z0 post nx L (.int (Int8.ofInt n).toInt32 :: st) h) : am_V M sc d mc ms n0 z0 post pc L (st) h := by
  intro p l e R s m args below meth c D cA b bs H locs ls cells slots Q Re En
  obtain ⟨h1, h2, h3⟩ := Re.1.1 pc _ hc
  have h2 : nx = pc + 2 := h2
  subst h2
  exact lv_bipush Re.1.2.1 Re.1.2.2.1 h1 rfl (k p l e R s m args below meth c D cA b bs H locs ls cells slots Q Re En)
theorem am_sipush {n : Int} (hc : M.2.2.2.2.2 pc = some (.sipush n, 3, nx, [])) (k : am_V M sc d mc ms n0 z0 post nx L (.int (Int16.ofInt n).toInt32 :: st) h) : am_V M sc d mc ms n0 z0 post pc L (st) h := by
  intro p l e R s m args below meth c D cA b bs H locs ls cells slots Q Re En
  obtain ⟨h1, h2, h3⟩ := Re.1.1 pc _ hc
  have h2 : nx = pc + 3 := h2
  subst h2
  exact lv_sipush Re.1.2.1 Re.1.2.2.1 h1 rfl (k p l e R s m args below meth c D cA b bs H locs ls cells slots Q Re En)
theorem am_ldc {i : Nat} {v : Int32} (hw : Cond.constant (am_R M.2.2.2.2.1) i v ∈ am_tb) (hc : M.2.2.2.2.2 pc = some (.ldc i, 2, nx, [])) (k : am_V M sc d mc ms n0 z0 post nx L (.int v :: st) h) : am_V M sc d mc ms n0 z0 post pc L (st) h := by
  intro p l e R s m args below meth c D cA b bs H locs ls cells slots Q Re En
  obtain ⟨h1, h2, h3⟩ := Re.1.1 pc _ hc
  have h2 : nx = pc + 2 := h2
  subst h2
  exact lv_ldc Re.1.2.1 Re.1.2.2.1 Re.1.2.2.2.2.2.1 (Re.1.2.2.2.2.2.2.2.2 _ hw) h1 (k p l e R s m args below meth c D cA b bs H locs ls cells slots Q Re En)
theorem am_iload_n {i : Fin 4} {x : Int32} (hc : M.2.2.2.2.2 pc = some (.iload_n i, 1, nx, [])) (hl : L[(i : Nat)]? = some (some (.int x))) (k : am_V M sc d mc ms n0 z0 post nx L (.int x :: st) h) : am_V M sc d mc ms n0 z0 post pc L (st) h := by
  intro p l e R s m args below meth c D cA b bs H locs ls cells slots Q Re En
  obtain ⟨h1, h2, h3⟩ := Re.1.1 pc _ hc
  have h2 : nx = pc + 1 := h2
  subst h2
  exact lv_iload_n Re.1.2.1 Re.1.2.2.1 h1 rfl (Re.2.2.2.2.2.2.2.1.get hl) (k p l e R s m args below meth c D cA b bs H locs ls cells slots Q Re En)
theorem am_iload {i : Nat} {x : Int32} (hc : M.2.2.2.2.2 pc = some (.iload i, 2, nx, [])) (hl : L[i]? = some (some (.int x))) (k : am_V M sc d mc ms n0 z0 post nx L (.int x :: st) h) : am_V M sc d mc ms n0 z0 post pc L (st) h := by
  intro p l e R s m args below meth c D cA b bs H locs ls cells slots Q Re En
  obtain ⟨h1, h2, h3⟩ := Re.1.1 pc _ hc
  have h2 : nx = pc + 2 := h2
  subst h2
  exact lv_iload Re.1.2.1 Re.1.2.2.1 h1 (Re.2.2.2.2.2.2.2.1.get hl) (k p l e R s m args below meth c D cA b bs H locs ls cells slots Q Re En)
theorem am_aload_n {i : Fin 4} {x : Nat} (hc : M.2.2.2.2.2 pc = some (.aload_n i, 1, nx, [])) (hl : L[(i : Nat)]? = some (some (.ref x))) (k : am_V M sc d mc ms n0 z0 post nx L (.ref x :: st) h) : am_V M sc d mc ms n0 z0 post pc L (st) h := by
  intro p l e R s m args below meth c D cA b bs H locs ls cells slots Q Re En
  obtain ⟨h1, h2, h3⟩ := Re.1.1 pc _ hc
  have h2 : nx = pc + 1 := h2
  subst h2
  exact lv_aload_n Re.1.2.1 Re.1.2.2.1 h1 rfl (Re.2.2.2.2.2.2.2.1.get hl) (k p l e R s m args below meth c D cA b bs H locs ls cells slots Q Re En)
theorem am_aload {i : Nat} {x : Nat} (hc : M.2.2.2.2.2 pc = some (.aload i, 2, nx, [])) (hl : L[i]? = some (some (.ref x))) (k : am_V M sc d mc ms n0 z0 post nx L (.ref x :: st) h) : am_V M sc d mc ms n0 z0 post pc L (st) h := by
  intro p l e R s m args below meth c D cA b bs H locs ls cells slots Q Re En
  obtain ⟨h1, h2, h3⟩ := Re.1.1 pc _ hc
  have h2 : nx = pc + 2 := h2
  subst h2
  exact lv_aload Re.1.2.1 Re.1.2.2.1 h1 (Re.2.2.2.2.2.2.2.1.get hl) (k p l e R s m args below meth c D cA b bs H locs ls cells slots Q Re En)
theorem am_sload {i : Fin 4} {x : UInt32} (hc : M.2.2.2.2.2 pc = some (.aload_n i, 1, nx, [])) (hl : L[(i : Nat)]? = some (some (.float x))) (k : am_V M sc d mc ms n0 z0 post nx L (.float x :: st) h) : am_V M sc d mc ms n0 z0 post pc L (st) h := by
  intro p l e R s m args below meth c D cA b bs H locs ls cells slots Q Re En
  obtain ⟨h1, h2, h3⟩ := Re.1.1 pc _ hc
  have h2 : nx = pc + 1 := h2
  subst h2
  exact lv_aload_n Re.1.2.1 Re.1.2.2.1 h1 rfl (Re.2.2.2.2.2.2.2.1.get hl) (k p l e R s m args below meth c D cA b bs H locs ls cells slots Q Re En)
theorem am_istore_n {i : Fin 4} {x : Int32} (hc : M.2.2.2.2.2 pc = some (.istore_n i, 1, nx, [])) (hn : (i : Nat) < M.2.2.1) (k : am_V M sc d mc ms n0 z0 post nx (L.set (i : Nat) (some (.int x))) (st) h) : am_V M sc d mc ms n0 z0 post pc L (.int x :: st) h := by
  intro p l e R s m args below meth c D cA b bs H locs ls cells slots Q Re En
  obtain ⟨h1, h2, h3⟩ := Re.1.1 pc _ hc
  have h2 : nx = pc + 1 := h2
  subst h2
  obtain ⟨r1, r2, r3, r4, r5, r6, r7, r8, r9⟩ := Re
  exact lv_istore_n r1.2.1 r1.2.2.1 h1 rfl (am_L.has r8) hn rfl (fun ls2 h9 => k p l e R s m args below meth c D cA b bs H locs ls2 cells slots Q ⟨r1, r2, r3, r4, r5, r6, r7, am_L.set r8 rfl h9, r9⟩ En)
theorem am_istore {i : Nat} {x : Int32} (hc : M.2.2.2.2.2 pc = some (.istore i, 2, nx, [])) (hn : i < M.2.2.1) (k : am_V M sc d mc ms n0 z0 post nx (L.set i (some (.int x))) (st) h) : am_V M sc d mc ms n0 z0 post pc L (.int x :: st) h := by
  intro p l e R s m args below meth c D cA b bs H locs ls cells slots Q Re En
  obtain ⟨h1, h2, h3⟩ := Re.1.1 pc _ hc
  have h2 : nx = pc + 2 := h2
  subst h2
  obtain ⟨r1, r2, r3, r4, r5, r6, r7, r8, r9⟩ := Re
  exact lv_istore r1.2.1 r1.2.2.1 h1 (am_L.has r8) hn rfl (fun ls2 h9 => k p l e R s m args below meth c D cA b bs H locs ls2 cells slots Q ⟨r1, r2, r3, r4, r5, r6, r7, am_L.set r8 rfl h9, r9⟩ En)
theorem am_astore_n {i : Fin 4} {x : Nat} (hc : M.2.2.2.2.2 pc = some (.astore_n i, 1, nx, [])) (hn : (i : Nat) < M.2.2.1) (k : am_V M sc d mc ms n0 z0 post nx (L.set (i : Nat) (some (.ref x))) (st) h) : am_V M sc d mc ms n0 z0 post pc L (.ref x :: st) h := by
  intro p l e R s m args below meth c D cA b bs H locs ls cells slots Q Re En
  obtain ⟨h1, h2, h3⟩ := Re.1.1 pc _ hc
  have h2 : nx = pc + 1 := h2
  subst h2
  obtain ⟨r1, r2, r3, r4, r5, r6, r7, r8, r9⟩ := Re
  exact lv_astore_n r1.2.1 r1.2.2.1 h1 rfl (am_L.has r8) hn rfl (fun ls2 h9 => k p l e R s m args below meth c D cA b bs H locs ls2 cells slots Q ⟨r1, r2, r3, r4, r5, r6, r7, am_L.set r8 rfl h9, r9⟩ En)
theorem am_astore {i : Nat} {x : Nat} (hc : M.2.2.2.2.2 pc = some (.astore i, 2, nx, [])) (hn : i < M.2.2.1) (k : am_V M sc d mc ms n0 z0 post nx (L.set i (some (.ref x))) (st) h) : am_V M sc d mc ms n0 z0 post pc L (.ref x :: st) h := by
  intro p l e R s m args below meth c D cA b bs H locs ls cells slots Q Re En
  obtain ⟨h1, h2, h3⟩ := Re.1.1 pc _ hc
  have h2 : nx = pc + 2 := h2
  subst h2
  obtain ⟨r1, r2, r3, r4, r5, r6, r7, r8, r9⟩ := Re
  exact lv_astore r1.2.1 r1.2.2.1 h1 (am_L.has r8) hn rfl (fun ls2 h9 => k p l e R s m args below meth c D cA b bs H locs ls2 cells slots Q ⟨r1, r2, r3, r4, r5, r6, r7, am_L.set r8 rfl h9, r9⟩ En)
theorem am_iinc {i : Nat} {n : Int} {x : Int32} (hc : M.2.2.2.2.2 pc = some (.iinc i n, 3, nx, [])) (hl : L[i]? = some (some (.int x))) (hn : i < M.2.2.1) (k : am_V M sc d mc ms n0 z0 post nx (L.set i (some (.int (x + Int32.ofInt n)))) (st) h) : am_V M sc d mc ms n0 z0 post pc L (st) h := by
  intro p l e R s m args below meth c D cA b bs H locs ls cells slots Q Re En
  obtain ⟨h1, h2, h3⟩ := Re.1.1 pc _ hc
  have h2 : nx = pc + 3 := h2
  subst h2
  obtain ⟨r1, r2, r3, r4, r5, r6, r7, r8, r9⟩ := Re
  have hm : (i, Value.int x) ∈ am_l b bs 0 L := (am_l_mem L 0 _).mpr ⟨i, .int x, hl, by rw [Nat.zero_add]; rfl⟩
  obtain ⟨j, hj⟩ := List.getElem?_of_mem hm
  exact lv_iinc r1.2.1 r1.2.2.1 h1 (am_L.has r8) hj rfl hn rfl (fun ls2 h9 => k p l e R s m args below meth c D cA b bs H locs ls2 cells slots Q ⟨r1, r2, r3, r4, r5, r6, r7, am_L.set (v := .int (x + Int32.ofInt n)) r8 rfl h9, r9⟩ En)
theorem am_iadd {x y : Int32} (hc : M.2.2.2.2.2 pc = some (.iadd, 1, nx, [])) (k : am_V M sc d mc ms n0 z0 post nx L (.int (x + y) :: st) h) : am_V M sc d mc ms n0 z0 post pc L (.int y :: .int x :: st) h := by
  intro p l e R s m args below meth c D cA b bs H locs ls cells slots Q Re En
  obtain ⟨h1, h2, h3⟩ := Re.1.1 pc _ hc
  have h2 : nx = pc + 1 := h2
  subst h2
  exact lv_iadd Re.1.2.1 Re.1.2.2.1 h1 (k p l e R s m args below meth c D cA b bs H locs ls cells slots Q Re En)
theorem am_isub {x y : Int32} (hc : M.2.2.2.2.2 pc = some (.isub, 1, nx, [])) (k : am_V M sc d mc ms n0 z0 post nx L (.int (x - y) :: st) h) : am_V M sc d mc ms n0 z0 post pc L (.int y :: .int x :: st) h := by
  intro p l e R s m args below meth c D cA b bs H locs ls cells slots Q Re En
  obtain ⟨h1, h2, h3⟩ := Re.1.1 pc _ hc
  have h2 : nx = pc + 1 := h2
  subst h2
  exact lv_isub Re.1.2.1 Re.1.2.2.1 h1 (k p l e R s m args below meth c D cA b bs H locs ls cells slots Q Re En)
theorem am_imul {x y : Int32} (hc : M.2.2.2.2.2 pc = some (.imul, 1, nx, [])) (k : am_V M sc d mc ms n0 z0 post nx L (.int (x * y) :: st) h) : am_V M sc d mc ms n0 z0 post pc L (.int y :: .int x :: st) h := by
  intro p l e R s m args below meth c D cA b bs H locs ls cells slots Q Re En
  obtain ⟨h1, h2, h3⟩ := Re.1.1 pc _ hc
  have h2 : nx = pc + 1 := h2
  subst h2
  exact lv_imul Re.1.2.1 Re.1.2.2.1 h1 (k p l e R s m args below meth c D cA b bs H locs ls cells slots Q Re En)
theorem am_iand {x y : Int32} (hc : M.2.2.2.2.2 pc = some (.iand, 1, nx, [])) (k : am_V M sc d mc ms n0 z0 post nx L (.int (x &&& y) :: st) h) : am_V M sc d mc ms n0 z0 post pc L (.int y :: .int x :: st) h := by
  intro p l e R s m args below meth c D cA b bs H locs ls cells slots Q Re En
  obtain ⟨h1, h2, h3⟩ := Re.1.1 pc _ hc
  have h2 : nx = pc + 1 := h2
  subst h2
  exact lv_iand Re.1.2.1 Re.1.2.2.1 h1 (k p l e R s m args below meth c D cA b bs H locs ls cells slots Q Re En)
theorem am_ixor {x y : Int32} (hc : M.2.2.2.2.2 pc = some (.ixor, 1, nx, [])) (k : am_V M sc d mc ms n0 z0 post nx L (.int (x ^^^ y) :: st) h) : am_V M sc d mc ms n0 z0 post pc L (.int y :: .int x :: st) h := by
  intro p l e R s m args below meth c D cA b bs H locs ls cells slots Q Re En
  obtain ⟨h1, h2, h3⟩ := Re.1.1 pc _ hc
  have h2 : nx = pc + 1 := h2
  subst h2
  exact lv_ixor Re.1.2.1 Re.1.2.2.1 h1 (k p l e R s m args below meth c D cA b bs H locs ls cells slots Q Re En)
theorem am_ishl {x y : Int32} (hc : M.2.2.2.2.2 pc = some (.ishl, 1, nx, [])) (k : am_V M sc d mc ms n0 z0 post nx L (.int (x <<< (y &&& 31)) :: st) h) : am_V M sc d mc ms n0 z0 post pc L (.int y :: .int x :: st) h := by
  intro p l e R s m args below meth c D cA b bs H locs ls cells slots Q Re En
  obtain ⟨h1, h2, h3⟩ := Re.1.1 pc _ hc
  have h2 : nx = pc + 1 := h2
  subst h2
  exact lv_ishl Re.1.2.1 Re.1.2.2.1 h1 (k p l e R s m args below meth c D cA b bs H locs ls cells slots Q Re En)
theorem am_ishr {x y : Int32} (hc : M.2.2.2.2.2 pc = some (.ishr, 1, nx, [])) (k : am_V M sc d mc ms n0 z0 post nx L (.int (x >>> (y &&& 31)) :: st) h) : am_V M sc d mc ms n0 z0 post pc L (.int y :: .int x :: st) h := by
  intro p l e R s m args below meth c D cA b bs H locs ls cells slots Q Re En
  obtain ⟨h1, h2, h3⟩ := Re.1.1 pc _ hc
  have h2 : nx = pc + 1 := h2
  subst h2
  exact lv_ishr Re.1.2.1 Re.1.2.2.1 h1 (k p l e R s m args below meth c D cA b bs H locs ls cells slots Q Re En)
theorem am_idiv {x y : Int32} (hc : M.2.2.2.2.2 pc = some (.idiv, 1, nx, [])) (hz : ¬ y = 0) (k : am_V M sc d mc ms n0 z0 post nx L (.int (x / y) :: st) h) : am_V M sc d mc ms n0 z0 post pc L (.int y :: .int x :: st) h := by
  intro p l e R s m args below meth c D cA b bs H locs ls cells slots Q Re En
  obtain ⟨h1, h2, h3⟩ := Re.1.1 pc _ hc
  have h2 : nx = pc + 1 := h2
  subst h2
  exact lv_idiv Re.1.2.1 Re.1.2.2.1 h1 hz (k p l e R s m args below meth c D cA b bs H locs ls cells slots Q Re En)
theorem am_irem {x y : Int32} (hc : M.2.2.2.2.2 pc = some (.irem, 1, nx, [])) (hz : ¬ y = 0) (k : am_V M sc d mc ms n0 z0 post nx L (.int (x - x / y * y) :: st) h) : am_V M sc d mc ms n0 z0 post pc L (.int y :: .int x :: st) h := by
  intro p l e R s m args below meth c D cA b bs H locs ls cells slots Q Re En
  obtain ⟨h1, h2, h3⟩ := Re.1.1 pc _ hc
  have h2 : nx = pc + 1 := h2
  subst h2
  exact lv_irem Re.1.2.1 Re.1.2.2.1 h1 hz (k p l e R s m args below meth c D cA b bs H locs ls cells slots Q Re En)
theorem am_ineg {x : Int32} (hc : M.2.2.2.2.2 pc = some (.ineg, 1, nx, [])) (k : am_V M sc d mc ms n0 z0 post nx L (.int (-x) :: st) h) : am_V M sc d mc ms n0 z0 post pc L (.int x :: st) h := by
  intro p l e R s m args below meth c D cA b bs H locs ls cells slots Q Re En
  obtain ⟨h1, h2, h3⟩ := Re.1.1 pc _ hc
  have h2 : nx = pc + 1 := h2
  subst h2
  exact lv_ineg Re.1.2.1 Re.1.2.2.1 h1 (k p l e R s m args below meth c D cA b bs H locs ls cells slots Q Re En)
theorem am_dup {v : Value} (hc : M.2.2.2.2.2 pc = some (.dup, 1, nx, [])) (hv : v.category = 1) (k : am_V M sc d mc ms n0 z0 post nx L (v :: v :: st) h) : am_V M sc d mc ms n0 z0 post pc L (v :: st) h := by
  intro p l e R s m args below meth c D cA b bs H locs ls cells slots Q Re En
  obtain ⟨h1, h2, h3⟩ := Re.1.1 pc _ hc
  have h2 : nx = pc + 1 := h2
  subst h2
  exact lv_dup Re.1.2.1 Re.1.2.2.1 h1 (am_cat hv) (k p l e R s m args below meth c D cA b bs H locs ls cells slots Q Re En)
theorem am_pop {v : Value} (hc : M.2.2.2.2.2 pc = some (.pop, 1, nx, [])) (hv : v.category = 1) (k : am_V M sc d mc ms n0 z0 post nx L (st) h) : am_V M sc d mc ms n0 z0 post pc L (v :: st) h := by
  intro p l e R s m args below meth c D cA b bs H locs ls cells slots Q Re En
  obtain ⟨h1, h2, h3⟩ := Re.1.1 pc _ hc
  have h2 : nx = pc + 1 := h2
  subst h2
  exact lv_pop Re.1.2.1 Re.1.2.2.1 h1 (am_cat hv) (k p l e R s m args below meth c D cA b bs H locs ls cells slots Q Re En)
theorem am_dup2 {v w : Value} (hc : M.2.2.2.2.2 pc = some (.dup2, 1, nx, [])) (hv : v.category = 1) (hw : w.category = 1) (k : am_V M sc d mc ms n0 z0 post nx L (v :: w :: v :: w :: st) h) : am_V M sc d mc ms n0 z0 post pc L (v :: w :: st) h := by
  intro p l e R s m args below meth c D cA b bs H locs ls cells slots Q Re En
  obtain ⟨h1, h2, h3⟩ := Re.1.1 pc _ hc
  have h2 : nx = pc + 1 := h2
  subst h2
  exact lv_dup2_11 Re.1.2.1 Re.1.2.2.1 h1 (am_cat hv) (am_cat hw) (k p l e R s m args below meth c D cA b bs H locs ls cells slots Q Re En)
theorem am_icmp_eq {x y : Int32} {o : Int} {tg : Nat} (hc : M.2.2.2.2.2 pc = some (.if_icmp .eq o, 3, nx, [tg])) (kt : x = y → am_V M sc d mc ms n0 z0 post tg L (st) h) (kf : ¬ x = y → am_V M sc d mc ms n0 z0 post nx L (st) h) : am_V M sc d mc ms n0 z0 post pc L (.int y :: .int x :: st) h := by
  intro p l e R s m args below meth c D cA b bs H locs ls cells slots Q Re En
  obtain ⟨h1, h2, h3⟩ := Re.1.1 pc _ hc
  have h2 : nx = pc + 3 := h2
  subst h2
  have h4 : (pc : Int) + o = (tg : Int) := by simpa [am_off] using h3.symm
  exact lv_icmp_eq Re.1.2.1 Re.1.2.2.1 h1 h4 (fun q => kt q p l e R s m args below meth c D cA b bs H locs ls cells slots Q Re En) (fun q => kf q p l e R s m args below meth c D cA b bs H locs ls cells slots Q Re En)
theorem am_icmp_lt {x y : Int32} {o : Int} {tg : Nat} (hc : M.2.2.2.2.2 pc = some (.if_icmp .lt o, 3, nx, [tg])) (kt : x < y → am_V M sc d mc ms n0 z0 post tg L (st) h) (kf : ¬ x < y → am_V M sc d mc ms n0 z0 post nx L (st) h) : am_V M sc d mc ms n0 z0 post pc L (.int y :: .int x :: st) h := by
  intro p l e R s m args below meth c D cA b bs H locs ls cells slots Q Re En
  obtain ⟨h1, h2, h3⟩ := Re.1.1 pc _ hc
  have h2 : nx = pc + 3 := h2
  subst h2
  have h4 : (pc : Int) + o = (tg : Int) := by simpa [am_off] using h3.symm
  exact lv_icmp_lt Re.1.2.1 Re.1.2.2.1 h1 h4 (fun q => kt q p l e R s m args below meth c D cA b bs H locs ls cells slots Q Re En) (fun q => kf q p l e R s m args below meth c D cA b bs H locs ls cells slots Q Re En)
theorem am_icmp_ge {x y : Int32} {o : Int} {tg : Nat} (hc : M.2.2.2.2.2 pc = some (.if_icmp .ge o, 3, nx, [tg])) (kt : y ≤ x → am_V M sc d mc ms n0 z0 post tg L (st) h) (kf : ¬ y ≤ x → am_V M sc d mc ms n0 z0 post nx L (st) h) : am_V M sc d mc ms n0 z0 post pc L (.int y :: .int x :: st) h := by
  intro p l e R s m args below meth c D cA b bs H locs ls cells slots Q Re En
  obtain ⟨h1, h2, h3⟩ := Re.1.1 pc _ hc
  have h2 : nx = pc + 3 := h2
  subst h2
  have h4 : (pc : Int) + o = (tg : Int) := by simpa [am_off] using h3.symm
  exact lv_icmp_ge Re.1.2.1 Re.1.2.2.1 h1 h4 (fun q => kt q p l e R s m args below meth c D cA b bs H locs ls cells slots Q Re En) (fun q => kf q p l e R s m args below meth c D cA b bs H locs ls cells slots Q Re En)
theorem am_icmp_gt {x y : Int32} {o : Int} {tg : Nat} (hc : M.2.2.2.2.2 pc = some (.if_icmp .gt o, 3, nx, [tg])) (kt : y < x → am_V M sc d mc ms n0 z0 post tg L (st) h) (kf : ¬ y < x → am_V M sc d mc ms n0 z0 post nx L (st) h) : am_V M sc d mc ms n0 z0 post pc L (.int y :: .int x :: st) h := by
  intro p l e R s m args below meth c D cA b bs H locs ls cells slots Q Re En
  obtain ⟨h1, h2, h3⟩ := Re.1.1 pc _ hc
  have h2 : nx = pc + 3 := h2
  subst h2
  have h4 : (pc : Int) + o = (tg : Int) := by simpa [am_off] using h3.symm
  exact lv_icmp_gt Re.1.2.1 Re.1.2.2.1 h1 h4 (fun q => kt q p l e R s m args below meth c D cA b bs H locs ls cells slots Q Re En) (fun q => kf q p l e R s m args below meth c D cA b bs H locs ls cells slots Q Re En)
theorem am_icmp_le {x y : Int32} {o : Int} {tg : Nat} (hc : M.2.2.2.2.2 pc = some (.if_icmp .le o, 3, nx, [tg])) (kt : x ≤ y → am_V M sc d mc ms n0 z0 post tg L (st) h) (kf : ¬ x ≤ y → am_V M sc d mc ms n0 z0 post nx L (st) h) : am_V M sc d mc ms n0 z0 post pc L (.int y :: .int x :: st) h := by
  intro p l e R s m args below meth c D cA b bs H locs ls cells slots Q Re En
  obtain ⟨h1, h2, h3⟩ := Re.1.1 pc _ hc
  have h2 : nx = pc + 3 := h2
  subst h2
  have h4 : (pc : Int) + o = (tg : Int) := by simpa [am_off] using h3.symm
  exact lv_icmp_le Re.1.2.1 Re.1.2.2.1 h1 h4 (fun q => kt q p l e R s m args below meth c D cA b bs H locs ls cells slots Q Re En) (fun q => kf q p l e R s m args below meth c D cA b bs H locs ls cells slots Q Re En)
theorem am_icmp_ne {x y : Int32} {o : Int} {tg : Nat} (hc : M.2.2.2.2.2 pc = some (.if_icmp .ne o, 3, nx, [tg])) (kt : ¬ x = y → am_V M sc d mc ms n0 z0 post tg L (st) h) (kf : x = y → am_V M sc d mc ms n0 z0 post nx L (st) h) : am_V M sc d mc ms n0 z0 post pc L (.int y :: .int x :: st) h := by
  intro p l e R s m args below meth c D cA b bs H locs ls cells slots Q Re En
  obtain ⟨h1, h2, h3⟩ := Re.1.1 pc _ hc
  have h2 : nx = pc + 3 := h2
  subst h2
  have h4 : (pc : Int) + o = (tg : Int) := by simpa [am_off] using h3.symm
  exact lv_icmp_ne Re.1.2.1 Re.1.2.2.1 h1 h4 (fun q => kt q p l e R s m args below meth c D cA b bs H locs ls cells slots Q Re En) (fun q => kf q p l e R s m args below meth c D cA b bs H locs ls cells slots Q Re En)
theorem am_if_eq {x : Int32} {o : Int} {tg : Nat} (hc : M.2.2.2.2.2 pc = some (.ifCond .eq o, 3, nx, [tg])) (kt : x = 0 → am_V M sc d mc ms n0 z0 post tg L (st) h) (kf : ¬ x = 0 → am_V M sc d mc ms n0 z0 post nx L (st) h) : am_V M sc d mc ms n0 z0 post pc L (.int x :: st) h := by
  intro p l e R s m args below meth c D cA b bs H locs ls cells slots Q Re En
  obtain ⟨h1, h2, h3⟩ := Re.1.1 pc _ hc
  have h2 : nx = pc + 3 := h2
  subst h2
  have h4 : (pc : Int) + o = (tg : Int) := by simpa [am_off] using h3.symm
  exact lv_if_eq Re.1.2.1 Re.1.2.2.1 h1 h4 (fun q => kt q p l e R s m args below meth c D cA b bs H locs ls cells slots Q Re En) (fun q => kf q p l e R s m args below meth c D cA b bs H locs ls cells slots Q Re En)
theorem am_if_lt {x : Int32} {o : Int} {tg : Nat} (hc : M.2.2.2.2.2 pc = some (.ifCond .lt o, 3, nx, [tg])) (kt : x < 0 → am_V M sc d mc ms n0 z0 post tg L (st) h) (kf : ¬ x < 0 → am_V M sc d mc ms n0 z0 post nx L (st) h) : am_V M sc d mc ms n0 z0 post pc L (.int x :: st) h := by
  intro p l e R s m args below meth c D cA b bs H locs ls cells slots Q Re En
  obtain ⟨h1, h2, h3⟩ := Re.1.1 pc _ hc
  have h2 : nx = pc + 3 := h2
  subst h2
  have h4 : (pc : Int) + o = (tg : Int) := by simpa [am_off] using h3.symm
  exact lv_if_lt Re.1.2.1 Re.1.2.2.1 h1 h4 (fun q => kt q p l e R s m args below meth c D cA b bs H locs ls cells slots Q Re En) (fun q => kf q p l e R s m args below meth c D cA b bs H locs ls cells slots Q Re En)
theorem am_if_ge {x : Int32} {o : Int} {tg : Nat} (hc : M.2.2.2.2.2 pc = some (.ifCond .ge o, 3, nx, [tg])) (kt : 0 ≤ x → am_V M sc d mc ms n0 z0 post tg L (st) h) (kf : ¬ 0 ≤ x → am_V M sc d mc ms n0 z0 post nx L (st) h) : am_V M sc d mc ms n0 z0 post pc L (.int x :: st) h := by
  intro p l e R s m args below meth c D cA b bs H locs ls cells slots Q Re En
  obtain ⟨h1, h2, h3⟩ := Re.1.1 pc _ hc
  have h2 : nx = pc + 3 := h2
  subst h2
  have h4 : (pc : Int) + o = (tg : Int) := by simpa [am_off] using h3.symm
  exact lv_if_ge Re.1.2.1 Re.1.2.2.1 h1 h4 (fun q => kt q p l e R s m args below meth c D cA b bs H locs ls cells slots Q Re En) (fun q => kf q p l e R s m args below meth c D cA b bs H locs ls cells slots Q Re En)
theorem am_if_gt {x : Int32} {o : Int} {tg : Nat} (hc : M.2.2.2.2.2 pc = some (.ifCond .gt o, 3, nx, [tg])) (kt : 0 < x → am_V M sc d mc ms n0 z0 post tg L (st) h) (kf : ¬ 0 < x → am_V M sc d mc ms n0 z0 post nx L (st) h) : am_V M sc d mc ms n0 z0 post pc L (.int x :: st) h := by
  intro p l e R s m args below meth c D cA b bs H locs ls cells slots Q Re En
  obtain ⟨h1, h2, h3⟩ := Re.1.1 pc _ hc
  have h2 : nx = pc + 3 := h2
  subst h2
  have h4 : (pc : Int) + o = (tg : Int) := by simpa [am_off] using h3.symm
  exact lv_if_gt Re.1.2.1 Re.1.2.2.1 h1 h4 (fun q => kt q p l e R s m args below meth c D cA b bs H locs ls cells slots Q Re En) (fun q => kf q p l e R s m args below meth c D cA b bs H locs ls cells slots Q Re En)
theorem am_if_le {x : Int32} {o : Int} {tg : Nat} (hc : M.2.2.2.2.2 pc = some (.ifCond .le o, 3, nx, [tg])) (kt : x ≤ 0 → am_V M sc d mc ms n0 z0 post tg L (st) h) (kf : ¬ x ≤ 0 → am_V M sc d mc ms n0 z0 post nx L (st) h) : am_V M sc d mc ms n0 z0 post pc L (.int x :: st) h := by
  intro p l e R s m args below meth c D cA b bs H locs ls cells slots Q Re En
  obtain ⟨h1, h2, h3⟩ := Re.1.1 pc _ hc
  have h2 : nx = pc + 3 := h2
  subst h2
  have h4 : (pc : Int) + o = (tg : Int) := by simpa [am_off] using h3.symm
  exact lv_if_le Re.1.2.1 Re.1.2.2.1 h1 h4 (fun q => kt q p l e R s m args below meth c D cA b bs H locs ls cells slots Q Re En) (fun q => kf q p l e R s m args below meth c D cA b bs H locs ls cells slots Q Re En)
theorem am_if_ne {x : Int32} {o : Int} {tg : Nat} (hc : M.2.2.2.2.2 pc = some (.ifCond .ne o, 3, nx, [tg])) (kt : ¬ x = 0 → am_V M sc d mc ms n0 z0 post tg L (st) h) (kf : x = 0 → am_V M sc d mc ms n0 z0 post nx L (st) h) : am_V M sc d mc ms n0 z0 post pc L (.int x :: st) h := by
  intro p l e R s m args below meth c D cA b bs H locs ls cells slots Q Re En
  obtain ⟨h1, h2, h3⟩ := Re.1.1 pc _ hc
  have h2 : nx = pc + 3 := h2
  subst h2
  have h4 : (pc : Int) + o = (tg : Int) := by simpa [am_off] using h3.symm
  exact lv_if_ne Re.1.2.1 Re.1.2.2.1 h1 h4 (fun q => kt q p l e R s m args below meth c D cA b bs H locs ls cells slots Q Re En) (fun q => kf q p l e R s m args below meth c D cA b bs H locs ls cells slots Q Re En)
theorem am_goto {o : Int} {tg : Nat} (hc : M.2.2.2.2.2 pc = some (.goto o, 3, nx, [tg])) (k : am_V M sc d mc ms n0 z0 post tg L (st) h) : am_V M sc d mc ms n0 z0 post pc L (st) h := by
  intro p l e R s m args below meth c D cA b bs H locs ls cells slots Q Re En
  obtain ⟨h1, h2, h3⟩ := Re.1.1 pc _ hc
  have h2 : nx = pc + 3 := h2
  subst h2
  have h4 : (pc : Int) + o = (tg : Int) := by simpa [am_off] using h3.symm
  exact lv_goto Re.1.2.1 Re.1.2.2.1 h1 h4 (k p l e R s m args below meth c D cA b bs H locs ls cells slots Q Re En)
theorem am_tsw {x : Int32} {dft lo hi : Int} {os : Array Int} {ln td : Nat} {tgs : List Nat} (hc : M.2.2.2.2.2 pc = some (.tableswitch dft lo hi os, ln, nx, tgs)) (htd : tgs[0]? = some td) (kd : x.toInt < lo ∨ hi < x.toInt → am_V M sc d mc ms n0 z0 post td L (st) h)
    (kj : ∀ j : Nat, x.toInt = lo + j → lo + j ≤ hi → ∃ t, tgs[j + 1]? = some t ∧ os.toList[j]?.isSome = true ∧ am_V M sc d mc ms n0 z0 post t L (st) h) : am_V M sc d mc ms n0 z0 post pc L (.int x :: st) h := by
  intro p l e R s m args below meth c D cA b bs H locs ls cells slots Q Re En
  obtain ⟨h1, h2, h3⟩ := Re.1.1 pc _ hc
  have h4 : ∀ (j : Nat) (t : Nat) (o : Int), tgs[j]? = some t → (am_off (.tableswitch dft lo hi os))[j]? = some o → (pc : Int) + o = (t : Int) := by
    intro j t o e1 e2
    have e3 : (tgs.map (fun t : Nat => (t : Int)))[j]? = ((am_off (.tableswitch dft lo hi os)).map (fun o : Int => (pc : Int) + o))[j]? := by rw [h3]
    rw [List.getElem?_map, List.getElem?_map, e1, e2] at e3
    exact (Option.some.inj e3).symm
  by_cases q : x.toInt < lo ∨ hi < x.toInt
  · exact lv_tableOut Re.1.2.1 Re.1.2.2.1 h1 q (h4 0 _ _ htd rfl) (kd q p l e R s m args below meth c D cA b bs H locs ls cells slots Q Re En)
  · obtain ⟨q1, q2⟩ := not_or.mp q
    obtain ⟨t, e1, e2, e3⟩ := kj (x.toInt - lo).toNat (by omega) (by omega)
    have e4 : os[(x.toInt - lo).toNat]? = some (os.toList.getD (x.toInt - lo).toNat 0) := by
      rw [← Array.getElem?_toList, List.getD_eq_getElem?_getD]
      cases e5 : os.toList[(x.toInt - lo).toNat]? with
      | none => rw [e5] at e2; cases e2
      | some w => rfl
    refine lv_tableIn Re.1.2.1 Re.1.2.2.1 h1 q1 q2 e4 (h4 ((x.toInt - lo).toNat + 1) t _ e1 ?_) (e3 p l e R s m args below meth c D cA b bs H locs ls cells slots Q Re En)
    show (dft :: os.toList)[(x.toInt - lo).toNat + 1]? = _
    rw [List.getElem?_cons_succ, Array.getElem?_toList]
    exact e4
end AMV
end
section
/-! Rows of the small machine that read and write the world; calls; a contract out of a walk. -/
def am_ty (ci : Nat) : Nat → FieldType := match ci with
  | 0 => tyX0
  | 1 => tyX1
  | 2 => tyX2
  | 3 => tyX3
  | 4 => tyX4
  | 5 => tyX5
  | 6 => tyX6
  | 7 => tyX7
  | 8 => tyX8
  | _ => tyX9
theorem am_cf {ci : Nat} {C : String} {T : u_T} {N : Nat} (h : am_cl[ci]? = some (C, T, N)) : (∀ w ∈ u_ws C T N, w ∈ am_tb) ∧ (∀ k, k < N → parseFieldDescriptor (T k).2.2.1 = some (am_ty ci k)) ∧ (∀ a, a < N → ∀ b, b < N → a ≠ b → (T a).2.1 ≠ (T b).2.1) ∧ C = am_R ci := by
  match ci, h with
  | 0, h => cases h; exact ⟨am_in0, tyX0_ok, nmX0, rfl⟩
  | 1, h => cases h; exact ⟨am_in1, tyX1_ok, nmX1, rfl⟩
  | 2, h => cases h; exact ⟨am_in2, tyX2_ok, nmX2, rfl⟩
  | 3, h => cases h; exact ⟨am_in3, tyX3_ok, nmX3, rfl⟩
  | 4, h => cases h; exact ⟨am_in4, tyX4_ok, nmX4, rfl⟩
  | 5, h => cases h; exact ⟨am_in5, tyX5_ok, nmX5, rfl⟩
  | 6, h => cases h; exact ⟨am_in6, tyX6_ok, nmX6, rfl⟩
  | 7, h => cases h; exact ⟨am_in7, tyX7_ok, nmX7, rfl⟩
  | 8, h => cases h; exact ⟨am_in8, tyX8_ok, nmX8, rfl⟩
  | 9, h => cases h; exact ⟨am_in9, tyX9_ok, nmX9, rfl⟩
  | n + 10, h => simp [am_cl] at h
/-- field i of class o's pool is field k of class ci -/
def am_lF (o i ci k : Nat) : Prop := ∃ (C : String) (T : u_T) (N : Nat), am_cl[ci]? = some (C, T, N) ∧ k < N ∧ Cond.fieldLink (am_R o) i (T k).1 (T k).2.1 (T k).2.2.1 ∈ am_tb
def am_fin (ci k : Nat) : Bool := match am_cl[ci]? with
  | some (_, T, _) => (T k).2.2.2
  | none => false
def am_dec (ci k : Nat) : String := match am_cl[ci]? with
  | some (_, T, _) => (T k).1
  | none => ""
def am_fit (ty : FieldType) (v : Value) : Prop := ∀ b bs : Nat, narrow ty (am_v b bs v) = am_v b bs v ∧ fits ty (am_v b bs v) = true
theorem am_updV_i {f : Nat → Int32} {k : Nat} {x : Int32} : updV (fun j => Value.int (f j)) k (.int x) = fun j => .int (upd f k x j) := by
  funext q
  by_cases hq : q = k
  · subst hq; simp [updV, upd]
  · simp [updV, upd, hq]
section AMH
variable {M : am_M} {sc : Nat × (Nat → Int32)} {d mc ms n0 z0 : Nat} {post : Int32 → am_H → Prop} {pc nx : Nat} {L : List (Option Value)} {st : List Value} {h : am_H}
theorem am_get {ci k a i : Nat} {fs : List Value} {v : Value} (hf : am_lF M.2.2.2.2.1 i ci k) (hc : M.2.2.2.2.2 pc = some (.getfield i, 3, nx, [])) (ha : a < h.2.1) (he : h.1 a = .inr (ci, fs)) (hv : fs[k]? = some v) (kk : am_V M sc d mc ms n0 z0 post nx L (v :: st) h) : am_V M sc d mc ms n0 z0 post pc L (.ref a :: st) h := by
  intro p l e R s m args below meth c D cA b bs H locs ls cells slots Q Re En
  obtain ⟨h1, h2, h3⟩ := Re.1.1 pc _ hc
  have h2 : nx = pc + 3 := h2
  subst h2
  obtain ⟨C, T, N, f1, f2, f3⟩ := hf
  have hP := Re.2.2.2.2.2.1.2 a ha
  rw [he] at hP
  exact va_get (D := D) (cl := am_cl) (ws := [(b + a, am_e b bs cA (.inr (ci, fs)))]) Re.1.2.1 Re.1.2.2.1 Re.1.2.2.2.2.2.2.2.2 (am_cf f1).1 Re.1.2.2.2.2.2.1 Re.2.2.1.1 (fun k q hq => by
    match k, hq with
    | 0, hq => cases hq; exact hP
    | n + 1, hq => simp at hq) 0 (fs := fs.map (am_v b bs)) rfl f1 k f2 (Re.1.2.2.2.2.2.2.2.2 _ f3) (fun _ h9 => h9) (v := am_v b bs v) (by rw [List.getElem?_map, hv]; rfl) h1 (kk p l e R s m args below meth c D cA b bs H locs ls cells slots Q Re En)
/-- a world in which one cell has changed -/
theorem am_Re.put {p : Program} {R : Room} {s : State} {m : MethodId} {args : Array Value} {meth : Method} {c : Code} {D : va_G} {cA : Nat → ClassId} {b bs : Nat} {H H1 : Heap} {locs : List Loc} {ls : Array Slot} {cells slots a j : Nat} {e : va_E}
    (Re : am_Re M sc d mc ms n0 z0 p R s m args meth c D cA b bs H locs ls cells slots L h) (he : va_at D am_cl (b + a, am_e b bs cA e) H1) (z : H1.size = H.size) (oq : ∀ q : Nat, q ≠ b + a → H1[q]? = H[q]?) :
    am_Re M sc d mc ms n0 z0 p R s m args meth c D cA b bs H1 (locs ++ [⟨b + a, j⟩]) ls cells slots L (am_u h a e) := by
  obtain ⟨r1, r2, r3, r4, r5, r6, r7, r8, r9⟩ := Re
  exact ⟨r1, r2, r3, r4, r5, r6.put he z oq, r7.put z oq (Nat.le_add_right b a), r8, r9⟩
theorem am_put {ci k a i : Nat} {fs : List Value} {v : Value} (hf : am_lF M.2.2.2.2.1 i ci k) (hfin : am_fin ci k = false) (hc : M.2.2.2.2.2 pc = some (.putfield i, 3, nx, [])) (ha : a < h.2.1) (he : h.1 a = .inr (ci, fs)) (hk : k < fs.length) (hv : am_fit (am_ty ci k) v) (kk : am_V M sc d mc ms n0 z0 post nx L st (am_u h a (.inr (ci, fs.set k v)))) : am_V M sc d mc ms n0 z0 post pc L (v :: .ref a :: st) h := by
  intro p l e R s m args below meth c D cA b bs H locs ls cells slots Q Re En
  obtain ⟨h1, h2, h3⟩ := Re.1.1 pc _ hc
  have h2 : nx = pc + 3 := h2
  subst h2
  obtain ⟨C, T, N, f1, f2, f3⟩ := hf
  obtain ⟨hin, hty, hnm, -⟩ := am_cf f1
  have hfin : (T k).2.2.2 = false := by simpa [am_fin, f1] using hfin
  have hP := Re.2.2.2.2.2.1.2 a ha
  rw [he] at hP
  have hts := Re.1.2.2.2.2.2.2.2.2
  have hK := Re.2.2.1.1
  have hap := va_apart (own := C) hts hin (am_ty ci) hty hnm hK f1
  obtain ⟨r, g1, cell, q1, q2, q3, q4⟩ := hP
  have hr : r = (C, T, N) := Option.some.inj (g1.symm.trans f1)
  subst hr
  obtain ⟨hS, hfc, kC, hkC, hkind⟩ := hK.1 ci _ f1
  obtain ⟨cf, kf, fi, f, hi, hsl⟩ := hS k f2
  have hlay := hts _ (hin _ (u_in_lay f2))
  unfold u_lay at hlay
  rw [if_neg (by rw [hfin]; decide)] at hlay
  have hst := (u_facts hfc hkC (u_lays hts hin f2) hi).1
  have h6 := u_store hfc hkC hkind hlay hi (hty k f2) (hv b bs).1 (hv b bs).2
  refine W.putK Re.1.2.1 Re.1.2.2.1 (f := f) ⟨Re.1.2.2.2.2.2.1, hts _ f3, ⟨_, _, _, hi⟩, hst⟩ (by rw [q2]; exact h6) q1 q3 (by rw [hsl]; exact k2_hasslot (q4 k f2)) rfl rfl h1 fun H' e1 e2 e3 => ?_
  rw [hsl] at e1 ⊢
  refine kk p l e R s m args below meth c D cA b bs H' _ ls cells slots Q (Re.put ⟨_, f1, t_OB.to (V := updV (vp_V (fs.map (am_v b bs))) k (am_v b bs v)) ⟨_, e1, q2, q3, t_set q4 hap f2 _⟩ (fun j _ => ?_)⟩ e2 e3) En
  rw [vp_updV_set (by rw [List.length_map]; exact hk), ← List.map_set]
theorem am_putF {ci k a i : Nat} {fs : List Value} {v : Value} (hf : am_lF M.2.2.2.2.1 i ci k) (hfin : am_fin ci k = true) (hdc : am_dec ci k = am_R M.2.2.2.2.1) (hin2 : M.1.name = "<init>") (hc : M.2.2.2.2.2 pc = some (.putfield i, 3, nx, [])) (ha : a < h.2.1) (he : h.1 a = .inr (ci, fs)) (hk : k < fs.length) (hv : am_fit (am_ty ci k) v) (kk : am_V M sc d mc ms n0 z0 post nx L st (am_u h a (.inr (ci, fs.set k v)))) : am_V M sc d mc ms n0 z0 post pc L (v :: .ref a :: st) h := by
  intro p l e R s m args below meth c D cA b bs H locs ls cells slots Q Re En
  obtain ⟨h1, h2, h3⟩ := Re.1.1 pc _ hc
  have h2 : nx = pc + 3 := h2
  subst h2
  obtain ⟨C, T, N, f1, f2, f3⟩ := hf
  obtain ⟨hin, hty, hnm, -⟩ := am_cf f1
  have hfin : (T k).2.2.2 = true := by simpa [am_fin, f1] using hfin
  have hdecl : (T k).1 = am_R M.2.2.2.2.1 := by simpa [am_dec, f1] using hdc
  have hP := Re.2.2.2.2.2.1.2 a ha
  rw [he] at hP
  have hts := Re.1.2.2.2.2.2.2.2.2
  have hown := Re.1.2.2.2.2.2.1
  have hK := Re.2.2.1.1
  have hap := va_apart (own := C) hts hin (am_ty ci) hty hnm hK f1
  obtain ⟨r, g1, cell, q1, q2, q3, q4⟩ := hP
  have hr : r = (C, T, N) := Option.some.inj (g1.symm.trans f1)
  subst hr
  obtain ⟨hS, hfc, kC, hkC, hkind⟩ := hK.1 ci _ f1
  obtain ⟨cf, kf, fi, f, hi, hsl⟩ := hS k f2
  have hlay := hts _ (hin _ (u_in_lay f2))
  unfold u_lay at hlay
  rw [if_pos hfin] at hlay
  have hst := (u_facts hfc hkC (u_lays hts hin f2) hi).1
  have hcf : m.cls = cf := by
    obtain ⟨_, _, c', _, _, _, -, -, hf', -, -, -, hown2, -⟩ := Cond.laysFinal_spec hlay
    have e1 : c' = cf := by have := hi.symm.trans hf'; simp at this; exact this.1.symm
    rw [hdecl] at hown2
    rw [← e1]; exact Option.some.inj (hown.symm.trans hown2)
  have h6 := u_fits hfc hkC hkind (Or.inr hlay) hi (hty k f2) (hv b bs).1 (hv b bs).2
  refine W.putFinK Re.1.2.1 Re.1.2.2.1 hown (hts _ f3) hi hst hcf (Re.1.2.2.2.2.2.2.2.1.trans hin2) (by rw [q2]; exact h6) q1 q3 (by rw [hsl]; exact k2_hasslot (q4 k f2)) rfl rfl h1 fun H' e1 e2 e3 => ?_
  rw [hsl] at e1 ⊢
  refine kk p l e R s m args below meth c D cA b bs H' _ ls cells slots Q (Re.put ⟨_, f1, t_OB.to (V := updV (vp_V (fs.map (am_v b bs))) k (am_v b bs v)) ⟨_, e1, q2, q3, t_set q4 hap f2 _⟩ (fun j _ => ?_)⟩ e2 e3) En
  rw [vp_updV_set (by rw [List.length_map]; exact hk), ← List.map_set]
theorem am_iald {a n : Nat} {f : Nat → Int32} {i : Int32} (hc : M.2.2.2.2.2 pc = some (.iaload, 1, nx, [])) (ha : a < h.2.1) (he : h.1 a = .inl (0, n, .inl f)) (hi : vp_in i n) (kk : am_V M sc d mc ms n0 z0 post nx L (.int (f i.toNatClampNeg) :: st) h) : am_V M sc d mc ms n0 z0 post pc L (.int i :: .ref a :: st) h := by
  intro p l e R s m args below meth c D cA b bs H locs ls cells slots Q Re En
  obtain ⟨h1, h2, h3⟩ := Re.1.1 pc _ hc
  have h2 : nx = pc + 1 := h2
  subst h2
  have hP := Re.2.2.2.2.2.1.2 a ha
  rw [he] at hP
  have hlt : i.toNatClampNeg < n := Nat.not_le.mp fun q => hi (Or.inr q)
  exact W.iald (v := .int (f i.toNatClampNeg)) Re.1.2.1 Re.1.2.2.1 hP ((Re.2.2.1.1.2 0 _ rfl).1 n (fun j => .int (f j))) (fun q => by cases q) (by show ¬ (i < 0 ∨ (arrV _ _ _).slots.size ≤ _); rw [arrV_size]; exact hi) (by show (arrV (cA 0) n (fun j => Value.int (f j))).slots[i.toNatClampNeg]? = _; rw [arrV_read _ _ hlt]) rfl rfl h1 (kk p l e R s m args below meth c D cA b bs H locs ls cells slots Q Re En)
theorem am_zald {a n : Nat} {f : Nat → Int32} {i : Int32} (hc : M.2.2.2.2.2 pc = some (.baload, 1, nx, [])) (ha : a < h.2.1) (he : h.1 a = .inl (1, n, .inl f)) (hi : vp_in i n) (kk : am_V M sc d mc ms n0 z0 post nx L (.int (f i.toNatClampNeg) :: st) h) : am_V M sc d mc ms n0 z0 post pc L (.int i :: .ref a :: st) h := by
  intro p l e R s m args below meth c D cA b bs H locs ls cells slots Q Re En
  obtain ⟨h1, h2, h3⟩ := Re.1.1 pc _ hc
  have h2 : nx = pc + 1 := h2
  subst h2
  have hP := Re.2.2.2.2.2.1.2 a ha
  rw [he] at hP
  have hlt : i.toNatClampNeg < n := Nat.not_le.mp fun q => hi (Or.inr q)
  exact W.zald (v := .int (f i.toNatClampNeg)) Re.1.2.1 Re.1.2.2.1 hP ((Re.2.2.1.1.2 1 _ rfl).1 n (fun j => .int (f j))) (fun q => by cases q) (by show ¬ (i < 0 ∨ (arrV _ _ _).slots.size ≤ _); rw [arrV_size]; exact hi) (by show (arrV (cA 1) n (fun j => Value.int (f j))).slots[i.toNatClampNeg]? = _; rw [arrV_read _ _ hlt]) rfl rfl h1 (kk p l e R s m args below meth c D cA b bs H locs ls cells slots Q Re En)
theorem am_aald {a n r : Nat} {f : Nat → Option Nat} {i : Int32} (hc : M.2.2.2.2.2 pc = some (.aaload, 1, nx, [])) (ha : a < h.2.1) (he : h.1 a = .inl (2, n, .inr (.inr (.inr (.inr f))))) (hi : vp_in i n) (hr : f i.toNatClampNeg = some r) (kk : am_V M sc d mc ms n0 z0 post nx L (.ref r :: st) h) : am_V M sc d mc ms n0 z0 post pc L (.int i :: .ref a :: st) h := by
  intro p l e R s m args below meth c D cA b bs H locs ls cells slots Q Re En
  obtain ⟨h1, h2, h3⟩ := Re.1.1 pc _ hc
  have h2 : nx = pc + 1 := h2
  subst h2
  have hP := Re.2.2.2.2.2.1.2 a ha
  rw [he] at hP
  have hlt : i.toNatClampNeg < n := Nat.not_le.mp fun q => hi (Or.inr q)
  exact W.aald (v := .ref (b + r)) (ty := .object RX7) Re.1.2.1 Re.1.2.2.1 hP ((Re.2.2.1.1.2 2 _ rfl).1 n (fun j => va_rf ((f j).map (fun k => b + k)))) rfl (fun q => by cases q) (by show ¬ (i < 0 ∨ (arrV _ _ _).slots.size ≤ _); rw [arrV_size]; exact hi) (by show (arrV (cA 2) n (fun j => va_rf ((f j).map (fun k => b + k)))).slots[i.toNatClampNeg]? = _; rw [arrV_read _ _ hlt, hr]; rfl) rfl rfl h1 (kk p l e R s m args below meth c D cA b bs H locs ls cells slots Q Re En)
theorem am_alen {a n : Nat} {f : Nat → Int32} (hc : M.2.2.2.2.2 pc = some (.arraylength, 1, nx, [])) (ha : a < h.2.1) (he : h.1 a = .inl (0, n, .inl f)) (kk : am_V M sc d mc ms n0 z0 post nx L (.int (nI n) :: st) h) : am_V M sc d mc ms n0 z0 post pc L (.ref a :: st) h := by
  intro p l e R s m args below meth c D cA b bs H locs ls cells slots Q Re En
  obtain ⟨h1, h2, h3⟩ := Re.1.1 pc _ hc
  have h2 : nx = pc + 1 := h2
  subst h2
  have hP := Re.2.2.2.2.2.1.2 a ha
  rw [he] at hP
  exact W.alen (n := Int32.ofNat n) Re.1.2.1 Re.1.2.2.1 hP ((Re.2.2.1.1.2 0 _ rfl).1 n (fun j => .int (f j))) (by show Nat.toInt32 (arrV _ _ _).slots.size = _; rw [arrV_size] <;> rfl) rfl rfl h1 (kk p l e R s m args below meth c D cA b bs H locs ls cells slots Q Re En)
theorem am_iast {a n : Nat} {f : Nat → Int32} {i x : Int32} (hc : M.2.2.2.2.2 pc = some (.iastore, 1, nx, [])) (ha : a < h.2.1) (he : h.1 a = .inl (0, n, .inl f)) (hi : vp_in i n) (kk : am_V M sc d mc ms n0 z0 post nx L st (am_u h a (.inl (0, n, .inl (upd f i.toNatClampNeg x))))) : am_V M sc d mc ms n0 z0 post pc L (.int x :: .int i :: .ref a :: st) h := by
  intro p l e R s m args below meth c D cA b bs H locs ls cells slots Q Re En
  obtain ⟨h1, h2, h3⟩ := Re.1.1 pc _ hc
  have h2 : nx = pc + 1 := h2
  subst h2
  have hP := Re.2.2.2.2.2.1.2 a ha
  rw [he] at hP
  refine W.iast Re.1.2.1 Re.1.2.2.1 hP ((Re.2.2.1.1.2 0 _ rfl).1 n (fun j => .int (f j))) (fun q => by cases q) (by show ¬ (i < 0 ∨ (arrV _ _ _).slots.size ≤ _); rw [arrV_size]; exact hi) rfl rfl h1 fun H1 e1 z oq => ?_
  refine kk p l e R s m args below meth c D cA b bs H1 _ ls cells slots Q (Re.put ?_ z oq) En
  show H1[b + a]? = some (vp_cell _ _)
  rw [e1]
  show some ((vp_cell (cA 0) (n, .inl f)).setSlot _ _) = some (vp_cell (cA 0) (n, .inl (upd f i.toNatClampNeg x)))
  rw [vp_cell_i, vp_cell_i, arrV_store, am_updV_i]
theorem am_zast {a n : Nat} {f : Nat → Int32} {i x : Int32} (hc : M.2.2.2.2.2 pc = some (.bastore, 1, nx, [])) (ha : a < h.2.1) (he : h.1 a = .inl (1, n, .inl f)) (hi : vp_in i n) (hx : x = 0 ∨ x = 1) (kk : am_V M sc d mc ms n0 z0 post nx L st (am_u h a (.inl (1, n, .inl (upd f i.toNatClampNeg x))))) : am_V M sc d mc ms n0 z0 post pc L (.int x :: .int i :: .ref a :: st) h := by
  intro p l e R s m args below meth c D cA b bs H locs ls cells slots Q Re En
  obtain ⟨h1, h2, h3⟩ := Re.1.1 pc _ hc
  have h2 : nx = pc + 1 := h2
  subst h2
  have hP := Re.2.2.2.2.2.1.2 a ha
  rw [he] at hP
  refine W.zast Re.1.2.1 Re.1.2.2.1 hP ((Re.2.2.1.1.2 1 _ rfl).1 n (fun j => .int (f j))) (fun q => by cases q) (by show ¬ (i < 0 ∨ (arrV _ _ _).slots.size ≤ _); rw [arrV_size]; exact hi) rfl rfl h1 fun H1 e1 z oq => ?_
  refine kk p l e R s m args below meth c D cA b bs H1 _ ls cells slots Q (Re.put ?_ z oq) En
  show H1[b + a]? = some (vp_cell _ _)
  rw [e1]
  have hn : narrow .boolean (.int x) = .int x := by rcases hx with rfl | rfl <;> rfl
  rw [hn]
  show some ((vp_cell (cA 1) (n, .inl f)).setSlot _ _) = some (vp_cell (cA 1) (n, .inl (upd f i.toNatClampNeg x)))
  rw [vp_cell_i, vp_cell_i, arrV_store, am_updV_i]
end AMH
end
section
/-! Calls, returns, a contract out of a walk, new cells, arraycopy, the script. -/
theorem am_goodIn {ws : List Cond} (h : ∀ w ∈ ws, w ∈ am_tb) : GoodIn am_tb ws := fun w hw => am_good w (h w hw)
/-- what the tables tell of M as a callee -/
def am_lM (N : am_M) (n : Nat) : Prop := Cond.initialized N.1.cls ∈ am_tb ∧ Cond.code N.1 N.2.1 N.2.2.1 N.2.2.2.1 ∈ am_tb ∧ N.1.cls = am_R N.2.2.2.2.1 ∧ (N.1.cls ≠ "java/lang/invoke/MethodHandle" ∧ N.1.cls ≠ "java/lang/invoke/VarHandle" ∧ (parseMethodDescriptor N.1.desc).map (fun d => d.parameters.length) = some n) ∧ N.2.2.1 ≤ 21
def am_lV (o i : Nat) (N : am_M) (n : Nat) : Prop := am_lM N n ∧ Cond.methodLink (am_R o) i N.1 ∈ am_tb ∧ Cond.instanceMethod N.1 ∈ am_tb ∧ Cond.selects (am_R N.2.2.2.2.1) N.1 N.1 ∈ am_tb ∧ ∃ (T : u_T) (k : Nat), am_cl[N.2.2.2.2.1]? = some (am_R N.2.2.2.2.1, T, k)
def am_lS (o i : Nat) (N : am_M) (n : Nat) : Prop := am_lM N n ∧ Cond.methodLink (am_R o) i N.1 ∈ am_tb ∧ Cond.static N.1 ∈ am_tb
def am_lI (o i : Nat) (N : am_M) (n : Nat) : Prop := am_lM N n ∧ Cond.methodLink (am_R o) i N.1 ∈ am_tb ∧ Cond.instanceMethod N.1 ∈ am_tb ∧ N.1.name = "<init>"
def am_lN (o i : Nat) (N : am_M) (n : Nat) : Prop := am_lM N n ∧ Cond.methodLinkNest (am_R o) i N.1 "PairingHall" ∈ am_nw ∧ Cond.instanceMethod N.1 ∈ am_tb ∧ N.1.name = "<init>"
theorem am_ws_in {N : am_M} {n : Nat} (h : am_lM N n) : ∀ w ∈ (Cond.code N.1 N.2.1 N.2.2.1 N.2.2.2.1 :: am_tb), w ∈ am_tb := fun w hw => (List.mem_cons.mp hw).elim (fun e => e ▸ h.2.1) id
section AMC
variable {M : am_M} {sc : Nat × (Nat → Int32)} {d mc ms n0 z0 : Nat} {post : Int32 → am_H → Prop} {pc nx : Nat} {L : List (Option Value)} {st : List Value} {h : am_H}
theorem am_iret {r : Int32} (hc : M.2.2.2.2.2 pc = some (.ireturn, 1, nx, [])) (hret : M.2.2.2.1 = some .int) (hn : h.2.1 = n0 + mc) (hz : h.2.2 = z0 + ms) (hp : post r h) : am_V M sc d mc ms n0 z0 post pc L [.int r] h := by
  intro p l e R s m args below meth c D cA b bs H locs ls cells slots Q Re En
  obtain ⟨h1, h2, h3⟩ := Re.1.1 pc _ hc
  obtain ⟨r1, r2, r3, r4, r5, r6, r7, r8, r9, r10, r11, r12⟩ := Re
  have E := En r h pc H locs ls cells slots (by rw [hret]; exact h1) hp hn hz (by omega) (by omega) (fun q => by rw [hret] at q; cases q) r6 r7
  rw [hret] at E
  exact E
theorem am_zret {r : Int32} (hc : M.2.2.2.2.2 pc = some (.ireturn, 1, nx, [])) (hret : M.2.2.2.1 = some .boolean) (hr : r = 0 ∨ r = 1) (hn : h.2.1 = n0 + mc) (hz : h.2.2 = z0 + ms) (hp : post r h) : am_V M sc d mc ms n0 z0 post pc L [.int r] h := by
  intro p l e R s m args below meth c D cA b bs H locs ls cells slots Q Re En
  obtain ⟨h1, h2, h3⟩ := Re.1.1 pc _ hc
  obtain ⟨r1, r2, r3, r4, r5, r6, r7, r8, r9, r10, r11, r12⟩ := Re
  have E := En r h pc H locs ls cells slots (by rw [hret]; exact h1) hp hn hz (by omega) (by omega) (fun _ => hr) r6 r7
  rw [hret] at E
  exact E
theorem am_vret (hc : M.2.2.2.2.2 pc = some (.return_, 1, nx, [])) (hret : M.2.2.2.1 = none) (hn : h.2.1 = n0 + mc) (hz : h.2.2 = z0 + ms) (hp : post 0 h) : am_V M sc d mc ms n0 z0 post pc L [] h := by
  intro p l e R s m args below meth c D cA b bs H locs ls cells slots Q Re En
  obtain ⟨h1, h2, h3⟩ := Re.1.1 pc _ hc
  obtain ⟨r1, r2, r3, r4, r5, r6, r7, r8, r9, r10, r11, r12⟩ := Re
  have E := En 0 h pc H locs ls cells slots (by rw [hret]; exact h1) hp hn hz (by omega) (by omega) (fun q => by rw [hret] at q; cases q) r6 r7
  rw [hret] at E
  exact E
theorem am_args_mem : ∀ (vs : List Value) (i j : Nat) (v : Value), (∀ w ∈ vs, w.category = 1) → vs[j]? = some v → (i + j, v) ∈ lv_args i vs
  | [], _, _, _, _, h => by simp at h
  | w :: vs, i, 0, v, hc, h => by
    simp at h
    subst h
    simp [lv_args]
  | w :: vs, i, j + 1, v, hc, h => by
    have h1 := am_args_mem vs (i + 1) j v (fun x hx => hc x (List.mem_cons_of_mem _ hx)) (by simpa using h)
    have h2 : ¬ w.category = 2 := by rw [hc w List.mem_cons_self]; decide
    rw [lv_args, if_neg h2]
    exact List.mem_cons_of_mem _ (by rw [show i + (j + 1) = i + 1 + j by omega]; exact h1)
theorem am_sl_len : ∀ (vs : List Value), (∀ w ∈ vs, w.category = 1) → (lg_sl vs).length = vs.length
  | [], _ => rfl
  | w :: vs, hc => by
    have h1 := am_sl_len vs (fun x hx => hc x (List.mem_cons_of_mem _ hx))
    have h2 : ¬ w.category = 2 := by rw [hc w List.mem_cons_self]; decide
    simp only [lg_sl, List.flatMap_cons, if_neg h2, List.length_append, List.length_cons, List.length_nil] at h1 ⊢
    omega
theorem am_L.entry {b bs nL : Nat} {As : List Value} (hA : ∀ v ∈ As, v.category = 1) (hn : As.length ≤ nL) : am_L b bs nL (As.map some ++ List.replicate (nL - As.length) none) ((lg_sl (As.map (am_v b bs)) ++ List.replicate (nL - (lg_sl (As.map (am_v b bs))).length) Slot.unset).toArray) := by
  have hc : ∀ w ∈ As.map (am_v b bs), w.category = 1 := by
    intro w hw
    obtain ⟨v, hv, rfl⟩ := List.mem_map.mp hw
    exact am_cat (hA v hv)
  have hl := lv_entry (As.map (am_v b bs)) (n := nL) (by rw [am_sl_len _ hc, List.length_map]; exact hn)
  refine ⟨hl.1, hl.2.1, fun i v hi => ?_⟩
  have hi2 : As[i]? = some v := by
    by_cases q : i < As.length
    · rw [List.getElem?_append_left (by simpa using q), List.getElem?_map] at hi
      cases ha : As[i]? with
      | none => rw [ha] at hi; cases hi
      | some w => rw [ha] at hi; exact congrArg some (Option.some.inj (Option.some.inj hi))
    · rw [List.getElem?_append_right (by simpa using q), List.getElem?_replicate] at hi
      split at hi <;> cases hi
  refine ⟨hA v (List.mem_of_getElem? hi2), hl.2.2 (i, am_v b bs v) ?_⟩
  have h1 := am_args_mem (As.map (am_v b bs)) 0 i (am_v b bs v) hc (by rw [List.getElem?_map, hi2]; rfl)
  rwa [Nat.zero_add] at h1
/-- a contract out of a walk -/
theorem am_X_of (ok : am_ok M) (hy : plainName M.1.cls = true) (hcl : M.1.cls = am_R M.2.2.2.2.1) (hno : M.2.2.2.2.1 ≠ 10) (hret : M.2.2.2.1 = none ∨ M.2.2.2.1 = some .int ∨ M.2.2.2.1 = some .boolean) {As : List Value} (hA : ∀ v ∈ As, v.category = 1) (hn : As.length ≤ M.2.2.1)
    (hV : am_V M (0, fun _ => 0) d mc ms h.2.1 h.2.2 post 0 (As.map some ++ List.replicate (M.2.2.1 - As.length) none) [] h) : am_X M d mc ms As h post := by
  refine ⟨d, Nat.le_refl d, fun l D cA b bs => ?_⟩
  refine Met.ofW (cc := M.2.1) (maxL := M.2.2.1) (ret := M.2.2.2.1) hy rfl ?_
  intro p e s m args below meth c s₁ B hml hv
  obtain ⟨rfl, hP, hK⟩ := hv
  have hts := atoms_spec (ws := .code M.1 M.2.1 M.2.2.1 M.2.2.2.1 :: am_tb) B.pre
  have hown : s.vm.findClass (am_R M.2.2.2.2.1) = some m.cls := hcl ▸ findClass_of_methodNamed B.named
  rw [lg_entry_eq]
  refine hV p l e _ s m _ below meth c D cA b bs s.heap [] _ 0 0 _ ⟨⟨ok, B.exec, B.bytes, B.returns, hml, hown, B.notSynchronized, (name_of_methodNamed B.named B.method).1, fun w hw => hts w (List.mem_cons_of_mem _ hw)⟩, ⟨Nat.le_refl _, Nat.le_refl _, Nat.le_refl _, Nat.le_refl _⟩, hK, fun q => absurd q hno, ⟨by rw [hP.1]; exact Nat.le_add_right _ _, hP.1⟩, hP, va_S.rf, am_L.entry hA hn, Nat.zero_add _, Nat.zero_add _, Nat.le_add_right _ _, Nat.le_add_right _ _⟩ ?_
  intro r h' pc H locs ls cells slots hd hp hn' hz' e1 e2 hbool hP' hS'
  have e1 := e1.symm
  have e2 := e2.symm
  subst e1
  subst e2
  have hq : ∀ t : State, t.heap = H → s.WarmedH t.vm → am_Q M.2.2.2.1 D cA b bs (h.2.1 + mc) (h.2.2 + ms) post (List.map (am_v b bs) As).toArray s (.returned (am_r M.2.2.2.1 r)) t := fun t ht hW => ⟨⟨r, h', rfl, hp, hn', hz', by rw [ht]; exact hP', hK.moved hW⟩, hS'.F ht⟩
  rcases hret with hr | hr | hr
  · rw [hr] at hd hq ⊢
    exact W.vret B.exec B.bytes (B.returns.trans hr) hq hS'.2.2 hd (hlocks := B.notSynchronized)
  · rw [hr] at hd hq ⊢
    exact W.iret B.exec B.bytes (B.returns.trans hr) hq hS'.2.2 hd (hlocks := B.notSynchronized)
  · have hb := hbool hr
    rw [hr] at hd hq ⊢
    exact W.zret B.exec B.bytes (B.returns.trans hr) (by rcases hb with rfl | rfl <;> rfl) hq hS'.2.2 hd (hlocks := B.notSynchronized)
theorem am_blind {D : va_G} {cA : Nat → ClassId} {b bs : Nat} {As : List Value} : FrameBlind (va_Pc As (fun U => am_P D cA b bs h U.heap ∧ am_K D cA U)) := fun a U g mk q => by
  obtain ⟨q0, qP, qK⟩ := q
  exact ⟨q0, qP, am_K.same (u := U) (U := U.calling g mk a) rfl qK⟩
/-- behind a call -/
theorem am_after {p : Program} {l : Launch} {e : Env} {R : Room} {s : State} {m : MethodId} {args : Array Value} {below : List Frame} {meth : Method} {c : Code} {D : va_G} {cA : Nat → ClassId} {b bs : Nat} {H : Heap} {locs : List Loc} {ls : Array Slot} {cells slots : Nat} {Q : State → Prop} {mc' ms' : Nat} {st0 rest : List Value} {a : Array Value} {ret : Option FieldType} {g : JFrame} {post' : Int32 → am_H → Prop}
    (Re : am_Re M sc d mc ms n0 z0 p R s m args meth c D cA b bs H locs ls cells slots L h) (hg : g = F0 m pc ls st0) (hb : h.2.1 + mc' ≤ n0 + mc ∧ h.2.2 + ms' ≤ z0 + ms)
    (run : va_Run p l e R s m args below meth c H locs cells slots mc' ms' g rest (am_Q ret D cA b bs (h.2.1 + mc') (h.2.2 + ms') post' a) (fun q => b ≤ q))
    (kk : ∀ (r : Int32) (h' : am_H) (H1 : Heap) (locs1 : List Loc), post' r h' → am_Re M sc d mc ms n0 z0 p R s m args meth c D cA b bs H1 locs1 ls (cells + mc') (slots + ms') L h' → W p l e R s m args below meth c H1 locs1 (cells + mc') (slots + ms') Q (F0 m (pc + 3) ls ((am_r ret r).toList ++ rest))) : W p l e R s m args below meth c H locs cells slots Q g := by
  intro T hT X
  obtain ⟨v, st₀, t, T', Lc, h0, X', hL, e1, e2, ⟨⟨r, h', hv, hp, hn', hz', hP', hK'⟩, hz, hk⟩, stp⟩ := run T hT X
  have hv : v = am_r ret r := by injection hv
  subst hv
  subst hg
  rw [h0] at hz hk
  obtain ⟨r1, r2, r3, r4, r5, r6, r7, r8, r9, r10, r11, r12⟩ := Re
  obtain ⟨t2, a1, b1⟩ := kk r h' T'.heap (locs ++ Lc) hp ⟨r1, r2, r3, r4, r5, by rw [e1]; exact hP', ⟨Nat.le_trans r7.1 (by rw [e1]; exact hz), fun q g1 g2 => by rw [e1, hk q (Nat.lt_of_lt_of_le g1 r7.1) g2]; exact r7.2.1 q g1 g2, fun q hq => by
      rcases List.mem_append.mp hq with g1 | g1
      · exact r7.2.2 q g1
      · exact hL q g1⟩, r8, by omega, by omega, by omega, by omega⟩ T' rfl X'
  exact ⟨t2, stp t2 a1, b1⟩
theorem am_hR {d d' mc' ms' maxL : Nat} {R : Room} (hd : d' + 1 ≤ d) (h1 : d ≤ R.frames) (h2 : 40 * d ≤ R.locals) (hm : maxL ≤ 21) : (am_rm d' mc' ms').frames + 1 ≤ R.frames ∧ 8 + (maxL + 11) + (am_rm d' mc' ms').locals ≤ R.locals := by
  constructor
  · show d' + 1 ≤ R.frames
    omega
  · show 8 + (maxL + 11) + 40 * d' ≤ R.locals
    omega
def am_ps (ret : Option FieldType) (r : Int32) (st : List Value) : List Value := (am_r ret r).toList ++ st
theorem am_ps_map {b bs : Nat} {ret : Option FieldType} {r : Int32} {st : List Value} : (am_ps ret r st).map (am_v b bs) = (am_r ret r).toList ++ st.map (am_v b bs) := by
  cases ret <;> rfl
theorem am_X.imp {N : am_M} {d' mc' ms' : Nat} {As : List Value} {P P' : Int32 → am_H → Prop} (hX : am_X N d' mc' ms' As h P) (hi : ∀ r h', P r h' → P' r h') : am_X N d' mc' ms' As h P' := by
  obtain ⟨d2, hd2, hM⟩ := hX
  refine ⟨d2, hd2, fun l D cA b bs => MetFree.mono (hM l D cA b bs) (fun _ _ q => q) (fun _ _ _ _ _ q => q) (fun a s o t _ q => ?_)⟩
  obtain ⟨⟨⟨r, h', q1, q2, q3⟩, q4⟩, q5⟩ := q
  exact ⟨⟨⟨r, h', q1, hi r h' q2, q3⟩, q4⟩, q5⟩
theorem am_callV {N : am_M} {i n a : Nat} {fs : List Value} {As : List Value} {d' mc' ms' : Nat} (hl : am_lV M.2.2.2.2.1 i N n) (hc : M.2.2.2.2.2 pc = some (.invokevirtual i, 3, nx, [])) (hn : As.length = n) (ha : a < h.2.1) (he : h.1 a = .inr (N.2.2.2.2.1, fs)) (hd : d' + 1 ≤ d) (hst : ∀ b bs, ((st.map (am_v b bs)).map (fun v => v.category)).sum ≤ 8) (hb : h.2.1 + mc' ≤ n0 + mc ∧ h.2.2 + ms' ≤ z0 + ms)
    (hX : am_X N d' mc' ms' (.ref a :: As) h (fun r h' => am_V M sc d mc ms n0 z0 post nx L (am_ps N.2.2.2.1 r st) h')) : am_V M sc d mc ms n0 z0 post pc L (As.reverse ++ .ref a :: st) h := by
  intro p l e R s m args below meth c D cA b bs H locs ls cells slots Q Re En
  obtain ⟨h1, h2, h3⟩ := Re.1.1 pc _ hc
  have h2 : nx = pc + 3 := h2
  subst h2
  obtain ⟨d2, hd2, hM⟩ := hX
  obtain ⟨hlm, l1, l2, l3, T0, k0, l4⟩ := hl
  have hP := Re.2.2.2.2.2.1
  have hPa := hP.2 a ha
  rw [he] at hPa
  have hK := Re.2.2.1
  refine am_after (st0 := (As.reverse ++ .ref a :: st).map (am_v b bs)) (rest := st.map (am_v b bs)) Re rfl hb (va_runV (As := As.map (am_v b bs)) (b := b + a) (C := am_R N.2.2.2.2.1) (nL := M.2.2.1) ⟨Re.1.2.1, Re.1.2.2.1, Re.1.2.2.2.2.1, Re.1.2.2.2.2.2.1, Re.1.2.2.2.2.2.2.2.2⟩ (hM l D cA b bs) (cwV n Re.1.2.2.2.2.2.2.2.2 (am_goodIn (fun w hw => ?_)) rfl rfl rfl ⟨hlm.2.2.1, hlm.2.2.2.1⟩ (am_hR (d := d) (Nat.le_trans (Nat.add_le_add_right hd2 1) hd) Re.2.1.1 Re.2.1.2.1 hlm.2.2.2.2)) ⟨am_blind, ?_, fun U hU hW => ⟨rfl, by rw [hU]; exact hP, hK.moved hW⟩⟩ rfl (by rw [List.length_map]; exact hn) Re.2.2.2.2.2.2.2.1.1 (by simp [am_v, List.map_reverse]) (lv_room (hst b bs)) h1 ⟨by have := Re.2.1.2.2.1; have := Re.2.2.2.2.2.2.2.2.1; have := hb.1; omega, by have := Re.2.1.2.2.2; have := Re.2.2.2.2.2.2.2.2.2.1; have := hb.2; omega⟩) (fun r h' H1 locs1 hp Re1 => by rw [← am_ps_map]; exact hp p l e R s m args below meth c D cA b bs H1 locs1 ls _ _ Q Re1 En)
  · rcases List.mem_append.mp hw with g | g
    · simp only [List.mem_cons, List.not_mem_nil, or_false] at g
      rcases g with rfl | rfl | rfl | rfl
      · exact l1
      · exact l2
      · exact l3
      · rw [← hlm.2.2.1]; exact hlm.1
    · exact am_ws_in hlm w g
  · obtain ⟨q', g1, cell, g2, g3, g4, -⟩ := hPa
    have := (hK.1.1 _ _ l4).2.1
    exact ⟨cell, g2, by rw [g4]; rfl, by rw [g3]; exact this⟩
theorem am_callS {N : am_M} {i n : Nat} {As : List Value} {d' mc' ms' : Nat} (hl : am_lS M.2.2.2.2.1 i N n) (hc : M.2.2.2.2.2 pc = some (.invokestatic i, 3, nx, [])) (hn : As.length = n) (hd : d' + 1 ≤ d) (hst : ∀ b bs, ((st.map (am_v b bs)).map (fun v => v.category)).sum ≤ 8) (hb : h.2.1 + mc' ≤ n0 + mc ∧ h.2.2 + ms' ≤ z0 + ms)
    (hX : am_X N d' mc' ms' As h (fun r h' => am_V M sc d mc ms n0 z0 post nx L (am_ps N.2.2.2.1 r st) h')) : am_V M sc d mc ms n0 z0 post pc L (As.reverse ++ st) h := by
  intro p l e R s m args below meth c D cA b bs H locs ls cells slots Q Re En
  obtain ⟨h1, h2, h3⟩ := Re.1.1 pc _ hc
  have h2 : nx = pc + 3 := h2
  subst h2
  obtain ⟨d2, hd2, hM⟩ := hX
  obtain ⟨hlm, l1, l2⟩ := hl
  have hP := Re.2.2.2.2.2.1
  have hK := Re.2.2.1
  refine am_after (st0 := (As.reverse ++ st).map (am_v b bs)) (rest := st.map (am_v b bs)) Re rfl hb (va_runS (As := As.map (am_v b bs)) (nL := M.2.2.1) ⟨Re.1.2.1, Re.1.2.2.1, Re.1.2.2.2.2.1, Re.1.2.2.2.2.2.1, Re.1.2.2.2.2.2.2.2.2⟩ (hM l D cA b bs) (va_cwS n Re.1.2.2.2.2.2.2.2.2 (am_goodIn (fun w hw => ?_)) rfl rfl rfl hlm.2.2.2.1 (am_hR (d := d) (Nat.le_trans (Nat.add_le_add_right hd2 1) hd) Re.2.1.1 Re.2.1.2.1 hlm.2.2.2.2)) ⟨am_blind, fun U hU hW => ⟨rfl, by rw [hU]; exact hP, hK.moved hW⟩⟩ rfl (by rw [List.length_map]; exact hn) Re.2.2.2.2.2.2.2.1.1 (by simp [am_v, List.map_reverse]) (lv_room (hst b bs)) h1 ⟨by have := Re.2.1.2.2.1; have := Re.2.2.2.2.2.2.2.2.1; have := hb.1; omega, by have := Re.2.1.2.2.2; have := Re.2.2.2.2.2.2.2.2.2.1; have := hb.2; omega⟩) (fun r h' H1 locs1 hp Re1 => by rw [← am_ps_map]; exact hp p l e R s m args below meth c D cA b bs H1 locs1 ls _ _ Q Re1 En)
  rcases List.mem_append.mp hw with g | g
  · simp only [List.mem_cons, List.not_mem_nil, or_false] at g
    rcases g with rfl | rfl | rfl
    · exact l1
    · exact l2
    · exact hlm.1
  · exact am_ws_in hlm w g
theorem am_callI {N : am_M} {i n a : Nat} {As : List Value} {d' mc' ms' : Nat} (hl : am_lI M.2.2.2.2.1 i N n) (hret : N.2.2.2.1 = none) (hc : M.2.2.2.2.2 pc = some (.invokespecial i, 3, nx, [])) (hn : As.length = n) (hd : d' + 1 ≤ d) (hst : ∀ b bs, ((st.map (am_v b bs)).map (fun v => v.category)).sum ≤ 8) (hb : h.2.1 + mc' ≤ n0 + mc ∧ h.2.2 + ms' ≤ z0 + ms)
    (hX : am_X N d' mc' ms' (.ref a :: As) h (fun _ h' => am_V M sc d mc ms n0 z0 post nx L st h')) : am_V M sc d mc ms n0 z0 post pc L (As.reverse ++ .ref a :: st) h := by
  intro p l e R s m args below meth c D cA b bs H locs ls cells slots Q Re En
  obtain ⟨h1, h2, h3⟩ := Re.1.1 pc _ hc
  have h2 : nx = pc + 3 := h2
  subst h2
  obtain ⟨d2, hd2, hM⟩ := hX
  obtain ⟨hlm, l1, l2, l3⟩ := hl
  have hP := Re.2.2.2.2.2.1
  have hK := Re.2.2.1
  have hts := Re.1.2.2.2.2.2.2.2.2
  have hM := hM l D cA b bs
  have hw0 := am_ws_in hlm
  rw [hret] at hM hw0
  exact am_after (ret := none) (st0 := (As.reverse ++ .ref a :: st).map (am_v b bs)) (rest := st.map (am_v b bs)) Re rfl hb (va_runI (As := As.map (am_v b bs)) (b := b + a) (nL := M.2.2.1) ⟨Re.1.2.1, Re.1.2.2.1, Re.1.2.2.2.2.1, Re.1.2.2.2.2.2.1, hts⟩ hM (cwI n hts (am_goodIn hw0) rfl rfl rfl (hts _ hlm.1) (hts _ l1) (hts _ l2) l3 hlm.2.2.2.1 (am_hR (d := d) (Nat.le_trans (Nat.add_le_add_right hd2 1) hd) Re.2.1.1 Re.2.1.2.1 hlm.2.2.2.2)) ⟨am_blind, fun U hU hW => ⟨rfl, by rw [hU]; exact hP, hK.moved hW⟩⟩ rfl (by rw [List.length_map]; exact hn) Re.2.2.2.2.2.2.2.1.1 (by simp [am_v, List.map_reverse]) (lv_room (hst b bs)) h1 ⟨by have := Re.2.1.2.2.1; have := Re.2.2.2.2.2.2.2.2.1; have := hb.1; omega, by have := Re.2.1.2.2.2; have := Re.2.2.2.2.2.2.2.2.2.1; have := hb.2; omega⟩) (fun r h' H1 locs1 hp Re1 => hp p l e R s m args below meth c D cA b bs H1 locs1 ls _ _ Q Re1 En)
theorem am_callN {N : am_M} {i n a : Nat} {As : List Value} {d' mc' ms' : Nat} (hl : am_lN M.2.2.2.2.1 i N n) (hret : N.2.2.2.1 = none) (hc : M.2.2.2.2.2 pc = some (.invokespecial i, 3, nx, [])) (hn : As.length = n) (hd : d' + 1 ≤ d) (hst : ∀ b bs, ((st.map (am_v b bs)).map (fun v => v.category)).sum ≤ 8) (hb : h.2.1 + mc' ≤ n0 + mc ∧ h.2.2 + ms' ≤ z0 + ms)
    (hX : am_X N d' mc' ms' (.ref a :: As) h (fun _ h' => am_V M sc d mc ms n0 z0 post nx L st h')) : am_V M sc d mc ms n0 z0 post pc L (As.reverse ++ .ref a :: st) h := by
  intro p l e R s m args below meth c D cA b bs H locs ls cells slots Q Re En
  obtain ⟨h1, h2, h3⟩ := Re.1.1 pc _ hc
  have h2 : nx = pc + 3 := h2
  subst h2
  obtain ⟨d2, hd2, hM⟩ := hX
  obtain ⟨hlm, l1, l2, l3⟩ := hl
  have hP := Re.2.2.2.2.2.1
  have hK := Re.2.2.1
  have hts := Re.1.2.2.2.2.2.2.2.2
  have hM := hM l D cA b bs
  have hw0 := am_ws_in hlm
  rw [hret] at hM hw0
  exact am_after (ret := none) (st0 := (As.reverse ++ .ref a :: st).map (am_v b bs)) (rest := st.map (am_v b bs)) Re rfl hb (va_runIN (As := As.map (am_v b bs)) (b := b + a) (nL := M.2.2.1) ⟨Re.1.2.1, Re.1.2.2.1, Re.1.2.2.2.2.1, Re.1.2.2.2.2.2.1, hts⟩ hM ⟨va_cnB n hts (am_goodIn hw0) rfl rfl rfl (hK.2 _ l1) (hts _ hlm.1) hlm.2.2.2.1 (am_hR (d := d) (Nat.le_trans (Nat.add_le_add_right hd2 1) hd) Re.2.1.1 Re.2.1.2.1 hlm.2.2.2.2), l3, hts _ l2⟩ ⟨am_blind, fun U hU hW => ⟨rfl, by rw [hU]; exact hP, hK.moved hW⟩⟩ rfl (by rw [List.length_map]; exact hn) Re.2.2.2.2.2.2.2.1.1 (by simp [am_v, List.map_reverse]) (lv_room (hst b bs)) h1 ⟨by have := Re.2.1.2.2.1; have := Re.2.2.2.2.2.2.2.2.1; have := hb.1; omega, by have := Re.2.1.2.2.2; have := Re.2.2.2.2.2.2.2.2.2.1; have := hb.2; omega⟩) (fun r h' H1 locs1 hp Re1 => hp p l e R s m args below meth c D cA b bs H1 locs1 ls _ _ Q Re1 En)
/-- Object's constructor -/
theorem am_obj {i a : Nat} (hl : Cond.methodLink (am_R M.2.2.2.2.1) i objectInit ∈ am_tb) (hi : Cond.instanceMethod objectInit ∈ am_tb) (hk : Cond.code objectInit ⟨#[0xb1]⟩ 1 none ∈ am_tb) (hc : M.2.2.2.2.2 pc = some (.invokespecial i, 3, nx, [])) (hd : 1 ≤ d) (hst : ∀ b bs, ((st.map (am_v b bs)).map (fun v => v.category)).sum ≤ 8) (k : am_V M sc d mc ms n0 z0 post nx L st h) : am_V M sc d mc ms n0 z0 post pc L (.ref a :: st) h := by
  intro p l e R s m args below meth c D cA b bs H locs ls cells slots Q Re En
  obtain ⟨h1, h2, h3⟩ := Re.1.1 pc _ hc
  have h2 : nx = pc + 3 := h2
  subst h2
  have hts := Re.1.2.2.2.2.2.2.2.2
  have g1 := Re.2.1.1
  have g2 := Re.2.1.2.1
  have g3 := hst b bs
  refine W.objInit Re.1.2.1 Re.1.2.2.1 Re.1.2.2.2.2.2.1 (hts _ hl) (hts _ hi) (hts _ hk) rfl (by rw [Re.1.2.2.2.2.1]; exact Re.2.2.2.2.2.2.2.1.1) rfl h1 (by omega) (by show 2 * 0 + ((st.map (am_v b bs)).map (fun v => v.category)).sum + 12 ≤ R.locals; omega) ?_
  exact k p l e R s m args below meth c D cA b bs H locs ls cells slots Q Re En
end AMC
end
section
/-! New cells, stores of references, arraycopy, the script. -/
section AMN
variable {M : am_M} {sc : Nat × (Nat → Int32)} {d mc ms n0 z0 : Nat} {post : Int32 → am_H → Prop} {pc nx : Nat} {L : List (Option Value)} {st : List Value} {h : am_H}
theorem am_Re.new {p : Program} {R : Room} {s : State} {m : MethodId} {args : Array Value} {meth : Method} {c : Code} {D : va_G} {cA : Nat → ClassId} {b bs : Nat} {H H1 : Heap} {locs : List Loc} {ls : Array Slot} {cells slots w : Nat} {e : va_E}
    (Re : am_Re M sc d mc ms n0 z0 p R s m args meth c D cA b bs H locs ls cells slots L h) (he : va_at D am_cl (H.size, am_e b bs cA e) H1) (z : H1.size = H.size + 1) (oq : ∀ q : Nat, q < H.size → H1[q]? = H[q]?) (hb : h.2.1 + 1 ≤ n0 + mc ∧ h.2.2 + w ≤ z0 + ms) :
    am_Re M sc d mc ms n0 z0 p R s m args meth c D cA b bs H1 locs ls (cells + 1) (slots + w) L (am_n h e w) := by
  obtain ⟨r1, r2, r3, r4, r5, r6, r7, r8, r9, r10, r11, r12⟩ := Re
  refine ⟨r1, r2, r3, r4, r5, r6.new he z oq, ⟨Nat.le_trans r7.1 (by omega), fun q g1 g2 => (oq q (Nat.lt_of_lt_of_le g1 r7.1)).trans (r7.2.1 q g1 g2), r7.2.2⟩, r8, ?_, ?_, hb.1, hb.2⟩
  · show cells + 1 + n0 = h.2.1 + 1
    omega
  · show slots + w + z0 = h.2.2 + w
    omega
theorem am_new {ci i N : Nat} {C : String} {T : u_T} {fs : List Value} (hcl : am_cl[ci]? = some (C, T, N)) (hlk : Cond.classLink (am_R M.2.2.2.2.1) i C ∈ am_tb) (hins : Cond.instantiable C N ∈ am_tb) (hini : Cond.initialized C ∈ am_tb) (hfs : ∀ b bs j, j < N → defaultValue (am_ty ci j) = vp_V (fs.map (am_v b bs)) j) (hc : M.2.2.2.2.2 pc = some (.new i, 3, nx, [])) (hb : h.2.1 + 1 ≤ n0 + mc ∧ h.2.2 + N ≤ z0 + ms) (k : am_V M sc d mc ms n0 z0 post nx L (.ref h.2.1 :: st) (am_n h (.inr (ci, fs)) N)) : am_V M sc d mc ms n0 z0 post pc L st h := by
  intro p l e R s m args below meth c D cA b bs H locs ls cells slots Q Re En
  obtain ⟨h1, h2, h3⟩ := Re.1.1 pc _ hc
  have h2 : nx = pc + 3 := h2
  subst h2
  have hts := Re.1.2.2.2.2.2.2.2.2
  have hKn := Re.2.2.1.1.1 ci _ hcl
  obtain ⟨hin, hty, hnm, -⟩ := am_cf hcl
  refine W.newcK Re.1.2.1 Re.1.2.2.1 Re.1.2.2.2.2.2.1 (hts _ hlk) (hts _ hins) (hts _ hini) rfl h1 (by have := Re.2.1.2.2.1; have := Re.2.2.2.2.2.2.2.2.1; have := hb.1; omega) (by have := Re.2.1.2.2.2; have := Re.2.2.2.2.2.2.2.2.2.1; have := hb.2; omega) hKn.2.1 rfl fun H1 kC hkC e1 z1 o1 => ?_
  have g := k p l e R s m args below meth c D cA b bs H1 locs ls _ _ Q (Re.new ⟨_, hcl, (u_born (am_ty ci) hts hin hKn hkC e1 hty).to (hfs b bs)⟩ z1 o1 hb) En
  have e2 : H.size = b + h.2.1 := Re.2.2.2.2.2.1.1
  rw [e2]
  exact g
theorem am_newI {x : Int32} {N : Nat} (harr : Cond.arrayClass .int ∈ am_tb) (hx : ¬ x < 0) (hN : x.toNatClampNeg = N) (hN2 : N ≤ 100000) (hc : M.2.2.2.2.2 pc = some (.newarray .int, 2, nx, [])) (hb : h.2.1 + 1 ≤ n0 + mc ∧ h.2.2 + N ≤ z0 + ms) (k : am_V M sc d mc ms n0 z0 post nx L (.ref h.2.1 :: st) (am_n h (.inl (0, N, .inl (fun _ => 0))) N)) : am_V M sc d mc ms n0 z0 post pc L (.int x :: st) h := by
  intro p l e R s m args below meth c D cA b bs H locs ls cells slots Q Re En
  obtain ⟨h1, h2, h3⟩ := Re.1.1 pc _ hc
  have h2 : nx = pc + 2 := h2
  subst h2
  have hts := Re.1.2.2.2.2.2.2.2.2
  refine va_newaK Re.1.2.1 Re.1.2.2.1 (atype := .int) (hts _ harr) rfl h1 rfl hx hN (by show N * 4 ≤ 536870912; omega) (by have := Re.2.1.2.2.1; have := Re.2.2.2.2.2.2.2.2.1; have := hb.1; omega) (by have := Re.2.1.2.2.2; have := Re.2.2.2.2.2.2.2.2.2.1; have := hb.2; omega) rfl fun H1 cA1 e1 z1 o1 hAr hNm => ?_
  have hcA : s.vm.findClass ("[" ++ FieldType.int.toString) = some (cA 0) := (Re.2.2.1.1.2 0 _ rfl).2
  have e3 : cA1 = cA 0 := Option.some.inj (hNm.symm.trans hcA)
  subst e3
  have g := k p l e R s m args below meth c D cA b bs H1 locs ls _ _ Q (Re.new (show H1[H.size]? = some (vp_cell (cA 0) (N, .inl (fun _ => 0))) from e1) z1 o1 hb) En
  have e2 : H.size = b + h.2.1 := Re.2.2.2.2.2.1.1
  rw [e2]
  exact g
theorem am_newZ {x : Int32} {N : Nat} (harr : Cond.arrayClass .boolean ∈ am_tb) (hx : ¬ x < 0) (hN : x.toNatClampNeg = N) (hN2 : N ≤ 100000) (hc : M.2.2.2.2.2 pc = some (.newarray .boolean, 2, nx, [])) (hb : h.2.1 + 1 ≤ n0 + mc ∧ h.2.2 + N ≤ z0 + ms) (k : am_V M sc d mc ms n0 z0 post nx L (.ref h.2.1 :: st) (am_n h (.inl (1, N, .inl (fun _ => 0))) N)) : am_V M sc d mc ms n0 z0 post pc L (.int x :: st) h := by
  intro p l e R s m args below meth c D cA b bs H locs ls cells slots Q Re En
  obtain ⟨h1, h2, h3⟩ := Re.1.1 pc _ hc
  have h2 : nx = pc + 2 := h2
  subst h2
  have hts := Re.1.2.2.2.2.2.2.2.2
  refine va_newaK Re.1.2.1 Re.1.2.2.1 (atype := .boolean) (hts _ harr) rfl h1 rfl hx hN (by show N * 1 ≤ 536870912; omega) (by have := Re.2.1.2.2.1; have := Re.2.2.2.2.2.2.2.2.1; have := hb.1; omega) (by have := Re.2.1.2.2.2; have := Re.2.2.2.2.2.2.2.2.2.1; have := hb.2; omega) rfl fun H1 cA1 e1 z1 o1 hAr hNm => ?_
  have hcA : s.vm.findClass ("[" ++ FieldType.boolean.toString) = some (cA 1) := (Re.2.2.1.1.2 1 _ rfl).2
  have e3 : cA1 = cA 1 := Option.some.inj (hNm.symm.trans hcA)
  subst e3
  have g := k p l e R s m args below meth c D cA b bs H1 locs ls _ _ Q (Re.new (show H1[H.size]? = some (vp_cell (cA 1) (N, .inl (fun _ => 0))) from e1) z1 o1 hb) En
  have e2 : H.size = b + h.2.1 := Re.2.2.2.2.2.1.1
  rw [e2]
  exact g
theorem am_newQ {x : Int32} {i N : Nat} (hlk : Cond.classLink (am_R M.2.2.2.2.1) i RX7 ∈ am_tb) (hx : ¬ x < 0) (hN : x.toNatClampNeg = N) (hN2 : N ≤ 100000) (hc : M.2.2.2.2.2 pc = some (.anewarray i, 3, nx, [])) (hb : h.2.1 + 1 ≤ n0 + mc ∧ h.2.2 + N ≤ z0 + ms) (k : am_V M sc d mc ms n0 z0 post nx L (.ref h.2.1 :: st) (am_n h (.inl (2, N, .inr (.inr (.inr (.inr (fun _ => none)))))) N)) : am_V M sc d mc ms n0 z0 post pc L (.int x :: st) h := by
  intro p l e R s m args below meth c D cA b bs H locs ls cells slots Q Re En
  obtain ⟨h1, h2, h3⟩ := Re.1.1 pc _ hc
  have h2 : nx = pc + 3 := h2
  subst h2
  subst hN
  have hts := Re.1.2.2.2.2.2.2.2.2
  have hao : va_AO RX7 s := Re.2.2.1.2 (Cond.arrayOver (.object RX7)) (by simp [am_nw])
  refine W.anew Re.1.2.1 Re.1.2.2.1 Re.1.2.2.2.2.2.1 (hts _ hlk) (va_AO.use hao) rfl h1 rfl hx (by omega) (by have := Re.2.1.2.2.1; have := Re.2.2.2.2.2.2.2.2.1; have := hb.1; omega) (by have := Re.2.1.2.2.2; have := Re.2.2.2.2.2.2.2.2.2.1; have := hb.2; omega) fun cA1 kA comp f1 f2 f3 f4 => ?_
  obtain ⟨-, -, -, -, -, hcA⟩ := (Re.2.2.1.1.2 2 _ rfl).2
  have e3 : cA1 = cA 2 := Option.some.inj (f1.symm.trans hcA)
  subst e3
  generalize hH1 : H.push ({ cls := cA 2, slots := Array.replicate x.toNatClampNeg .null, vm := .none } : Cell) = H1
  have z1 : H1.size = H.size + 1 := by rw [← hH1, Array.size_push]
  have e1 : H1[H.size]? = some (arrV (cA 2) x.toNatClampNeg (fun _ => .null)) := by rw [← hH1, Array.getElem?_push_size, ← arrV_new]
  have o1 : ∀ q : Nat, q < H.size → H1[q]? = H[q]? := fun q hq => by rw [← hH1, Array.getElem?_push, if_neg (Nat.ne_of_lt hq)]
  have g := k p l e R s m args below meth c D cA b bs H1 locs ls _ _ Q (Re.new (show H1[H.size]? = some (vp_cell (cA 2) (x.toNatClampNeg, .inr (.inr (.inr (.inr (fun _ => none)))))) from e1) z1 o1 hb) En
  have e2 : H.size = b + h.2.1 := Re.2.2.2.2.2.1.1
  rw [e2]
  exact g
theorem am_aast {a n v : Nat} {f : Nat → Option Nat} {vs : List Value} {i : Int32} (hc : M.2.2.2.2.2 pc = some (.aastore, 1, nx, [])) (ha : a < h.2.1) (he : h.1 a = .inl (2, n, .inr (.inr (.inr (.inr f))))) (hv : v < h.2.1) (hev : h.1 v = .inr (7, vs)) (hi : vp_in i n) (kk : am_V M sc d mc ms n0 z0 post nx L st (am_u h a (.inl (2, n, .inr (.inr (.inr (.inr (va_up f i.toNatClampNeg (some v))))))))) : am_V M sc d mc ms n0 z0 post pc L (.ref v :: .int i :: .ref a :: st) h := by
  intro p l e R s m args below meth c D cA b bs H locs ls cells slots Q Re En
  obtain ⟨h1, h2, h3⟩ := Re.1.1 pc _ hc
  have h2 : nx = pc + 1 := h2
  subst h2
  have hP := Re.2.2.2.2.2.1.2 a ha
  rw [he] at hP
  have hPv := Re.2.2.2.2.2.1.2 v hv
  rw [hev] at hPv
  have hK := Re.2.2.1.1
  have hlt : i.toNatClampNeg < n := Nat.not_le.mp fun q => hi (Or.inr q)
  have h0 : ¬ i < 0 := fun q => hi (Or.inl q)
  obtain ⟨r', hr', cellV, g1, g2, g3, -⟩ := hPv
  have hcls := (hK.1 7 (RX7, TX7, 17) rfl).2
  obtain ⟨kA, comp, k1, k2, k3, -⟩ := (hK.2 2 _ rfl).2
  have hcomp : comp = D.1 7 := Option.some.inj (k3.symm.trans hcls.1)
  subst hcomp
  obtain ⟨kC, hkC, -⟩ := hcls.2
  refine W.aast Re.1.2.1 Re.1.2.2.1 hP (fun q h => by cases h) (fun h => by cases h) k1 k2 rfl hkC ⟨h0, by show _ < (arrV (cA 2) n (fun j => va_rf ((f j).map (fun k => b + k)))).slots.size; rw [arrV_size]; exact hlt⟩ g1 (fun q h => by rw [g3] at h; cases h) (by rw [g2]; exact hkC) (by rw [g2]; exact va_assign hcls) rfl rfl h1 fun H1 e1 z oq => ?_
  refine kk p l e R s m args below meth c D cA b bs H1 _ ls cells slots Q (Re.put ?_ z oq) En
  show H1[b + a]? = some (vp_cell _ _)
  rw [e1]
  show some ((vp_cell (cA 2) (n, .inr (.inr (.inr (.inr (fun j => (f j).map (fun k => b + k))))))).setSlot _ _) = some (vp_cell (cA 2) (n, .inr (.inr (.inr (.inr (fun j => (va_up f i.toNatClampNeg (some v) j).map (fun k => b + k)))))))
  rw [vp_cell_q, vp_cell_q, arrV_store]
  congr 2
  funext q
  by_cases hq : q = i.toNatClampNeg
  · subst hq
    simp [updV, va_up, va_rf]
  · simp [updV, va_up, hq]
theorem am_copy {a0 a n0' n1 i : Nat} {f g : Nat → Int32} {sp dp n : Int32} (hlk : Cond.methodLink (am_R M.2.2.2.2.1) i arraycopyName ∈ am_tb) (hnat : Cond.native arraycopyName ∈ am_tb) (hsta : Cond.static arraycopyName ∈ am_tb) (hini : Cond.initialized "java/lang/System" ∈ am_tb) (hc : M.2.2.2.2.2 pc = some (.invokestatic i, 3, nx, [])) (ha0 : a0 < h.2.1) (he0 : h.1 a0 = .inl (0, n0', .inl f)) (ha : a < h.2.1) (he : h.1 a = .inl (0, n1, .inl g))
    (g1 : ¬ sp < 0) (g2 : ¬ dp < 0) (g3 : ¬ n < 0) (g4 : sp.toNatClampNeg + n.toNatClampNeg ≤ n0') (g5 : dp.toNatClampNeg + n.toNatClampNeg ≤ n1) (hd : 1 ≤ d) (hst : ∀ b bs, ((st.map (am_v b bs)).map (fun v => v.category)).sum ≤ 8) (kk : am_V M sc d mc ms n0 z0 post nx L st (am_u h a (.inl (0, n1, .inl (va_cpy f g sp.toNatClampNeg dp.toNatClampNeg n.toNatClampNeg))))) : am_V M sc d mc ms n0 z0 post pc L (.int n :: .int dp :: .ref a :: .int sp :: .ref a0 :: st) h := by
  intro p l e R s m args below meth c D cA b bs H locs ls cells slots Q Re En
  obtain ⟨h1, h2, h3⟩ := Re.1.1 pc _ hc
  have h2 : nx = pc + 3 := h2
  subst h2
  have hts := Re.1.2.2.2.2.2.2.2.2
  have nn : ∀ z : Int32, ¬ z < 0 → z.toInt = (z.toNatClampNeg : Int) := by
    intro z hz
    have hz0 : (0 : Int) ≤ z.toInt := by
      have := Int32.not_lt.mp hz
      simpa using Int32.le_iff_toInt_le.mp this
    show z.toInt = ((z.toInt.toNat : Nat) : Int)
    omega
  intro T hT X
  have hP0 := Re.2.2.2.2.2.1.2 a0 ha0
  rw [he0] at hP0
  have hP1 := Re.2.2.2.2.2.1.2 a ha
  rw [he] at hP1
  have hc0 : H[b + a0]? = some (vp_cell (cA 0) (n0', .inl f)) := hP0
  have hc1 : H[b + a]? = some (vp_cell (cA 0) (n1, .inl g)) := hP1
  have hK := Re.2.2.1.1
  obtain ⟨-, k0, hk0, cm0, hkk0⟩ := (hK.2 0 _ rfl).1 n0' (fun j => .int (f j))
  have hfr := Re.2.1.1
  have hlo := Re.2.1.2.1
  have hs8 := hst b bs
  obtain ⟨vm', X', step⟩ := X.arraycopy Re.1.2.1 Re.1.2.2.2.2.2.1 (hts _ hlk) (hts _ hnat) (hts _ hsta) (hts _ hini) (src := b + a0) (dst := b + a) (cs := vp_cell (cA 0) (n0', .inl f)) (cd := vp_cell (cA 0) (n1, .inl g)) (srcPos := sp) (destPos := dp) (n := n) (by rw [hT]; exact hc0) (by rw [hT]; exact hc1)
    (fun _ h => by cases h) (fun _ h => by cases h) (fun h => by cases h) (fun h => by cases h) hk0 hk0 hkk0 hkk0 (by simp [refKind]) g1 g2 g3
    (by rw [nn sp g1, nn n g3]; show ¬ _ > ((arrV (cA 0) n0' (fun j => .int (f j))).slots.size : Int); rw [arrV_size]; omega)
    (by rw [nn dp g2, nn n g3]; show ¬ _ > ((arrV (cA 0) n1 (fun j => .int (g j))).slots.size : Int); rw [arrV_size]; omega)
    (fun vm₁ _ i hi => by
      have e : (vp_cell (cA 0) (n0', .inl f)).slots.getD (sp.toNatClampNeg + i) .null = .int (f (sp.toNatClampNeg + i)) := by
        show (arrV (cA 0) n0' (fun j => .int (f j))).slots.getD _ _ = _
        rw [Array.getD_eq_getD_getElem?, arrV_read _ _ (by omega)]
        rfl
      refine ⟨?_, ?_⟩
      · rw [e]
        rfl
      · rw [e]
        exact trivial)
    (g := F0 m pc ls (.int n :: .int dp :: .ref (b + a) :: .int sp :: .ref (b + a0) :: st.map (am_v b bs))) rfl (by rw [Re.1.2.2.2.2.1]; exact Re.2.2.2.2.2.2.2.1.1) (rest := st.map (am_v b bs)) rfl (by rw [Re.1.2.2.1]; exact h1) (by omega) (by show 2 * 0 + _ + (7 + 11) ≤ _; omega)
  have e1 : copied (vp_cell (cA 0) (n0', .inl f)) (vp_cell (cA 0) (n1, .inl g)) sp dp n = vp_cell (cA 0) (n1, .inl (va_cpy f g sp.toNatClampNeg dp.toNatClampNeg n.toNatClampNeg)) := va_copied (fun z => .int z) (cA 0) (cA 0) f g g4
  rw [e1] at X' step
  have hl : b + a < H.size := (Array.getElem?_eq_some_iff.mp hc1).1
  have hheap : ((T.setVm vm').setCell (b + a) (vp_cell (cA 0) (n1, .inl (va_cpy f g sp.toNatClampNeg dp.toNatClampNeg n.toNatClampNeg)))).heap = H.setIfInBounds (b + a) (vp_cell (cA 0) (n1, .inl (va_cpy f g sp.toNatClampNeg dp.toNatClampNeg n.toNatClampNeg))) := by rw [← hT]; rfl
  have oq : ∀ q : Nat, q ≠ b + a → (H.setIfInBounds (b + a) (vp_cell (cA 0) (n1, .inl (va_cpy f g sp.toNatClampNeg dp.toNatClampNeg n.toNatClampNeg))))[q]? = H[q]? := fun q hq => by simp [Array.getElem?_setIfInBounds, Ne.symm hq]
  obtain ⟨r1, r2, r3, r4, r5, r6, r7, r8, r9⟩ := Re
  obtain ⟨t, a1, b1⟩ := kk p l e R s m args below meth c D cA b bs _ _ ls cells slots Q ⟨r1, r2, r3, r4, r5, r6.put (show (H.setIfInBounds (b + a) _)[b + a]? = some _ by simp [Array.getElem?_setIfInBounds, hl]; rfl) (by simp) oq, ⟨by simp; exact r7.1, fun q g1 g2 => by
      rw [oq q (fun e => g2 (by rw [e]; exact Nat.le_add_right b a))]
      exact r7.2.1 q g1 g2, fun q hq => by
      rcases List.mem_append.mp hq with h | h
      · exact r7.2.2 q h
      · obtain ⟨z, -, hz⟩ := List.mem_map.mp h
        rw [← hz]
        exact Nat.le_add_right b a⟩, r8, r9⟩ En _ hheap X'
  exact ⟨t, step t a1, b1⟩
theorem am_sld {x : UInt32} {i : Int32} (hown : M.2.2.2.2.1 = 10) (hc : M.2.2.2.2.2 pc = some (.iaload, 1, nx, [])) (hi : vp_in i sc.1) (kk : am_V M sc d mc ms n0 z0 post nx L (.int (sc.2 i.toNatClampNeg) :: st) h) : am_V M sc d mc ms n0 z0 post pc L (.int i :: .float x :: st) h := by
  intro p l e R s m args below meth c D cA b bs H locs ls cells slots Q Re En
  obtain ⟨h1, h2, h3⟩ := Re.1.1 pc _ hc
  have h2 : nx = pc + 1 := h2
  subst h2
  obtain ⟨hX, g1, g2⟩ := Re.2.2.2.1 hown
  exact va_sld Re.1.2.1 Re.1.2.2.1 hX g1 (A := fun q => b ≤ q) (Nat.not_le.mpr g2) Re.2.2.2.2.2.2.1 hi h1 (kk p l e R s m args below meth c D cA b bs H locs ls cells slots Q Re En)
theorem am_slen {x : UInt32} (hown : M.2.2.2.2.1 = 10) (hc : M.2.2.2.2.2 pc = some (.arraylength, 1, nx, [])) (kk : am_V M sc d mc ms n0 z0 post nx L (.int (nI sc.1) :: st) h) : am_V M sc d mc ms n0 z0 post pc L (.float x :: st) h := by
  intro p l e R s m args below meth c D cA b bs H locs ls cells slots Q Re En
  obtain ⟨h1, h2, h3⟩ := Re.1.1 pc _ hc
  have h2 : nx = pc + 1 := h2
  subst h2
  obtain ⟨hX, g1, g2⟩ := Re.2.2.2.1 hown
  exact va_slen Re.1.2.1 Re.1.2.2.1 hX g1 (A := fun q => b ≤ q) (Nat.not_le.mpr g2) Re.2.2.2.2.2.2.1 h1 (kk p l e R s m args below meth c D cA b bs H locs ls cells slots Q Re En)
end AMN
end
