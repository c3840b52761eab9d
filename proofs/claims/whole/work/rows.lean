section
/-! Tables and names: PART A of the skeleton, the printed names, and the tables of links that the machine of part 02 reads. Written by gen/p01.py. -/
-- ===== PART A: goes FIRST, ahead of the names: the tables' words, and 'selects' of the private methods out of them =====
/-- a private method of a class that the tables say can be made, by its rows of tables_1 -/
def lw_okq (q : MethodName × Nat) : Prop := (q.1.cls ≠ "java/lang/invoke/MethodHandle" ∧ q.1.cls ≠ "java/lang/invoke/VarHandle") ∧ Cond.instantiable q.1.cls q.2 ∈ tables_1 ∧ Cond.privateMethod q.1 ∈ tables_1 ∧ Cond.instanceMethod q.1 ∈ tables_1
theorem lw_p0 : lw_okq (⟨"PairingHall", "askWorth", "(I)I"⟩, 15) := ⟨⟨by decide +kernel, by decide +kernel⟩, List.mem_of_getElem? (i := 15) (by decide +kernel), List.mem_of_getElem? (i := 403) (by decide +kernel), List.mem_of_getElem? (i := 404) (by decide +kernel)⟩
theorem lw_p1 : lw_okq (⟨"PairingHall$Roster", "soloWorth", "(ILPairingHall$Log;)I"⟩, 5) := ⟨⟨by decide +kernel, by decide +kernel⟩, List.mem_of_getElem? (i := 43) (by decide +kernel), List.mem_of_getElem? (i := 412) (by decide +kernel), List.mem_of_getElem? (i := 413) (by decide +kernel)⟩
theorem lw_p2 : lw_okq (⟨"PairingHall", "openNext", "()I"⟩, 15) := ⟨⟨by decide +kernel, by decide +kernel⟩, List.mem_of_getElem? (i := 15) (by decide +kernel), List.mem_of_getElem? (i := 446) (by decide +kernel), List.mem_of_getElem? (i := 447) (by decide +kernel)⟩
theorem lw_p3 : lw_okq (⟨"PairingHall", "isTournament", "(I)Z"⟩, 15) := ⟨⟨by decide +kernel, by decide +kernel⟩, List.mem_of_getElem? (i := 15) (by decide +kernel), List.mem_of_getElem? (i := 454) (by decide +kernel), List.mem_of_getElem? (i := 455) (by decide +kernel)⟩
theorem lw_p4 : lw_okq (⟨"PairingHall", "drawRound", "(II)I"⟩, 15) := ⟨⟨by decide +kernel, by decide +kernel⟩, List.mem_of_getElem? (i := 15) (by decide +kernel), List.mem_of_getElem? (i := 482) (by decide +kernel), List.mem_of_getElem? (i := 483) (by decide +kernel)⟩
theorem lw_p5 : lw_okq (⟨"PairingHall$Drawing", "recallPair", "(II)V"⟩, 13) := ⟨⟨by decide +kernel, by decide +kernel⟩, List.mem_of_getElem? (i := 113) (by decide +kernel), List.mem_of_getElem? (i := 523) (by decide +kernel), List.mem_of_getElem? (i := 524) (by decide +kernel)⟩
theorem lw_p6 : lw_okq (⟨"PairingHall$Drawing", "recallSpot", "(II)V"⟩, 13) := ⟨⟨by decide +kernel, by decide +kernel⟩, List.mem_of_getElem? (i := 113) (by decide +kernel), List.mem_of_getElem? (i := 527) (by decide +kernel), List.mem_of_getElem? (i := 528) (by decide +kernel)⟩
theorem lw_p7 : lw_okq (⟨"PairingHall$Drawing", "recallColour", "(II)V"⟩, 13) := ⟨⟨by decide +kernel, by decide +kernel⟩, List.mem_of_getElem? (i := 113) (by decide +kernel), List.mem_of_getElem? (i := 531) (by decide +kernel), List.mem_of_getElem? (i := 532) (by decide +kernel)⟩
theorem lw_p8 : lw_okq (⟨"PairingHall$Drawing", "basePrice", "(III)I"⟩, 13) := ⟨⟨by decide +kernel, by decide +kernel⟩, List.mem_of_getElem? (i := 113) (by decide +kernel), List.mem_of_getElem? (i := 541) (by decide +kernel), List.mem_of_getElem? (i := 542) (by decide +kernel)⟩
theorem lw_p9 : lw_okq (⟨"PairingHall$Drawing", "priceTwo", "(III)V"⟩, 13) := ⟨⟨by decide +kernel, by decide +kernel⟩, List.mem_of_getElem? (i := 113) (by decide +kernel), List.mem_of_getElem? (i := 546) (by decide +kernel), List.mem_of_getElem? (i := 547) (by decide +kernel)⟩
theorem lw_p10 : lw_okq (⟨"PairingHall$Drawing", "colourPrice", "(II)I"⟩, 13) := ⟨⟨by decide +kernel, by decide +kernel⟩, List.mem_of_getElem? (i := 113) (by decide +kernel), List.mem_of_getElem? (i := 550) (by decide +kernel), List.mem_of_getElem? (i := 551) (by decide +kernel)⟩
theorem lw_p11 : lw_okq (⟨"PairingHall$Drawing", "search", "(IZI)V"⟩, 13) := ⟨⟨by decide +kernel, by decide +kernel⟩, List.mem_of_getElem? (i := 113) (by decide +kernel), List.mem_of_getElem? (i := 561) (by decide +kernel), List.mem_of_getElem? (i := 562) (by decide +kernel)⟩
theorem lw_p12 : lw_okq (⟨"PairingHall$Drawing", "firstFree", "()I"⟩, 13) := ⟨⟨by decide +kernel, by decide +kernel⟩, List.mem_of_getElem? (i := 113) (by decide +kernel), List.mem_of_getElem? (i := 565) (by decide +kernel), List.mem_of_getElem? (i := 566) (by decide +kernel)⟩
theorem lw_p13 : lw_okq (⟨"PairingHall$Tournament", "hasLikeRounds", "(LPairingHall$Tournament;)Z"⟩, 17) := ⟨⟨by decide +kernel, by decide +kernel⟩, List.mem_of_getElem? (i := 212) (by decide +kernel), List.mem_of_getElem? (i := 617) (by decide +kernel), List.mem_of_getElem? (i := 618) (by decide +kernel)⟩
theorem lw_p14 : lw_okq (⟨"PairingHall$Tournament", "hasLikeEntries", "(LPairingHall$Tournament;)Z"⟩, 17) := ⟨⟨by decide +kernel, by decide +kernel⟩, List.mem_of_getElem? (i := 212) (by decide +kernel), List.mem_of_getElem? (i := 621) (by decide +kernel), List.mem_of_getElem? (i := 622) (by decide +kernel)⟩
theorem lw_p15 : lw_okq (⟨"PairingHall", "refuseAsking", "(IIII)I"⟩, 15) := ⟨⟨by decide +kernel, by decide +kernel⟩, List.mem_of_getElem? (i := 15) (by decide +kernel), List.mem_of_getElem? (i := 646) (by decide +kernel), List.mem_of_getElem? (i := 647) (by decide +kernel)⟩
def lw_privs_1 : List (MethodName × Nat) := [(⟨"PairingHall", "askWorth", "(I)I"⟩, 15), (⟨"PairingHall$Roster", "soloWorth", "(ILPairingHall$Log;)I"⟩, 5), (⟨"PairingHall", "openNext", "()I"⟩, 15), (⟨"PairingHall", "isTournament", "(I)Z"⟩, 15), (⟨"PairingHall", "drawRound", "(II)I"⟩, 15), (⟨"PairingHall$Drawing", "recallPair", "(II)V"⟩, 13), (⟨"PairingHall$Drawing", "recallSpot", "(II)V"⟩, 13), (⟨"PairingHall$Drawing", "recallColour", "(II)V"⟩, 13), (⟨"PairingHall$Drawing", "basePrice", "(III)I"⟩, 13), (⟨"PairingHall$Drawing", "priceTwo", "(III)V"⟩, 13), (⟨"PairingHall$Drawing", "colourPrice", "(II)I"⟩, 13), (⟨"PairingHall$Drawing", "search", "(IZI)V"⟩, 13), (⟨"PairingHall$Drawing", "firstFree", "()I"⟩, 13), (⟨"PairingHall$Tournament", "hasLikeRounds", "(LPairingHall$Tournament;)Z"⟩, 17), (⟨"PairingHall$Tournament", "hasLikeEntries", "(LPairingHall$Tournament;)Z"⟩, 17), (⟨"PairingHall", "refuseAsking", "(IIII)I"⟩, 15)]
theorem lw_r1 : ∀ q ∈ lw_privs_1, lw_okq q := List.forall_mem_cons.mpr ⟨lw_p0, List.forall_mem_cons.mpr ⟨lw_p1, List.forall_mem_cons.mpr ⟨lw_p2, List.forall_mem_cons.mpr ⟨lw_p3, List.forall_mem_cons.mpr ⟨lw_p4, List.forall_mem_cons.mpr ⟨lw_p5, List.forall_mem_cons.mpr ⟨lw_p6, List.forall_mem_cons.mpr ⟨lw_p7, List.forall_mem_cons.mpr ⟨lw_p8, List.forall_mem_cons.mpr ⟨lw_p9, List.forall_mem_cons.mpr ⟨lw_p10, List.forall_mem_cons.mpr ⟨lw_p11, List.forall_mem_cons.mpr ⟨lw_p12, List.forall_mem_cons.mpr ⟨lw_p13, List.forall_mem_cons.mpr ⟨lw_p14, List.forall_mem_cons.mpr ⟨lw_p15, fun _ h => absurd h List.not_mem_nil⟩⟩⟩⟩⟩⟩⟩⟩⟩⟩⟩⟩⟩⟩⟩⟩
theorem lw_p16 : lw_okq (⟨"PairingHall", "makeTable", "(III)V"⟩, 15) := ⟨⟨by decide +kernel, by decide +kernel⟩, List.mem_of_getElem? (i := 15) (by decide +kernel), List.mem_of_getElem? (i := 654) (by decide +kernel), List.mem_of_getElem? (i := 655) (by decide +kernel)⟩
theorem lw_p17 : lw_okq (⟨"PairingHall$Table", "tallyPair", "(III)V"⟩, 11) := ⟨⟨by decide +kernel, by decide +kernel⟩, List.mem_of_getElem? (i := 69) (by decide +kernel), List.mem_of_getElem? (i := 662) (by decide +kernel), List.mem_of_getElem? (i := 663) (by decide +kernel)⟩
theorem lw_p18 : lw_okq (⟨"PairingHall$Table", "addFoe", "(II)V"⟩, 11) := ⟨⟨by decide +kernel, by decide +kernel⟩, List.mem_of_getElem? (i := 69) (by decide +kernel), List.mem_of_getElem? (i := 666) (by decide +kernel), List.mem_of_getElem? (i := 667) (by decide +kernel)⟩
theorem lw_p19 : lw_okq (⟨"PairingHall$Table", "lesserAlike", "(LPairingHall$Tournament;I)I"⟩, 11) := ⟨⟨by decide +kernel, by decide +kernel⟩, List.mem_of_getElem? (i := 69) (by decide +kernel), List.mem_of_getElem? (i := 703) (by decide +kernel), List.mem_of_getElem? (i := 704) (by decide +kernel)⟩
theorem lw_p20 : lw_okq (⟨"PairingHall$Table", "isOutscored", "(LPairingHall$Tournament;I)Z"⟩, 11) := ⟨⟨by decide +kernel, by decide +kernel⟩, List.mem_of_getElem? (i := 69) (by decide +kernel), List.mem_of_getElem? (i := 770) (by decide +kernel), List.mem_of_getElem? (i := 771) (by decide +kernel)⟩
theorem lw_p21 : lw_okq (⟨"PairingHall", "keepFound", "(I)V"⟩, 15) := ⟨⟨by decide +kernel, by decide +kernel⟩, List.mem_of_getElem? (i := 15) (by decide +kernel), List.mem_of_getElem? (i := 775) (by decide +kernel), List.mem_of_getElem? (i := 776) (by decide +kernel)⟩
theorem lw_p22 : lw_okq (⟨"PairingHall", "save", "()V"⟩, 15) := ⟨⟨by decide +kernel, by decide +kernel⟩, List.mem_of_getElem? (i := 15) (by decide +kernel), List.mem_of_getElem? (i := 806) (by decide +kernel), List.mem_of_getElem? (i := 807) (by decide +kernel)⟩
theorem lw_p23 : lw_okq (⟨"PairingHall", "runSteps", "(I)Z"⟩, 15) := ⟨⟨by decide +kernel, by decide +kernel⟩, List.mem_of_getElem? (i := 15) (by decide +kernel), List.mem_of_getElem? (i := 819) (by decide +kernel), List.mem_of_getElem? (i := 820) (by decide +kernel)⟩
theorem lw_p24 : lw_okq (⟨"PairingHall", "perform", "(I)I"⟩, 15) := ⟨⟨by decide +kernel, by decide +kernel⟩, List.mem_of_getElem? (i := 15) (by decide +kernel), List.mem_of_getElem? (i := 824) (by decide +kernel), List.mem_of_getElem? (i := 825) (by decide +kernel)⟩
theorem lw_p25 : lw_okq (⟨"PairingHall", "need", "(IIII)I"⟩, 15) := ⟨⟨by decide +kernel, by decide +kernel⟩, List.mem_of_getElem? (i := 15) (by decide +kernel), List.mem_of_getElem? (i := 836) (by decide +kernel), List.mem_of_getElem? (i := 837) (by decide +kernel)⟩
theorem lw_p26 : lw_okq (⟨"PairingHall", "restore", "()V"⟩, 15) := ⟨⟨by decide +kernel, by decide +kernel⟩, List.mem_of_getElem? (i := 15) (by decide +kernel), List.mem_of_getElem? (i := 848) (by decide +kernel), List.mem_of_getElem? (i := 849) (by decide +kernel)⟩
theorem lw_p27 : lw_okq (⟨"PairingHall", "tellOf", "(II)I"⟩, 15) := ⟨⟨by decide +kernel, by decide +kernel⟩, List.mem_of_getElem? (i := 15) (by decide +kernel), List.mem_of_getElem? (i := 864) (by decide +kernel), List.mem_of_getElem? (i := 865) (by decide +kernel)⟩
theorem lw_p28 : lw_okq (⟨"PairingHallModel", "isPlayer", "(I)Z"⟩, 43) := ⟨⟨by decide +kernel, by decide +kernel⟩, List.mem_of_getElem? (i := 868) (by decide +kernel), List.mem_of_getElem? (i := 1015) (by decide +kernel), List.mem_of_getElem? (i := 1016) (by decide +kernel)⟩
theorem lw_p29 : lw_okq (⟨"PairingHallModel", "meets", "(I)I"⟩, 43) := ⟨⟨by decide +kernel, by decide +kernel⟩, List.mem_of_getElem? (i := 868) (by decide +kernel), List.mem_of_getElem? (i := 1019) (by decide +kernel), List.mem_of_getElem? (i := 1020) (by decide +kernel)⟩
theorem lw_p30 : lw_okq (⟨"PairingHallModel", "worthOf", "(I)I"⟩, 43) := ⟨⟨by decide +kernel, by decide +kernel⟩, List.mem_of_getElem? (i := 868) (by decide +kernel), List.mem_of_getElem? (i := 1035) (by decide +kernel), List.mem_of_getElem? (i := 1036) (by decide +kernel)⟩
theorem lw_p31 : lw_okq (⟨"PairingHallModel", "soloWorth", "(I)I"⟩, 43) := ⟨⟨by decide +kernel, by decide +kernel⟩, List.mem_of_getElem? (i := 868) (by decide +kernel), List.mem_of_getElem? (i := 1039) (by decide +kernel), List.mem_of_getElem? (i := 1040) (by decide +kernel)⟩
def lw_privs_2 : List (MethodName × Nat) := [(⟨"PairingHall", "makeTable", "(III)V"⟩, 15), (⟨"PairingHall$Table", "tallyPair", "(III)V"⟩, 11), (⟨"PairingHall$Table", "addFoe", "(II)V"⟩, 11), (⟨"PairingHall$Table", "lesserAlike", "(LPairingHall$Tournament;I)I"⟩, 11), (⟨"PairingHall$Table", "isOutscored", "(LPairingHall$Tournament;I)Z"⟩, 11), (⟨"PairingHall", "keepFound", "(I)V"⟩, 15), (⟨"PairingHall", "save", "()V"⟩, 15), (⟨"PairingHall", "runSteps", "(I)Z"⟩, 15), (⟨"PairingHall", "perform", "(I)I"⟩, 15), (⟨"PairingHall", "need", "(IIII)I"⟩, 15), (⟨"PairingHall", "restore", "()V"⟩, 15), (⟨"PairingHall", "tellOf", "(II)I"⟩, 15), (⟨"PairingHallModel", "isPlayer", "(I)Z"⟩, 43), (⟨"PairingHallModel", "meets", "(I)I"⟩, 43), (⟨"PairingHallModel", "worthOf", "(I)I"⟩, 43), (⟨"PairingHallModel", "soloWorth", "(I)I"⟩, 43)]
theorem lw_r2 : ∀ q ∈ lw_privs_2, lw_okq q := List.forall_mem_cons.mpr ⟨lw_p16, List.forall_mem_cons.mpr ⟨lw_p17, List.forall_mem_cons.mpr ⟨lw_p18, List.forall_mem_cons.mpr ⟨lw_p19, List.forall_mem_cons.mpr ⟨lw_p20, List.forall_mem_cons.mpr ⟨lw_p21, List.forall_mem_cons.mpr ⟨lw_p22, List.forall_mem_cons.mpr ⟨lw_p23, List.forall_mem_cons.mpr ⟨lw_p24, List.forall_mem_cons.mpr ⟨lw_p25, List.forall_mem_cons.mpr ⟨lw_p26, List.forall_mem_cons.mpr ⟨lw_p27, List.forall_mem_cons.mpr ⟨lw_p28, List.forall_mem_cons.mpr ⟨lw_p29, List.forall_mem_cons.mpr ⟨lw_p30, List.forall_mem_cons.mpr ⟨lw_p31, fun _ h => absurd h List.not_mem_nil⟩⟩⟩⟩⟩⟩⟩⟩⟩⟩⟩⟩⟩⟩⟩⟩
theorem lw_p32 : lw_okq (⟨"PairingHallModel", "began", "(I)V"⟩, 43) := ⟨⟨by decide +kernel, by decide +kernel⟩, List.mem_of_getElem? (i := 868) (by decide +kernel), List.mem_of_getElem? (i := 1043) (by decide +kernel), List.mem_of_getElem? (i := 1044) (by decide +kernel)⟩
theorem lw_p33 : lw_okq (⟨"PairingHallModel", "stepFor", "(I)I"⟩, 43) := ⟨⟨by decide +kernel, by decide +kernel⟩, List.mem_of_getElem? (i := 868) (by decide +kernel), List.mem_of_getElem? (i := 1051) (by decide +kernel), List.mem_of_getElem? (i := 1052) (by decide +kernel)⟩
theorem lw_p34 : lw_okq (⟨"PairingHallModel", "another", "()I"⟩, 43) := ⟨⟨by decide +kernel, by decide +kernel⟩, List.mem_of_getElem? (i := 868) (by decide +kernel), List.mem_of_getElem? (i := 1063) (by decide +kernel), List.mem_of_getElem? (i := 1064) (by decide +kernel)⟩
theorem lw_p35 : lw_okq (⟨"PairingHallModel", "lay", "(III)V"⟩, 43) := ⟨⟨by decide +kernel, by decide +kernel⟩, List.mem_of_getElem? (i := 868) (by decide +kernel), List.mem_of_getElem? (i := 1067) (by decide +kernel), List.mem_of_getElem? (i := 1068) (by decide +kernel)⟩
theorem lw_p36 : lw_okq (⟨"PairingHallModel", "isTournament", "(I)Z"⟩, 43) := ⟨⟨by decide +kernel, by decide +kernel⟩, List.mem_of_getElem? (i := 868) (by decide +kernel), List.mem_of_getElem? (i := 1075) (by decide +kernel), List.mem_of_getElem? (i := 1076) (by decide +kernel)⟩
theorem lw_p37 : lw_okq (⟨"PairingHallModel", "placeOf", "(II)I"⟩, 43) := ⟨⟨by decide +kernel, by decide +kernel⟩, List.mem_of_getElem? (i := 868) (by decide +kernel), List.mem_of_getElem? (i := 1079) (by decide +kernel), List.mem_of_getElem? (i := 1080) (by decide +kernel)⟩
theorem lw_p38 : lw_okq (⟨"PairingHallModel", "cell", "(II)I"⟩, 43) := ⟨⟨by decide +kernel, by decide +kernel⟩, List.mem_of_getElem? (i := 868) (by decide +kernel), List.mem_of_getElem? (i := 1083) (by decide +kernel), List.mem_of_getElem? (i := 1084) (by decide +kernel)⟩
theorem lw_p39 : lw_okq (⟨"PairingHallModel", "drawOf", "(II)I"⟩, 43) := ⟨⟨by decide +kernel, by decide +kernel⟩, List.mem_of_getElem? (i := 868) (by decide +kernel), List.mem_of_getElem? (i := 1099) (by decide +kernel), List.mem_of_getElem? (i := 1100) (by decide +kernel)⟩
theorem lw_p40 : lw_okq (⟨"PairingHallModel", "gather", "(IZ)V"⟩, 43) := ⟨⟨by decide +kernel, by decide +kernel⟩, List.mem_of_getElem? (i := 868) (by decide +kernel), List.mem_of_getElem? (i := 1103) (by decide +kernel), List.mem_of_getElem? (i := 1104) (by decide +kernel)⟩
theorem lw_p41 : lw_okq (⟨"PairingHallModel", "askWorths", "()I"⟩, 43) := ⟨⟨by decide +kernel, by decide +kernel⟩, List.mem_of_getElem? (i := 868) (by decide +kernel), List.mem_of_getElem? (i := 1107) (by decide +kernel), List.mem_of_getElem? (i := 1108) (by decide +kernel)⟩
theorem lw_p42 : lw_okq (⟨"PairingHallModel", "pointsOf", "(IIII)I"⟩, 43) := ⟨⟨by decide +kernel, by decide +kernel⟩, List.mem_of_getElem? (i := 868) (by decide +kernel), List.mem_of_getElem? (i := 1111) (by decide +kernel), List.mem_of_getElem? (i := 1112) (by decide +kernel)⟩
theorem lw_p43 : lw_okq (⟨"PairingHallModel", "pairOf", "(III)I"⟩, 43) := ⟨⟨by decide +kernel, by decide +kernel⟩, List.mem_of_getElem? (i := 868) (by decide +kernel), List.mem_of_getElem? (i := 1115) (by decide +kernel), List.mem_of_getElem? (i := 1116) (by decide +kernel)⟩
theorem lw_p44 : lw_okq (⟨"PairingHallModel", "isWithNobody", "(II)Z"⟩, 43) := ⟨⟨by decide +kernel, by decide +kernel⟩, List.mem_of_getElem? (i := 868) (by decide +kernel), List.mem_of_getElem? (i := 1119) (by decide +kernel), List.mem_of_getElem? (i := 1120) (by decide +kernel)⟩
theorem lw_p45 : lw_okq (⟨"PairingHallModel", "outcomeOf", "(IIII)I"⟩, 43) := ⟨⟨by decide +kernel, by decide +kernel⟩, List.mem_of_getElem? (i := 868) (by decide +kernel), List.mem_of_getElem? (i := 1123) (by decide +kernel), List.mem_of_getElem? (i := 1124) (by decide +kernel)⟩
theorem lw_p46 : lw_okq (⟨"PairingHallModel", "entryOf", "(III)I"⟩, 43) := ⟨⟨by decide +kernel, by decide +kernel⟩, List.mem_of_getElem? (i := 868) (by decide +kernel), List.mem_of_getElem? (i := 1127) (by decide +kernel), List.mem_of_getElem? (i := 1128) (by decide +kernel)⟩
theorem lw_p47 : lw_okq (⟨"PairingHallModel", "search", "(I)V"⟩, 43) := ⟨⟨by decide +kernel, by decide +kernel⟩, List.mem_of_getElem? (i := 868) (by decide +kernel), List.mem_of_getElem? (i := 1134) (by decide +kernel), List.mem_of_getElem? (i := 1135) (by decide +kernel)⟩
def lw_privs_3 : List (MethodName × Nat) := [(⟨"PairingHallModel", "began", "(I)V"⟩, 43), (⟨"PairingHallModel", "stepFor", "(I)I"⟩, 43), (⟨"PairingHallModel", "another", "()I"⟩, 43), (⟨"PairingHallModel", "lay", "(III)V"⟩, 43), (⟨"PairingHallModel", "isTournament", "(I)Z"⟩, 43), (⟨"PairingHallModel", "placeOf", "(II)I"⟩, 43), (⟨"PairingHallModel", "cell", "(II)I"⟩, 43), (⟨"PairingHallModel", "drawOf", "(II)I"⟩, 43), (⟨"PairingHallModel", "gather", "(IZ)V"⟩, 43), (⟨"PairingHallModel", "askWorths", "()I"⟩, 43), (⟨"PairingHallModel", "pointsOf", "(IIII)I"⟩, 43), (⟨"PairingHallModel", "pairOf", "(III)I"⟩, 43), (⟨"PairingHallModel", "isWithNobody", "(II)Z"⟩, 43), (⟨"PairingHallModel", "outcomeOf", "(IIII)I"⟩, 43), (⟨"PairingHallModel", "entryOf", "(III)I"⟩, 43), (⟨"PairingHallModel", "search", "(I)V"⟩, 43)]
theorem lw_r3 : ∀ q ∈ lw_privs_3, lw_okq q := List.forall_mem_cons.mpr ⟨lw_p32, List.forall_mem_cons.mpr ⟨lw_p33, List.forall_mem_cons.mpr ⟨lw_p34, List.forall_mem_cons.mpr ⟨lw_p35, List.forall_mem_cons.mpr ⟨lw_p36, List.forall_mem_cons.mpr ⟨lw_p37, List.forall_mem_cons.mpr ⟨lw_p38, List.forall_mem_cons.mpr ⟨lw_p39, List.forall_mem_cons.mpr ⟨lw_p40, List.forall_mem_cons.mpr ⟨lw_p41, List.forall_mem_cons.mpr ⟨lw_p42, List.forall_mem_cons.mpr ⟨lw_p43, List.forall_mem_cons.mpr ⟨lw_p44, List.forall_mem_cons.mpr ⟨lw_p45, List.forall_mem_cons.mpr ⟨lw_p46, List.forall_mem_cons.mpr ⟨lw_p47, fun _ h => absurd h List.not_mem_nil⟩⟩⟩⟩⟩⟩⟩⟩⟩⟩⟩⟩⟩⟩⟩⟩
theorem lw_p48 : lw_okq (⟨"PairingHallModel", "costOf", "(IIIZ)I"⟩, 43) := ⟨⟨by decide +kernel, by decide +kernel⟩, List.mem_of_getElem? (i := 868) (by decide +kernel), List.mem_of_getElem? (i := 1138) (by decide +kernel), List.mem_of_getElem? (i := 1139) (by decide +kernel)⟩
theorem lw_p49 : lw_okq (⟨"PairingHallModel", "wasWith", "(III)Z"⟩, 43) := ⟨⟨by decide +kernel, by decide +kernel⟩, List.mem_of_getElem? (i := 868) (by decide +kernel), List.mem_of_getElem? (i := 1142) (by decide +kernel), List.mem_of_getElem? (i := 1143) (by decide +kernel)⟩
theorem lw_p50 : lw_okq (⟨"PairingHallModel", "otherOf", "(III)I"⟩, 43) := ⟨⟨by decide +kernel, by decide +kernel⟩, List.mem_of_getElem? (i := 868) (by decide +kernel), List.mem_of_getElem? (i := 1146) (by decide +kernel), List.mem_of_getElem? (i := 1147) (by decide +kernel)⟩
theorem lw_p51 : lw_okq (⟨"PairingHallModel", "colourCost", "(IIZ)I"⟩, 43) := ⟨⟨by decide +kernel, by decide +kernel⟩, List.mem_of_getElem? (i := 868) (by decide +kernel), List.mem_of_getElem? (i := 1151) (by decide +kernel), List.mem_of_getElem? (i := 1152) (by decide +kernel)⟩
theorem lw_p52 : lw_okq (⟨"PairingHallModel", "colours", "(II)V"⟩, 43) := ⟨⟨by decide +kernel, by decide +kernel⟩, List.mem_of_getElem? (i := 868) (by decide +kernel), List.mem_of_getElem? (i := 1155) (by decide +kernel), List.mem_of_getElem? (i := 1156) (by decide +kernel)⟩
theorem lw_p53 : lw_okq (⟨"PairingHallModel", "costAlone", "(II)I"⟩, 43) := ⟨⟨by decide +kernel, by decide +kernel⟩, List.mem_of_getElem? (i := 868) (by decide +kernel), List.mem_of_getElem? (i := 1159) (by decide +kernel), List.mem_of_getElem? (i := 1160) (by decide +kernel)⟩
theorem lw_p54 : lw_okq (⟨"PairingHallModel", "pairUp", "(II)V"⟩, 43) := ⟨⟨by decide +kernel, by decide +kernel⟩, List.mem_of_getElem? (i := 868) (by decide +kernel), List.mem_of_getElem? (i := 1164) (by decide +kernel), List.mem_of_getElem? (i := 1165) (by decide +kernel)⟩
theorem lw_p55 : lw_okq (⟨"PairingHallModel", "against", "(III)I"⟩, 43) := ⟨⟨by decide +kernel, by decide +kernel⟩, List.mem_of_getElem? (i := 868) (by decide +kernel), List.mem_of_getElem? (i := 1172) (by decide +kernel), List.mem_of_getElem? (i := 1173) (by decide +kernel)⟩
theorem lw_p56 : lw_okq (⟨"PairingHallModel", "refused", "(IIII)I"⟩, 43) := ⟨⟨by decide +kernel, by decide +kernel⟩, List.mem_of_getElem? (i := 868) (by decide +kernel), List.mem_of_getElem? (i := 1196) (by decide +kernel), List.mem_of_getElem? (i := 1197) (by decide +kernel)⟩
theorem lw_p57 : lw_okq (⟨"PairingHallModel", "sumOf", "(IIIII)I"⟩, 43) := ⟨⟨by decide +kernel, by decide +kernel⟩, List.mem_of_getElem? (i := 868) (by decide +kernel), List.mem_of_getElem? (i := 1204) (by decide +kernel), List.mem_of_getElem? (i := 1205) (by decide +kernel)⟩
theorem lw_p58 : lw_okq (⟨"PairingHallModel", "ahead", "(IIII)I"⟩, 43) := ⟨⟨by decide +kernel, by decide +kernel⟩, List.mem_of_getElem? (i := 868) (by decide +kernel), List.mem_of_getElem? (i := 1212) (by decide +kernel), List.mem_of_getElem? (i := 1213) (by decide +kernel)⟩
theorem lw_p59 : lw_okq (⟨"PairingHallModel", "parting", "(IIIII)I"⟩, 43) := ⟨⟨by decide +kernel, by decide +kernel⟩, List.mem_of_getElem? (i := 868) (by decide +kernel), List.mem_of_getElem? (i := 1216) (by decide +kernel), List.mem_of_getElem? (i := 1217) (by decide +kernel)⟩
theorem lw_p60 : lw_okq (⟨"PairingHallModel", "rate", "(IIII)V"⟩, 43) := ⟨⟨by decide +kernel, by decide +kernel⟩, List.mem_of_getElem? (i := 868) (by decide +kernel), List.mem_of_getElem? (i := 1232) (by decide +kernel), List.mem_of_getElem? (i := 1233) (by decide +kernel)⟩
theorem lw_p61 : lw_okq (⟨"PairingHallModel", "isFirst", "(IIII)Z"⟩, 43) := ⟨⟨by decide +kernel, by decide +kernel⟩, List.mem_of_getElem? (i := 868) (by decide +kernel), List.mem_of_getElem? (i := 1248) (by decide +kernel), List.mem_of_getElem? (i := 1249) (by decide +kernel)⟩
theorem lw_p62 : lw_okq (⟨"PairingHallModel", "keep", "()V"⟩, 43) := ⟨⟨by decide +kernel, by decide +kernel⟩, List.mem_of_getElem? (i := 868) (by decide +kernel), List.mem_of_getElem? (i := 1268) (by decide +kernel), List.mem_of_getElem? (i := 1269) (by decide +kernel)⟩
theorem lw_p63 : lw_okq (⟨"PairingHallModel", "fails", "(III)V"⟩, 43) := ⟨⟨by decide +kernel, by decide +kernel⟩, List.mem_of_getElem? (i := 868) (by decide +kernel), List.mem_of_getElem? (i := 1272) (by decide +kernel), List.mem_of_getElem? (i := 1273) (by decide +kernel)⟩
def lw_privs_4 : List (MethodName × Nat) := [(⟨"PairingHallModel", "costOf", "(IIIZ)I"⟩, 43), (⟨"PairingHallModel", "wasWith", "(III)Z"⟩, 43), (⟨"PairingHallModel", "otherOf", "(III)I"⟩, 43), (⟨"PairingHallModel", "colourCost", "(IIZ)I"⟩, 43), (⟨"PairingHallModel", "colours", "(II)V"⟩, 43), (⟨"PairingHallModel", "costAlone", "(II)I"⟩, 43), (⟨"PairingHallModel", "pairUp", "(II)V"⟩, 43), (⟨"PairingHallModel", "against", "(III)I"⟩, 43), (⟨"PairingHallModel", "refused", "(IIII)I"⟩, 43), (⟨"PairingHallModel", "sumOf", "(IIIII)I"⟩, 43), (⟨"PairingHallModel", "ahead", "(IIII)I"⟩, 43), (⟨"PairingHallModel", "parting", "(IIIII)I"⟩, 43), (⟨"PairingHallModel", "rate", "(IIII)V"⟩, 43), (⟨"PairingHallModel", "isFirst", "(IIII)Z"⟩, 43), (⟨"PairingHallModel", "keep", "()V"⟩, 43), (⟨"PairingHallModel", "fails", "(III)V"⟩, 43)]
theorem lw_r4 : ∀ q ∈ lw_privs_4, lw_okq q := List.forall_mem_cons.mpr ⟨lw_p48, List.forall_mem_cons.mpr ⟨lw_p49, List.forall_mem_cons.mpr ⟨lw_p50, List.forall_mem_cons.mpr ⟨lw_p51, List.forall_mem_cons.mpr ⟨lw_p52, List.forall_mem_cons.mpr ⟨lw_p53, List.forall_mem_cons.mpr ⟨lw_p54, List.forall_mem_cons.mpr ⟨lw_p55, List.forall_mem_cons.mpr ⟨lw_p56, List.forall_mem_cons.mpr ⟨lw_p57, List.forall_mem_cons.mpr ⟨lw_p58, List.forall_mem_cons.mpr ⟨lw_p59, List.forall_mem_cons.mpr ⟨lw_p60, List.forall_mem_cons.mpr ⟨lw_p61, List.forall_mem_cons.mpr ⟨lw_p62, List.forall_mem_cons.mpr ⟨lw_p63, fun _ h => absurd h List.not_mem_nil⟩⟩⟩⟩⟩⟩⟩⟩⟩⟩⟩⟩⟩⟩⟩⟩
theorem lw_p64 : lw_okq (⟨"PairingHallModel", "goes", "(I)Z"⟩, 43) := ⟨⟨by decide +kernel, by decide +kernel⟩, List.mem_of_getElem? (i := 868) (by decide +kernel), List.mem_of_getElem? (i := 1276) (by decide +kernel), List.mem_of_getElem? (i := 1277) (by decide +kernel)⟩
theorem lw_p65 : lw_okq (⟨"PairingHallModel", "answer", "(I)I"⟩, 43) := ⟨⟨by decide +kernel, by decide +kernel⟩, List.mem_of_getElem? (i := 868) (by decide +kernel), List.mem_of_getElem? (i := 1280) (by decide +kernel), List.mem_of_getElem? (i := 1281) (by decide +kernel)⟩
theorem lw_p66 : lw_okq (⟨"PairingHallModel", "need", "(IIII)I"⟩, 43) := ⟨⟨by decide +kernel, by decide +kernel⟩, List.mem_of_getElem? (i := 868) (by decide +kernel), List.mem_of_getElem? (i := 1292) (by decide +kernel), List.mem_of_getElem? (i := 1293) (by decide +kernel)⟩
theorem lw_p67 : lw_okq (⟨"PairingHallModel", "back", "()V"⟩, 43) := ⟨⟨by decide +kernel, by decide +kernel⟩, List.mem_of_getElem? (i := 868) (by decide +kernel), List.mem_of_getElem? (i := 1297) (by decide +kernel), List.mem_of_getElem? (i := 1298) (by decide +kernel)⟩
def lw_privs_5 : List (MethodName × Nat) := [(⟨"PairingHallModel", "goes", "(I)Z"⟩, 43), (⟨"PairingHallModel", "answer", "(I)I"⟩, 43), (⟨"PairingHallModel", "need", "(IIII)I"⟩, 43), (⟨"PairingHallModel", "back", "()V"⟩, 43)]
theorem lw_r5 : ∀ q ∈ lw_privs_5, lw_okq q := List.forall_mem_cons.mpr ⟨lw_p64, List.forall_mem_cons.mpr ⟨lw_p65, List.forall_mem_cons.mpr ⟨lw_p66, List.forall_mem_cons.mpr ⟨lw_p67, fun _ h => absurd h List.not_mem_nil⟩⟩⟩⟩
def lw_privs : List (MethodName × Nat) := lw_privs_1 ++ (lw_privs_2 ++ (lw_privs_3 ++ (lw_privs_4 ++ (lw_privs_5))))
def lw_tbl : List Cond := k2_sels lw_privs ++ tables_1
theorem lw_privs_ok : ∀ q ∈ lw_privs, lw_okq q := by
  show ∀ q ∈ lw_privs_1 ++ (lw_privs_2 ++ (lw_privs_3 ++ (lw_privs_4 ++ (lw_privs_5)))), lw_okq q
  exact List.forall_mem_append.mpr ⟨lw_r1, List.forall_mem_append.mpr ⟨lw_r2, List.forall_mem_append.mpr ⟨lw_r3, List.forall_mem_append.mpr ⟨lw_r4, lw_r5⟩⟩⟩⟩
def RX0 : String := "PairingHall$Drawing"
def TX0 : u_T := fun k => match k with
  | 0 => ("PairingHall$Drawing", "who", "[I", true)
  | 1 => ("PairingHall$Drawing", "spotOf", "[I", true)
  | 2 => ("PairingHall$Drawing", "worths", "[I", true)
  | 3 => ("PairingHall$Drawing", "balance", "[I", true)
  | 4 => ("PairingHall$Drawing", "latest", "[I", true)
  | 5 => ("PairingHall$Drawing", "latestButOne", "[I", true)
  | 6 => ("PairingHall$Drawing", "pairedBefore", "[Z", true)
  | 7 => ("PairingHall$Drawing", "isTurned", "[Z", true)
  | 8 => ("PairingHall$Drawing", "prices", "[I", true)
  | 9 => ("PairingHall$Drawing", "partner", "[I", true)
  | 10 => ("PairingHall$Drawing", "bestPartner", "[I", true)
  | 11 => ("PairingHall$Drawing", "size", "I", false)
  | _ => ("PairingHall$Drawing", "bestCost", "I", false)
def tyX0 : Nat → FieldType := fun k => match k with
  | 0 => .array .int
  | 1 => .array .int
  | 2 => .array .int
  | 3 => .array .int
  | 4 => .array .int
  | 5 => .array .int
  | 6 => .array .boolean
  | 7 => .array .boolean
  | 8 => .array .int
  | 9 => .array .int
  | 10 => .array .int
  | 11 => .int
  | _ => .int
abbrev wsX00 : List Cond := u_ws RX0 TX0 13
theorem nmX0 : ∀ a, a < 13 → ∀ b, b < 13 → a ≠ b → (TX0 a).2.1 ≠ (TX0 b).2.1 := by decide +kernel
theorem tyX0_ok : ∀ k, k < 13 → parseFieldDescriptor (TX0 k).2.2.1 = some (tyX0 k) := by decide +kernel
abbrev cX0_init : ByteArray := prog_2_method_1_code
def yX0_init : MethodName := ⟨RX0, "<init>", "()V"⟩
abbrev cX0_brokenIn : ByteArray := prog_2_method_2_code
def yX0_brokenIn : MethodName := ⟨RX0, "brokenIn", "(I)I"⟩
abbrev cX0_gather : ByteArray := prog_2_method_3_code
def yX0_gather : MethodName := ⟨RX0, "gather", "(LPairingHall$Tournament;)I"⟩
abbrev cX0_askWorths : ByteArray := prog_2_method_4_code
def yX0_askWorths : MethodName := ⟨RX0, "askWorths", "(LPairingHall$Roster;LPairingHall$Log;)Z"⟩
abbrev cX0_recall : ByteArray := prog_2_method_5_code
def yX0_recall : MethodName := ⟨RX0, "recall", "(LPairingHall$Tournament;)V"⟩
abbrev cX0_recallPair : ByteArray := prog_2_method_6_code
def yX0_recallPair : MethodName := ⟨RX0, "recallPair", "(II)V"⟩
abbrev cX0_recallSpot : ByteArray := prog_2_method_7_code
def yX0_recallSpot : MethodName := ⟨RX0, "recallSpot", "(II)V"⟩
abbrev cX0_recallColour : ByteArray := prog_2_method_8_code
def yX0_recallColour : MethodName := ⟨RX0, "recallColour", "(II)V"⟩
abbrev cX0_priceAll : ByteArray := prog_2_method_9_code
def yX0_priceAll : MethodName := ⟨RX0, "priceAll", "([I)V"⟩
abbrev cX0_basePrice : ByteArray := prog_2_method_10_code
def yX0_basePrice : MethodName := ⟨RX0, "basePrice", "(III)I"⟩
abbrev cX0_priceTwo : ByteArray := prog_2_method_11_code
def yX0_priceTwo : MethodName := ⟨RX0, "priceTwo", "(III)V"⟩
abbrev cX0_colourPrice : ByteArray := prog_2_method_12_code
def yX0_colourPrice : MethodName := ⟨RX0, "colourPrice", "(II)I"⟩
abbrev cX0_findWay : ByteArray := prog_2_method_13_code
def yX0_findWay : MethodName := ⟨RX0, "findWay", "()V"⟩
abbrev cX0_search : ByteArray := prog_2_method_14_code
def yX0_search : MethodName := ⟨RX0, "search", "(IZI)V"⟩
abbrev cX0_firstFree : ByteArray := prog_2_method_15_code
def yX0_firstFree : MethodName := ⟨RX0, "firstFree", "()I"⟩
abbrev cX0_writeRound : ByteArray := prog_2_method_16_code
def yX0_writeRound : MethodName := ⟨RX0, "writeRound", "(LPairingHall$Tournament;I)I"⟩
def RX1 : String := "PairingHall$Log"
def TX1 : u_T := fun k => match k with
  | 0 => ("PairingHall$Log", "numbers", "[I", true)
  | 1 => ("PairingHall$Log", "length", "I", false)
  | _ => ("PairingHall$Log", "latest", "I", false)
def tyX1 : Nat → FieldType := fun k => match k with
  | 0 => .array .int
  | 1 => .int
  | _ => .int
abbrev wsX10 : List Cond := u_ws RX1 TX1 3
theorem nmX1 : ∀ a, a < 3 → ∀ b, b < 3 → a ≠ b → (TX1 a).2.1 ≠ (TX1 b).2.1 := by decide +kernel
theorem tyX1_ok : ∀ k, k < 3 → parseFieldDescriptor (TX1 k).2.2.1 = some (tyX1 k) := by decide +kernel
abbrev cX1_init : ByteArray := prog_3_method_1_code
def yX1_init : MethodName := ⟨RX1, "<init>", "()V"⟩
abbrev cX1_clear : ByteArray := prog_3_method_2_code
def yX1_clear : MethodName := ⟨RX1, "clear", "()V"⟩
abbrev cX1_write : ByteArray := prog_3_method_3_code
def yX1_write : MethodName := ⟨RX1, "write", "(I)V"⟩
abbrev cX1_met : ByteArray := prog_3_method_4_code
def yX1_met : MethodName := ⟨RX1, "met", "(I)I"⟩
def RX2 : String := "PairingHall$Plans"
def TX2 : u_T := fun k => match k with
  | 0 => ("PairingHall$Plans", "lengths", "[I", true)
  | 1 => ("PairingHall$Plans", "tries", "[I", true)
  | _ => ("PairingHall$Plans", "rows", "[I", true)
def tyX2 : Nat → FieldType := fun k => match k with
  | 0 => .array .int
  | 1 => .array .int
  | _ => .array .int
abbrev wsX20 : List Cond := u_ws RX2 TX2 3
theorem nmX2 : ∀ a, a < 3 → ∀ b, b < 3 → a ≠ b → (TX2 a).2.1 ≠ (TX2 b).2.1 := by decide +kernel
theorem tyX2_ok : ∀ k, k < 3 → parseFieldDescriptor (TX2 k).2.2.1 = some (tyX2 k) := by decide +kernel
abbrev cX2_init : ByteArray := prog_4_method_1_code
def yX2_init : MethodName := ⟨RX2, "<init>", "()V"⟩
abbrev cX2_rowOf : ByteArray := prog_4_method_2_code
def yX2_rowOf : MethodName := ⟨RX2, "rowOf", "(II)I"⟩
abbrev cX2_openRow : ByteArray := prog_4_method_3_code
def yX2_openRow : MethodName := ⟨RX2, "openRow", "(I)I"⟩
def RX3 : String := "PairingHall$Ratings"
def TX3 : u_T := fun k => match k with
  | _ => ("PairingHall$Ratings", "values", "[I", true)
def tyX3 : Nat → FieldType := fun k => match k with
  | _ => .array .int
abbrev wsX30 : List Cond := u_ws RX3 TX3 1
theorem nmX3 : ∀ a, a < 1 → ∀ b, b < 1 → a ≠ b → (TX3 a).2.1 ≠ (TX3 b).2.1 := by decide +kernel
theorem tyX3_ok : ∀ k, k < 1 → parseFieldDescriptor (TX3 k).2.2.1 = some (tyX3 k) := by decide +kernel
abbrev cX3_init : ByteArray := prog_5_method_1_code
def yX3_init : MethodName := ⟨RX3, "<init>", "()V"⟩
abbrev cX3_begin : ByteArray := prog_5_method_2_code
def yX3_begin : MethodName := ⟨RX3, "begin", "(LPairingHall$Tournament;LPairingHall$Roster;LPairingHall$Log;)Z"⟩
abbrev cX3_total : ByteArray := prog_5_method_3_code
def yX3_total : MethodName := ⟨RX3, "total", "(LPairingHall$Tournament;)I"⟩
abbrev cX3_goThrough : ByteArray := prog_5_method_4_code
def yX3_goThrough : MethodName := ⟨RX3, "goThrough", "(LPairingHall$Tournament;I[ILPairingHall$Roster;LPairingHall$Log;)V"⟩
abbrev cX3_gain : ByteArray := prog_5_method_5_code
def yX3_gain : MethodName := ⟨RX3, "gain", "(III)I"⟩
abbrev cX3_roundThousandths : ByteArray := prog_5_method_6_code
def yX3_roundThousandths : MethodName := ⟨RX3, "roundThousandths", "(I)I"⟩
def RX4 : String := "PairingHall$Report"
def TX4 : u_T := fun k => match k with
  | 0 => ("PairingHall$Report", "answer", "I", false)
  | 1 => ("PairingHall$Report", "plan", "I", false)
  | 2 => ("PairingHall$Report", "at", "I", false)
  | _ => ("PairingHall$Report", "done", "I", false)
def tyX4 : Nat → FieldType := fun k => match k with
  | 0 => .int
  | 1 => .int
  | 2 => .int
  | _ => .int
abbrev wsX40 : List Cond := u_ws RX4 TX4 4
theorem nmX4 : ∀ a, a < 4 → ∀ b, b < 4 → a ≠ b → (TX4 a).2.1 ≠ (TX4 b).2.1 := by decide +kernel
theorem tyX4_ok : ∀ k, k < 4 → parseFieldDescriptor (TX4 k).2.2.1 = some (tyX4 k) := by decide +kernel
abbrev cX4_init : ByteArray := prog_6_method_1_code
def yX4_init : MethodName := ⟨RX4, "<init>", "()V"⟩
abbrev cX4_begin : ByteArray := prog_6_method_2_code
def yX4_begin : MethodName := ⟨RX4, "begin", "()V"⟩
abbrev cX4_tellFailure : ByteArray := prog_6_method_3_code
def yX4_tellFailure : MethodName := ⟨RX4, "tellFailure", "(III)V"⟩
def RX5 : String := "PairingHall$Roster"
def TX5 : u_T := fun k => match k with
  | 0 => ("PairingHall$Roster", "kinds", "[I", true)
  | 1 => ("PairingHall$Roster", "bases", "[I", true)
  | 2 => ("PairingHall$Roster", "sizes", "[I", true)
  | 3 => ("PairingHall$Roster", "chairs", "[I", true)
  | _ => ("PairingHall$Roster", "count", "I", false)
def tyX5 : Nat → FieldType := fun k => match k with
  | 0 => .array .int
  | 1 => .array .int
  | 2 => .array .int
  | 3 => .array .int
  | _ => .int
abbrev wsX50 : List Cond := u_ws RX5 TX5 5
theorem nmX5 : ∀ a, a < 5 → ∀ b, b < 5 → a ≠ b → (TX5 a).2.1 ≠ (TX5 b).2.1 := by decide +kernel
theorem tyX5_ok : ∀ k, k < 5 → parseFieldDescriptor (TX5 k).2.2.1 = some (tyX5 k) := by decide +kernel
abbrev cX5_init : ByteArray := prog_7_method_1_code
def yX5_init : MethodName := ⟨RX5, "<init>", "()V"⟩
abbrev cX5_has : ByteArray := prog_7_method_2_code
def yX5_has : MethodName := ⟨RX5, "has", "(I)Z"⟩
abbrev cX5_isTeam : ByteArray := prog_7_method_3_code
def yX5_isTeam : MethodName := ⟨RX5, "isTeam", "(I)Z"⟩
abbrev cX5_isRated : ByteArray := prog_7_method_4_code
def yX5_isRated : MethodName := ⟨RX5, "isRated", "(I)Z"⟩
abbrev cX5_add : ByteArray := prog_7_method_5_code
def yX5_add : MethodName := ⟨RX5, "add", "(II)I"⟩
abbrev cX5_setPlaces : ByteArray := prog_7_method_6_code
def yX5_setPlaces : MethodName := ⟨RX5, "setPlaces", "(II)V"⟩
abbrev cX5_chairOf : ByteArray := prog_7_method_7_code
def yX5_chairOf : MethodName := ⟨RX5, "chairOf", "(IILPairingHall$Log;)I"⟩
abbrev cX5_worthFor : ByteArray := prog_7_method_8_code
def yX5_worthFor : MethodName := ⟨RX5, "worthFor", "(ILPairingHall$Log;)I"⟩
abbrev cX5_soloWorth : ByteArray := prog_7_method_9_code
def yX5_soloWorth : MethodName := ⟨RX5, "soloWorth", "(ILPairingHall$Log;)I"⟩
abbrev cX5_stepFor : ByteArray := prog_7_method_10_code
def yX5_stepFor : MethodName := ⟨RX5, "stepFor", "(ILPairingHall$Log;)I"⟩
abbrev cX5_takeOver : ByteArray := prog_7_method_11_code
def yX5_takeOver : MethodName := ⟨RX5, "takeOver", "(LPairingHall$Roster;)V"⟩
def RX6 : String := "PairingHall$Table"
def TX6 : u_T := fun k => match k with
  | 0 => ("PairingHall$Table", "counting", "[I", true)
  | 1 => ("PairingHall$Table", "outcomes", "[I", true)
  | 2 => ("PairingHall$Table", "open", "[I", true)
  | 3 => ("PairingHall$Table", "scores", "[I", true)
  | 4 => ("PairingHall$Table", "foeCount", "[I", true)
  | 5 => ("PairingHall$Table", "foeTotal", "[I", true)
  | 6 => ("PairingHall$Table", "foeLeast", "[I", true)
  | 7 => ("PairingHall$Table", "foeMost", "[I", true)
  | 8 => ("PairingHall$Table", "wins", "[I", true)
  | 9 => ("PairingHall$Table", "levelHalves", "[I", true)
  | _ => ("PairingHall$Table", "blacks", "[I", true)
def tyX6 : Nat → FieldType := fun k => match k with
  | 0 => .array .int
  | 1 => .array .int
  | 2 => .array .int
  | 3 => .array .int
  | 4 => .array .int
  | 5 => .array .int
  | 6 => .array .int
  | 7 => .array .int
  | 8 => .array .int
  | 9 => .array .int
  | _ => .array .int
abbrev wsX60 : List Cond := u_ws RX6 TX6 11
theorem nmX6 : ∀ a, a < 11 → ∀ b, b < 11 → a ≠ b → (TX6 a).2.1 ≠ (TX6 b).2.1 := by decide +kernel
theorem tyX6_ok : ∀ k, k < 11 → parseFieldDescriptor (TX6 k).2.2.1 = some (tyX6 k) := by decide +kernel
abbrev cX6_init : ByteArray := prog_8_method_1_code
def yX6_init : MethodName := ⟨RX6, "<init>", "()V"⟩
abbrev cX6_read : ByteArray := prog_8_method_2_code
def yX6_read : MethodName := ⟨RX6, "read", "(LPairingHall$Tournament;II)V"⟩
abbrev cX6_score : ByteArray := prog_8_method_3_code
def yX6_score : MethodName := ⟨RX6, "score", "(LPairingHall$Tournament;I)V"⟩
abbrev cX6_whiteHalves : ByteArray := prog_8_method_4_code
def yX6_whiteHalves : MethodName := ⟨RX6, "whiteHalves", "(I)I"⟩
abbrev cX6_blackHalves : ByteArray := prog_8_method_5_code
def yX6_blackHalves : MethodName := ⟨RX6, "blackHalves", "(I)I"⟩
abbrev cX6_isPlayed : ByteArray := prog_8_method_6_code
def yX6_isPlayed : MethodName := ⟨RX6, "isPlayed", "(I)Z"⟩
abbrev cX6_tally : ByteArray := prog_8_method_7_code
def yX6_tally : MethodName := ⟨RX6, "tally", "(LPairingHall$Tournament;)V"⟩
abbrev cX6_tallyPair : ByteArray := prog_8_method_8_code
def yX6_tallyPair : MethodName := ⟨RX6, "tallyPair", "(III)V"⟩
abbrev cX6_addFoe : ByteArray := prog_8_method_9_code
def yX6_addFoe : MethodName := ⟨RX6, "addFoe", "(II)V"⟩
abbrev cX6_amountOf : ByteArray := prog_8_method_10_code
def yX6_amountOf : MethodName := ⟨RX6, "amountOf", "(II)I"⟩
abbrev cX6_parting : ByteArray := prog_8_method_11_code
def yX6_parting : MethodName := ⟨RX6, "parting", "(LPairingHall$Tournament;II)I"⟩
abbrev cX6_aheadOf : ByteArray := prog_8_method_12_code
def yX6_aheadOf : MethodName := ⟨RX6, "aheadOf", "(LPairingHall$Tournament;I)I"⟩
abbrev cX6_whoIs : ByteArray := prog_8_method_13_code
def yX6_whoIs : MethodName := ⟨RX6, "whoIs", "(LPairingHall$Tournament;I)I"⟩
abbrev cX6_lesserAlike : ByteArray := prog_8_method_14_code
def yX6_lesserAlike : MethodName := ⟨RX6, "lesserAlike", "(LPairingHall$Tournament;I)I"⟩
abbrev cX6_listOpen : ByteArray := prog_8_method_15_code
def yX6_listOpen : MethodName := ⟨RX6, "listOpen", "(LPairingHall$Tournament;)I"⟩
abbrev cX6_suppose : ByteArray := prog_8_method_16_code
def yX6_suppose : MethodName := ⟨RX6, "suppose", "(II)V"⟩
abbrev cX6_isOutscored : ByteArray := prog_8_method_17_code
def yX6_isOutscored : MethodName := ⟨RX6, "isOutscored", "(LPairingHall$Tournament;I)Z"⟩
abbrev cX6_isFirst : ByteArray := prog_8_method_18_code
def yX6_isFirst : MethodName := ⟨RX6, "isFirst", "(LPairingHall$Tournament;IZ)Z"⟩
def RX7 : String := "PairingHall$Tournament"
def TX7 : u_T := fun k => match k with
  | 0 => ("PairingHall$Tournament", "serial", "I", false)
  | 1 => ("PairingHall$Tournament", "inCount", "I", false)
  | 2 => ("PairingHall$Tournament", "roundCount", "I", false)
  | 3 => ("PairingHall$Tournament", "entryCount", "I", false)
  | 4 => ("PairingHall$Tournament", "came", "[I", true)
  | 5 => ("PairingHall$Tournament", "status", "[I", true)
  | 6 => ("PairingHall$Tournament", "sorts", "[I", true)
  | 7 => ("PairingHall$Tournament", "days", "[I", true)
  | 8 => ("PairingHall$Tournament", "sizes", "[I", true)
  | 9 => ("PairingHall$Tournament", "costs", "[I", true)
  | 10 => ("PairingHall$Tournament", "white", "[I", true)
  | 11 => ("PairingHall$Tournament", "black", "[I", true)
  | 12 => ("PairingHall$Tournament", "entryCell", "[I", true)
  | 13 => ("PairingHall$Tournament", "entryOutcome", "[I", true)
  | 14 => ("PairingHall$Tournament", "entryDay", "[I", true)
  | 15 => ("PairingHall$Tournament", "entryKnown", "[I", true)
  | _ => ("PairingHall$Tournament", "entryBack", "[I", true)
def tyX7 : Nat → FieldType := fun k => match k with
  | 0 => .int
  | 1 => .int
  | 2 => .int
  | 3 => .int
  | 4 => .array .int
  | 5 => .array .int
  | 6 => .array .int
  | 7 => .array .int
  | 8 => .array .int
  | 9 => .array .int
  | 10 => .array .int
  | 11 => .array .int
  | 12 => .array .int
  | 13 => .array .int
  | 14 => .array .int
  | 15 => .array .int
  | _ => .array .int
abbrev wsX70 : List Cond := u_ws RX7 TX7 17
theorem nmX7 : ∀ a, a < 17 → ∀ b, b < 17 → a ≠ b → (TX7 a).2.1 ≠ (TX7 b).2.1 := by decide +kernel
theorem tyX7_ok : ∀ k, k < 17 → parseFieldDescriptor (TX7 k).2.2.1 = some (tyX7 k) := by decide +kernel
abbrev cX7_init : ByteArray := prog_9_method_1_code
def yX7_init : MethodName := ⟨RX7, "<init>", "()V"⟩
abbrev cX7_clear : ByteArray := prog_9_method_2_code
def yX7_clear : MethodName := ⟨RX7, "clear", "()V"⟩
abbrev cX7_hasIn : ByteArray := prog_9_method_3_code
def yX7_hasIn : MethodName := ⟨RX7, "hasIn", "(I)Z"⟩
abbrev cX7_letIn : ByteArray := prog_9_method_4_code
def yX7_letIn : MethodName := ⟨RX7, "letIn", "(I)I"⟩
abbrev cX7_latestDay : ByteArray := prog_9_method_5_code
def yX7_latestDay : MethodName := ⟨RX7, "latestDay", "()I"⟩
abbrev cX7_roundOf : ByteArray := prog_9_method_6_code
def yX7_roundOf : MethodName := ⟨RX7, "roundOf", "(ILPairingHall$Log;)I"⟩
abbrev cX7_cellOf : ByteArray := prog_9_method_7_code
def yX7_cellOf : MethodName := ⟨RX7, "cellOf", "(IILPairingHall$Log;)I"⟩
abbrev cX7_addEntry : ByteArray := prog_9_method_8_code
def yX7_addEntry : MethodName := ⟨RX7, "addEntry", "(IIII)I"⟩
abbrev cX7_isKnown : ByteArray := prog_9_method_9_code
def yX7_isKnown : MethodName := ⟨RX7, "isKnown", "(II)Z"⟩
abbrev cX7_takeOver : ByteArray := prog_9_method_10_code
def yX7_takeOver : MethodName := ⟨RX7, "takeOver", "(LPairingHall$Tournament;)V"⟩
abbrev cX7_isLike : ByteArray := prog_9_method_11_code
def yX7_isLike : MethodName := ⟨RX7, "isLike", "(LPairingHall$Tournament;)Z"⟩
abbrev cX7_hasLikeRounds : ByteArray := prog_9_method_12_code
def yX7_hasLikeRounds : MethodName := ⟨RX7, "hasLikeRounds", "(LPairingHall$Tournament;)Z"⟩
abbrev cX7_hasLikeEntries : ByteArray := prog_9_method_13_code
def yX7_hasLikeEntries : MethodName := ⟨RX7, "hasLikeEntries", "(LPairingHall$Tournament;)Z"⟩
abbrev cX7_isSame : ByteArray := prog_9_method_14_code
def yX7_isSame : MethodName := ⟨RX7, "isSame", "([I[III)Z"⟩
def RX8 : String := "PairingHall"
def TX8 : u_T := fun k => match k with
  | 0 => ("PairingHall", "log", "LPairingHall$Log;", true)
  | 1 => ("PairingHall", "roster", "LPairingHall$Roster;", true)
  | 2 => ("PairingHall", "savedRoster", "LPairingHall$Roster;", true)
  | 3 => ("PairingHall", "tournaments", "[LPairingHall$Tournament;", true)
  | 4 => ("PairingHall", "savedTournaments", "[LPairingHall$Tournament;", true)
  | 5 => ("PairingHall", "table", "LPairingHall$Table;", true)
  | 6 => ("PairingHall", "drawing", "LPairingHall$Drawing;", true)
  | 7 => ("PairingHall", "ratings", "LPairingHall$Ratings;", true)
  | 8 => ("PairingHall", "plans", "LPairingHall$Plans;", true)
  | 9 => ("PairingHall", "report", "LPairingHall$Report;", true)
  | 10 => ("PairingHall", "foundRow", "[I", true)
  | 11 => ("PairingHall", "foundLength", "I", false)
  | 12 => ("PairingHall", "tournamentCount", "I", false)
  | 13 => ("PairingHall", "savedCount", "I", false)
  | _ => ("PairingHall", "latestSerial", "I", false)
def tyX8 : Nat → FieldType := fun k => match k with
  | 0 => .object "PairingHall$Log"
  | 1 => .object "PairingHall$Roster"
  | 2 => .object "PairingHall$Roster"
  | 3 => .array (.object "PairingHall$Tournament")
  | 4 => .array (.object "PairingHall$Tournament")
  | 5 => .object "PairingHall$Table"
  | 6 => .object "PairingHall$Drawing"
  | 7 => .object "PairingHall$Ratings"
  | 8 => .object "PairingHall$Plans"
  | 9 => .object "PairingHall$Report"
  | 10 => .array .int
  | 11 => .int
  | 12 => .int
  | 13 => .int
  | _ => .int
abbrev wsX80 : List Cond := u_ws RX8 TX8 15
theorem nmX8 : ∀ a, a < 15 → ∀ b, b < 15 → a ≠ b → (TX8 a).2.1 ≠ (TX8 b).2.1 := by decide +kernel
theorem tyX8_ok : ∀ k, k < 15 → parseFieldDescriptor (TX8 k).2.2.1 = some (tyX8 k) := by decide +kernel
abbrev cX8_init : ByteArray := prog_1_method_1_code
def yX8_init : MethodName := ⟨RX8, "<init>", "()V"⟩
abbrev cX8_player : ByteArray := prog_1_method_2_code
def yX8_player : MethodName := ⟨RX8, "player", "(II)I"⟩
abbrev cX8_places : ByteArray := prog_1_method_3_code
def yX8_places : MethodName := ⟨RX8, "places", "(II)I"⟩
abbrev cX8_seat : ByteArray := prog_1_method_4_code
def yX8_seat : MethodName := ⟨RX8, "seat", "(III)I"⟩
abbrev cX8_held : ByteArray := prog_1_method_5_code
def yX8_held : MethodName := ⟨RX8, "held", "(II)I"⟩
abbrev cX8_worth : ByteArray := prog_1_method_6_code
def yX8_worth : MethodName := ⟨RX8, "worth", "(I)I"⟩
abbrev cX8_stepOf : ByteArray := prog_1_method_7_code
def yX8_stepOf : MethodName := ⟨RX8, "stepOf", "(I)I"⟩
abbrev cX8_trace : ByteArray := prog_1_method_8_code
def yX8_trace : MethodName := ⟨RX8, "trace", "(I)I"⟩
abbrev cX8_askWorth : ByteArray := prog_1_method_9_code
def yX8_askWorth : MethodName := ⟨RX8, "askWorth", "(I)I"⟩
abbrev cX8_tournament : ByteArray := prog_1_method_10_code
def yX8_tournament : MethodName := ⟨RX8, "tournament", "()I"⟩
abbrev cX8_enter : ByteArray := prog_1_method_11_code
def yX8_enter : MethodName := ⟨RX8, "enter", "(II)I"⟩
abbrev cX8_withdraw : ByteArray := prog_1_method_12_code
def yX8_withdraw : MethodName := ⟨RX8, "withdraw", "(II)I"⟩
abbrev cX8_rule : ByteArray := prog_1_method_13_code
def yX8_rule : MethodName := ⟨RX8, "rule", "(III)I"⟩
abbrev cX8_draw : ByteArray := prog_1_method_14_code
def yX8_draw : MethodName := ⟨RX8, "draw", "(II)I"⟩
abbrev cX8_pair : ByteArray := prog_1_method_15_code
def yX8_pair : MethodName := ⟨RX8, "pair", "(IIII)I"⟩
abbrev cX8_round : ByteArray := prog_1_method_16_code
def yX8_round : MethodName := ⟨RX8, "round", "(III)I"⟩
abbrev cX8_copy : ByteArray := prog_1_method_17_code
def yX8_copy : MethodName := ⟨RX8, "copy", "(I)I"⟩
abbrev cX8_alike : ByteArray := prog_1_method_18_code
def yX8_alike : MethodName := ⟨RX8, "alike", "(II)I"⟩
abbrev cX8_isTournament : ByteArray := prog_1_method_19_code
def yX8_isTournament : MethodName := ⟨RX8, "isTournament", "(I)Z"⟩
abbrev cX8_openNext : ByteArray := prog_1_method_20_code
def yX8_openNext : MethodName := ⟨RX8, "openNext", "()I"⟩
abbrev cX8_drawRound : ByteArray := prog_1_method_21_code
def yX8_drawRound : MethodName := ⟨RX8, "drawRound", "(II)I"⟩
abbrev cX8_tell : ByteArray := prog_1_method_22_code
def yX8_tell : MethodName := ⟨RX8, "tell", "(IIIIII)I"⟩
abbrev cX8_takeBack : ByteArray := prog_1_method_23_code
def yX8_takeBack : MethodName := ⟨RX8, "takeBack", "(III)I"⟩
abbrev cX8_counts : ByteArray := prog_1_method_24_code
def yX8_counts : MethodName := ⟨RX8, "counts", "(IIII)I"⟩
abbrev cX8_points : ByteArray := prog_1_method_25_code
def yX8_points : MethodName := ⟨RX8, "points", "(IIII)I"⟩
abbrev cX8_sum : ByteArray := prog_1_method_26_code
def yX8_sum : MethodName := ⟨RX8, "sum", "(IIIII)I"⟩
abbrev cX8_place : ByteArray := prog_1_method_27_code
def yX8_place : MethodName := ⟨RX8, "place", "(IIII)I"⟩
abbrev cX8_standing : ByteArray := prog_1_method_28_code
def yX8_standing : MethodName := ⟨RX8, "standing", "(IIII)I"⟩
abbrev cX8_why : ByteArray := prog_1_method_29_code
def yX8_why : MethodName := ⟨RX8, "why", "(IIIII)I"⟩
abbrev cX8_refuseAsking : ByteArray := prog_1_method_30_code
def yX8_refuseAsking : MethodName := ⟨RX8, "refuseAsking", "(IIII)I"⟩
abbrev cX8_makeTable : ByteArray := prog_1_method_31_code
def yX8_makeTable : MethodName := ⟨RX8, "makeTable", "(III)V"⟩
abbrev cX8_rated : ByteArray := prog_1_method_32_code
def yX8_rated : MethodName := ⟨RX8, "rated", "(IIII)I"⟩
abbrev cX8_mean : ByteArray := prog_1_method_33_code
def yX8_mean : MethodName := ⟨RX8, "mean", "(I)I"⟩
abbrev cX8_could : ByteArray := prog_1_method_34_code
def yX8_could : MethodName := ⟨RX8, "could", "(IIII)I"⟩
abbrev cX8_found : ByteArray := prog_1_method_35_code
def yX8_found : MethodName := ⟨RX8, "found", "(I)I"⟩
abbrev cX8_keepFound : ByteArray := prog_1_method_36_code
def yX8_keepFound : MethodName := ⟨RX8, "keepFound", "(I)V"⟩
abbrev cX8_step : ByteArray := prog_1_method_37_code
def yX8_step : MethodName := ⟨RX8, "step", "(IIIIII)I"⟩
abbrev cX8_empty : ByteArray := prog_1_method_38_code
def yX8_empty : MethodName := ⟨RX8, "empty", "(I)I"⟩
abbrev cX8_run : ByteArray := prog_1_method_39_code
def yX8_run : MethodName := ⟨RX8, "run", "(I)I"⟩
abbrev cX8_ran : ByteArray := prog_1_method_40_code
def yX8_ran : MethodName := ⟨RX8, "ran", "(I)I"⟩
abbrev cX8_isPlan : ByteArray := prog_1_method_41_code
def yX8_isPlan : MethodName := ⟨RX8, "isPlan", "(I)Z"⟩
abbrev cX8_fails : ByteArray := prog_1_method_42_code
def yX8_fails : MethodName := ⟨RX8, "fails", "(I)Z"⟩
abbrev cX8_save : ByteArray := prog_1_method_43_code
def yX8_save : MethodName := ⟨RX8, "save", "()V"⟩
abbrev cX8_restore : ByteArray := prog_1_method_44_code
def yX8_restore : MethodName := ⟨RX8, "restore", "()V"⟩
abbrev cX8_runSteps : ByteArray := prog_1_method_45_code
def yX8_runSteps : MethodName := ⟨RX8, "runSteps", "(I)Z"⟩
abbrev cX8_perform : ByteArray := prog_1_method_46_code
def yX8_perform : MethodName := ⟨RX8, "perform", "(I)I"⟩
abbrev cX8_need : ByteArray := prog_1_method_47_code
def yX8_need : MethodName := ⟨RX8, "need", "(IIII)I"⟩
abbrev cX8_finding : ByteArray := prog_1_method_48_code
def yX8_finding : MethodName := ⟨RX8, "finding", "()I"⟩
abbrev cX8_told : ByteArray := prog_1_method_49_code
def yX8_told : MethodName := ⟨RX8, "told", "(I)I"⟩
abbrev cX8_tellOf : ByteArray := prog_1_method_50_code
def yX8_tellOf : MethodName := ⟨RX8, "tellOf", "(II)I"⟩
def RX9 : String := "PairingHallModel"
def TX9 : u_T := fun k => match k with
  | 0 => ("PairingHallModel", "finding", "I", false)
  | 1 => ("PairingHallModel", "trace", "[I", true)
  | 2 => ("PairingHallModel", "traced", "I", false)
  | 3 => ("PairingHallModel", "players", "I", false)
  | 4 => ("PairingHallModel", "kind", "[I", true)
  | 5 => ("PairingHallModel", "base", "[I", true)
  | 6 => ("PairingHallModel", "places", "[I", true)
  | 7 => ("PairingHallModel", "held", "[I", true)
  | 8 => ("PairingHallModel", "tournaments", "I", false)
  | 9 => ("PairingHallModel", "rows", "[I", true)
  | 10 => ("PairingHallModel", "serial", "I", false)
  | 11 => ("PairingHallModel", "wasPlayers", "I", false)
  | 12 => ("PairingHallModel", "wasKind", "[I", true)
  | 13 => ("PairingHallModel", "wasBase", "[I", true)
  | 14 => ("PairingHallModel", "wasPlaces", "[I", true)
  | 15 => ("PairingHallModel", "wasHeld", "[I", true)
  | 16 => ("PairingHallModel", "wasTournaments", "I", false)
  | 17 => ("PairingHallModel", "wasRows", "[I", true)
  | 18 => ("PairingHallModel", "steps", "[I", true)
  | 19 => ("PairingHallModel", "stepMany", "[I", true)
  | 20 => ("PairingHallModel", "tries", "[I", true)
  | 21 => ("PairingHallModel", "answered", "I", false)
  | 22 => ("PairingHallModel", "ofPlan", "I", false)
  | 23 => ("PairingHallModel", "atPlace", "I", false)
  | 24 => ("PairingHallModel", "done", "I", false)
  | 25 => ("PairingHallModel", "isAssumed", "Z", false)
  | 26 => ("PairingHallModel", "assumed", "[I", true)
  | 27 => ("PairingHallModel", "who", "[I", true)
  | 28 => ("PairingHallModel", "worths", "[I", true)
  | 29 => ("PairingHallModel", "points", "[I", true)
  | 30 => ("PairingHallModel", "many", "I", false)
  | 31 => ("PairingHallModel", "breaks", "I", false)
  | 32 => ("PairingHallModel", "balance", "I", false)
  | 33 => ("PairingHallModel", "latest", "I", false)
  | 34 => ("PairingHallModel", "before", "I", false)
  | 35 => ("PairingHallModel", "best", "[I", true)
  | 36 => ("PairingHallModel", "with", "[I", true)
  | 37 => ("PairingHallModel", "costs", "[I", true)
  | 38 => ("PairingHallModel", "ratings", "[I", true)
  | 39 => ("PairingHallModel", "ahead", "[I", true)
  | 40 => ("PairingHallModel", "open", "[I", true)
  | 41 => ("PairingHallModel", "foundOutcomes", "[I", true)
  | _ => ("PairingHallModel", "foundMany", "I", false)
def tyX9 : Nat → FieldType := fun k => match k with
  | 0 => .int
  | 1 => .array .int
  | 2 => .int
  | 3 => .int
  | 4 => .array .int
  | 5 => .array .int
  | 6 => .array .int
  | 7 => .array .int
  | 8 => .int
  | 9 => .array .int
  | 10 => .int
  | 11 => .int
  | 12 => .array .int
  | 13 => .array .int
  | 14 => .array .int
  | 15 => .array .int
  | 16 => .int
  | 17 => .array .int
  | 18 => .array .int
  | 19 => .array .int
  | 20 => .array .int
  | 21 => .int
  | 22 => .int
  | 23 => .int
  | 24 => .int
  | 25 => .boolean
  | 26 => .array .int
  | 27 => .array .int
  | 28 => .array .int
  | 29 => .array .int
  | 30 => .int
  | 31 => .int
  | 32 => .int
  | 33 => .int
  | 34 => .int
  | 35 => .array .int
  | 36 => .array .int
  | 37 => .array .int
  | 38 => .array .int
  | 39 => .array .int
  | 40 => .array .int
  | 41 => .array .int
  | _ => .int
abbrev wsX90 : List Cond := u_ws RX9 TX9 43
theorem nmX9 : ∀ a, a < 43 → ∀ b, b < 43 → a ≠ b → (TX9 a).2.1 ≠ (TX9 b).2.1 := by decide +kernel
theorem tyX9_ok : ∀ k, k < 43 → parseFieldDescriptor (TX9 k).2.2.1 = some (tyX9 k) := by decide +kernel
abbrev cX9_init : ByteArray := prog_11_method_1_code
def yX9_init : MethodName := ⟨RX9, "<init>", "()V"⟩
abbrev cX9_in : ByteArray := prog_11_method_3_code
def yX9_in : MethodName := ⟨RX9, "in", "(III)Z"⟩
abbrev cX9_meets : ByteArray := prog_11_method_4_code
def yX9_meets : MethodName := ⟨RX9, "meets", "(I)I"⟩
abbrev cX9_began : ByteArray := prog_11_method_5_code
def yX9_began : MethodName := ⟨RX9, "began", "(I)V"⟩
abbrev cX9_isPlayer : ByteArray := prog_11_method_6_code
def yX9_isPlayer : MethodName := ⟨RX9, "isPlayer", "(I)Z"⟩
abbrev cX9_isTournament : ByteArray := prog_11_method_7_code
def yX9_isTournament : MethodName := ⟨RX9, "isTournament", "(I)Z"⟩
abbrev cX9_cell : ByteArray := prog_11_method_8_code
def yX9_cell : MethodName := ⟨RX9, "cell", "(II)I"⟩
abbrev cX9_lay : ByteArray := prog_11_method_9_code
def yX9_lay : MethodName := ⟨RX9, "lay", "(III)V"⟩
abbrev cX9_player : ByteArray := prog_11_method_10_code
def yX9_player : MethodName := ⟨RX9, "player", "(II)I"⟩
abbrev cX9_places : ByteArray := prog_11_method_11_code
def yX9_places : MethodName := ⟨RX9, "places", "(II)I"⟩
abbrev cX9_seat : ByteArray := prog_11_method_12_code
def yX9_seat : MethodName := ⟨RX9, "seat", "(III)I"⟩
abbrev cX9_held : ByteArray := prog_11_method_13_code
def yX9_held : MethodName := ⟨RX9, "held", "(II)I"⟩
abbrev cX9_soloWorth : ByteArray := prog_11_method_14_code
def yX9_soloWorth : MethodName := ⟨RX9, "soloWorth", "(I)I"⟩
abbrev cX9_worthOf : ByteArray := prog_11_method_15_code
def yX9_worthOf : MethodName := ⟨RX9, "worthOf", "(I)I"⟩
abbrev cX9_worth : ByteArray := prog_11_method_16_code
def yX9_worth : MethodName := ⟨RX9, "worth", "(I)I"⟩
abbrev cX9_stepFor : ByteArray := prog_11_method_17_code
def yX9_stepFor : MethodName := ⟨RX9, "stepFor", "(I)I"⟩
abbrev cX9_stepOf : ByteArray := prog_11_method_18_code
def yX9_stepOf : MethodName := ⟨RX9, "stepOf", "(I)I"⟩
abbrev cX9_trace : ByteArray := prog_11_method_19_code
def yX9_trace : MethodName := ⟨RX9, "trace", "(I)I"⟩
abbrev cX9_another : ByteArray := prog_11_method_20_code
def yX9_another : MethodName := ⟨RX9, "another", "()I"⟩
abbrev cX9_tournament : ByteArray := prog_11_method_21_code
def yX9_tournament : MethodName := ⟨RX9, "tournament", "()I"⟩
abbrev cX9_placeOf : ByteArray := prog_11_method_22_code
def yX9_placeOf : MethodName := ⟨RX9, "placeOf", "(II)I"⟩
abbrev cX9_enter : ByteArray := prog_11_method_23_code
def yX9_enter : MethodName := ⟨RX9, "enter", "(II)I"⟩
abbrev cX9_withdraw : ByteArray := prog_11_method_24_code
def yX9_withdraw : MethodName := ⟨RX9, "withdraw", "(II)I"⟩
abbrev cX9_rule : ByteArray := prog_11_method_25_code
def yX9_rule : MethodName := ⟨RX9, "rule", "(III)I"⟩
abbrev cX9_entryOf : ByteArray := prog_11_method_26_code
def yX9_entryOf : MethodName := ⟨RX9, "entryOf", "(III)I"⟩
abbrev cX9_outcomeOf : ByteArray := prog_11_method_27_code
def yX9_outcomeOf : MethodName := ⟨RX9, "outcomeOf", "(IIII)I"⟩
abbrev cX9_halves : ByteArray := prog_11_method_28_code
def yX9_halves : MethodName := ⟨RX9, "halves", "(IZ)I"⟩
abbrev cX9_pairOf : ByteArray := prog_11_method_29_code
def yX9_pairOf : MethodName := ⟨RX9, "pairOf", "(III)I"⟩
abbrev cX9_isWithNobody : ByteArray := prog_11_method_30_code
def yX9_isWithNobody : MethodName := ⟨RX9, "isWithNobody", "(II)Z"⟩
abbrev cX9_otherOf : ByteArray := prog_11_method_31_code
def yX9_otherOf : MethodName := ⟨RX9, "otherOf", "(III)I"⟩
abbrev cX9_pointsOf : ByteArray := prog_11_method_32_code
def yX9_pointsOf : MethodName := ⟨RX9, "pointsOf", "(IIII)I"⟩
abbrev cX9_sumOf : ByteArray := prog_11_method_33_code
def yX9_sumOf : MethodName := ⟨RX9, "sumOf", "(IIIII)I"⟩
abbrev cX9_parting : ByteArray := prog_11_method_34_code
def yX9_parting : MethodName := ⟨RX9, "parting", "(IIIII)I"⟩
abbrev cX9_colours : ByteArray := prog_11_method_35_code
def yX9_colours : MethodName := ⟨RX9, "colours", "(II)V"⟩
abbrev cX9_colourCost : ByteArray := prog_11_method_36_code
def yX9_colourCost : MethodName := ⟨RX9, "colourCost", "(IIZ)I"⟩
abbrev cX9_wasWith : ByteArray := prog_11_method_37_code
def yX9_wasWith : MethodName := ⟨RX9, "wasWith", "(III)Z"⟩
abbrev cX9_costAlone : ByteArray := prog_11_method_38_code
def yX9_costAlone : MethodName := ⟨RX9, "costAlone", "(II)I"⟩
abbrev cX9_costOf : ByteArray := prog_11_method_39_code
def yX9_costOf : MethodName := ⟨RX9, "costOf", "(IIIZ)I"⟩
abbrev cX9_search : ByteArray := prog_11_method_40_code
def yX9_search : MethodName := ⟨RX9, "search", "(I)V"⟩
abbrev cX9_pairUp : ByteArray := prog_11_method_41_code
def yX9_pairUp : MethodName := ⟨RX9, "pairUp", "(II)V"⟩
abbrev cX9_gather : ByteArray := prog_11_method_42_code
def yX9_gather : MethodName := ⟨RX9, "gather", "(IZ)V"⟩
abbrev cX9_askWorths : ByteArray := prog_11_method_43_code
def yX9_askWorths : MethodName := ⟨RX9, "askWorths", "()I"⟩
abbrev cX9_drawOf : ByteArray := prog_11_method_44_code
def yX9_drawOf : MethodName := ⟨RX9, "drawOf", "(II)I"⟩
abbrev cX9_draw : ByteArray := prog_11_method_45_code
def yX9_draw : MethodName := ⟨RX9, "draw", "(II)I"⟩
abbrev cX9_against : ByteArray := prog_11_method_46_code
def yX9_against : MethodName := ⟨RX9, "against", "(III)I"⟩
abbrev cX9_pair : ByteArray := prog_11_method_47_code
def yX9_pair : MethodName := ⟨RX9, "pair", "(IIII)I"⟩
abbrev cX9_round : ByteArray := prog_11_method_48_code
def yX9_round : MethodName := ⟨RX9, "round", "(III)I"⟩
abbrev cX9_tell : ByteArray := prog_11_method_49_code
def yX9_tell : MethodName := ⟨RX9, "tell", "(IIIIII)I"⟩
abbrev cX9_takeBack : ByteArray := prog_11_method_50_code
def yX9_takeBack : MethodName := ⟨RX9, "takeBack", "(III)I"⟩
abbrev cX9_counts : ByteArray := prog_11_method_51_code
def yX9_counts : MethodName := ⟨RX9, "counts", "(IIII)I"⟩
abbrev cX9_refused : ByteArray := prog_11_method_52_code
def yX9_refused : MethodName := ⟨RX9, "refused", "(IIII)I"⟩
abbrev cX9_points : ByteArray := prog_11_method_53_code
def yX9_points : MethodName := ⟨RX9, "points", "(IIII)I"⟩
abbrev cX9_sum : ByteArray := prog_11_method_54_code
def yX9_sum : MethodName := ⟨RX9, "sum", "(IIIII)I"⟩
abbrev cX9_ahead : ByteArray := prog_11_method_55_code
def yX9_ahead : MethodName := ⟨RX9, "ahead", "(IIII)I"⟩
abbrev cX9_place : ByteArray := prog_11_method_56_code
def yX9_place : MethodName := ⟨RX9, "place", "(IIII)I"⟩
abbrev cX9_standing : ByteArray := prog_11_method_57_code
def yX9_standing : MethodName := ⟨RX9, "standing", "(IIII)I"⟩
abbrev cX9_why : ByteArray := prog_11_method_58_code
def yX9_why : MethodName := ⟨RX9, "why", "(IIIII)I"⟩
abbrev cX9_rounded : ByteArray := prog_11_method_59_code
def yX9_rounded : MethodName := ⟨RX9, "rounded", "(I)I"⟩
abbrev cX9_rate : ByteArray := prog_11_method_60_code
def yX9_rate : MethodName := ⟨RX9, "rate", "(IIII)V"⟩
abbrev cX9_rated : ByteArray := prog_11_method_61_code
def yX9_rated : MethodName := ⟨RX9, "rated", "(IIII)I"⟩
abbrev cX9_mean : ByteArray := prog_11_method_62_code
def yX9_mean : MethodName := ⟨RX9, "mean", "(I)I"⟩
abbrev cX9_isFirst : ByteArray := prog_11_method_63_code
def yX9_isFirst : MethodName := ⟨RX9, "isFirst", "(IIII)Z"⟩
abbrev cX9_could : ByteArray := prog_11_method_64_code
def yX9_could : MethodName := ⟨RX9, "could", "(IIII)I"⟩
abbrev cX9_found : ByteArray := prog_11_method_65_code
def yX9_found : MethodName := ⟨RX9, "found", "(I)I"⟩
abbrev cX9_step : ByteArray := prog_11_method_66_code
def yX9_step : MethodName := ⟨RX9, "step", "(IIIIII)I"⟩
abbrev cX9_empty : ByteArray := prog_11_method_67_code
def yX9_empty : MethodName := ⟨RX9, "empty", "(I)I"⟩
abbrev cX9_need : ByteArray := prog_11_method_68_code
def yX9_need : MethodName := ⟨RX9, "need", "(IIII)I"⟩
abbrev cX9_answer : ByteArray := prog_11_method_69_code
def yX9_answer : MethodName := ⟨RX9, "answer", "(I)I"⟩
abbrev cX9_fails : ByteArray := prog_11_method_70_code
def yX9_fails : MethodName := ⟨RX9, "fails", "(III)V"⟩
abbrev cX9_goes : ByteArray := prog_11_method_71_code
def yX9_goes : MethodName := ⟨RX9, "goes", "(I)Z"⟩
abbrev cX9_keep : ByteArray := prog_11_method_72_code
def yX9_keep : MethodName := ⟨RX9, "keep", "()V"⟩
abbrev cX9_back : ByteArray := prog_11_method_73_code
def yX9_back : MethodName := ⟨RX9, "back", "()V"⟩
abbrev cX9_run : ByteArray := prog_11_method_74_code
def yX9_run : MethodName := ⟨RX9, "run", "(I)I"⟩
abbrev cX9_ran : ByteArray := prog_11_method_75_code
def yX9_ran : MethodName := ⟨RX9, "ran", "(I)I"⟩
abbrev cX9_copy : ByteArray := prog_11_method_76_code
def yX9_copy : MethodName := ⟨RX9, "copy", "(I)I"⟩
abbrev cX9_alike : ByteArray := prog_11_method_77_code
def yX9_alike : MethodName := ⟨RX9, "alike", "(II)I"⟩
abbrev cX9_finding : ByteArray := prog_11_method_78_code
def yX9_finding : MethodName := ⟨RX9, "finding", "()I"⟩
abbrev cX9_told : ByteArray := prog_11_method_79_code
def yX9_told : MethodName := ⟨RX9, "told", "(I)I"⟩
def RJ9 : String := "java/lang/Math"
abbrev cJ9_floorDiv_7cf53 : ByteArray := prog_12_method_47_code
def yJ9_floorDiv_7cf53 : MethodName := ⟨RJ9, "floorDiv", "(II)I"⟩
abbrev cJ9_floorMod_7cf53 : ByteArray := prog_12_method_50_code
def yJ9_floorMod_7cf53 : MethodName := ⟨RJ9, "floorMod", "(II)I"⟩
abbrev cJ9_abs_0f7a4 : ByteArray := prog_12_method_59_code
def yJ9_abs_0f7a4 : MethodName := ⟨RJ9, "abs", "(I)I"⟩
abbrev cJ9_max_7cf53 : ByteArray := prog_12_method_65_code
def yJ9_max_7cf53 : MethodName := ⟨RJ9, "max", "(II)I"⟩
abbrev cJ9_min_7cf53 : ByteArray := prog_12_method_69_code
def yJ9_min_7cf53 : MethodName := ⟨RJ9, "min", "(II)I"⟩
def RJ10 : String := "java/lang/System"
def RJ7 : String := "java/util/Arrays"
abbrev cJ7_fill_53178 : ByteArray := prog_14_method_103_code
def yJ7_fill_53178 : MethodName := ⟨RJ7, "fill", "([II)V"⟩
def RL : String := "PairingHallLaw"
abbrev cL_law : ByteArray := code
def yL_law : MethodName := ⟨RL, "law", "([I)Z"⟩
def RL2 : String := "java/util/Arrays"
def am_R (o : Nat) : String := match o with
  | 0 => RX0
  | 1 => RX1
  | 2 => RX2
  | 3 => RX3
  | 4 => RX4
  | 5 => RX5
  | 6 => RX6
  | 7 => RX7
  | 8 => RX8
  | 9 => RX9
  | 10 => RL
  | 11 => RJ9
  | 12 => RJ7
  | _ => ""
abbrev am_cl : List vw_C := [(RX0, TX0, 13), (RX1, TX1, 3), (RX2, TX2, 3), (RX3, TX3, 1), (RX4, TX4, 4), (RX5, TX5, 5), (RX6, TX6, 11), (RX7, TX7, 17), (RX8, TX8, 15), (RX9, TX9, 43)]
def am_tb : List Cond := lw_tbl.filter goodWord
theorem am_mem (i : Nat) {w : Cond} (h : lw_tbl[i]? = some w) (hg : goodWord w = true) : w ∈ am_tb := List.mem_filter.mpr ⟨List.mem_of_getElem? h, hg⟩
theorem am_good : GoodIn am_tb am_tb := fun w h => ⟨h, good_of_word (List.mem_filter.mp h).2⟩
theorem am_in0 : ∀ w ∈ u_ws RX0 TX0 13, w ∈ am_tb := fun w h => List.mem_filter.mpr ⟨(by decide +kernel : ∀ w ∈ u_ws RX0 TX0 13, w ∈ lw_tbl) w h, (by decide +kernel : ∀ w ∈ u_ws RX0 TX0 13, goodWord w = true) w h⟩
theorem am_in1 : ∀ w ∈ u_ws RX1 TX1 3, w ∈ am_tb := fun w h => List.mem_filter.mpr ⟨(by decide +kernel : ∀ w ∈ u_ws RX1 TX1 3, w ∈ lw_tbl) w h, (by decide +kernel : ∀ w ∈ u_ws RX1 TX1 3, goodWord w = true) w h⟩
theorem am_in2 : ∀ w ∈ u_ws RX2 TX2 3, w ∈ am_tb := fun w h => List.mem_filter.mpr ⟨(by decide +kernel : ∀ w ∈ u_ws RX2 TX2 3, w ∈ lw_tbl) w h, (by decide +kernel : ∀ w ∈ u_ws RX2 TX2 3, goodWord w = true) w h⟩
theorem am_in3 : ∀ w ∈ u_ws RX3 TX3 1, w ∈ am_tb := fun w h => List.mem_filter.mpr ⟨(by decide +kernel : ∀ w ∈ u_ws RX3 TX3 1, w ∈ lw_tbl) w h, (by decide +kernel : ∀ w ∈ u_ws RX3 TX3 1, goodWord w = true) w h⟩
theorem am_in4 : ∀ w ∈ u_ws RX4 TX4 4, w ∈ am_tb := fun w h => List.mem_filter.mpr ⟨(by decide +kernel : ∀ w ∈ u_ws RX4 TX4 4, w ∈ lw_tbl) w h, (by decide +kernel : ∀ w ∈ u_ws RX4 TX4 4, goodWord w = true) w h⟩
theorem am_in5 : ∀ w ∈ u_ws RX5 TX5 5, w ∈ am_tb := fun w h => List.mem_filter.mpr ⟨(by decide +kernel : ∀ w ∈ u_ws RX5 TX5 5, w ∈ lw_tbl) w h, (by decide +kernel : ∀ w ∈ u_ws RX5 TX5 5, goodWord w = true) w h⟩
theorem am_in6 : ∀ w ∈ u_ws RX6 TX6 11, w ∈ am_tb := fun w h => List.mem_filter.mpr ⟨(by decide +kernel : ∀ w ∈ u_ws RX6 TX6 11, w ∈ lw_tbl) w h, (by decide +kernel : ∀ w ∈ u_ws RX6 TX6 11, goodWord w = true) w h⟩
theorem am_in7 : ∀ w ∈ u_ws RX7 TX7 17, w ∈ am_tb := fun w h => List.mem_filter.mpr ⟨(by decide +kernel : ∀ w ∈ u_ws RX7 TX7 17, w ∈ lw_tbl) w h, (by decide +kernel : ∀ w ∈ u_ws RX7 TX7 17, goodWord w = true) w h⟩
theorem am_in8 : ∀ w ∈ u_ws RX8 TX8 15, w ∈ am_tb := fun w h => List.mem_filter.mpr ⟨(by decide +kernel : ∀ w ∈ u_ws RX8 TX8 15, w ∈ lw_tbl) w h, (by decide +kernel : ∀ w ∈ u_ws RX8 TX8 15, goodWord w = true) w h⟩
theorem am_in9 : ∀ w ∈ u_ws RX9 TX9 43, w ∈ am_tb := fun w h => List.mem_filter.mpr ⟨(by decide +kernel : ∀ w ∈ u_ws RX9 TX9 43, w ∈ lw_tbl) w h, (by decide +kernel : ∀ w ∈ u_ws RX9 TX9 43, goodWord w = true) w h⟩
def am_nw : List Cond := [(Cond.methodLinkNest "PairingHall" (9 : Nat) ({ cls := "PairingHall$Log", name := "<init>", desc := "()V" } : MethodName) "PairingHall"), (Cond.methodLinkNest "PairingHall" (18 : Nat) ({ cls := "PairingHall$Roster", name := "<init>", desc := "()V" } : MethodName) "PairingHall"), (Cond.methodLinkNest "PairingHall" (37 : Nat) ({ cls := "PairingHall$Table", name := "<init>", desc := "()V" } : MethodName) "PairingHall"), (Cond.methodLinkNest "PairingHall" (44 : Nat) ({ cls := "PairingHall$Drawing", name := "<init>", desc := "()V" } : MethodName) "PairingHall"), (Cond.methodLinkNest "PairingHall" (51 : Nat) ({ cls := "PairingHall$Ratings", name := "<init>", desc := "()V" } : MethodName) "PairingHall"), (Cond.methodLinkNest "PairingHall" (58 : Nat) ({ cls := "PairingHall$Plans", name := "<init>", desc := "()V" } : MethodName) "PairingHall"), (Cond.methodLinkNest "PairingHall" (65 : Nat) ({ cls := "PairingHall$Report", name := "<init>", desc := "()V" } : MethodName) "PairingHall"), (Cond.methodLinkNest "PairingHall" (87 : Nat) ({ cls := "PairingHall$Tournament", name := "<init>", desc := "()V" } : MethodName) "PairingHall"), Cond.arrayOver (.object RX7)]
end
section
/-! THE MACHINE IN SMALL: a world of cells numbered 0, 1, .. (cell k lies at b + k), values whose references are such numbers, locals as a list, a judgement am_V that stands for W, a contract am_X that stands for Met. A float stands for the script (the law alone has it). -/
abbrev am_H : Type := (Nat → va_E) × Nat × Nat
/-- a method: name, bytes, locals, answer's type, class, instructions (instruction, length, next place, targets) -/
abbrev am_M : Type := MethodName × ByteArray × Nat × Option FieldType × Nat × (Nat → Option (Instr × Nat × Nat × List Nat))
def am_v (b bs : Nat) : Value → Value
  | .ref k => .ref (b + k)
  | .float _ => .ref bs
  | v => v
def am_x (b : Nat) : vp_A → vp_A
  | (n, .inr (.inr (.inr (.inr f)))) => (n, .inr (.inr (.inr (.inr (fun j => (f j).map (fun k => b + k))))))
  | x => x
def am_e (b bs : Nat) (cA : Nat → ClassId) : va_E → va_E
  | .inl a => .inl (cA a.1, am_x b a.2)
  | .inr o => .inr (o.1, o.2.map (am_v b bs))
def am_u (h : am_H) (k : Nat) (e : va_E) : am_H := (fun j => if j = k then e else h.1 j, h.2)
def am_n (h : am_H) (e : va_E) (w : Nat) : am_H := (fun j => if j = h.2.1 then e else h.1 j, h.2.1 + 1, h.2.2 + w)
def am_P (D : va_G) (cA : Nat → ClassId) (b bs : Nat) (h : am_H) (H : Heap) : Prop := H.size = b + h.2.1 ∧ ∀ k, k < h.2.1 → va_at D am_cl (b + k, am_e b bs cA (h.1 k)) H
def am_K (D : va_G) (cA : Nat → ClassId) (U : State) : Prop := va_K D am_cl [(cA 0, .int), (cA 1, .boolean), (cA 2, .object RX7)] U ∧ ∀ w ∈ am_nw, va_Nw w U
def am_L (b bs nL : Nat) (L : List (Option Value)) (ls : Array Slot) : Prop := ls.size = nL ∧ lv_wf ls ∧ ∀ (i : Nat) (v : Value), L[i]? = some (some v) → v.category = 1 ∧ ls[i]? = some (.val (am_v b bs v))
def am_off : Instr → List Int
  | .goto o => [o]
  | .if_icmp _ o => [o]
  | .ifCond _ o => [o]
  | .tableswitch d _ _ os => d :: os.toList
  | _ => []
def am_ok (M : am_M) : Prop := ∀ (pc : Nat) (q : Instr × Nat × Nat × List Nat), M.2.2.2.2.2 pc = some q → decode M.2.1 pc = .ok (q.1, q.2.1) ∧ q.2.2.1 = pc + q.2.1 ∧ q.2.2.2.map (fun t : Nat => (t : Int)) = (am_off q.1).map (fun o : Int => (pc : Int) + o)
def am_rm (d mc ms : Nat) : Room := { frames := d, cells := mc, slots := ms, locals := 40 * d }
def am_r (ret : Option FieldType) (r : Int32) : Option Value := match ret with
  | none => none
  | some _ => some (.int r)
def am_Q (ret : Option FieldType) (D : va_G) (cA : Nat → ClassId) (b bs n z : Nat) (post : Int32 → am_H → Prop) : Array Value → State → Outcome → State → Prop := fun _ st oc t =>
  (∃ (r : Int32) (h : am_H), oc = .returned (am_r ret r) ∧ post r h ∧ h.2.1 = n ∧ h.2.2 = z ∧ am_P D cA b bs h t.heap ∧ am_K D cA t) ∧ va_F (fun q => b ≤ q) st t
/-- all that is known of a run of M at a place: budgets, tables, world, locals -/
def am_Re (M : am_M) (sc : Nat × (Nat → Int32)) (d mc ms n0 z0 : Nat) (p : Program) (R : Room) (s : State) (m : MethodId) (args : Array Value) (meth : Method) (c : Code) (D : va_G) (cA : Nat → ClassId) (b bs : Nat) (H : Heap) (locs : List Loc) (ls : Array Slot) (cells slots : Nat) (L : List (Option Value)) (h : am_H) : Prop :=
  (am_ok M ∧ p.tables.exec = Jvm.exec ∧ c.code = M.2.1 ∧ meth.sig.returnType = M.2.2.2.1 ∧ c.maxLocals = M.2.2.1 ∧ s.vm.findClass (am_R M.2.2.2.2.1) = some m.cls ∧ meth.locks = false ∧ meth.name = M.1.name ∧ (∀ w ∈ am_tb, w.before args s = true)) ∧
  (d ≤ R.frames ∧ 40 * d ≤ R.locals ∧ mc ≤ R.cells ∧ ms ≤ R.slots) ∧ am_K D cA s ∧ (M.2.2.2.2.1 = 10 → va_X bs sc.1 sc.2 s s.heap ∧ bs < s.heap.size ∧ bs < b) ∧ (b ≤ s.heap.size ∧ s.heap.size = b + n0) ∧
  am_P D cA b bs h H ∧ va_S (fun q => b ≤ q) s.heap H locs ∧ am_L b bs M.2.2.1 L ls ∧ cells + n0 = h.2.1 ∧ slots + z0 = h.2.2 ∧ h.2.1 ≤ n0 + mc ∧ h.2.2 ≤ z0 + ms
/-- what is asked of a return: Q behind it -/
def am_End (M : am_M) (mc ms n0 z0 : Nat) (post : Int32 → am_H → Prop) (p : Program) (l : Launch) (e : Env) (R : Room) (s : State) (m : MethodId) (args : Array Value) (below : List Frame) (meth : Method) (c : Code) (D : va_G) (cA : Nat → ClassId) (b bs : Nat) (Q : State → Prop) : Prop :=
  ∀ (r : Int32) (h : am_H) (pc : Nat) (H : Heap) (locs : List Loc) (ls : Array Slot) (cells slots : Nat), decode M.2.1 pc = .ok (match M.2.2.2.1 with | none => Instr.return_ | some _ => Instr.ireturn, 1) → post r h → h.2.1 = n0 + mc → h.2.2 = z0 + ms → cells = mc → slots = ms →
    (M.2.2.2.1 = some .boolean → r = 0 ∨ r = 1) → am_P D cA b bs h H → va_S (fun q => b ≤ q) s.heap H locs → W p l e R s m args below meth c H locs cells slots Q (F0 m pc ls (am_r M.2.2.2.1 r).toList)
def am_V (M : am_M) (sc : Nat × (Nat → Int32)) (d mc ms n0 z0 : Nat) (post : Int32 → am_H → Prop) (pc : Nat) (L : List (Option Value)) (st : List Value) (h : am_H) : Prop :=
  ∀ (p : Program) (l : Launch) (e : Env) (R : Room) (s : State) (m : MethodId) (args : Array Value) (below : List Frame) (meth : Method) (c : Code) (D : va_G) (cA : Nat → ClassId) (b bs : Nat) (H : Heap) (locs : List Loc) (ls : Array Slot) (cells slots : Nat) (Q : State → Prop),
    am_Re M sc d mc ms n0 z0 p R s m args meth c D cA b bs H locs ls cells slots L h → am_End M mc ms n0 z0 post p l e R s m args below meth c D cA b bs Q → W p l e R s m args below meth c H locs cells slots Q (F0 m pc ls (st.map (am_v b bs)))
/-- the contract of M: from these values and this world it comes to an end, with post of answer and world -/
def am_X (M : am_M) (d mc ms : Nat) (As : List Value) (h : am_H) (post : Int32 → am_H → Prop) : Prop :=
  ∃ d', d' ≤ d ∧ ∀ (l : Launch) (D : va_G) (cA : Nat → ClassId) (b bs : Nat), Met l M.1 (.code M.1 M.2.1 M.2.2.1 M.2.2.2.1 :: am_tb) (am_rm d' mc ms) (va_Pc (As.map (am_v b bs)) (fun U => am_P D cA b bs h U.heap ∧ am_K D cA U)) (am_Q M.2.2.2.1 D cA b bs (h.2.1 + mc) (h.2.2 + ms) post) mc ms (fun q => b ≤ q)
theorem am_X.mono {M : am_M} {d d2 mc ms : Nat} {As : List Value} {h : am_H} {post : Int32 → am_H → Prop} (hX : am_X M d mc ms As h post) (hd : d ≤ d2) : am_X M d2 mc ms As h post := by
  obtain ⟨d', h1, h2⟩ := hX
  exact ⟨d', Nat.le_trans h1 hd, h2⟩
theorem am_P.put {D : va_G} {cA : Nat → ClassId} {b bs k : Nat} {h : am_H} {H H1 : Heap} {e : va_E} (hP : am_P D cA b bs h H) (he : va_at D am_cl (b + k, am_e b bs cA e) H1) (z : H1.size = H.size) (oq : ∀ q : Nat, q ≠ b + k → H1[q]? = H[q]?) : am_P D cA b bs (am_u h k e) H1 := by
  refine ⟨z.trans hP.1, fun j hj => ?_⟩
  show va_at D am_cl (b + j, am_e b bs cA (if j = k then e else h.1 j)) H1
  by_cases hjk : j = k
  · subst hjk
    rw [if_pos rfl]
    exact he
  · rw [if_neg hjk]
    exact (hP.2 j hj).kept (oq _ (by show b + j ≠ b + k; omega))
theorem am_P.new {D : va_G} {cA : Nat → ClassId} {b bs w : Nat} {h : am_H} {H H1 : Heap} {e : va_E} (hP : am_P D cA b bs h H) (he : va_at D am_cl (H.size, am_e b bs cA e) H1) (z : H1.size = H.size + 1) (oq : ∀ q : Nat, q < H.size → H1[q]? = H[q]?) : am_P D cA b bs (am_n h e w) H1 := by
  refine ⟨?_, fun j hj => ?_⟩
  · show H1.size = b + (h.2.1 + 1)
    rw [z, hP.1]
    omega
  · have hj : j < h.2.1 + 1 := hj
    show va_at D am_cl (b + j, am_e b bs cA (if j = h.2.1 then e else h.1 j)) H1
    by_cases hjk : j = h.2.1
    · subst hjk
      rw [if_pos rfl, ← hP.1]
      exact he
    · rw [if_neg hjk]
      exact (hP.2 j (by omega)).kept (oq _ (by show b + j < H.size; rw [hP.1]; omega))
theorem am_nw_moved {s U : State} (hW : s.WarmedH U.vm) (h : ∀ w ∈ am_nw, va_Nw w s) : ∀ w ∈ am_nw, va_Nw w U := by
  intro w hw
  have h1 := h w hw
  simp only [am_nw, List.mem_cons, List.not_mem_nil, or_false] at hw
  rcases hw with rfl | rfl | rfl | rfl | rfl | rfl | rfl | rfl | rfl
  all_goals first | exact va_Nw.warmM hW h1 | exact va_AO.moved hW.alike h1
theorem am_nw_same {u U : State} (hv : u.vm = U.vm) (h : ∀ w ∈ am_nw, va_Nw w u) : ∀ w ∈ am_nw, va_Nw w U := by
  intro w hw
  have h1 := h w hw
  simp only [am_nw, List.mem_cons, List.not_mem_nil, or_false] at hw
  rcases hw with rfl | rfl | rfl | rfl | rfl | rfl | rfl | rfl | rfl
  all_goals first | exact va_Nw.same rfl hv h1 | exact va_AO.moved (hv ▸ Vm.Alike.refl u.vm) h1
theorem am_K.moved {D : va_G} {cA : Nat → ClassId} {s U : State} (hW : s.WarmedH U.vm) (h : am_K D cA s) : am_K D cA U := ⟨va_K.moved hW.alike h.1, am_nw_moved hW h.2⟩
theorem am_K.same {D : va_G} {cA : Nat → ClassId} {u U : State} (hv : u.vm = U.vm) (h : am_K D cA u) : am_K D cA U := ⟨va_K.moved (hv ▸ Vm.Alike.refl u.vm) h.1, am_nw_same hv h.2⟩
/-- the locals as the kit lists them -/
def am_l (b bs : Nat) : Nat → List (Option Value) → List (Nat × Value)
  | _, [] => []
  | i, none :: L => am_l b bs (i + 1) L
  | i, some v :: L => (i, am_v b bs v) :: am_l b bs (i + 1) L
theorem am_l_mem {b bs : Nat} : ∀ (L : List (Option Value)) (i : Nat) (q : Nat × Value), q ∈ am_l b bs i L ↔ ∃ (j : Nat) (v : Value), L[j]? = some (some v) ∧ q = (i + j, am_v b bs v)
  | [], i, q => by simp [am_l]
  | none :: L, i, q => by
    rw [am_l, am_l_mem L (i + 1) q]
    constructor
    · rintro ⟨j, v, h1, h2⟩
      exact ⟨j + 1, v, by simpa using h1, by rw [h2]; congr 1; omega⟩
    · rintro ⟨j, v, h1, h2⟩
      cases j with
      | zero => simp at h1
      | succ j => exact ⟨j, v, by simpa using h1, by rw [h2]; congr 1; omega⟩
  | some w :: L, i, q => by
    rw [am_l, List.mem_cons, am_l_mem L (i + 1) q]
    constructor
    · rintro (h | ⟨j, v, h1, h2⟩)
      · exact ⟨0, w, by simp, by rw [h]; rfl⟩
      · exact ⟨j + 1, v, by simpa using h1, by rw [h2]; congr 1; omega⟩
    · rintro ⟨j, v, h1, h2⟩
      cases j with
      | zero =>
        simp at h1
        subst h1
        exact Or.inl h2
      | succ j => exact Or.inr ⟨j, v, by simpa using h1, by rw [h2]; congr 1; omega⟩
theorem am_cat {b bs : Nat} {v : Value} (h : v.category = 1) : (am_v b bs v).category = 1 := by
  cases v <;> first | exact h | rfl
theorem am_L.has {b bs nL : Nat} {L : List (Option Value)} {ls : Array Slot} (h : am_L b bs nL L ls) : lv_has ls nL (am_l b bs 0 L) := by
  refine ⟨h.1, h.2.1, fun q hq => ?_⟩
  obtain ⟨j, v, h1, rfl⟩ := (am_l_mem L 0 q).mp hq
  rw [Nat.zero_add]
  exact (h.2.2 j v h1).2
theorem am_L.get {b bs nL : Nat} {L : List (Option Value)} {ls : Array Slot} (h : am_L b bs nL L ls) {i : Nat} {v : Value} (hi : L[i]? = some (some v)) : ls[i]? = some (.val (am_v b bs v)) := (h.2.2 i v hi).2
theorem am_L.set {b bs nL i : Nat} {L : List (Option Value)} {ls ls' : Array Slot} {v : Value} (h : am_L b bs nL L ls) (hc : v.category = 1) (h' : lv_has ls' nL ((i, am_v b bs v) :: (am_l b bs 0 L).filter (fun q => !(q.1 == i) && !(q.1 + 1 == i && q.2.category == 2)))) : am_L b bs nL (L.set i (some v)) ls' := by
  refine ⟨h'.1, h'.2.1, fun j w hj => ?_⟩
  by_cases hij : j = i
  · subst hij
    have hw : w = v := by
      by_cases hl : j < L.length
      · rw [List.getElem?_set_self hl] at hj
        exact (Option.some.inj (Option.some.inj hj)).symm
      · rw [List.getElem?_eq_none (by simp; omega)] at hj
        cases hj
    subst hw
    exact ⟨hc, h'.2.2 _ List.mem_cons_self⟩
  · rw [List.getElem?_set_ne (Ne.symm hij)] at hj
    refine ⟨(h.2.2 j w hj).1, h'.2.2 (j, am_v b bs w) (List.mem_cons_of_mem _ (List.mem_filter.mpr ⟨(am_l_mem L 0 _).mpr ⟨j, w, hj, by rw [Nat.zero_add]⟩, ?_⟩))⟩
    simp [hij, am_cat (h.2.2 j w hj).1]
theorem am_S_lt {b : Nat} {H0 H : Heap} {locs : List Loc} (h : va_S (fun q => b ≤ q) H0 H locs) : H0.size ≤ H.size := h.1
end
section
/-! The rows of the small machine: one an instruction; goal first. Written by gen/p03.py. -/
section AMV
variable {M : am_M} {sc : Nat × (Nat → Int32)} {d mc ms n0 z0 : Nat} {post : Int32 → am_H → Prop} {pc nx : Nat} {L : List (Option Value)} {st : List Value} {h : am_H}
theorem am_iconst {n : Int} (hc : M.2.2.2.2.2 pc = some (.iconst n, 1, nx, [])) (k : am_V M sc d mc ms n0 z0 post nx L (.int (Int32.ofInt n) :: st) h) : am_V M sc d mc ms n0 z0 post pc L (st) h := by
  intro p l e R s m args below meth c D cA b bs H locs ls cells slots Q Re En
  obtain ⟨h1, h2, h3⟩ := Re.1.1 pc _ hc
  have h2 : nx = pc + 1 := h2
  subst h2
  exact lv_iconst Re.1.2.1 Re.1.2.2.1 h1 rfl (k p l e R s m args below meth c D cA b bs H locs ls cells slots Q Re En)
theorem am_bipush {n : Int} (hc : M.2.2.2.2.2 pc = some (.bipush n, 2, nx, [])) (k : am_V M sc d mc ms n0 z0 post nx L (.int (Int8.ofInt n).toInt32 :: st) h) : am_V M sc d mc ms n0 z0 post pc L (st) h := by
  intro p l e R s m args below meth c D cA b bs H locs ls cells slots Q Re En
  obtain ⟨h1, h2, h3⟩ := Re.1.1 pc _ hc
  have h2 : nx = pc + 2 := h2
  subst h2
  exact lv_bipush Re.1.2.1 Re.1.2.2.1 h1 rfl (k p l e R s m args below meth c D cA b bs H locs ls cells slots Q Re En)
theorem am_sipush {n : Int} (hc : M.2.2.2.2.2 pc = some (.sipush n, 3, nx, [])) (k : am_V M sc d mc ms n0 z0 post nx L (.int (Int16.ofInt n).toInt32 :: st) h) : am_V M sc d mc ms n0 z0 post pc L (st) h := by
  intro p l e R s m args below meth c D cA b bs H locs ls cells slots Q Re En
  obtain ⟨h1, h2, h3⟩ := Re.1.1 pc _ hc
  have h2 : nx = pc + 3 := h2
  subst h2
  exact lv_sipush Re.1.2.1 Re.1.2.2.1 h1 rfl (k p l e R s m args below meth c D cA b bs H locs ls cells slots Q Re En)
theorem am_ldc {i : Nat} {v : Int32} (hw : Cond.constant (am_R M.2.2.2.2.1) i v ∈ am_tb) (hc : M.2.2.2.2.2 pc = some (.ldc i, 2, nx, [])) (k : am_V M sc d mc ms n0 z0 post nx L (.int v :: st) h) : am_V M sc d mc ms n0 z0 post pc L (st) h := by
  intro p l e R s m args below meth c D cA b bs H locs ls cells slots Q Re En
  obtain ⟨h1, h2, h3⟩ := Re.1.1 pc _ hc
  have h2 : nx = pc + 2 := h2
  subst h2
  exact lv_ldc Re.1.2.1 Re.1.2.2.1 Re.1.2.2.2.2.2.1 (Re.1.2.2.2.2.2.2.2.2 _ hw) h1 (k p l e R s m args below meth c D cA b bs H locs ls cells slots Q Re En)
theorem am_iload_n {i : Fin 4} {x : Int32} (hc : M.2.2.2.2.2 pc = some (.iload_n i, 1, nx, [])) (hl : L[(i : Nat)]? = some (some (.int x))) (k : am_V M sc d mc ms n0 z0 post nx L (.int x :: st) h) : am_V M sc d mc ms n0 z0 post pc L (st) h := by
  intro p l e R s m args below meth c D cA b bs H locs ls cells slots Q Re En
  obtain ⟨h1, h2, h3⟩ := Re.1.1 pc _ hc
  have h2 : nx = pc + 1 := h2
  subst h2
  exact lv_iload_n Re.1.2.1 Re.1.2.2.1 h1 rfl (Re.2.2.2.2.2.2.2.1.get hl) (k p l e R s m args below meth c D cA b bs H locs ls cells slots Q Re En)
theorem am_iload {i : Nat} {x : Int32} (hc : M.2.2.2.2.2 pc = some (.iload i, 2, nx, [])) (hl : L[i]? = some (some (.int x))) (k : am_V M sc d mc ms n0 z0 post nx L (.int x :: st) h) : am_V M sc d mc ms n0 z0 post pc L (st) h := by
  intro p l e R s m args below meth c D cA b bs H locs ls cells slots Q Re En
  obtain ⟨h1, h2, h3⟩ := Re.1.1 pc _ hc
  have h2 : nx = pc + 2 := h2
  subst h2
  exact lv_iload Re.1.2.1 Re.1.2.2.1 h1 (Re.2.2.2.2.2.2.2.1.get hl) (k p l e R s m args below meth c D cA b bs H locs ls cells slots Q Re En)
theorem am_aload_n {i : Fin 4} {x : Nat} (hc : M.2.2.2.2.2 pc = some (.aload_n i, 1, nx, [])) (hl : L[(i : Nat)]? = some (some (.ref x))) (k : am_V M sc d mc ms n0 z0 post nx L (.ref x :: st) h) : am_V M sc d mc ms n0 z0 post pc L (st) h := by
  intro p l e R s m args below meth c D cA b bs H locs ls cells slots Q Re En
  obtain ⟨h1, h2, h3⟩ := Re.1.1 pc _ hc
  have h2 : nx = pc + 1 := h2
  subst h2
  exact lv_aload_n Re.1.2.1 Re.1.2.2.1 h1 rfl (Re.2.2.2.2.2.2.2.1.get hl) (k p l e R s m args below meth c D cA b bs H locs ls cells slots Q Re En)
theorem am_aload {i : Nat} {x : Nat} (hc : M.2.2.2.2.2 pc = some (.aload i, 2, nx, [])) (hl : L[i]? = some (some (.ref x))) (k : am_V M sc d mc ms n0 z0 post nx L (.ref x :: st) h) : am_V M sc d mc ms n0 z0 post pc L (st) h := by
  intro p l e R s m args below meth c D cA b bs H locs ls cells slots Q Re En
  obtain ⟨h1, h2, h3⟩ := Re.1.1 pc _ hc
  have h2 : nx = pc + 2 := h2
  subst h2
  exact lv_aload Re.1.2.1 Re.1.2.2.1 h1 (Re.2.2.2.2.2.2.2.1.get hl) (k p l e R s m args below meth c D cA b bs H locs ls cells slots Q Re En)
theorem am_sload {i : Fin 4} {x : UInt32} (hc : M.2.2.2.2.2 pc = some (.aload_n i, 1, nx, [])) (hl : L[(i : Nat)]? = some (some (.float x))) (k : am_V M sc d mc ms n0 z0 post nx L (.float x :: st) h) : am_V M sc d mc ms n0 z0 post pc L (st) h := by
  intro p l e R s m args below meth c D cA b bs H locs ls cells slots Q Re En
  obtain ⟨h1, h2, h3⟩ := Re.1.1 pc _ hc
  have h2 : nx = pc + 1 := h2
  subst h2
  exact lv_aload_n Re.1.2.1 Re.1.2.2.1 h1 rfl (Re.2.2.2.2.2.2.2.1.get hl) (k p l e R s m args below meth c D cA b bs H locs ls cells slots Q Re En)
theorem am_istore_n {i : Fin 4} {x : Int32} (hc : M.2.2.2.2.2 pc = some (.istore_n i, 1, nx, [])) (hn : (i : Nat) < M.2.2.1) (k : am_V M sc d mc ms n0 z0 post nx (L.set (i : Nat) (some (.int x))) (st) h) : am_V M sc d mc ms n0 z0 post pc L (.int x :: st) h := by
  intro p l e R s m args below meth c D cA b bs H locs ls cells slots Q Re En
  obtain ⟨h1, h2, h3⟩ := Re.1.1 pc _ hc
  have h2 : nx = pc + 1 := h2
  subst h2
  obtain ⟨r1, r2, r3, r4, r5, r6, r7, r8, r9⟩ := Re
  exact lv_istore_n r1.2.1 r1.2.2.1 h1 rfl (am_L.has r8) hn rfl (fun ls2 h9 => k p l e R s m args below meth c D cA b bs H locs ls2 cells slots Q ⟨r1, r2, r3, r4, r5, r6, r7, am_L.set r8 rfl h9, r9⟩ En)
theorem am_istore {i : Nat} {x : Int32} (hc : M.2.2.2.2.2 pc = some (.istore i, 2, nx, [])) (hn : i < M.2.2.1) (k : am_V M sc d mc ms n0 z0 post nx (L.set i (some (.int x))) (st) h) : am_V M sc d mc ms n0 z0 post pc L (.int x :: st) h := by
  intro p l e R s m args below meth c D cA b bs H locs ls cells slots Q Re En
  obtain ⟨h1, h2, h3⟩ := Re.1.1 pc _ hc
  have h2 : nx = pc + 2 := h2
  subst h2
  obtain ⟨r1, r2, r3, r4, r5, r6, r7, r8, r9⟩ := Re
  exact lv_istore r1.2.1 r1.2.2.1 h1 (am_L.has r8) hn rfl (fun ls2 h9 => k p l e R s m args below meth c D cA b bs H locs ls2 cells slots Q ⟨r1, r2, r3, r4, r5, r6, r7, am_L.set r8 rfl h9, r9⟩ En)
theorem am_astore_n {i : Fin 4} {x : Nat} (hc : M.2.2.2.2.2 pc = some (.astore_n i, 1, nx, [])) (hn : (i : Nat) < M.2.2.1) (k : am_V M sc d mc ms n0 z0 post nx (L.set (i : Nat) (some (.ref x))) (st) h) : am_V M sc d mc ms n0 z0 post pc L (.ref x :: st) h := by
  intro p l e R s m args below meth c D cA b bs H locs ls cells slots Q Re En
  obtain ⟨h1, h2, h3⟩ := Re.1.1 pc _ hc
  have h2 : nx = pc + 1 := h2
  subst h2
  obtain ⟨r1, r2, r3, r4, r5, r6, r7, r8, r9⟩ := Re
  exact lv_astore_n r1.2.1 r1.2.2.1 h1 rfl (am_L.has r8) hn rfl (fun ls2 h9 => k p l e R s m args below meth c D cA b bs H locs ls2 cells slots Q ⟨r1, r2, r3, r4, r5, r6, r7, am_L.set r8 rfl h9, r9⟩ En)
theorem am_astore {i : Nat} {x : Nat} (hc : M.2.2.2.2.2 pc = some (.astore i, 2, nx, [])) (hn : i < M.2.2.1) (k : am_V M sc d mc ms n0 z0 post nx (L.set i (some (.ref x))) (st) h) : am_V M sc d mc ms n0 z0 post pc L (.ref x :: st) h := by
  intro p l e R s m args below meth c D cA b bs H locs ls cells slots Q Re En
  obtain ⟨h1, h2, h3⟩ := Re.1.1 pc _ hc
  have h2 : nx = pc + 2 := h2
  subst h2
  obtain ⟨r1, r2, r3, r4, r5, r6, r7, r8, r9⟩ := Re
  exact lv_astore r1.2.1 r1.2.2.1 h1 (am_L.has r8) hn rfl (fun ls2 h9 => k p l e R s m args below meth c D cA b bs H locs ls2 cells slots Q ⟨r1, r2, r3, r4, r5, r6, r7, am_L.set r8 rfl h9, r9⟩ En)
theorem am_iinc {i : Nat} {n : Int} {x : Int32} (hc : M.2.2.2.2.2 pc = some (.iinc i n, 3, nx, [])) (hl : L[i]? = some (some (.int x))) (hn : i < M.2.2.1) (k : am_V M sc d mc ms n0 z0 post nx (L.set i (some (.int (x + Int32.ofInt n)))) (st) h) : am_V M sc d mc ms n0 z0 post pc L (st) h := by
  intro p l e R s m args below meth c D cA b bs H locs ls cells slots Q Re En
  obtain ⟨h1, h2, h3⟩ := Re.1.1 pc _ hc
  have h2 : nx = pc + 3 := h2
  subst h2
  obtain ⟨r1, r2, r3, r4, r5, r6, r7, r8, r9⟩ := Re
  have hm : (i, Value.int x) ∈ am_l b bs 0 L := (am_l_mem L 0 _).mpr ⟨i, .int x, hl, by rw [Nat.zero_add]; rfl⟩
  obtain ⟨j, hj⟩ := List.getElem?_of_mem hm
  exact lv_iinc r1.2.1 r1.2.2.1 h1 (am_L.has r8) hj rfl hn rfl (fun ls2 h9 => k p l e R s m args below meth c D cA b bs H locs ls2 cells slots Q ⟨r1, r2, r3, r4, r5, r6, r7, am_L.set (v := .int (x + Int32.ofInt n)) r8 rfl h9, r9⟩ En)
theorem am_iadd {x y : Int32} (hc : M.2.2.2.2.2 pc = some (.iadd, 1, nx, [])) (k : am_V M sc d mc ms n0 z0 post nx L (.int (x + y) :: st) h) : am_V M sc d mc ms n0 z0 post pc L (.int y :: .int x :: st) h := by
  intro p l e R s m args below meth c D cA b bs H locs ls cells slots Q Re En
  obtain ⟨h1, h2, h3⟩ := Re.1.1 pc _ hc
  have h2 : nx = pc + 1 := h2
  subst h2
  exact lv_iadd Re.1.2.1 Re.1.2.2.1 h1 (k p l e R s m args below meth c D cA b bs H locs ls cells slots Q Re En)
theorem am_isub {x y : Int32} (hc : M.2.2.2.2.2 pc = some (.isub, 1, nx, [])) (k : am_V M sc d mc ms n0 z0 post nx L (.int (x - y) :: st) h) : am_V M sc d mc ms n0 z0 post pc L (.int y :: .int x :: st) h := by
  intro p l e R s m args below meth c D cA b bs H locs ls cells slots Q Re En
  obtain ⟨h1, h2, h3⟩ := Re.1.1 pc _ hc
  have h2 : nx = pc + 1 := h2
  subst h2
  exact lv_isub Re.1.2.1 Re.1.2.2.1 h1 (k p l e R s m args below meth c D cA b bs H locs ls cells slots Q Re En)
theorem am_imul {x y : Int32} (hc : M.2.2.2.2.2 pc = some (.imul, 1, nx, [])) (k : am_V M sc d mc ms n0 z0 post nx L (.int (x * y) :: st) h) : am_V M sc d mc ms n0 z0 post pc L (.int y :: .int x :: st) h := by
  intro p l e R s m args below meth c D cA b bs H locs ls cells slots Q Re En
  obtain ⟨h1, h2, h3⟩ := Re.1.1 pc _ hc
  have h2 : nx = pc + 1 := h2
  subst h2
  exact lv_imul Re.1.2.1 Re.1.2.2.1 h1 (k p l e R s m args below meth c D cA b bs H locs ls cells slots Q Re En)
theorem am_iand {x y : Int32} (hc : M.2.2.2.2.2 pc = some (.iand, 1, nx, [])) (k : am_V M sc d mc ms n0 z0 post nx L (.int (x &&& y) :: st) h) : am_V M sc d mc ms n0 z0 post pc L (.int y :: .int x :: st) h := by
  intro p l e R s m args below meth c D cA b bs H locs ls cells slots Q Re En
  obtain ⟨h1, h2, h3⟩ := Re.1.1 pc _ hc
  have h2 : nx = pc + 1 := h2
  subst h2
  exact lv_iand Re.1.2.1 Re.1.2.2.1 h1 (k p l e R s m args below meth c D cA b bs H locs ls cells slots Q Re En)
theorem am_ixor {x y : Int32} (hc : M.2.2.2.2.2 pc = some (.ixor, 1, nx, [])) (k : am_V M sc d mc ms n0 z0 post nx L (.int (x ^^^ y) :: st) h) : am_V M sc d mc ms n0 z0 post pc L (.int y :: .int x :: st) h := by
  intro p l e R s m args below meth c D cA b bs H locs ls cells slots Q Re En
  obtain ⟨h1, h2, h3⟩ := Re.1.1 pc _ hc
  have h2 : nx = pc + 1 := h2
  subst h2
  exact lv_ixor Re.1.2.1 Re.1.2.2.1 h1 (k p l e R s m args below meth c D cA b bs H locs ls cells slots Q Re En)
theorem am_ishl {x y : Int32} (hc : M.2.2.2.2.2 pc = some (.ishl, 1, nx, [])) (k : am_V M sc d mc ms n0 z0 post nx L (.int (x <<< (y &&& 31)) :: st) h) : am_V M sc d mc ms n0 z0 post pc L (.int y :: .int x :: st) h := by
  intro p l e R s m args below meth c D cA b bs H locs ls cells slots Q Re En
  obtain ⟨h1, h2, h3⟩ := Re.1.1 pc _ hc
  have h2 : nx = pc + 1 := h2
  subst h2
  exact lv_ishl Re.1.2.1 Re.1.2.2.1 h1 (k p l e R s m args below meth c D cA b bs H locs ls cells slots Q Re En)
theorem am_ishr {x y : Int32} (hc : M.2.2.2.2.2 pc = some (.ishr, 1, nx, [])) (k : am_V M sc d mc ms n0 z0 post nx L (.int (x >>> (y &&& 31)) :: st) h) : am_V M sc d mc ms n0 z0 post pc L (.int y :: .int x :: st) h := by
  intro p l e R s m args below meth c D cA b bs H locs ls cells slots Q Re En
  obtain ⟨h1, h2, h3⟩ := Re.1.1 pc _ hc
  have h2 : nx = pc + 1 := h2
  subst h2
  exact lv_ishr Re.1.2.1 Re.1.2.2.1 h1 (k p l e R s m args below meth c D cA b bs H locs ls cells slots Q Re En)
theorem am_idiv {x y : Int32} (hc : M.2.2.2.2.2 pc = some (.idiv, 1, nx, [])) (hz : ¬ y = 0) (k : am_V M sc d mc ms n0 z0 post nx L (.int (x / y) :: st) h) : am_V M sc d mc ms n0 z0 post pc L (.int y :: .int x :: st) h := by
  intro p l e R s m args below meth c D cA b bs H locs ls cells slots Q Re En
  obtain ⟨h1, h2, h3⟩ := Re.1.1 pc _ hc
  have h2 : nx = pc + 1 := h2
  subst h2
  exact lv_idiv Re.1.2.1 Re.1.2.2.1 h1 hz (k p l e R s m args below meth c D cA b bs H locs ls cells slots Q Re En)
theorem am_irem {x y : Int32} (hc : M.2.2.2.2.2 pc = some (.irem, 1, nx, [])) (hz : ¬ y = 0) (k : am_V M sc d mc ms n0 z0 post nx L (.int (x - x / y * y) :: st) h) : am_V M sc d mc ms n0 z0 post pc L (.int y :: .int x :: st) h := by
  intro p l e R s m args below meth c D cA b bs H locs ls cells slots Q Re En
  obtain ⟨h1, h2, h3⟩ := Re.1.1 pc _ hc
  have h2 : nx = pc + 1 := h2
  subst h2
  exact lv_irem Re.1.2.1 Re.1.2.2.1 h1 hz (k p l e R s m args below meth c D cA b bs H locs ls cells slots Q Re En)
theorem am_ineg {x : Int32} (hc : M.2.2.2.2.2 pc = some (.ineg, 1, nx, [])) (k : am_V M sc d mc ms n0 z0 post nx L (.int (-x) :: st) h) : am_V M sc d mc ms n0 z0 post pc L (.int x :: st) h := by
  intro p l e R s m args below meth c D cA b bs H locs ls cells slots Q Re En
  obtain ⟨h1, h2, h3⟩ := Re.1.1 pc _ hc
  have h2 : nx = pc + 1 := h2
  subst h2
  exact lv_ineg Re.1.2.1 Re.1.2.2.1 h1 (k p l e R s m args below meth c D cA b bs H locs ls cells slots Q Re En)
theorem am_dup {v : Value} (hc : M.2.2.2.2.2 pc = some (.dup, 1, nx, [])) (hv : v.category = 1) (k : am_V M sc d mc ms n0 z0 post nx L (v :: v :: st) h) : am_V M sc d mc ms n0 z0 post pc L (v :: st) h := by
  intro p l e R s m args below meth c D cA b bs H locs ls cells slots Q Re En
  obtain ⟨h1, h2, h3⟩ := Re.1.1 pc _ hc
  have h2 : nx = pc + 1 := h2
  subst h2
  exact lv_dup Re.1.2.1 Re.1.2.2.1 h1 (am_cat hv) (k p l e R s m args below meth c D cA b bs H locs ls cells slots Q Re En)
theorem am_pop {v : Value} (hc : M.2.2.2.2.2 pc = some (.pop, 1, nx, [])) (hv : v.category = 1) (k : am_V M sc d mc ms n0 z0 post nx L (st) h) : am_V M sc d mc ms n0 z0 post pc L (v :: st) h := by
  intro p l e R s m args below meth c D cA b bs H locs ls cells slots Q Re En
  obtain ⟨h1, h2, h3⟩ := Re.1.1 pc _ hc
  have h2 : nx = pc + 1 := h2
  subst h2
  exact lv_pop Re.1.2.1 Re.1.2.2.1 h1 (am_cat hv) (k p l e R s m args below meth c D cA b bs H locs ls cells slots Q Re En)
theorem am_dup2 {v w : Value} (hc : M.2.2.2.2.2 pc = some (.dup2, 1, nx, [])) (hv : v.category = 1) (hw : w.category = 1) (k : am_V M sc d mc ms n0 z0 post nx L (v :: w :: v :: w :: st) h) : am_V M sc d mc ms n0 z0 post pc L (v :: w :: st) h := by
  intro p l e R s m args below meth c D cA b bs H locs ls cells slots Q Re En
  obtain ⟨h1, h2, h3⟩ := Re.1.1 pc _ hc
  have h2 : nx = pc + 1 := h2
  subst h2
  exact lv_dup2_11 Re.1.2.1 Re.1.2.2.1 h1 (am_cat hv) (am_cat hw) (k p l e R s m args below meth c D cA b bs H locs ls cells slots Q Re En)
theorem am_icmp_eq {x y : Int32} {o : Int} {tg : Nat} (hc : M.2.2.2.2.2 pc = some (.if_icmp .eq o, 3, nx, [tg])) (kt : x = y → am_V M sc d mc ms n0 z0 post tg L (st) h) (kf : ¬ x = y → am_V M sc d mc ms n0 z0 post nx L (st) h) : am_V M sc d mc ms n0 z0 post pc L (.int y :: .int x :: st) h := by
  intro p l e R s m args below meth c D cA b bs H locs ls cells slots Q Re En
  obtain ⟨h1, h2, h3⟩ := Re.1.1 pc _ hc
  have h2 : nx = pc + 3 := h2
  subst h2
  have h4 : (pc : Int) + o = (tg : Int) := by simpa [am_off] using h3.symm
  exact lv_icmp_eq Re.1.2.1 Re.1.2.2.1 h1 h4 (fun q => kt q p l e R s m args below meth c D cA b bs H locs ls cells slots Q Re En) (fun q => kf q p l e R s m args below meth c D cA b bs H locs ls cells slots Q Re En)
theorem am_icmp_lt {x y : Int32} {o : Int} {tg : Nat} (hc : M.2.2.2.2.2 pc = some (.if_icmp .lt o, 3, nx, [tg])) (kt : x < y → am_V M sc d mc ms n0 z0 post tg L (st) h) (kf : ¬ x < y → am_V M sc d mc ms n0 z0 post nx L (st) h) : am_V M sc d mc ms n0 z0 post pc L (.int y :: .int x :: st) h := by
  intro p l e R s m args below meth c D cA b bs H locs ls cells slots Q Re En
  obtain ⟨h1, h2, h3⟩ := Re.1.1 pc _ hc
  have h2 : nx = pc + 3 := h2
  subst h2
  have h4 : (pc : Int) + o = (tg : Int) := by simpa [am_off] using h3.symm
  exact lv_icmp_lt Re.1.2.1 Re.1.2.2.1 h1 h4 (fun q => kt q p l e R s m args below meth c D cA b bs H locs ls cells slots Q Re En) (fun q => kf q p l e R s m args below meth c D cA b bs H locs ls cells slots Q Re En)
theorem am_icmp_ge {x y : Int32} {o : Int} {tg : Nat} (hc : M.2.2.2.2.2 pc = some (.if_icmp .ge o, 3, nx, [tg])) (kt : y ≤ x → am_V M sc d mc ms n0 z0 post tg L (st) h) (kf : ¬ y ≤ x → am_V M sc d mc ms n0 z0 post nx L (st) h) : am_V M sc d mc ms n0 z0 post pc L (.int y :: .int x :: st) h := by
  intro p l e R s m args below meth c D cA b bs H locs ls cells slots Q Re En
  obtain ⟨h1, h2, h3⟩ := Re.1.1 pc _ hc
  have h2 : nx = pc + 3 := h2
  subst h2
  have h4 : (pc : Int) + o = (tg : Int) := by simpa [am_off] using h3.symm
  exact lv_icmp_ge Re.1.2.1 Re.1.2.2.1 h1 h4 (fun q => kt q p l e R s m args below meth c D cA b bs H locs ls cells slots Q Re En) (fun q => kf q p l e R s m args below meth c D cA b bs H locs ls cells slots Q Re En)
theorem am_icmp_gt {x y : Int32} {o : Int} {tg : Nat} (hc : M.2.2.2.2.2 pc = some (.if_icmp .gt o, 3, nx, [tg])) (kt : y < x → am_V M sc d mc ms n0 z0 post tg L (st) h) (kf : ¬ y < x → am_V M sc d mc ms n0 z0 post nx L (st) h) : am_V M sc d mc ms n0 z0 post pc L (.int y :: .int x :: st) h := by
  intro p l e R s m args below meth c D cA b bs H locs ls cells slots Q Re En
  obtain ⟨h1, h2, h3⟩ := Re.1.1 pc _ hc
  have h2 : nx = pc + 3 := h2
  subst h2
  have h4 : (pc : Int) + o = (tg : Int) := by simpa [am_off] using h3.symm
  exact lv_icmp_gt Re.1.2.1 Re.1.2.2.1 h1 h4 (fun q => kt q p l e R s m args below meth c D cA b bs H locs ls cells slots Q Re En) (fun q => kf q p l e R s m args below meth c D cA b bs H locs ls cells slots Q Re En)
theorem am_icmp_le {x y : Int32} {o : Int} {tg : Nat} (hc : M.2.2.2.2.2 pc = some (.if_icmp .le o, 3, nx, [tg])) (kt : x ≤ y → am_V M sc d mc ms n0 z0 post tg L (st) h) (kf : ¬ x ≤ y → am_V M sc d mc ms n0 z0 post nx L (st) h) : am_V M sc d mc ms n0 z0 post pc L (.int y :: .int x :: st) h := by
  intro p l e R s m args below meth c D cA b bs H locs ls cells slots Q Re En
  obtain ⟨h1, h2, h3⟩ := Re.1.1 pc _ hc
  have h2 : nx = pc + 3 := h2
  subst h2
  have h4 : (pc : Int) + o = (tg : Int) := by simpa [am_off] using h3.symm
  exact lv_icmp_le Re.1.2.1 Re.1.2.2.1 h1 h4 (fun q => kt q p l e R s m args below meth c D cA b bs H locs ls cells slots Q Re En) (fun q => kf q p l e R s m args below meth c D cA b bs H locs ls cells slots Q Re En)
theorem am_icmp_ne {x y : Int32} {o : Int} {tg : Nat} (hc : M.2.2.2.2.2 pc = some (.if_icmp .ne o, 3, nx, [tg])) (kt : ¬ x = y → am_V M sc d mc ms n0 z0 post tg L (st) h) (kf : x = y → am_V M sc d mc ms n0 z0 post nx L (st) h) : am_V M sc d mc ms n0 z0 post pc L (.int y :: .int x :: st) h := by
  intro p l e R s m args below meth c D cA b bs H locs ls cells slots Q Re En
  obtain ⟨h1, h2, h3⟩ := Re.1.1 pc _ hc
  have h2 : nx = pc + 3 := h2
  subst h2
  have h4 : (pc : Int) + o = (tg : Int) := by simpa [am_off] using h3.symm
  exact lv_icmp_ne Re.1.2.1 Re.1.2.2.1 h1 h4 (fun q => kt q p l e R s m args below meth c D cA b bs H locs ls cells slots Q Re En) (fun q => kf q p l e R s m args below meth c D cA b bs H locs ls cells slots Q Re En)
theorem am_if_eq {x : Int32} {o : Int} {tg : Nat} (hc : M.2.2.2.2.2 pc = some (.ifCond .eq o, 3, nx, [tg])) (kt : x = 0 → am_V M sc d mc ms n0 z0 post tg L (st) h) (kf : ¬ x = 0 → am_V M sc d mc ms n0 z0 post nx L (st) h) : am_V M sc d mc ms n0 z0 post pc L (.int x :: st) h := by
  intro p l e R s m args below meth c D cA b bs H locs ls cells slots Q Re En
  obtain ⟨h1, h2, h3⟩ := Re.1.1 pc _ hc
  have h2 : nx = pc + 3 := h2
  subst h2
  have h4 : (pc : Int) + o = (tg : Int) := by simpa [am_off] using h3.symm
  exact lv_if_eq Re.1.2.1 Re.1.2.2.1 h1 h4 (fun q => kt q p l e R s m args below meth c D cA b bs H locs ls cells slots Q Re En) (fun q => kf q p l e R s m args below meth c D cA b bs H locs ls cells slots Q Re En)
theorem am_if_lt {x : Int32} {o : Int} {tg : Nat} (hc : M.2.2.2.2.2 pc = some (.ifCond .lt o, 3, nx, [tg])) (kt : x < 0 → am_V M sc d mc ms n0 z0 post tg L (st) h) (kf : ¬ x < 0 → am_V M sc d mc ms n0 z0 post nx L (st) h) : am_V M sc d mc ms n0 z0 post pc L (.int x :: st) h := by
  intro p l e R s m args below meth c D cA b bs H locs ls cells slots Q Re En
  obtain ⟨h1, h2, h3⟩ := Re.1.1 pc _ hc
  have h2 : nx = pc + 3 := h2
  subst h2
  have h4 : (pc : Int) + o = (tg : Int) := by simpa [am_off] using h3.symm
  exact lv_if_lt Re.1.2.1 Re.1.2.2.1 h1 h4 (fun q => kt q p l e R s m args below meth c D cA b bs H locs ls cells slots Q Re En) (fun q => kf q p l e R s m args below meth c D cA b bs H locs ls cells slots Q Re En)
theorem am_if_ge {x : Int32} {o : Int} {tg : Nat} (hc : M.2.2.2.2.2 pc = some (.ifCond .ge o, 3, nx, [tg])) (kt : 0 ≤ x → am_V M sc d mc ms n0 z0 post tg L (st) h) (kf : ¬ 0 ≤ x → am_V M sc d mc ms n0 z0 post nx L (st) h) : am_V M sc d mc ms n0 z0 post pc L (.int x :: st) h := by
  intro p l e R s m args below meth c D cA b bs H locs ls cells slots Q Re En
  obtain ⟨h1, h2, h3⟩ := Re.1.1 pc _ hc
  have h2 : nx = pc + 3 := h2
  subst h2
  have h4 : (pc : Int) + o = (tg : Int) := by simpa [am_off] using h3.symm
  exact lv_if_ge Re.1.2.1 Re.1.2.2.1 h1 h4 (fun q => kt q p l e R s m args below meth c D cA b bs H locs ls cells slots Q Re En) (fun q => kf q p l e R s m args below meth c D cA b bs H locs ls cells slots Q Re En)
theorem am_if_gt {x : Int32} {o : Int} {tg : Nat} (hc : M.2.2.2.2.2 pc = some (.ifCond .gt o, 3, nx, [tg])) (kt : 0 < x → am_V M sc d mc ms n0 z0 post tg L (st) h) (kf : ¬ 0 < x → am_V M sc d mc ms n0 z0 post nx L (st) h) : am_V M sc d mc ms n0 z0 post pc L (.int x :: st) h := by
  intro p l e R s m args below meth c D cA b bs H locs ls cells slots Q Re En
  obtain ⟨h1, h2, h3⟩ := Re.1.1 pc _ hc
  have h2 : nx = pc + 3 := h2
  subst h2
  have h4 : (pc : Int) + o = (tg : Int) := by simpa [am_off] using h3.symm
  exact lv_if_gt Re.1.2.1 Re.1.2.2.1 h1 h4 (fun q => kt q p l e R s m args below meth c D cA b bs H locs ls cells slots Q Re En) (fun q => kf q p l e R s m args below meth c D cA b bs H locs ls cells slots Q Re En)
theorem am_if_le {x : Int32} {o : Int} {tg : Nat} (hc : M.2.2.2.2.2 pc = some (.ifCond .le o, 3, nx, [tg])) (kt : x ≤ 0 → am_V M sc d mc ms n0 z0 post tg L (st) h) (kf : ¬ x ≤ 0 → am_V M sc d mc ms n0 z0 post nx L (st) h) : am_V M sc d mc ms n0 z0 post pc L (.int x :: st) h := by
  intro p l e R s m args below meth c D cA b bs H locs ls cells slots Q Re En
  obtain ⟨h1, h2, h3⟩ := Re.1.1 pc _ hc
  have h2 : nx = pc + 3 := h2
  subst h2
  have h4 : (pc : Int) + o = (tg : Int) := by simpa [am_off] using h3.symm
  exact lv_if_le Re.1.2.1 Re.1.2.2.1 h1 h4 (fun q => kt q p l e R s m args below meth c D cA b bs H locs ls cells slots Q Re En) (fun q => kf q p l e R s m args below meth c D cA b bs H locs ls cells slots Q Re En)
theorem am_if_ne {x : Int32} {o : Int} {tg : Nat} (hc : M.2.2.2.2.2 pc = some (.ifCond .ne o, 3, nx, [tg])) (kt : ¬ x = 0 → am_V M sc d mc ms n0 z0 post tg L (st) h) (kf : x = 0 → am_V M sc d mc ms n0 z0 post nx L (st) h) : am_V M sc d mc ms n0 z0 post pc L (.int x :: st) h := by
  intro p l e R s m args below meth c D cA b bs H locs ls cells slots Q Re En
  obtain ⟨h1, h2, h3⟩ := Re.1.1 pc _ hc
  have h2 : nx = pc + 3 := h2
  subst h2
  have h4 : (pc : Int) + o = (tg : Int) := by simpa [am_off] using h3.symm
  exact lv_if_ne Re.1.2.1 Re.1.2.2.1 h1 h4 (fun q => kt q p l e R s m args below meth c D cA b bs H locs ls cells slots Q Re En) (fun q => kf q p l e R s m args below meth c D cA b bs H locs ls cells slots Q Re En)
theorem am_goto {o : Int} {tg : Nat} (hc : M.2.2.2.2.2 pc = some (.goto o, 3, nx, [tg])) (k : am_V M sc d mc ms n0 z0 post tg L (st) h) : am_V M sc d mc ms n0 z0 post pc L (st) h := by
  intro p l e R s m args below meth c D cA b bs H locs ls cells slots Q Re En
  obtain ⟨h1, h2, h3⟩ := Re.1.1 pc _ hc
  have h2 : nx = pc + 3 := h2
  subst h2
  have h4 : (pc : Int) + o = (tg : Int) := by simpa [am_off] using h3.symm
  exact lv_goto Re.1.2.1 Re.1.2.2.1 h1 h4 (k p l e R s m args below meth c D cA b bs H locs ls cells slots Q Re En)
theorem am_tsw {x : Int32} {dft lo hi : Int} {os : Array Int} {ln td : Nat} {tgs : List Nat} (hc : M.2.2.2.2.2 pc = some (.tableswitch dft lo hi os, ln, nx, tgs)) (htd : tgs[0]? = some td) (kd : x.toInt < lo ∨ hi < x.toInt → am_V M sc d mc ms n0 z0 post td L (st) h)
    (kj : ∀ j : Nat, x.toInt = lo + j → lo + j ≤ hi → ∃ t, tgs[j + 1]? = some t ∧ os.toList[j]?.isSome = true ∧ am_V M sc d mc ms n0 z0 post t L (st) h) : am_V M sc d mc ms n0 z0 post pc L (.int x :: st) h := by
  intro p l e R s m args below meth c D cA b bs H locs ls cells slots Q Re En
  obtain ⟨h1, h2, h3⟩ := Re.1.1 pc _ hc
  have h4 : ∀ (j : Nat) (t : Nat) (o : Int), tgs[j]? = some t → (am_off (.tableswitch dft lo hi os))[j]? = some o → (pc : Int) + o = (t : Int) := by
    intro j t o e1 e2
    have e3 : (tgs.map (fun t : Nat => (t : Int)))[j]? = ((am_off (.tableswitch dft lo hi os)).map (fun o : Int => (pc : Int) + o))[j]? := by rw [h3]
    rw [List.getElem?_map, List.getElem?_map, e1, e2] at e3
    exact (Option.some.inj e3).symm
  by_cases q : x.toInt < lo ∨ hi < x.toInt
  · exact lv_tableOut Re.1.2.1 Re.1.2.2.1 h1 q (h4 0 _ _ htd rfl) (kd q p l e R s m args below meth c D cA b bs H locs ls cells slots Q Re En)
  · obtain ⟨q1, q2⟩ := not_or.mp q
    obtain ⟨t, e1, e2, e3⟩ := kj (x.toInt - lo).toNat (by omega) (by omega)
    have e4 : os[(x.toInt - lo).toNat]? = some (os.toList.getD (x.toInt - lo).toNat 0) := by
      rw [← Array.getElem?_toList, List.getD_eq_getElem?_getD]
      cases e5 : os.toList[(x.toInt - lo).toNat]? with
      | none => rw [e5] at e2; cases e2
      | some w => rfl
    refine lv_tableIn Re.1.2.1 Re.1.2.2.1 h1 q1 q2 e4 (h4 ((x.toInt - lo).toNat + 1) t _ e1 ?_) (e3 p l e R s m args below meth c D cA b bs H locs ls cells slots Q Re En)
    show (dft :: os.toList)[(x.toInt - lo).toNat + 1]? = _
    rw [List.getElem?_cons_succ, Array.getElem?_toList]
    exact e4
end AMV
end
section
/-! Rows of the small machine that read and write the world; calls; a contract out of a walk. -/
def am_ty (ci : Nat) : Nat → FieldType := match ci with
  | 0 => tyX0
  | 1 => tyX1
  | 2 => tyX2
  | 3 => tyX3
  | 4 => tyX4
  | 5 => tyX5
  | 6 => tyX6
  | 7 => tyX7
  | 8 => tyX8
  | _ => tyX9
theorem am_cf {ci : Nat} {C : String} {T : u_T} {N : Nat} (h : am_cl[ci]? = some (C, T, N)) : (∀ w ∈ u_ws C T N, w ∈ am_tb) ∧ (∀ k, k < N → parseFieldDescriptor (T k).2.2.1 = some (am_ty ci k)) ∧ (∀ a, a < N → ∀ b, b < N → a ≠ b → (T a).2.1 ≠ (T b).2.1) ∧ C = am_R ci := by
  match ci, h with
  | 0, h => cases h; exact ⟨am_in0, tyX0_ok, nmX0, rfl⟩
  | 1, h => cases h; exact ⟨am_in1, tyX1_ok, nmX1, rfl⟩
  | 2, h => cases h; exact ⟨am_in2, tyX2_ok, nmX2, rfl⟩
  | 3, h => cases h; exact ⟨am_in3, tyX3_ok, nmX3, rfl⟩
  | 4, h => cases h; exact ⟨am_in4, tyX4_ok, nmX4, rfl⟩
  | 5, h => cases h; exact ⟨am_in5, tyX5_ok, nmX5, rfl⟩
  | 6, h => cases h; exact ⟨am_in6, tyX6_ok, nmX6, rfl⟩
  | 7, h => cases h; exact ⟨am_in7, tyX7_ok, nmX7, rfl⟩
  | 8, h => cases h; exact ⟨am_in8, tyX8_ok, nmX8, rfl⟩
  | 9, h => cases h; exact ⟨am_in9, tyX9_ok, nmX9, rfl⟩
  | n + 10, h => simp [am_cl] at h
/-- field i of class o's pool is field k of class ci -/
def am_lF (o i ci k : Nat) : Prop := ∃ (C : String) (T : u_T) (N : Nat), am_cl[ci]? = some (C, T, N) ∧ k < N ∧ Cond.fieldLink (am_R o) i (T k).1 (T k).2.1 (T k).2.2.1 ∈ am_tb
def am_fin (ci k : Nat) : Bool := match am_cl[ci]? with
  | some (_, T, _) => (T k).2.2.2
  | none => false
def am_dec (ci k : Nat) : String := match am_cl[ci]? with
  | some (_, T, _) => (T k).1
  | none => ""
def am_fit (ty : FieldType) (v : Value) : Prop := ∀ b bs : Nat, narrow ty (am_v b bs v) = am_v b bs v ∧ fits ty (am_v b bs v) = true
theorem am_updV_i {f : Nat → Int32} {k : Nat} {x : Int32} : updV (fun j => Value.int (f j)) k (.int x) = fun j => .int (upd f k x j) := by
  funext q
  by_cases hq : q = k
  · subst hq; simp [updV, upd]
  · simp [updV, upd, hq]
section AMH
variable {M : am_M} {sc : Nat × (Nat → Int32)} {d mc ms n0 z0 : Nat} {post : Int32 → am_H → Prop} {pc nx : Nat} {L : List (Option Value)} {st : List Value} {h : am_H}
theorem am_get {ci k a i : Nat} {fs : List Value} {v : Value} (hf : am_lF M.2.2.2.2.1 i ci k) (hc : M.2.2.2.2.2 pc = some (.getfield i, 3, nx, [])) (ha : a < h.2.1) (he : h.1 a = .inr (ci, fs)) (hv : fs[k]? = some v) (kk : am_V M sc d mc ms n0 z0 post nx L (v :: st) h) : am_V M sc d mc ms n0 z0 post pc L (.ref a :: st) h := by
  intro p l e R s m args below meth c D cA b bs H locs ls cells slots Q Re En
  obtain ⟨h1, h2, h3⟩ := Re.1.1 pc _ hc
  have h2 : nx = pc + 3 := h2
  subst h2
  obtain ⟨C, T, N, f1, f2, f3⟩ := hf
  have hP := Re.2.2.2.2.2.1.2 a ha
  rw [he] at hP
  exact va_get (D := D) (cl := am_cl) (ws := [(b + a, am_e b bs cA (.inr (ci, fs)))]) Re.1.2.1 Re.1.2.2.1 Re.1.2.2.2.2.2.2.2.2 (am_cf f1).1 Re.1.2.2.2.2.2.1 Re.2.2.1.1 (fun k q hq => by
    match k, hq with
    | 0, hq => cases hq; exact hP
    | n + 1, hq => simp at hq) 0 (fs := fs.map (am_v b bs)) rfl f1 k f2 (Re.1.2.2.2.2.2.2.2.2 _ f3) (fun _ h9 => h9) (v := am_v b bs v) (by rw [List.getElem?_map, hv]; rfl) h1 (kk p l e R s m args below meth c D cA b bs H locs ls cells slots Q Re En)
/-- a world in which one cell has changed -/
theorem am_Re.put {p : Program} {R : Room} {s : State} {m : MethodId} {args : Array Value} {meth : Method} {c : Code} {D : va_G} {cA : Nat → ClassId} {b bs : Nat} {H H1 : Heap} {locs : List Loc} {ls : Array Slot} {cells slots a j : Nat} {e : va_E}
    (Re : am_Re M sc d mc ms n0 z0 p R s m args meth c D cA b bs H locs ls cells slots L h) (he : va_at D am_cl (b + a, am_e b bs cA e) H1) (z : H1.size = H.size) (oq : ∀ q : Nat, q ≠ b + a → H1[q]? = H[q]?) :
    am_Re M sc d mc ms n0 z0 p R s m args meth c D cA b bs H1 (locs ++ [⟨b + a, j⟩]) ls cells slots L (am_u h a e) := by
  obtain ⟨r1, r2, r3, r4, r5, r6, r7, r8, r9⟩ := Re
  exact ⟨r1, r2, r3, r4, r5, r6.put he z oq, r7.put z oq (Nat.le_add_right b a), r8, r9⟩
theorem am_put {ci k a i : Nat} {fs : List Value} {v : Value} (hf : am_lF M.2.2.2.2.1 i ci k) (hfin : am_fin ci k = false) (hc : M.2.2.2.2.2 pc = some (.putfield i, 3, nx, [])) (ha : a < h.2.1) (he : h.1 a = .inr (ci, fs)) (hk : k < fs.length) (hv : am_fit (am_ty ci k) v) (kk : am_V M sc d mc ms n0 z0 post nx L st (am_u h a (.inr (ci, fs.set k v)))) : am_V M sc d mc ms n0 z0 post pc L (v :: .ref a :: st) h := by
  intro p l e R s m args below meth c D cA b bs H locs ls cells slots Q Re En
  obtain ⟨h1, h2, h3⟩ := Re.1.1 pc _ hc
  have h2 : nx = pc + 3 := h2
  subst h2
  obtain ⟨C, T, N, f1, f2, f3⟩ := hf
  obtain ⟨hin, hty, hnm, -⟩ := am_cf f1
  have hfin : (T k).2.2.2 = false := by simpa [am_fin, f1] using hfin
  have hP := Re.2.2.2.2.2.1.2 a ha
  rw [he] at hP
  have hts := Re.1.2.2.2.2.2.2.2.2
  have hK := Re.2.2.1.1
  have hap := va_apart (own := C) hts hin (am_ty ci) hty hnm hK f1
  obtain ⟨r, g1, cell, q1, q2, q3, q4⟩ := hP
  have hr : r = (C, T, N) := Option.some.inj (g1.symm.trans f1)
  subst hr
  obtain ⟨hS, hfc, kC, hkC, hkind⟩ := hK.1 ci _ f1
  obtain ⟨cf, kf, fi, f, hi, hsl⟩ := hS k f2
  have hlay := hts _ (hin _ (u_in_lay f2))
  unfold u_lay at hlay
  rw [if_neg (by rw [hfin]; decide)] at hlay
  have hst := (u_facts hfc hkC (u_lays hts hin f2) hi).1
  have h6 := u_store hfc hkC hkind hlay hi (hty k f2) (hv b bs).1 (hv b bs).2
  refine W.putK Re.1.2.1 Re.1.2.2.1 (f := f) ⟨Re.1.2.2.2.2.2.1, hts _ f3, ⟨_, _, _, hi⟩, hst⟩ (by rw [q2]; exact h6) q1 q3 (by rw [hsl]; exact k2_hasslot (q4 k f2)) rfl rfl h1 fun H' e1 e2 e3 => ?_
  rw [hsl] at e1 ⊢
  refine kk p l e R s m args below meth c D cA b bs H' _ ls cells slots Q (Re.put ⟨_, f1, t_OB.to (V := updV (vp_V (fs.map (am_v b bs))) k (am_v b bs v)) ⟨_, e1, q2, q3, t_set q4 hap f2 _⟩ (fun j _ => ?_)⟩ e2 e3) En
  rw [vp_updV_set (by rw [List.length_map]; exact hk), ← List.map_set]
theorem am_putF {ci k a i : Nat} {fs : List Value} {v : Value} (hf : am_lF M.2.2.2.2.1 i ci k) (hfin : am_fin ci k = true) (hdc : am_dec ci k = am_R M.2.2.2.2.1) (hin2 : M.1.name = "<init>") (hc : M.2.2.2.2.2 pc = some (.putfield i, 3, nx, [])) (ha : a < h.2.1) (he : h.1 a = .inr (ci, fs)) (hk : k < fs.length) (hv : am_fit (am_ty ci k) v) (kk : am_V M sc d mc ms n0 z0 post nx L st (am_u h a (.inr (ci, fs.set k v)))) : am_V M sc d mc ms n0 z0 post pc L (v :: .ref a :: st) h := by
  intro p l e R s m args below meth c D cA b bs H locs ls cells slots Q Re En
  obtain ⟨h1, h2, h3⟩ := Re.1.1 pc _ hc
  have h2 : nx = pc + 3 := h2
  subst h2
  obtain ⟨C, T, N, f1, f2, f3⟩ := hf
  obtain ⟨hin, hty, hnm, -⟩ := am_cf f1
  have hfin : (T k).2.2.2 = true := by simpa [am_fin, f1] using hfin
  have hdecl : (T k).1 = am_R M.2.2.2.2.1 := by simpa [am_dec, f1] using hdc
  have hP := Re.2.2.2.2.2.1.2 a ha
  rw [he] at hP
  have hts := Re.1.2.2.2.2.2.2.2.2
  have hown := Re.1.2.2.2.2.2.1
  have hK := Re.2.2.1.1
  have hap := va_apart (own := C) hts hin (am_ty ci) hty hnm hK f1
  obtain ⟨r, g1, cell, q1, q2, q3, q4⟩ := hP
  have hr : r = (C, T, N) := Option.some.inj (g1.symm.trans f1)
  subst hr
  obtain ⟨hS, hfc, kC, hkC, hkind⟩ := hK.1 ci _ f1
  obtain ⟨cf, kf, fi, f, hi, hsl⟩ := hS k f2
  have hlay := hts _ (hin _ (u_in_lay f2))
  unfold u_lay at hlay
  rw [if_pos hfin] at hlay
  have hst := (u_facts hfc hkC (u_lays hts hin f2) hi).1
  have hcf : m.cls = cf := by
    obtain ⟨_, _, c', _, _, _, -, -, hf', -, -, -, hown2, -⟩ := Cond.laysFinal_spec hlay
    have e1 : c' = cf := by have := hi.symm.trans hf'; simp at this; exact this.1.symm
    rw [hdecl] at hown2
    rw [← e1]; exact Option.some.inj (hown.symm.trans hown2)
  have h6 := u_fits hfc hkC hkind (Or.inr hlay) hi (hty k f2) (hv b bs).1 (hv b bs).2
  refine W.putFinK Re.1.2.1 Re.1.2.2.1 hown (hts _ f3) hi hst hcf (Re.1.2.2.2.2.2.2.2.1.trans hin2) (by rw [q2]; exact h6) q1 q3 (by rw [hsl]; exact k2_hasslot (q4 k f2)) rfl rfl h1 fun H' e1 e2 e3 => ?_
  rw [hsl] at e1 ⊢
  refine kk p l e R s m args below meth c D cA b bs H' _ ls cells slots Q (Re.put ⟨_, f1, t_OB.to (V := updV (vp_V (fs.map (am_v b bs))) k (am_v b bs v)) ⟨_, e1, q2, q3, t_set q4 hap f2 _⟩ (fun j _ => ?_)⟩ e2 e3) En
  rw [vp_updV_set (by rw [List.length_map]; exact hk), ← List.map_set]
theorem am_iald {a n : Nat} {f : Nat → Int32} {i : Int32} (hc : M.2.2.2.2.2 pc = some (.iaload, 1, nx, [])) (ha : a < h.2.1) (he : h.1 a = .inl (0, n, .inl f)) (hi : vp_in i n) (kk : am_V M sc d mc ms n0 z0 post nx L (.int (f i.toNatClampNeg) :: st) h) : am_V M sc d mc ms n0 z0 post pc L (.int i :: .ref a :: st) h := by
  intro p l e R s m args below meth c D cA b bs H locs ls cells slots Q Re En
  obtain ⟨h1, h2, h3⟩ := Re.1.1 pc _ hc
  have h2 : nx = pc + 1 := h2
  subst h2
  have hP := Re.2.2.2.2.2.1.2 a ha
  rw [he] at hP
  have hlt : i.toNatClampNeg < n := Nat.not_le.mp fun q => hi (Or.inr q)
  exact W.iald (v := .int (f i.toNatClampNeg)) Re.1.2.1 Re.1.2.2.1 hP ((Re.2.2.1.1.2 0 _ rfl).1 n (fun j => .int (f j))) (fun q => by cases q) (by show ¬ (i < 0 ∨ (arrV _ _ _).slots.size ≤ _); rw [arrV_size]; exact hi) (by show (arrV (cA 0) n (fun j => Value.int (f j))).slots[i.toNatClampNeg]? = _; rw [arrV_read _ _ hlt]) rfl rfl h1 (kk p l e R s m args below meth c D cA b bs H locs ls cells slots Q Re En)
theorem am_zald {a n : Nat} {f : Nat → Int32} {i : Int32} (hc : M.2.2.2.2.2 pc = some (.baload, 1, nx, [])) (ha : a < h.2.1) (he : h.1 a = .inl (1, n, .inl f)) (hi : vp_in i n) (kk : am_V M sc d mc ms n0 z0 post nx L (.int (f i.toNatClampNeg) :: st) h) : am_V M sc d mc ms n0 z0 post pc L (.int i :: .ref a :: st) h := by
  intro p l e R s m args below meth c D cA b bs H locs ls cells slots Q Re En
  obtain ⟨h1, h2, h3⟩ := Re.1.1 pc _ hc
  have h2 : nx = pc + 1 := h2
  subst h2
  have hP := Re.2.2.2.2.2.1.2 a ha
  rw [he] at hP
  have hlt : i.toNatClampNeg < n := Nat.not_le.mp fun q => hi (Or.inr q)
  exact W.zald (v := .int (f i.toNatClampNeg)) Re.1.2.1 Re.1.2.2.1 hP ((Re.2.2.1.1.2 1 _ rfl).1 n (fun j => .int (f j))) (fun q => by cases q) (by show ¬ (i < 0 ∨ (arrV _ _ _).slots.size ≤ _); rw [arrV_size]; exact hi) (by show (arrV (cA 1) n (fun j => Value.int (f j))).slots[i.toNatClampNeg]? = _; rw [arrV_read _ _ hlt]) rfl rfl h1 (kk p l e R s m args below meth c D cA b bs H locs ls cells slots Q Re En)
theorem am_aald {a n r : Nat} {f : Nat → Option Nat} {i : Int32} (hc : M.2.2.2.2.2 pc = some (.aaload, 1, nx, [])) (ha : a < h.2.1) (he : h.1 a = .inl (2, n, .inr (.inr (.inr (.inr f))))) (hi : vp_in i n) (hr : f i.toNatClampNeg = some r) (kk : am_V M sc d mc ms n0 z0 post nx L (.ref r :: st) h) : am_V M sc d mc ms n0 z0 post pc L (.int i :: .ref a :: st) h := by
  intro p l e R s m args below meth c D cA b bs H locs ls cells slots Q Re En
  obtain ⟨h1, h2, h3⟩ := Re.1.1 pc _ hc
  have h2 : nx = pc + 1 := h2
  subst h2
  have hP := Re.2.2.2.2.2.1.2 a ha
  rw [he] at hP
  have hlt : i.toNatClampNeg < n := Nat.not_le.mp fun q => hi (Or.inr q)
  exact W.aald (v := .ref (b + r)) (ty := .object RX7) Re.1.2.1 Re.1.2.2.1 hP ((Re.2.2.1.1.2 2 _ rfl).1 n (fun j => va_rf ((f j).map (fun k => b + k)))) rfl (fun q => by cases q) (by show ¬ (i < 0 ∨ (arrV _ _ _).slots.size ≤ _); rw [arrV_size]; exact hi) (by show (arrV (cA 2) n (fun j => va_rf ((f j).map (fun k => b + k)))).slots[i.toNatClampNeg]? = _; rw [arrV_read _ _ hlt, hr]; rfl) rfl rfl h1 (kk p l e R s m args below meth c D cA b bs H locs ls cells slots Q Re En)
theorem am_alen {a n : Nat} {f : Nat → Int32} (hc : M.2.2.2.2.2 pc = some (.arraylength, 1, nx, [])) (ha : a < h.2.1) (he : h.1 a = .inl (0, n, .inl f)) (kk : am_V M sc d mc ms n0 z0 post nx L (.int (nI n) :: st) h) : am_V M sc d mc ms n0 z0 post pc L (.ref a :: st) h := by
  intro p l e R s m args below meth c D cA b bs H locs ls cells slots Q Re En
  obtain ⟨h1, h2, h3⟩ := Re.1.1 pc _ hc
  have h2 : nx = pc + 1 := h2
  subst h2
  have hP := Re.2.2.2.2.2.1.2 a ha
  rw [he] at hP
  exact W.alen (n := Int32.ofNat n) Re.1.2.1 Re.1.2.2.1 hP ((Re.2.2.1.1.2 0 _ rfl).1 n (fun j => .int (f j))) (by show Nat.toInt32 (arrV _ _ _).slots.size = _; rw [arrV_size] <;> rfl) rfl rfl h1 (kk p l e R s m args below meth c D cA b bs H locs ls cells slots Q Re En)
theorem am_iast {a n : Nat} {f : Nat → Int32} {i x : Int32} (hc : M.2.2.2.2.2 pc = some (.iastore, 1, nx, [])) (ha : a < h.2.1) (he : h.1 a = .inl (0, n, .inl f)) (hi : vp_in i n) (kk : am_V M sc d mc ms n0 z0 post nx L st (am_u h a (.inl (0, n, .inl (upd f i.toNatClampNeg x))))) : am_V M sc d mc ms n0 z0 post pc L (.int x :: .int i :: .ref a :: st) h := by
  intro p l e R s m args below meth c D cA b bs H locs ls cells slots Q Re En
  obtain ⟨h1, h2, h3⟩ := Re.1.1 pc _ hc
  have h2 : nx = pc + 1 := h2
  subst h2
  have hP := Re.2.2.2.2.2.1.2 a ha
  rw [he] at hP
  refine W.iast Re.1.2.1 Re.1.2.2.1 hP ((Re.2.2.1.1.2 0 _ rfl).1 n (fun j => .int (f j))) (fun q => by cases q) (by show ¬ (i < 0 ∨ (arrV _ _ _).slots.size ≤ _); rw [arrV_size]; exact hi) rfl rfl h1 fun H1 e1 z oq => ?_
  refine kk p l e R s m args below meth c D cA b bs H1 _ ls cells slots Q (Re.put ?_ z oq) En
  show H1[b + a]? = some (vp_cell _ _)
  rw [e1]
  show some ((vp_cell (cA 0) (n, .inl f)).setSlot _ _) = some (vp_cell (cA 0) (n, .inl (upd f i.toNatClampNeg x)))
  rw [vp_cell_i, vp_cell_i, arrV_store, am_updV_i]
theorem am_zast {a n : Nat} {f : Nat → Int32} {i x : Int32} (hc : M.2.2.2.2.2 pc = some (.bastore, 1, nx, [])) (ha : a < h.2.1) (he : h.1 a = .inl (1, n, .inl f)) (hi : vp_in i n) (hx : x = 0 ∨ x = 1) (kk : am_V M sc d mc ms n0 z0 post nx L st (am_u h a (.inl (1, n, .inl (upd f i.toNatClampNeg x))))) : am_V M sc d mc ms n0 z0 post pc L (.int x :: .int i :: .ref a :: st) h := by
  intro p l e R s m args below meth c D cA b bs H locs ls cells slots Q Re En
  obtain ⟨h1, h2, h3⟩ := Re.1.1 pc _ hc
  have h2 : nx = pc + 1 := h2
  subst h2
  have hP := Re.2.2.2.2.2.1.2 a ha
  rw [he] at hP
  refine W.zast Re.1.2.1 Re.1.2.2.1 hP ((Re.2.2.1.1.2 1 _ rfl).1 n (fun j => .int (f j))) (fun q => by cases q) (by show ¬ (i < 0 ∨ (arrV _ _ _).slots.size ≤ _); rw [arrV_size]; exact hi) rfl rfl h1 fun H1 e1 z oq => ?_
  refine kk p l e R s m args below meth c D cA b bs H1 _ ls cells slots Q (Re.put ?_ z oq) En
  show H1[b + a]? = some (vp_cell _ _)
  rw [e1]
  have hn : narrow .boolean (.int x) = .int x := by rcases hx with rfl | rfl <;> rfl
  rw [hn]
  show some ((vp_cell (cA 1) (n, .inl f)).setSlot _ _) = some (vp_cell (cA 1) (n, .inl (upd f i.toNatClampNeg x)))
  rw [vp_cell_i, vp_cell_i, arrV_store, am_updV_i]
end AMH
end
section
/-! Calls, returns, a contract out of a walk, new cells, arraycopy, the script. -/
theorem am_goodIn {ws : List Cond} (h : ∀ w ∈ ws, w ∈ am_tb) : GoodIn am_tb ws := fun w hw => am_good w (h w hw)
/-- what the tables tell of M as a callee -/
def am_lM (N : am_M) (n : Nat) : Prop := Cond.initialized N.1.cls ∈ am_tb ∧ Cond.code N.1 N.2.1 N.2.2.1 N.2.2.2.1 ∈ am_tb ∧ N.1.cls = am_R N.2.2.2.2.1 ∧ (N.1.cls ≠ "java/lang/invoke/MethodHandle" ∧ N.1.cls ≠ "java/lang/invoke/VarHandle" ∧ (parseMethodDescriptor N.1.desc).map (fun d => d.parameters.length) = some n) ∧ N.2.2.1 ≤ 21
def am_lV (o i : Nat) (N : am_M) (n : Nat) : Prop := am_lM N n ∧ Cond.methodLink (am_R o) i N.1 ∈ am_tb ∧ Cond.instanceMethod N.1 ∈ am_tb ∧ Cond.selects (am_R N.2.2.2.2.1) N.1 N.1 ∈ am_tb ∧ ∃ (T : u_T) (k : Nat), am_cl[N.2.2.2.2.1]? = some (am_R N.2.2.2.2.1, T, k)
def am_lS (o i : Nat) (N : am_M) (n : Nat) : Prop := am_lM N n ∧ Cond.methodLink (am_R o) i N.1 ∈ am_tb ∧ Cond.static N.1 ∈ am_tb
def am_lI (o i : Nat) (N : am_M) (n : Nat) : Prop := am_lM N n ∧ Cond.methodLink (am_R o) i N.1 ∈ am_tb ∧ Cond.instanceMethod N.1 ∈ am_tb ∧ N.1.name = "<init>"
def am_lN (o i : Nat) (N : am_M) (n : Nat) : Prop := am_lM N n ∧ Cond.methodLinkNest (am_R o) i N.1 "PairingHall" ∈ am_nw ∧ Cond.instanceMethod N.1 ∈ am_tb ∧ N.1.name = "<init>"
theorem am_ws_in {N : am_M} {n : Nat} (h : am_lM N n) : ∀ w ∈ (Cond.code N.1 N.2.1 N.2.2.1 N.2.2.2.1 :: am_tb), w ∈ am_tb := fun w hw => (List.mem_cons.mp hw).elim (fun e => e ▸ h.2.1) id
section AMC
variable {M : am_M} {sc : Nat × (Nat → Int32)} {d mc ms n0 z0 : Nat} {post : Int32 → am_H → Prop} {pc nx : Nat} {L : List (Option Value)} {st : List Value} {h : am_H}
theorem am_iret {r : Int32} (hc : M.2.2.2.2.2 pc = some (.ireturn, 1, nx, [])) (hret : M.2.2.2.1 = some .int) (hn : h.2.1 = n0 + mc) (hz : h.2.2 = z0 + ms) (hp : post r h) : am_V M sc d mc ms n0 z0 post pc L [.int r] h := by
  intro p l e R s m args below meth c D cA b bs H locs ls cells slots Q Re En
  obtain ⟨h1, h2, h3⟩ := Re.1.1 pc _ hc
  obtain ⟨r1, r2, r3, r4, r5, r6, r7, r8, r9, r10, r11, r12⟩ := Re
  have E := En r h pc H locs ls cells slots (by rw [hret]; exact h1) hp hn hz (by omega) (by omega) (fun q => by rw [hret] at q; cases q) r6 r7
  rw [hret] at E
  exact E
theorem am_zret {r : Int32} (hc : M.2.2.2.2.2 pc = some (.ireturn, 1, nx, [])) (hret : M.2.2.2.1 = some .boolean) (hr : r = 0 ∨ r = 1) (hn : h.2.1 = n0 + mc) (hz : h.2.2 = z0 + ms) (hp : post r h) : am_V M sc d mc ms n0 z0 post pc L [.int r] h := by
  intro p l e R s m args below meth c D cA b bs H locs ls cells slots Q Re En
  obtain ⟨h1, h2, h3⟩ := Re.1.1 pc _ hc
  obtain ⟨r1, r2, r3, r4, r5, r6, r7, r8, r9, r10, r11, r12⟩ := Re
  have E := En r h pc H locs ls cells slots (by rw [hret]; exact h1) hp hn hz (by omega) (by omega) (fun _ => hr) r6 r7
  rw [hret] at E
  exact E
theorem am_vret (hc : M.2.2.2.2.2 pc = some (.return_, 1, nx, [])) (hret : M.2.2.2.1 = none) (hn : h.2.1 = n0 + mc) (hz : h.2.2 = z0 + ms) (hp : post 0 h) : am_V M sc d mc ms n0 z0 post pc L [] h := by
  intro p l e R s m args below meth c D cA b bs H locs ls cells slots Q Re En
  obtain ⟨h1, h2, h3⟩ := Re.1.1 pc _ hc
  obtain ⟨r1, r2, r3, r4, r5, r6, r7, r8, r9, r10, r11, r12⟩ := Re
  have E := En 0 h pc H locs ls cells slots (by rw [hret]; exact h1) hp hn hz (by omega) (by omega) (fun q => by rw [hret] at q; cases q) r6 r7
  rw [hret] at E
  exact E
theorem am_args_mem : ∀ (vs : List Value) (i j : Nat) (v : Value), (∀ w ∈ vs, w.category = 1) → vs[j]? = some v → (i + j, v) ∈ lv_args i vs
  | [], _, _, _, _, h => by simp at h
  | w :: vs, i, 0, v, hc, h => by
    simp at h
    subst h
    simp [lv_args]
  | w :: vs, i, j + 1, v, hc, h => by
    have h1 := am_args_mem vs (i + 1) j v (fun x hx => hc x (List.mem_cons_of_mem _ hx)) (by simpa using h)
    have h2 : ¬ w.category = 2 := by rw [hc w List.mem_cons_self]; decide
    rw [lv_args, if_neg h2]
    exact List.mem_cons_of_mem _ (by rw [show i + (j + 1) = i + 1 + j by omega]; exact h1)
theorem am_sl_len : ∀ (vs : List Value), (∀ w ∈ vs, w.category = 1) → (lg_sl vs).length = vs.length
  | [], _ => rfl
  | w :: vs, hc => by
    have h1 := am_sl_len vs (fun x hx => hc x (List.mem_cons_of_mem _ hx))
    have h2 : ¬ w.category = 2 := by rw [hc w List.mem_cons_self]; decide
    simp only [lg_sl, List.flatMap_cons, if_neg h2, List.length_append, List.length_cons, List.length_nil] at h1 ⊢
    omega
theorem am_L.entry {b bs nL : Nat} {As : List Value} (hA : ∀ v ∈ As, v.category = 1) (hn : As.length ≤ nL) : am_L b bs nL (As.map some ++ List.replicate (nL - As.length) none) ((lg_sl (As.map (am_v b bs)) ++ List.replicate (nL - (lg_sl (As.map (am_v b bs))).length) Slot.unset).toArray) := by
  have hc : ∀ w ∈ As.map (am_v b bs), w.category = 1 := by
    intro w hw
    obtain ⟨v, hv, rfl⟩ := List.mem_map.mp hw
    exact am_cat (hA v hv)
  have hl := lv_entry (As.map (am_v b bs)) (n := nL) (by rw [am_sl_len _ hc, List.length_map]; exact hn)
  refine ⟨hl.1, hl.2.1, fun i v hi => ?_⟩
  have hi2 : As[i]? = some v := by
    by_cases q : i < As.length
    · rw [List.getElem?_append_left (by simpa using q), List.getElem?_map] at hi
      cases ha : As[i]? with
      | none => rw [ha] at hi; cases hi
      | some w => rw [ha] at hi; exact congrArg some (Option.some.inj (Option.some.inj hi))
    · rw [List.getElem?_append_right (by simpa using q), List.getElem?_replicate] at hi
      split at hi <;> cases hi
  refine ⟨hA v (List.mem_of_getElem? hi2), hl.2.2 (i, am_v b bs v) ?_⟩
  have h1 := am_args_mem (As.map (am_v b bs)) 0 i (am_v b bs v) hc (by rw [List.getElem?_map, hi2]; rfl)
  rwa [Nat.zero_add] at h1
/-- a contract out of a walk -/
theorem am_X_of (ok : am_ok M) (hy : plainName M.1.cls = true) (hcl : M.1.cls = am_R M.2.2.2.2.1) (hno : M.2.2.2.2.1 ≠ 10) (hret : M.2.2.2.1 = none ∨ M.2.2.2.1 = some .int ∨ M.2.2.2.1 = some .boolean) {As : List Value} (hA : ∀ v ∈ As, v.category = 1) (hn : As.length ≤ M.2.2.1)
    (hV : am_V M (0, fun _ => 0) d mc ms h.2.1 h.2.2 post 0 (As.map some ++ List.replicate (M.2.2.1 - As.length) none) [] h) : am_X M d mc ms As h post := by
  refine ⟨d, Nat.le_refl d, fun l D cA b bs => ?_⟩
  refine Met.ofW (cc := M.2.1) (maxL := M.2.2.1) (ret := M.2.2.2.1) hy rfl ?_
  intro p e s m args below meth c s₁ B hml hv
  obtain ⟨rfl, hP, hK⟩ := hv
  have hts := atoms_spec (ws := .code M.1 M.2.1 M.2.2.1 M.2.2.2.1 :: am_tb) B.pre
  have hown : s.vm.findClass (am_R M.2.2.2.2.1) = some m.cls := hcl ▸ findClass_of_methodNamed B.named
  rw [lg_entry_eq]
  refine hV p l e _ s m _ below meth c D cA b bs s.heap [] _ 0 0 _ ⟨⟨ok, B.exec, B.bytes, B.returns, hml, hown, B.notSynchronized, (name_of_methodNamed B.named B.method).1, fun w hw => hts w (List.mem_cons_of_mem _ hw)⟩, ⟨Nat.le_refl _, Nat.le_refl _, Nat.le_refl _, Nat.le_refl _⟩, hK, fun q => absurd q hno, ⟨by rw [hP.1]; exact Nat.le_add_right _ _, hP.1⟩, hP, va_S.rf, am_L.entry hA hn, Nat.zero_add _, Nat.zero_add _, Nat.le_add_right _ _, Nat.le_add_right _ _⟩ ?_
  intro r h' pc H locs ls cells slots hd hp hn' hz' e1 e2 hbool hP' hS'
  have e1 := e1.symm
  have e2 := e2.symm
  subst e1
  subst e2
  have hq : ∀ t : State, t.heap = H → s.WarmedH t.vm → am_Q M.2.2.2.1 D cA b bs (h.2.1 + mc) (h.2.2 + ms) post (List.map (am_v b bs) As).toArray s (.returned (am_r M.2.2.2.1 r)) t := fun t ht hW => ⟨⟨r, h', rfl, hp, hn', hz', by rw [ht]; exact hP', hK.moved hW⟩, hS'.F ht⟩
  rcases hret with hr | hr | hr
  · rw [hr] at hd hq ⊢
    exact W.vret B.exec B.bytes (B.returns.trans hr) hq hS'.2.2 hd (hlocks := B.notSynchronized)
  · rw [hr] at hd hq ⊢
    exact W.iret B.exec B.bytes (B.returns.trans hr) hq hS'.2.2 hd (hlocks := B.notSynchronized)
  · have hb := hbool hr
    rw [hr] at hd hq ⊢
    exact W.zret B.exec B.bytes (B.returns.trans hr) (by rcases hb with rfl | rfl <;> rfl) hq hS'.2.2 hd (hlocks := B.notSynchronized)
theorem am_blind {D : va_G} {cA : Nat → ClassId} {b bs : Nat} {As : List Value} : FrameBlind (va_Pc As (fun U => am_P D cA b bs h U.heap ∧ am_K D cA U)) := fun a U g mk q => by
  obtain ⟨q0, qP, qK⟩ := q
  exact ⟨q0, qP, am_K.same (u := U) (U := U.calling g mk a) rfl qK⟩
/-- behind a call -/
theorem am_after {p : Program} {l : Launch} {e : Env} {R : Room} {s : State} {m : MethodId} {args : Array Value} {below : List Frame} {meth : Method} {c : Code} {D : va_G} {cA : Nat → ClassId} {b bs : Nat} {H : Heap} {locs : List Loc} {ls : Array Slot} {cells slots : Nat} {Q : State → Prop} {mc' ms' : Nat} {st0 rest : List Value} {a : Array Value} {ret : Option FieldType} {g : JFrame} {post' : Int32 → am_H → Prop}
    (Re : am_Re M sc d mc ms n0 z0 p R s m args meth c D cA b bs H locs ls cells slots L h) (hg : g = F0 m pc ls st0) (hb : h.2.1 + mc' ≤ n0 + mc ∧ h.2.2 + ms' ≤ z0 + ms)
    (run : va_Run p l e R s m args below meth c H locs cells slots mc' ms' g rest (am_Q ret D cA b bs (h.2.1 + mc') (h.2.2 + ms') post' a) (fun q => b ≤ q))
    (kk : ∀ (r : Int32) (h' : am_H) (H1 : Heap) (locs1 : List Loc), post' r h' → am_Re M sc d mc ms n0 z0 p R s m args meth c D cA b bs H1 locs1 ls (cells + mc') (slots + ms') L h' → W p l e R s m args below meth c H1 locs1 (cells + mc') (slots + ms') Q (F0 m (pc + 3) ls ((am_r ret r).toList ++ rest))) : W p l e R s m args below meth c H locs cells slots Q g := by
  intro T hT X
  obtain ⟨v, st₀, t, T', Lc, h0, X', hL, e1, e2, ⟨⟨r, h', hv, hp, hn', hz', hP', hK'⟩, hz, hk⟩, stp⟩ := run T hT X
  have hv : v = am_r ret r := by injection hv
  subst hv
  subst hg
  rw [h0] at hz hk
  obtain ⟨r1, r2, r3, r4, r5, r6, r7, r8, r9, r10, r11, r12⟩ := Re
  obtain ⟨t2, a1, b1⟩ := kk r h' T'.heap (locs ++ Lc) hp ⟨r1, r2, r3, r4, r5, by rw [e1]; exact hP', ⟨Nat.le_trans r7.1 (by rw [e1]; exact hz), fun q g1 g2 => by rw [e1, hk q (Nat.lt_of_lt_of_le g1 r7.1) g2]; exact r7.2.1 q g1 g2, fun q hq => by
      rcases List.mem_append.mp hq with g1 | g1
      · exact r7.2.2 q g1
      · exact hL q g1⟩, r8, by omega, by omega, by omega, by omega⟩ T' rfl X'
  exact ⟨t2, stp t2 a1, b1⟩
theorem am_hR {d d' mc' ms' maxL : Nat} {R : Room} (hd : d' + 1 ≤ d) (h1 : d ≤ R.frames) (h2 : 40 * d ≤ R.locals) (hm : maxL ≤ 21) : (am_rm d' mc' ms').frames + 1 ≤ R.frames ∧ 8 + (maxL + 11) + (am_rm d' mc' ms').locals ≤ R.locals := by
  constructor
  · show d' + 1 ≤ R.frames
    omega
  · show 8 + (maxL + 11) + 40 * d' ≤ R.locals
    omega
def am_ps (ret : Option FieldType) (r : Int32) (st : List Value) : List Value := (am_r ret r).toList ++ st
theorem am_ps_map {b bs : Nat} {ret : Option FieldType} {r : Int32} {st : List Value} : (am_ps ret r st).map (am_v b bs) = (am_r ret r).toList ++ st.map (am_v b bs) := by
  cases ret <;> rfl
theorem am_X.imp {N : am_M} {d' mc' ms' : Nat} {As : List Value} {P P' : Int32 → am_H → Prop} (hX : am_X N d' mc' ms' As h P) (hi : ∀ r h', P r h' → P' r h') : am_X N d' mc' ms' As h P' := by
  obtain ⟨d2, hd2, hM⟩ := hX
  refine ⟨d2, hd2, fun l D cA b bs => MetFree.mono (hM l D cA b bs) (fun _ _ q => q) (fun _ _ _ _ _ q => q) (fun a s o t _ q => ?_)⟩
  obtain ⟨⟨⟨r, h', q1, q2, q3⟩, q4⟩, q5⟩ := q
  exact ⟨⟨⟨r, h', q1, hi r h' q2, q3⟩, q4⟩, q5⟩
theorem am_callV {N : am_M} {i n a : Nat} {fs : List Value} {As : List Value} {d' mc' ms' : Nat} (hl : am_lV M.2.2.2.2.1 i N n) (hc : M.2.2.2.2.2 pc = some (.invokevirtual i, 3, nx, [])) (hn : As.length = n) (ha : a < h.2.1) (he : h.1 a = .inr (N.2.2.2.2.1, fs)) (hd : d' + 1 ≤ d) (hst : ∀ b bs, ((st.map (am_v b bs)).map (fun v => v.category)).sum ≤ 8) (hb : h.2.1 + mc' ≤ n0 + mc ∧ h.2.2 + ms' ≤ z0 + ms)
    (hX : am_X N d' mc' ms' (.ref a :: As) h (fun r h' => am_V M sc d mc ms n0 z0 post nx L (am_ps N.2.2.2.1 r st) h')) : am_V M sc d mc ms n0 z0 post pc L (As.reverse ++ .ref a :: st) h := by
  intro p l e R s m args below meth c D cA b bs H locs ls cells slots Q Re En
  obtain ⟨h1, h2, h3⟩ := Re.1.1 pc _ hc
  have h2 : nx = pc + 3 := h2
  subst h2
  obtain ⟨d2, hd2, hM⟩ := hX
  obtain ⟨hlm, l1, l2, l3, T0, k0, l4⟩ := hl
  have hP := Re.2.2.2.2.2.1
  have hPa := hP.2 a ha
  rw [he] at hPa
  have hK := Re.2.2.1
  refine am_after (st0 := (As.reverse ++ .ref a :: st).map (am_v b bs)) (rest := st.map (am_v b bs)) Re rfl hb (va_runV (As := As.map (am_v b bs)) (b := b + a) (C := am_R N.2.2.2.2.1) (nL := M.2.2.1) ⟨Re.1.2.1, Re.1.2.2.1, Re.1.2.2.2.2.1, Re.1.2.2.2.2.2.1, Re.1.2.2.2.2.2.2.2.2⟩ (hM l D cA b bs) (cwV n Re.1.2.2.2.2.2.2.2.2 (am_goodIn (fun w hw => ?_)) rfl rfl rfl ⟨hlm.2.2.1, hlm.2.2.2.1⟩ (am_hR (d := d) (Nat.le_trans (Nat.add_le_add_right hd2 1) hd) Re.2.1.1 Re.2.1.2.1 hlm.2.2.2.2)) ⟨am_blind, ?_, fun U hU hW => ⟨rfl, by rw [hU]; exact hP, hK.moved hW⟩⟩ rfl (by rw [List.length_map]; exact hn) Re.2.2.2.2.2.2.2.1.1 (by simp [am_v, List.map_reverse]) (lv_room (hst b bs)) h1 ⟨by have := Re.2.1.2.2.1; have := Re.2.2.2.2.2.2.2.2.1; have := hb.1; omega, by have := Re.2.1.2.2.2; have := Re.2.2.2.2.2.2.2.2.2.1; have := hb.2; omega⟩) (fun r h' H1 locs1 hp Re1 => by rw [← am_ps_map]; exact hp p l e R s m args below meth c D cA b bs H1 locs1 ls _ _ Q Re1 En)
  · rcases List.mem_append.mp hw with g | g
    · simp only [List.mem_cons, List.not_mem_nil, or_false] at g
      rcases g with rfl | rfl | rfl | rfl
      · exact l1
      · exact l2
      · exact l3
      · rw [← hlm.2.2.1]; exact hlm.1
    · exact am_ws_in hlm w g
  · obtain ⟨q', g1, cell, g2, g3, g4, -⟩ := hPa
    have := (hK.1.1 _ _ l4).2.1
    exact ⟨cell, g2, by rw [g4]; rfl, by rw [g3]; exact this⟩
theorem am_callS {N : am_M} {i n : Nat} {As : List Value} {d' mc' ms' : Nat} (hl : am_lS M.2.2.2.2.1 i N n) (hc : M.2.2.2.2.2 pc = some (.invokestatic i, 3, nx, [])) (hn : As.length = n) (hd : d' + 1 ≤ d) (hst : ∀ b bs, ((st.map (am_v b bs)).map (fun v => v.category)).sum ≤ 8) (hb : h.2.1 + mc' ≤ n0 + mc ∧ h.2.2 + ms' ≤ z0 + ms)
    (hX : am_X N d' mc' ms' As h (fun r h' => am_V M sc d mc ms n0 z0 post nx L (am_ps N.2.2.2.1 r st) h')) : am_V M sc d mc ms n0 z0 post pc L (As.reverse ++ st) h := by
  intro p l e R s m args below meth c D cA b bs H locs ls cells slots Q Re En
  obtain ⟨h1, h2, h3⟩ := Re.1.1 pc _ hc
  have h2 : nx = pc + 3 := h2
  subst h2
  obtain ⟨d2, hd2, hM⟩ := hX
  obtain ⟨hlm, l1, l2⟩ := hl
  have hP := Re.2.2.2.2.2.1
  have hK := Re.2.2.1
  refine am_after (st0 := (As.reverse ++ st).map (am_v b bs)) (rest := st.map (am_v b bs)) Re rfl hb (va_runS (As := As.map (am_v b bs)) (nL := M.2.2.1) ⟨Re.1.2.1, Re.1.2.2.1, Re.1.2.2.2.2.1, Re.1.2.2.2.2.2.1, Re.1.2.2.2.2.2.2.2.2⟩ (hM l D cA b bs) (va_cwS n Re.1.2.2.2.2.2.2.2.2 (am_goodIn (fun w hw => ?_)) rfl rfl rfl hlm.2.2.2.1 (am_hR (d := d) (Nat.le_trans (Nat.add_le_add_right hd2 1) hd) Re.2.1.1 Re.2.1.2.1 hlm.2.2.2.2)) ⟨am_blind, fun U hU hW => ⟨rfl, by rw [hU]; exact hP, hK.moved hW⟩⟩ rfl (by rw [List.length_map]; exact hn) Re.2.2.2.2.2.2.2.1.1 (by simp [am_v, List.map_reverse]) (lv_room (hst b bs)) h1 ⟨by have := Re.2.1.2.2.1; have := Re.2.2.2.2.2.2.2.2.1; have := hb.1; omega, by have := Re.2.1.2.2.2; have := Re.2.2.2.2.2.2.2.2.2.1; have := hb.2; omega⟩) (fun r h' H1 locs1 hp Re1 => by rw [← am_ps_map]; exact hp p l e R s m args below meth c D cA b bs H1 locs1 ls _ _ Q Re1 En)
  rcases List.mem_append.mp hw with g | g
  · simp only [List.mem_cons, List.not_mem_nil, or_false] at g
    rcases g with rfl | rfl | rfl
    · exact l1
    · exact l2
    · exact hlm.1
  · exact am_ws_in hlm w g
theorem am_callI {N : am_M} {i n a : Nat} {As : List Value} {d' mc' ms' : Nat} (hl : am_lI M.2.2.2.2.1 i N n) (hret : N.2.2.2.1 = none) (hc : M.2.2.2.2.2 pc = some (.invokespecial i, 3, nx, [])) (hn : As.length = n) (hd : d' + 1 ≤ d) (hst : ∀ b bs, ((st.map (am_v b bs)).map (fun v => v.category)).sum ≤ 8) (hb : h.2.1 + mc' ≤ n0 + mc ∧ h.2.2 + ms' ≤ z0 + ms)
    (hX : am_X N d' mc' ms' (.ref a :: As) h (fun _ h' => am_V M sc d mc ms n0 z0 post nx L st h')) : am_V M sc d mc ms n0 z0 post pc L (As.reverse ++ .ref a :: st) h := by
  intro p l e R s m args below meth c D cA b bs H locs ls cells slots Q Re En
  obtain ⟨h1, h2, h3⟩ := Re.1.1 pc _ hc
  have h2 : nx = pc + 3 := h2
  subst h2
  obtain ⟨d2, hd2, hM⟩ := hX
  obtain ⟨hlm, l1, l2, l3⟩ := hl
  have hP := Re.2.2.2.2.2.1
  have hK := Re.2.2.1
  have hts := Re.1.2.2.2.2.2.2.2.2
  have hM := hM l D cA b bs
  have hw0 := am_ws_in hlm
  rw [hret] at hM hw0
  exact am_after (ret := none) (st0 := (As.reverse ++ .ref a :: st).map (am_v b bs)) (rest := st.map (am_v b bs)) Re rfl hb (va_runI (As := As.map (am_v b bs)) (b := b + a) (nL := M.2.2.1) ⟨Re.1.2.1, Re.1.2.2.1, Re.1.2.2.2.2.1, Re.1.2.2.2.2.2.1, hts⟩ hM (cwI n hts (am_goodIn hw0) rfl rfl rfl (hts _ hlm.1) (hts _ l1) (hts _ l2) l3 hlm.2.2.2.1 (am_hR (d := d) (Nat.le_trans (Nat.add_le_add_right hd2 1) hd) Re.2.1.1 Re.2.1.2.1 hlm.2.2.2.2)) ⟨am_blind, fun U hU hW => ⟨rfl, by rw [hU]; exact hP, hK.moved hW⟩⟩ rfl (by rw [List.length_map]; exact hn) Re.2.2.2.2.2.2.2.1.1 (by simp [am_v, List.map_reverse]) (lv_room (hst b bs)) h1 ⟨by have := Re.2.1.2.2.1; have := Re.2.2.2.2.2.2.2.2.1; have := hb.1; omega, by have := Re.2.1.2.2.2; have := Re.2.2.2.2.2.2.2.2.2.1; have := hb.2; omega⟩) (fun r h' H1 locs1 hp Re1 => hp p l e R s m args below meth c D cA b bs H1 locs1 ls _ _ Q Re1 En)
theorem am_callN {N : am_M} {i n a : Nat} {As : List Value} {d' mc' ms' : Nat} (hl : am_lN M.2.2.2.2.1 i N n) (hret : N.2.2.2.1 = none) (hc : M.2.2.2.2.2 pc = some (.invokespecial i, 3, nx, [])) (hn : As.length = n) (hd : d' + 1 ≤ d) (hst : ∀ b bs, ((st.map (am_v b bs)).map (fun v => v.category)).sum ≤ 8) (hb : h.2.1 + mc' ≤ n0 + mc ∧ h.2.2 + ms' ≤ z0 + ms)
    (hX : am_X N d' mc' ms' (.ref a :: As) h (fun _ h' => am_V M sc d mc ms n0 z0 post nx L st h')) : am_V M sc d mc ms n0 z0 post pc L (As.reverse ++ .ref a :: st) h := by
  intro p l e R s m args below meth c D cA b bs H locs ls cells slots Q Re En
  obtain ⟨h1, h2, h3⟩ := Re.1.1 pc _ hc
  have h2 : nx = pc + 3 := h2
  subst h2
  obtain ⟨d2, hd2, hM⟩ := hX
  obtain ⟨hlm, l1, l2, l3⟩ := hl
  have hP := Re.2.2.2.2.2.1
  have hK := Re.2.2.1
  have hts := Re.1.2.2.2.2.2.2.2.2
  have hM := hM l D cA b bs
  have hw0 := am_ws_in hlm
  rw [hret] at hM hw0
  exact am_after (ret := none) (st0 := (As.reverse ++ .ref a :: st).map (am_v b bs)) (rest := st.map (am_v b bs)) Re rfl hb (va_runIN (As := As.map (am_v b bs)) (b := b + a) (nL := M.2.2.1) ⟨Re.1.2.1, Re.1.2.2.1, Re.1.2.2.2.2.1, Re.1.2.2.2.2.2.1, hts⟩ hM ⟨va_cnB n hts (am_goodIn hw0) rfl rfl rfl (hK.2 _ l1) (hts _ hlm.1) hlm.2.2.2.1 (am_hR (d := d) (Nat.le_trans (Nat.add_le_add_right hd2 1) hd) Re.2.1.1 Re.2.1.2.1 hlm.2.2.2.2), l3, hts _ l2⟩ ⟨am_blind, fun U hU hW => ⟨rfl, by rw [hU]; exact hP, hK.moved hW⟩⟩ rfl (by rw [List.length_map]; exact hn) Re.2.2.2.2.2.2.2.1.1 (by simp [am_v, List.map_reverse]) (lv_room (hst b bs)) h1 ⟨by have := Re.2.1.2.2.1; have := Re.2.2.2.2.2.2.2.2.1; have := hb.1; omega, by have := Re.2.1.2.2.2; have := Re.2.2.2.2.2.2.2.2.2.1; have := hb.2; omega⟩) (fun r h' H1 locs1 hp Re1 => hp p l e R s m args below meth c D cA b bs H1 locs1 ls _ _ Q Re1 En)
/-- Object's constructor -/
theorem am_obj {i a : Nat} (hl : Cond.methodLink (am_R M.2.2.2.2.1) i objectInit ∈ am_tb) (hi : Cond.instanceMethod objectInit ∈ am_tb) (hk : Cond.code objectInit ⟨#[0xb1]⟩ 1 none ∈ am_tb) (hc : M.2.2.2.2.2 pc = some (.invokespecial i, 3, nx, [])) (hd : 1 ≤ d) (hst : ∀ b bs, ((st.map (am_v b bs)).map (fun v => v.category)).sum ≤ 8) (k : am_V M sc d mc ms n0 z0 post nx L st h) : am_V M sc d mc ms n0 z0 post pc L (.ref a :: st) h := by
  intro p l e R s m args below meth c D cA b bs H locs ls cells slots Q Re En
  obtain ⟨h1, h2, h3⟩ := Re.1.1 pc _ hc
  have h2 : nx = pc + 3 := h2
  subst h2
  have hts := Re.1.2.2.2.2.2.2.2.2
  have g1 := Re.2.1.1
  have g2 := Re.2.1.2.1
  have g3 := hst b bs
  refine W.objInit Re.1.2.1 Re.1.2.2.1 Re.1.2.2.2.2.2.1 (hts _ hl) (hts _ hi) (hts _ hk) rfl (by rw [Re.1.2.2.2.2.1]; exact Re.2.2.2.2.2.2.2.1.1) rfl h1 (by omega) (by show 2 * 0 + ((st.map (am_v b bs)).map (fun v => v.category)).sum + 12 ≤ R.locals; omega) ?_
  exact k p l e R s m args below meth c D cA b bs H locs ls cells slots Q Re En
end AMC
end
section
/-! New cells, stores of references, arraycopy, the script. -/
section AMN
variable {M : am_M} {sc : Nat × (Nat → Int32)} {d mc ms n0 z0 : Nat} {post : Int32 → am_H → Prop} {pc nx : Nat} {L : List (Option Value)} {st : List Value} {h : am_H}
theorem am_Re.new {p : Program} {R : Room} {s : State} {m : MethodId} {args : Array Value} {meth : Method} {c : Code} {D : va_G} {cA : Nat → ClassId} {b bs : Nat} {H H1 : Heap} {locs : List Loc} {ls : Array Slot} {cells slots w : Nat} {e : va_E}
    (Re : am_Re M sc d mc ms n0 z0 p R s m args meth c D cA b bs H locs ls cells slots L h) (he : va_at D am_cl (H.size, am_e b bs cA e) H1) (z : H1.size = H.size + 1) (oq : ∀ q : Nat, q < H.size → H1[q]? = H[q]?) (hb : h.2.1 + 1 ≤ n0 + mc ∧ h.2.2 + w ≤ z0 + ms) :
    am_Re M sc d mc ms n0 z0 p R s m args meth c D cA b bs H1 locs ls (cells + 1) (slots + w) L (am_n h e w) := by
  obtain ⟨r1, r2, r3, r4, r5, r6, r7, r8, r9, r10, r11, r12⟩ := Re
  refine ⟨r1, r2, r3, r4, r5, r6.new he z oq, ⟨Nat.le_trans r7.1 (by omega), fun q g1 g2 => (oq q (Nat.lt_of_lt_of_le g1 r7.1)).trans (r7.2.1 q g1 g2), r7.2.2⟩, r8, ?_, ?_, hb.1, hb.2⟩
  · show cells + 1 + n0 = h.2.1 + 1
    omega
  · show slots + w + z0 = h.2.2 + w
    omega
theorem am_new {ci i N : Nat} {C : String} {T : u_T} {fs : List Value} (hcl : am_cl[ci]? = some (C, T, N)) (hlk : Cond.classLink (am_R M.2.2.2.2.1) i C ∈ am_tb) (hins : Cond.instantiable C N ∈ am_tb) (hini : Cond.initialized C ∈ am_tb) (hfs : ∀ b bs j, j < N → defaultValue (am_ty ci j) = vp_V (fs.map (am_v b bs)) j) (hc : M.2.2.2.2.2 pc = some (.new i, 3, nx, [])) (hb : h.2.1 + 1 ≤ n0 + mc ∧ h.2.2 + N ≤ z0 + ms) (k : am_V M sc d mc ms n0 z0 post nx L (.ref h.2.1 :: st) (am_n h (.inr (ci, fs)) N)) : am_V M sc d mc ms n0 z0 post pc L st h := by
  intro p l e R s m args below meth c D cA b bs H locs ls cells slots Q Re En
  obtain ⟨h1, h2, h3⟩ := Re.1.1 pc _ hc
  have h2 : nx = pc + 3 := h2
  subst h2
  have hts := Re.1.2.2.2.2.2.2.2.2
  have hKn := Re.2.2.1.1.1 ci _ hcl
  obtain ⟨hin, hty, hnm, -⟩ := am_cf hcl
  refine W.newcK Re.1.2.1 Re.1.2.2.1 Re.1.2.2.2.2.2.1 (hts _ hlk) (hts _ hins) (hts _ hini) rfl h1 (by have := Re.2.1.2.2.1; have := Re.2.2.2.2.2.2.2.2.1; have := hb.1; omega) (by have := Re.2.1.2.2.2; have := Re.2.2.2.2.2.2.2.2.2.1; have := hb.2; omega) hKn.2.1 rfl fun H1 kC hkC e1 z1 o1 => ?_
  have g := k p l e R s m args below meth c D cA b bs H1 locs ls _ _ Q (Re.new ⟨_, hcl, (u_born (am_ty ci) hts hin hKn hkC e1 hty).to (hfs b bs)⟩ z1 o1 hb) En
  have e2 : H.size = b + h.2.1 := Re.2.2.2.2.2.1.1
  rw [e2]
  exact g
theorem am_newI {x : Int32} {N : Nat} (harr : Cond.arrayClass .int ∈ am_tb) (hx : ¬ x < 0) (hN : x.toNatClampNeg = N) (hN2 : N ≤ 100000) (hc : M.2.2.2.2.2 pc = some (.newarray .int, 2, nx, [])) (hb : h.2.1 + 1 ≤ n0 + mc ∧ h.2.2 + N ≤ z0 + ms) (k : am_V M sc d mc ms n0 z0 post nx L (.ref h.2.1 :: st) (am_n h (.inl (0, N, .inl (fun _ => 0))) N)) : am_V M sc d mc ms n0 z0 post pc L (.int x :: st) h := by
  intro p l e R s m args below meth c D cA b bs H locs ls cells slots Q Re En
  obtain ⟨h1, h2, h3⟩ := Re.1.1 pc _ hc
  have h2 : nx = pc + 2 := h2
  subst h2
  have hts := Re.1.2.2.2.2.2.2.2.2
  refine va_newaK Re.1.2.1 Re.1.2.2.1 (atype := .int) (hts _ harr) rfl h1 rfl hx hN (by show N * 4 ≤ 536870912; omega) (by have := Re.2.1.2.2.1; have := Re.2.2.2.2.2.2.2.2.1; have := hb.1; omega) (by have := Re.2.1.2.2.2; have := Re.2.2.2.2.2.2.2.2.2.1; have := hb.2; omega) rfl fun H1 cA1 e1 z1 o1 hAr hNm => ?_
  have hcA : s.vm.findClass ("[" ++ FieldType.int.toString) = some (cA 0) := (Re.2.2.1.1.2 0 _ rfl).2
  have e3 : cA1 = cA 0 := Option.some.inj (hNm.symm.trans hcA)
  subst e3
  have g := k p l e R s m args below meth c D cA b bs H1 locs ls _ _ Q (Re.new (show H1[H.size]? = some (vp_cell (cA 0) (N, .inl (fun _ => 0))) from e1) z1 o1 hb) En
  have e2 : H.size = b + h.2.1 := Re.2.2.2.2.2.1.1
  rw [e2]
  exact g
theorem am_newZ {x : Int32} {N : Nat} (harr : Cond.arrayClass .boolean ∈ am_tb) (hx : ¬ x < 0) (hN : x.toNatClampNeg = N) (hN2 : N ≤ 100000) (hc : M.2.2.2.2.2 pc = some (.newarray .boolean, 2, nx, [])) (hb : h.2.1 + 1 ≤ n0 + mc ∧ h.2.2 + N ≤ z0 + ms) (k : am_V M sc d mc ms n0 z0 post nx L (.ref h.2.1 :: st) (am_n h (.inl (1, N, .inl (fun _ => 0))) N)) : am_V M sc d mc ms n0 z0 post pc L (.int x :: st) h := by
  intro p l e R s m args below meth c D cA b bs H locs ls cells slots Q Re En
  obtain ⟨h1, h2, h3⟩ := Re.1.1 pc _ hc
  have h2 : nx = pc + 2 := h2
  subst h2
  have hts := Re.1.2.2.2.2.2.2.2.2
  refine va_newaK Re.1.2.1 Re.1.2.2.1 (atype := .boolean) (hts _ harr) rfl h1 rfl hx hN (by show N * 1 ≤ 536870912; omega) (by have := Re.2.1.2.2.1; have := Re.2.2.2.2.2.2.2.2.1; have := hb.1; omega) (by have := Re.2.1.2.2.2; have := Re.2.2.2.2.2.2.2.2.2.1; have := hb.2; omega) rfl fun H1 cA1 e1 z1 o1 hAr hNm => ?_
  have hcA : s.vm.findClass ("[" ++ FieldType.boolean.toString) = some (cA 1) := (Re.2.2.1.1.2 1 _ rfl).2
  have e3 : cA1 = cA 1 := Option.some.inj (hNm.symm.trans hcA)
  subst e3
  have g := k p l e R s m args below meth c D cA b bs H1 locs ls _ _ Q (Re.new (show H1[H.size]? = some (vp_cell (cA 1) (N, .inl (fun _ => 0))) from e1) z1 o1 hb) En
  have e2 : H.size = b + h.2.1 := Re.2.2.2.2.2.1.1
  rw [e2]
  exact g
theorem am_newQ {x : Int32} {i N : Nat} (hlk : Cond.classLink (am_R M.2.2.2.2.1) i RX7 ∈ am_tb) (hx : ¬ x < 0) (hN : x.toNatClampNeg = N) (hN2 : N ≤ 100000) (hc : M.2.2.2.2.2 pc = some (.anewarray i, 3, nx, [])) (hb : h.2.1 + 1 ≤ n0 + mc ∧ h.2.2 + N ≤ z0 + ms) (k : am_V M sc d mc ms n0 z0 post nx L (.ref h.2.1 :: st) (am_n h (.inl (2, N, .inr (.inr (.inr (.inr (fun _ => none)))))) N)) : am_V M sc d mc ms n0 z0 post pc L (.int x :: st) h := by
  intro p l e R s m args below meth c D cA b bs H locs ls cells slots Q Re En
  obtain ⟨h1, h2, h3⟩ := Re.1.1 pc _ hc
  have h2 : nx = pc + 3 := h2
  subst h2
  subst hN
  have hts := Re.1.2.2.2.2.2.2.2.2
  have hao : va_AO RX7 s := Re.2.2.1.2 (Cond.arrayOver (.object RX7)) (by simp [am_nw])
  refine W.anew Re.1.2.1 Re.1.2.2.1 Re.1.2.2.2.2.2.1 (hts _ hlk) (va_AO.use hao) rfl h1 rfl hx (by omega) (by have := Re.2.1.2.2.1; have := Re.2.2.2.2.2.2.2.2.1; have := hb.1; omega) (by have := Re.2.1.2.2.2; have := Re.2.2.2.2.2.2.2.2.2.1; have := hb.2; omega) fun cA1 kA comp f1 f2 f3 f4 => ?_
  obtain ⟨-, -, -, -, -, hcA⟩ := (Re.2.2.1.1.2 2 _ rfl).2
  have e3 : cA1 = cA 2 := Option.some.inj (f1.symm.trans hcA)
  subst e3
  generalize hH1 : H.push ({ cls := cA 2, slots := Array.replicate x.toNatClampNeg .null, vm := .none } : Cell) = H1
  have z1 : H1.size = H.size + 1 := by rw [← hH1, Array.size_push]
  have e1 : H1[H.size]? = some (arrV (cA 2) x.toNatClampNeg (fun _ => .null)) := by rw [← hH1, Array.getElem?_push_size, ← arrV_new]
  have o1 : ∀ q : Nat, q < H.size → H1[q]? = H[q]? := fun q hq => by rw [← hH1, Array.getElem?_push, if_neg (Nat.ne_of_lt hq)]
  have g := k p l e R s m args below meth c D cA b bs H1 locs ls _ _ Q (Re.new (show H1[H.size]? = some (vp_cell (cA 2) (x.toNatClampNeg, .inr (.inr (.inr (.inr (fun _ => none)))))) from e1) z1 o1 hb) En
  have e2 : H.size = b + h.2.1 := Re.2.2.2.2.2.1.1
  rw [e2]
  exact g
theorem am_aast {a n v : Nat} {f : Nat → Option Nat} {vs : List Value} {i : Int32} (hc : M.2.2.2.2.2 pc = some (.aastore, 1, nx, [])) (ha : a < h.2.1) (he : h.1 a = .inl (2, n, .inr (.inr (.inr (.inr f))))) (hv : v < h.2.1) (hev : h.1 v = .inr (7, vs)) (hi : vp_in i n) (kk : am_V M sc d mc ms n0 z0 post nx L st (am_u h a (.inl (2, n, .inr (.inr (.inr (.inr (va_up f i.toNatClampNeg (some v))))))))) : am_V M sc d mc ms n0 z0 post pc L (.ref v :: .int i :: .ref a :: st) h := by
  intro p l e R s m args below meth c D cA b bs H locs ls cells slots Q Re En
  obtain ⟨h1, h2, h3⟩ := Re.1.1 pc _ hc
  have h2 : nx = pc + 1 := h2
  subst h2
  have hP := Re.2.2.2.2.2.1.2 a ha
  rw [he] at hP
  have hPv := Re.2.2.2.2.2.1.2 v hv
  rw [hev] at hPv
  have hK := Re.2.2.1.1
  have hlt : i.toNatClampNeg < n := Nat.not_le.mp fun q => hi (Or.inr q)
  have h0 : ¬ i < 0 := fun q => hi (Or.inl q)
  obtain ⟨r', hr', cellV, g1, g2, g3, -⟩ := hPv
  have hcls := (hK.1 7 (RX7, TX7, 17) rfl).2
  obtain ⟨kA, comp, k1, k2, k3, -⟩ := (hK.2 2 _ rfl).2
  have hcomp : comp = D.1 7 := Option.some.inj (k3.symm.trans hcls.1)
  subst hcomp
  obtain ⟨kC, hkC, -⟩ := hcls.2
  refine W.aast Re.1.2.1 Re.1.2.2.1 hP (fun q h => by cases h) (fun h => by cases h) k1 k2 rfl hkC ⟨h0, by show _ < (arrV (cA 2) n (fun j => va_rf ((f j).map (fun k => b + k)))).slots.size; rw [arrV_size]; exact hlt⟩ g1 (fun q h => by rw [g3] at h; cases h) (by rw [g2]; exact hkC) (by rw [g2]; exact va_assign hcls) rfl rfl h1 fun H1 e1 z oq => ?_
  refine kk p l e R s m args below meth c D cA b bs H1 _ ls cells slots Q (Re.put ?_ z oq) En
  show H1[b + a]? = some (vp_cell _ _)
  rw [e1]
  show some ((vp_cell (cA 2) (n, .inr (.inr (.inr (.inr (fun j => (f j).map (fun k => b + k))))))).setSlot _ _) = some (vp_cell (cA 2) (n, .inr (.inr (.inr (.inr (fun j => (va_up f i.toNatClampNeg (some v) j).map (fun k => b + k)))))))
  rw [vp_cell_q, vp_cell_q, arrV_store]
  congr 2
  funext q
  by_cases hq : q = i.toNatClampNeg
  · subst hq
    simp [updV, va_up, va_rf]
  · simp [updV, va_up, hq]
theorem am_copy {a0 a n0' n1 i : Nat} {f g : Nat → Int32} {sp dp n : Int32} (hlk : Cond.methodLink (am_R M.2.2.2.2.1) i arraycopyName ∈ am_tb) (hnat : Cond.native arraycopyName ∈ am_tb) (hsta : Cond.static arraycopyName ∈ am_tb) (hini : Cond.initialized "java/lang/System" ∈ am_tb) (hc : M.2.2.2.2.2 pc = some (.invokestatic i, 3, nx, [])) (ha0 : a0 < h.2.1) (he0 : h.1 a0 = .inl (0, n0', .inl f)) (ha : a < h.2.1) (he : h.1 a = .inl (0, n1, .inl g))
    (g1 : ¬ sp < 0) (g2 : ¬ dp < 0) (g3 : ¬ n < 0) (g4 : sp.toNatClampNeg + n.toNatClampNeg ≤ n0') (g5 : dp.toNatClampNeg + n.toNatClampNeg ≤ n1) (hd : 1 ≤ d) (hst : ∀ b bs, ((st.map (am_v b bs)).map (fun v => v.category)).sum ≤ 8) (kk : am_V M sc d mc ms n0 z0 post nx L st (am_u h a (.inl (0, n1, .inl (va_cpy f g sp.toNatClampNeg dp.toNatClampNeg n.toNatClampNeg))))) : am_V M sc d mc ms n0 z0 post pc L (.int n :: .int dp :: .ref a :: .int sp :: .ref a0 :: st) h := by
  intro p l e R s m args below meth c D cA b bs H locs ls cells slots Q Re En
  obtain ⟨h1, h2, h3⟩ := Re.1.1 pc _ hc
  have h2 : nx = pc + 3 := h2
  subst h2
  have hts := Re.1.2.2.2.2.2.2.2.2
  have nn : ∀ z : Int32, ¬ z < 0 → z.toInt = (z.toNatClampNeg : Int) := by
    intro z hz
    have hz0 : (0 : Int) ≤ z.toInt := by
      have := Int32.not_lt.mp hz
      simpa using Int32.le_iff_toInt_le.mp this
    show z.toInt = ((z.toInt.toNat : Nat) : Int)
    omega
  intro T hT X
  have hP0 := Re.2.2.2.2.2.1.2 a0 ha0
  rw [he0] at hP0
  have hP1 := Re.2.2.2.2.2.1.2 a ha
  rw [he] at hP1
  have hc0 : H[b + a0]? = some (vp_cell (cA 0) (n0', .inl f)) := hP0
  have hc1 : H[b + a]? = some (vp_cell (cA 0) (n1, .inl g)) := hP1
  have hK := Re.2.2.1.1
  obtain ⟨-, k0, hk0, cm0, hkk0⟩ := (hK.2 0 _ rfl).1 n0' (fun j => .int (f j))
  have hfr := Re.2.1.1
  have hlo := Re.2.1.2.1
  have hs8 := hst b bs
  obtain ⟨vm', X', step⟩ := X.arraycopy Re.1.2.1 Re.1.2.2.2.2.2.1 (hts _ hlk) (hts _ hnat) (hts _ hsta) (hts _ hini) (src := b + a0) (dst := b + a) (cs := vp_cell (cA 0) (n0', .inl f)) (cd := vp_cell (cA 0) (n1, .inl g)) (srcPos := sp) (destPos := dp) (n := n) (by rw [hT]; exact hc0) (by rw [hT]; exact hc1)
    (fun _ h => by cases h) (fun _ h => by cases h) (fun h => by cases h) (fun h => by cases h) hk0 hk0 hkk0 hkk0 (by simp [refKind]) g1 g2 g3
    (by rw [nn sp g1, nn n g3]; show ¬ _ > ((arrV (cA 0) n0' (fun j => .int (f j))).slots.size : Int); rw [arrV_size]; omega)
    (by rw [nn dp g2, nn n g3]; show ¬ _ > ((arrV (cA 0) n1 (fun j => .int (g j))).slots.size : Int); rw [arrV_size]; omega)
    (fun vm₁ _ i hi => by
      have e : (vp_cell (cA 0) (n0', .inl f)).slots.getD (sp.toNatClampNeg + i) .null = .int (f (sp.toNatClampNeg + i)) := by
        show (arrV (cA 0) n0' (fun j => .int (f j))).slots.getD _ _ = _
        rw [Array.getD_eq_getD_getElem?, arrV_read _ _ (by omega)]
        rfl
      refine ⟨?_, ?_⟩
      · rw [e]
        rfl
      · rw [e]
        exact trivial)
    (g := F0 m pc ls (.int n :: .int dp :: .ref (b + a) :: .int sp :: .ref (b + a0) :: st.map (am_v b bs))) rfl (by rw [Re.1.2.2.2.2.1]; exact Re.2.2.2.2.2.2.2.1.1) (rest := st.map (am_v b bs)) rfl (by rw [Re.1.2.2.1]; exact h1) (by omega) (by show 2 * 0 + _ + (7 + 11) ≤ _; omega)
  have e1 : copied (vp_cell (cA 0) (n0', .inl f)) (vp_cell (cA 0) (n1, .inl g)) sp dp n = vp_cell (cA 0) (n1, .inl (va_cpy f g sp.toNatClampNeg dp.toNatClampNeg n.toNatClampNeg)) := va_copied (fun z => .int z) (cA 0) (cA 0) f g g4
  rw [e1] at X' step
  have hl : b + a < H.size := (Array.getElem?_eq_some_iff.mp hc1).1
  have hheap : ((T.setVm vm').setCell (b + a) (vp_cell (cA 0) (n1, .inl (va_cpy f g sp.toNatClampNeg dp.toNatClampNeg n.toNatClampNeg)))).heap = H.setIfInBounds (b + a) (vp_cell (cA 0) (n1, .inl (va_cpy f g sp.toNatClampNeg dp.toNatClampNeg n.toNatClampNeg))) := by rw [← hT]; rfl
  have oq : ∀ q : Nat, q ≠ b + a → (H.setIfInBounds (b + a) (vp_cell (cA 0) (n1, .inl (va_cpy f g sp.toNatClampNeg dp.toNatClampNeg n.toNatClampNeg))))[q]? = H[q]? := fun q hq => by simp [Array.getElem?_setIfInBounds, Ne.symm hq]
  obtain ⟨r1, r2, r3, r4, r5, r6, r7, r8, r9⟩ := Re
  obtain ⟨t, a1, b1⟩ := kk p l e R s m args below meth c D cA b bs _ _ ls cells slots Q ⟨r1, r2, r3, r4, r5, r6.put (show (H.setIfInBounds (b + a) _)[b + a]? = some _ by simp [Array.getElem?_setIfInBounds, hl]; rfl) (by simp) oq, ⟨by simp; exact r7.1, fun q g1 g2 => by
      rw [oq q (fun e => g2 (by rw [e]; exact Nat.le_add_right b a))]
      exact r7.2.1 q g1 g2, fun q hq => by
      rcases List.mem_append.mp hq with h | h
      · exact r7.2.2 q h
      · obtain ⟨z, -, hz⟩ := List.mem_map.mp h
        rw [← hz]
        exact Nat.le_add_right b a⟩, r8, r9⟩ En _ hheap X'
  exact ⟨t, step t a1, b1⟩
theorem am_sld {x : UInt32} {i : Int32} (hown : M.2.2.2.2.1 = 10) (hc : M.2.2.2.2.2 pc = some (.iaload, 1, nx, [])) (hi : vp_in i sc.1) (kk : am_V M sc d mc ms n0 z0 post nx L (.int (sc.2 i.toNatClampNeg) :: st) h) : am_V M sc d mc ms n0 z0 post pc L (.int i :: .float x :: st) h := by
  intro p l e R s m args below meth c D cA b bs H locs ls cells slots Q Re En
  obtain ⟨h1, h2, h3⟩ := Re.1.1 pc _ hc
  have h2 : nx = pc + 1 := h2
  subst h2
  obtain ⟨hX, g1, g2⟩ := Re.2.2.2.1 hown
  exact va_sld Re.1.2.1 Re.1.2.2.1 hX g1 (A := fun q => b ≤ q) (Nat.not_le.mpr g2) Re.2.2.2.2.2.2.1 hi h1 (kk p l e R s m args below meth c D cA b bs H locs ls cells slots Q Re En)
theorem am_slen {x : UInt32} (hown : M.2.2.2.2.1 = 10) (hc : M.2.2.2.2.2 pc = some (.arraylength, 1, nx, [])) (kk : am_V M sc d mc ms n0 z0 post nx L (.int (nI sc.1) :: st) h) : am_V M sc d mc ms n0 z0 post pc L (.float x :: st) h := by
  intro p l e R s m args below meth c D cA b bs H locs ls cells slots Q Re En
  obtain ⟨h1, h2, h3⟩ := Re.1.1 pc _ hc
  have h2 : nx = pc + 1 := h2
  subst h2
  obtain ⟨hX, g1, g2⟩ := Re.2.2.2.1 hown
  exact va_slen Re.1.2.1 Re.1.2.2.1 hX g1 (A := fun q => b ≤ q) (Nat.not_le.mpr g2) Re.2.2.2.2.2.2.1 h1 (kk p l e R s m args below meth c D cA b bs H locs ls cells slots Q Re En)
end AMN
end
section
/-! The code of all methods as tables, held against their bytes. Written by gen/p07.py. -/
def am_at : List (Nat × Instr × Nat × Nat × List Nat) → Nat → Option (Instr × Nat × Nat × List Nat)
  | [], _ => none
  | e :: r, pc => bif Nat.beq e.1 pc then some e.2 else am_at r pc
def am_a2 : List (Nat × List (Nat × Instr × Nat × Nat × List Nat)) → Nat → Option (Instr × Nat × Nat × List Nat)
  | [], _ => none
  | e :: r, pc => bif Nat.blt pc e.1 then am_at e.2 pc else am_a2 r pc
def am_ck (bytes : ByteArray) (e : Nat × Instr × Nat × Nat × List Nat) : Prop := decode bytes e.1 = .ok (e.2.1, e.2.2.1) ∧ e.2.2.2.1 = e.1 + e.2.2.1 ∧ e.2.2.2.2.map (fun t : Nat => (t : Int)) = (am_off e.2.1).map (fun o : Int => (e.1 : Int) + o)
theorem am_at_in : ∀ (l : List (Nat × Instr × Nat × Nat × List Nat)) (pc : Nat) (q : Instr × Nat × Nat × List Nat), am_at l pc = some q → (pc, q) ∈ l
  | [], _, _, h => by cases h
  | e :: r, pc, q, h => by
    rw [am_at] at h
    cases hb : Nat.beq e.1 pc with
    | true =>
      rw [hb] at h
      have h1 := Nat.eq_of_beq_eq_true hb
      have h2 : e.2 = q := Option.some.inj h
      subst h1; subst h2
      exact List.mem_cons_self
    | false =>
      rw [hb] at h
      exact List.mem_cons_of_mem _ (am_at_in r pc q h)
theorem am_a2_in : ∀ (l : List (Nat × List (Nat × Instr × Nat × Nat × List Nat))) (pc : Nat) (q : Instr × Nat × Nat × List Nat), am_a2 l pc = some q → ∃ e ∈ l, (pc, q) ∈ e.2
  | [], _, _, h => by cases h
  | e :: r, pc, q, h => by
    rw [am_a2] at h
    cases hb : Nat.blt pc e.1 with
    | true =>
      rw [hb] at h
      exact ⟨e, List.mem_cons_self, am_at_in e.2 pc q h⟩
    | false =>
      rw [hb] at h
      obtain ⟨e', h1, h2⟩ := am_a2_in r pc q h
      exact ⟨e', List.mem_cons_of_mem _ h1, h2⟩
theorem am_ok_at {y : MethodName} {bytes : ByteArray} {n o : Nat} {ret : Option FieldType} {l : List (Nat × Instr × Nat × Nat × List Nat)} (h : ∀ e ∈ l, am_ck bytes e) : am_ok (y, bytes, n, ret, o, am_at l) := fun pc q hq => h (pc, q) (am_at_in l pc q hq)
theorem am_ok_a2 {y : MethodName} {bytes : ByteArray} {n o : Nat} {ret : Option FieldType} {l : List (Nat × List (Nat × Instr × Nat × Nat × List Nat))} (h : ∀ e ∈ l, ∀ q ∈ e.2, am_ck bytes q) : am_ok (y, bytes, n, ret, o, am_a2 l) := fun pc q hq => by
  obtain ⟨e, h1, h2⟩ := am_a2_in l pc q hq
  exact h e h1 (pc, q) h2
def k_X8_init_0 : List (Nat × Instr × Nat × Nat × List Nat) := [(0, .aload_n 0, 1, 1, []), (1, .invokespecial 1, 3, 4, []), (4, .aload_n 0, 1, 5, []), (5, .new 7, 3, 8, []), (8, .dup, 1, 9, []), (9, .invokespecial 9, 3, 12, []), (12, .putfield 10, 3, 15, []), (15, .aload_n 0, 1, 16, []), (16, .new 16, 3, 19, []), (19, .dup, 1, 20, []), (20, .invokespecial 18, 3, 23, []), (23, .putfield 19, 3, 26, []), (26, .aload_n 0, 1, 27, []), (27, .new 16, 3, 30, []), (30, .dup, 1, 31, []), (31, .invokespecial 18, 3, 34, []), (34, .putfield 23, 3, 37, []), (37, .aload_n 0, 1, 38, []), (38, .iconst 4, 1, 39, []), (39, .anewarray 26, 3, 42, []), (42, .putfield 28, 3, 45, []), (45, .aload_n 0, 1, 46, []), (46, .iconst 4, 1, 47, []), (47, .anewarray 26, 3, 50, []), (50, .putfield 32, 3, 53, []), (53, .aload_n 0, 1, 54, []), (54, .new 35, 3, 57, []), (57, .dup, 1, 58, []), (58, .invokespecial 37, 3, 61, []), (61, .putfield 38, 3, 64, []), (64, .aload_n 0, 1, 65, []), (65, .new 42, 3, 68, [])]
def k_X8_init_1 : List (Nat × Instr × Nat × Nat × List Nat) := [(68, .dup, 1, 69, []), (69, .invokespecial 44, 3, 72, []), (72, .putfield 45, 3, 75, []), (75, .aload_n 0, 1, 76, []), (76, .new 49, 3, 79, []), (79, .dup, 1, 80, []), (80, .invokespecial 51, 3, 83, []), (83, .putfield 52, 3, 86, []), (86, .aload_n 0, 1, 87, []), (87, .new 56, 3, 90, []), (90, .dup, 1, 91, []), (91, .invokespecial 58, 3, 94, []), (94, .putfield 59, 3, 97, []), (97, .aload_n 0, 1, 98, []), (98, .new 63, 3, 101, []), (101, .dup, 1, 102, []), (102, .invokespecial 65, 3, 105, []), (105, .putfield 66, 3, 108, []), (108, .aload_n 0, 1, 109, []), (109, .iconst 4, 1, 110, []), (110, .newarray .int, 2, 112, []), (112, .putfield 70, 3, 115, []), (115, .aload_n 0, 1, 116, []), (116, .iconst 0, 1, 117, []), (117, .putfield 74, 3, 120, []), (120, .aload_n 0, 1, 121, []), (121, .iconst 0, 1, 122, []), (122, .putfield 78, 3, 125, []), (125, .aload_n 0, 1, 126, []), (126, .iconst 0, 1, 127, []), (127, .putfield 81, 3, 130, []), (130, .aload_n 0, 1, 131, [])]
def k_X8_init_2 : List (Nat × Instr × Nat × Nat × List Nat) := [(131, .iconst 0, 1, 132, []), (132, .putfield 84, 3, 135, []), (135, .iconst 0, 1, 136, []), (136, .istore_n 1, 1, 137, []), (137, .iload_n 1, 1, 138, []), (138, .iconst 4, 1, 139, []), (139, .if_icmp .ge 35, 3, 142, [174]), (142, .aload_n 0, 1, 143, []), (143, .getfield 28, 3, 146, []), (146, .iload_n 1, 1, 147, []), (147, .new 26, 3, 150, []), (150, .dup, 1, 151, []), (151, .invokespecial 87, 3, 154, []), (154, .aastore, 1, 155, []), (155, .aload_n 0, 1, 156, []), (156, .getfield 32, 3, 159, []), (159, .iload_n 1, 1, 160, []), (160, .new 26, 3, 163, []), (163, .dup, 1, 164, []), (164, .invokespecial 87, 3, 167, []), (167, .aastore, 1, 168, []), (168, .iinc 1 1, 3, 171, []), (171, .goto (-34), 3, 174, [137]), (174, .return_, 1, 175, [])]
def k_X8_init : List (Nat × List (Nat × Instr × Nat × Nat × List Nat)) := [(68, k_X8_init_0), (131, k_X8_init_1), (175, k_X8_init_2)]
def m_X8_init : am_M := (yX8_init, cX8_init, 2, none, 8, am_a2 k_X8_init)
theorem ok_X8_init_0 : ∀ q ∈ k_X8_init_0, am_ck cX8_init q := by unfold am_ck; decide +kernel
theorem ok_X8_init_1 : ∀ q ∈ k_X8_init_1, am_ck cX8_init q := by unfold am_ck; decide +kernel
theorem ok_X8_init_2 : ∀ q ∈ k_X8_init_2, am_ck cX8_init q := by unfold am_ck; decide +kernel
theorem ok_X8_init : am_ok m_X8_init := am_ok_a2 (List.forall_mem_cons.mpr ⟨ok_X8_init_0, List.forall_mem_cons.mpr ⟨ok_X8_init_1, List.forall_mem_cons.mpr ⟨ok_X8_init_2, fun _ h => absurd h List.not_mem_nil⟩⟩⟩)
def k_X8_player : List (Nat × Instr × Nat × Nat × List Nat) := [(0, .iload_n 1, 1, 1, []), (1, .ifCond .lt 19, 3, 4, [20]), (4, .iload_n 1, 1, 5, []), (5, .iconst 4, 1, 6, []), (6, .if_icmp .gt 14, 3, 9, [20]), (9, .iload_n 2, 1, 10, []), (10, .ifCond .lt 10, 3, 13, [20]), (13, .iload_n 2, 1, 14, []), (14, .sipush 3000, 3, 17, []), (17, .if_icmp .le 6, 3, 20, [23]), (20, .bipush (-2), 2, 22, []), (22, .ireturn, 1, 23, []), (23, .aload_n 0, 1, 24, []), (24, .getfield 19, 3, 27, []), (27, .iload_n 1, 1, 28, []), (28, .iload_n 2, 1, 29, []), (29, .invokevirtual 88, 3, 32, []), (32, .ireturn, 1, 33, [])]
def m_X8_player : am_M := (yX8_player, cX8_player, 3, (some .int), 8, am_at k_X8_player)
theorem ok_X8_player : am_ok m_X8_player := am_ok_at (by unfold am_ck; decide +kernel)
def k_X8_places : List (Nat × Instr × Nat × Nat × List Nat) := [(0, .aload_n 0, 1, 1, []), (1, .getfield 19, 3, 4, []), (4, .iload_n 1, 1, 5, []), (5, .invokevirtual 92, 3, 8, []), (8, .ifCond .eq 8, 3, 11, [16]), (11, .iload_n 2, 1, 12, []), (12, .iconst 4, 1, 13, []), (13, .if_icmp .le 6, 3, 16, [19]), (16, .bipush (-2), 2, 18, []), (18, .ireturn, 1, 19, []), (19, .aload_n 0, 1, 20, []), (20, .getfield 19, 3, 23, []), (23, .iload_n 1, 1, 24, []), (24, .invokevirtual 96, 3, 27, []), (27, .ifCond .ne 12, 3, 30, [39]), (30, .aload_n 0, 1, 31, []), (31, .getfield 10, 3, 34, []), (34, .iconst 3, 1, 35, []), (35, .invokevirtual 99, 3, 38, []), (38, .ireturn, 1, 39, []), (39, .iload_n 2, 1, 40, []), (40, .ifCond .ge 12, 3, 43, [52]), (43, .aload_n 0, 1, 44, []), (44, .getfield 10, 3, 47, []), (47, .iconst 5, 1, 48, []), (48, .invokevirtual 99, 3, 51, []), (51, .ireturn, 1, 52, []), (52, .aload_n 0, 1, 53, []), (53, .getfield 19, 3, 56, []), (56, .iload_n 1, 1, 57, []), (57, .iload_n 2, 1, 58, []), (58, .invokevirtual 103, 3, 61, []), (61, .iload_n 2, 1, 62, []), (62, .ireturn, 1, 63, [])]
def m_X8_places : am_M := (yX8_places, cX8_places, 3, (some .int), 8, am_at k_X8_places)
theorem ok_X8_places : am_ok m_X8_places := am_ok_at (by unfold am_ck; decide +kernel)
def k_X8_seat_0 : List (Nat × Instr × Nat × Nat × List Nat) := [(0, .aload_n 0, 1, 1, []), (1, .getfield 19, 3, 4, []), (4, .iload_n 1, 1, 5, []), (5, .invokevirtual 92, 3, 8, []), (8, .ifCond .eq 19, 3, 11, [27]), (11, .iload_n 3, 1, 12, []), (12, .iconst (-1), 1, 13, []), (13, .if_icmp .eq 17, 3, 16, [30]), (16, .aload_n 0, 1, 17, []), (17, .getfield 19, 3, 20, []), (20, .iload_n 3, 1, 21, []), (21, .invokevirtual 92, 3, 24, []), (24, .ifCond .ne 6, 3, 27, [30]), (27, .bipush (-2), 2, 29, []), (29, .ireturn, 1, 30, []), (30, .aload_n 0, 1, 31, []), (31, .getfield 19, 3, 34, []), (34, .iload_n 1, 1, 35, []), (35, .invokevirtual 96, 3, 38, []), (38, .ifCond .eq 19, 3, 41, [57]), (41, .iload_n 3, 1, 42, []), (42, .iconst (-1), 1, 43, []), (43, .if_icmp .eq 23, 3, 46, [66]), (46, .aload_n 0, 1, 47, []), (47, .getfield 19, 3, 50, []), (50, .iload_n 3, 1, 51, []), (51, .invokevirtual 96, 3, 54, []), (54, .ifCond .eq 12, 3, 57, [66]), (57, .aload_n 0, 1, 58, []), (58, .getfield 10, 3, 61, []), (61, .iconst 3, 1, 62, []), (62, .invokevirtual 99, 3, 65, [])]
def k_X8_seat_1 : List (Nat × Instr × Nat × Nat × List Nat) := [(65, .ireturn, 1, 66, []), (66, .aload_n 0, 1, 67, []), (67, .getfield 19, 3, 70, []), (70, .iload_n 1, 1, 71, []), (71, .iload_n 2, 1, 72, []), (72, .aload_n 0, 1, 73, []), (73, .getfield 10, 3, 76, []), (76, .invokevirtual 107, 3, 79, []), (79, .istore 4, 2, 81, []), (81, .iload 4, 2, 83, []), (83, .ifCond .ge 6, 3, 86, [89]), (86, .iload 4, 2, 88, []), (88, .ireturn, 1, 89, []), (89, .aload_n 0, 1, 90, []), (90, .getfield 19, 3, 93, []), (93, .getfield 111, 3, 96, []), (96, .iload 4, 2, 98, []), (98, .iload_n 3, 1, 99, []), (99, .iastore, 1, 100, []), (100, .iconst 1, 1, 101, []), (101, .ireturn, 1, 102, [])]
def k_X8_seat : List (Nat × List (Nat × Instr × Nat × Nat × List Nat)) := [(65, k_X8_seat_0), (102, k_X8_seat_1)]
def m_X8_seat : am_M := (yX8_seat, cX8_seat, 5, (some .int), 8, am_a2 k_X8_seat)
theorem ok_X8_seat_0 : ∀ q ∈ k_X8_seat_0, am_ck cX8_seat q := by unfold am_ck; decide +kernel
theorem ok_X8_seat_1 : ∀ q ∈ k_X8_seat_1, am_ck cX8_seat q := by unfold am_ck; decide +kernel
theorem ok_X8_seat : am_ok m_X8_seat := am_ok_a2 (List.forall_mem_cons.mpr ⟨ok_X8_seat_0, List.forall_mem_cons.mpr ⟨ok_X8_seat_1, fun _ h => absurd h List.not_mem_nil⟩⟩)
def k_X8_held : List (Nat × Instr × Nat × Nat × List Nat) := [(0, .aload_n 0, 1, 1, []), (1, .getfield 19, 3, 4, []), (4, .iload_n 1, 1, 5, []), (5, .invokevirtual 92, 3, 8, []), (8, .ifCond .ne 6, 3, 11, [14]), (11, .bipush (-2), 2, 13, []), (13, .ireturn, 1, 14, []), (14, .aload_n 0, 1, 15, []), (15, .getfield 19, 3, 18, []), (18, .iload_n 1, 1, 19, []), (19, .invokevirtual 96, 3, 22, []), (22, .ifCond .ne 12, 3, 25, [34]), (25, .aload_n 0, 1, 26, []), (26, .getfield 10, 3, 29, []), (29, .iconst 3, 1, 30, []), (30, .invokevirtual 99, 3, 33, []), (33, .ireturn, 1, 34, []), (34, .aload_n 0, 1, 35, []), (35, .getfield 19, 3, 38, []), (38, .iload_n 1, 1, 39, []), (39, .iload_n 2, 1, 40, []), (40, .aload_n 0, 1, 41, []), (41, .getfield 10, 3, 44, []), (44, .invokevirtual 107, 3, 47, []), (47, .istore_n 3, 1, 48, []), (48, .iload_n 3, 1, 49, []), (49, .ifCond .ge 7, 3, 52, [56]), (52, .iload_n 3, 1, 53, []), (53, .goto 12, 3, 56, [65]), (56, .aload_n 0, 1, 57, []), (57, .getfield 19, 3, 60, []), (60, .getfield 111, 3, 63, []), (63, .iload_n 3, 1, 64, []), (64, .iaload, 1, 65, []), (65, .ireturn, 1, 66, [])]
def m_X8_held : am_M := (yX8_held, cX8_held, 4, (some .int), 8, am_at k_X8_held)
theorem ok_X8_held : am_ok m_X8_held := am_ok_at (by unfold am_ck; decide +kernel)
def k_X8_worth : List (Nat × Instr × Nat × Nat × List Nat) := [(0, .aload_n 0, 1, 1, []), (1, .getfield 10, 3, 4, []), (4, .invokevirtual 114, 3, 7, []), (7, .aload_n 0, 1, 8, []), (8, .iload_n 1, 1, 9, []), (9, .invokevirtual 117, 3, 12, []), (12, .ireturn, 1, 13, [])]
def m_X8_worth : am_M := (yX8_worth, cX8_worth, 2, (some .int), 8, am_at k_X8_worth)
theorem ok_X8_worth : am_ok m_X8_worth := am_ok_at (by unfold am_ck; decide +kernel)
def k_X8_stepOf : List (Nat × Instr × Nat × Nat × List Nat) := [(0, .aload_n 0, 1, 1, []), (1, .getfield 10, 3, 4, []), (4, .invokevirtual 114, 3, 7, []), (7, .aload_n 0, 1, 8, []), (8, .getfield 19, 3, 11, []), (11, .iload_n 1, 1, 12, []), (12, .invokevirtual 92, 3, 15, []), (15, .ifCond .eq 18, 3, 18, [33]), (18, .aload_n 0, 1, 19, []), (19, .getfield 19, 3, 22, []), (22, .iload_n 1, 1, 23, []), (23, .aload_n 0, 1, 24, []), (24, .getfield 10, 3, 27, []), (27, .invokevirtual 120, 3, 30, []), (30, .goto 5, 3, 33, [35]), (33, .bipush (-2), 2, 35, []), (35, .ireturn, 1, 36, [])]
def m_X8_stepOf : am_M := (yX8_stepOf, cX8_stepOf, 2, (some .int), 8, am_at k_X8_stepOf)
theorem ok_X8_stepOf : am_ok m_X8_stepOf := am_ok_at (by unfold am_ck; decide +kernel)
def k_X8_trace : List (Nat × Instr × Nat × Nat × List Nat) := [(0, .iload_n 1, 1, 1, []), (1, .ifCond .lt 26, 3, 4, [27]), (4, .iload_n 1, 1, 5, []), (5, .aload_n 0, 1, 6, []), (6, .getfield 10, 3, 9, []), (9, .getfield 124, 3, 12, []), (12, .if_icmp .ge 15, 3, 15, [27]), (15, .aload_n 0, 1, 16, []), (16, .getfield 10, 3, 19, []), (19, .getfield 127, 3, 22, []), (22, .iload_n 1, 1, 23, []), (23, .iaload, 1, 24, []), (24, .goto 4, 3, 27, [28]), (27, .iconst (-1), 1, 28, []), (28, .ireturn, 1, 29, [])]
def m_X8_trace : am_M := (yX8_trace, cX8_trace, 2, (some .int), 8, am_at k_X8_trace)
theorem ok_X8_trace : am_ok m_X8_trace := am_ok_at (by unfold am_ck; decide +kernel)
def k_X8_askWorth : List (Nat × Instr × Nat × Nat × List Nat) := [(0, .aload_n 0, 1, 1, []), (1, .getfield 19, 3, 4, []), (4, .iload_n 1, 1, 5, []), (5, .invokevirtual 92, 3, 8, []), (8, .ifCond .eq 18, 3, 11, [26]), (11, .aload_n 0, 1, 12, []), (12, .getfield 19, 3, 15, []), (15, .iload_n 1, 1, 16, []), (16, .aload_n 0, 1, 17, []), (17, .getfield 10, 3, 20, []), (20, .invokevirtual 130, 3, 23, []), (23, .goto 5, 3, 26, [28]), (26, .bipush (-2), 2, 28, []), (28, .ireturn, 1, 29, [])]
def m_X8_askWorth : am_M := (yX8_askWorth, cX8_askWorth, 2, (some .int), 8, am_at k_X8_askWorth)
theorem ok_X8_askWorth : am_ok m_X8_askWorth := am_ok_at (by unfold am_ck; decide +kernel)
def k_X8_tournament : List (Nat × Instr × Nat × Nat × List Nat) := [(0, .aload_n 0, 1, 1, []), (1, .getfield 78, 3, 4, []), (4, .iconst 4, 1, 5, []), (5, .if_icmp .lt 6, 3, 8, [11]), (8, .bipush (-4), 2, 10, []), (10, .ireturn, 1, 11, []), (11, .aload_n 0, 1, 12, []), (12, .getfield 28, 3, 15, []), (15, .aload_n 0, 1, 16, []), (16, .getfield 78, 3, 19, []), (19, .aaload, 1, 20, []), (20, .invokevirtual 133, 3, 23, []), (23, .aload_n 0, 1, 24, []), (24, .invokevirtual 134, 3, 27, []), (27, .ireturn, 1, 28, [])]
def m_X8_tournament : am_M := (yX8_tournament, cX8_tournament, 1, (some .int), 8, am_at k_X8_tournament)
theorem ok_X8_tournament : am_ok m_X8_tournament := am_ok_at (by unfold am_ck; decide +kernel)
def k_X8_enter : List (Nat × Instr × Nat × Nat × List Nat) := [(0, .aload_n 0, 1, 1, []), (1, .iload_n 1, 1, 2, []), (2, .invokevirtual 138, 3, 5, []), (5, .ifCond .eq 14, 3, 8, [19]), (8, .aload_n 0, 1, 9, []), (9, .getfield 19, 3, 12, []), (12, .iload_n 2, 1, 13, []), (13, .invokevirtual 92, 3, 16, []), (16, .ifCond .ne 6, 3, 19, [22]), (19, .bipush (-2), 2, 21, []), (21, .ireturn, 1, 22, []), (22, .aload_n 0, 1, 23, []), (23, .getfield 28, 3, 26, []), (26, .iload_n 1, 1, 27, []), (27, .aaload, 1, 28, []), (28, .astore_n 3, 1, 29, []), (29, .aload_n 3, 1, 30, []), (30, .iload_n 2, 1, 31, []), (31, .invokevirtual 141, 3, 34, []), (34, .ifCond .ne 10, 3, 37, [44]), (37, .aload_n 3, 1, 38, []), (38, .getfield 144, 3, 41, []), (41, .ifCond .le 6, 3, 44, [47]), (44, .bipush (-3), 2, 46, []), (46, .ireturn, 1, 47, []), (47, .aload_n 3, 1, 48, []), (48, .getfield 147, 3, 51, []), (51, .bipush 10, 2, 53, []), (53, .if_icmp .lt 6, 3, 56, [59]), (56, .bipush (-4), 2, 58, []), (58, .ireturn, 1, 59, []), (59, .aload_n 0, 1, 60, []), (60, .getfield 19, 3, 63, []), (63, .iload_n 2, 1, 64, []), (64, .invokevirtual 150, 3, 67, []), (67, .ifCond .ne 12, 3, 70, [79]), (70, .aload_n 0, 1, 71, []), (71, .getfield 10, 3, 74, []), (74, .iconst 3, 1, 75, []), (75, .invokevirtual 99, 3, 78, []), (78, .ireturn, 1, 79, []), (79, .aload_n 3, 1, 80, []), (80, .iload_n 2, 1, 81, []), (81, .invokevirtual 153, 3, 84, []), (84, .ireturn, 1, 85, [])]
def m_X8_enter : am_M := (yX8_enter, cX8_enter, 4, (some .int), 8, am_at k_X8_enter)
theorem ok_X8_enter : am_ok m_X8_enter := am_ok_at (by unfold am_ck; decide +kernel)
def k_X8_withdraw : List (Nat × Instr × Nat × Nat × List Nat) := [(0, .aload_n 0, 1, 1, []), (1, .iload_n 1, 1, 2, []), (2, .invokevirtual 138, 3, 5, []), (5, .ifCond .eq 14, 3, 8, [19]), (8, .aload_n 0, 1, 9, []), (9, .getfield 19, 3, 12, []), (12, .iload_n 2, 1, 13, []), (13, .invokevirtual 92, 3, 16, []), (16, .ifCond .ne 6, 3, 19, [22]), (19, .bipush (-2), 2, 21, []), (21, .ireturn, 1, 22, []), (22, .aload_n 0, 1, 23, []), (23, .getfield 28, 3, 26, []), (26, .iload_n 1, 1, 27, []), (27, .aaload, 1, 28, []), (28, .astore_n 3, 1, 29, []), (29, .aload_n 3, 1, 30, []), (30, .getfield 156, 3, 33, []), (33, .iload_n 2, 1, 34, []), (34, .iaload, 1, 35, []), (35, .iconst 1, 1, 36, []), (36, .if_icmp .eq 6, 3, 39, [42]), (39, .bipush (-3), 2, 41, []), (41, .ireturn, 1, 42, []), (42, .aload_n 3, 1, 43, []), (43, .getfield 156, 3, 46, []), (46, .iload_n 2, 1, 47, []), (47, .iconst 2, 1, 48, []), (48, .iastore, 1, 49, []), (49, .iconst 1, 1, 50, []), (50, .ireturn, 1, 51, [])]
def m_X8_withdraw : am_M := (yX8_withdraw, cX8_withdraw, 4, (some .int), 8, am_at k_X8_withdraw)
theorem ok_X8_withdraw : am_ok m_X8_withdraw := am_ok_at (by unfold am_ck; decide +kernel)
def k_X8_rule : List (Nat × Instr × Nat × Nat × List Nat) := [(0, .aload_n 0, 1, 1, []), (1, .iload_n 1, 1, 2, []), (2, .invokevirtual 138, 3, 5, []), (5, .ifCond .eq 22, 3, 8, [27]), (8, .iload_n 2, 1, 9, []), (9, .iconst 1, 1, 10, []), (10, .if_icmp .lt 17, 3, 13, [27]), (13, .iload_n 2, 1, 14, []), (14, .iconst 4, 1, 15, []), (15, .if_icmp .gt 12, 3, 18, [27]), (18, .iload_n 3, 1, 19, []), (19, .ifCond .lt 8, 3, 22, [27]), (22, .iload_n 3, 1, 23, []), (23, .iconst 5, 1, 24, []), (24, .if_icmp .le 6, 3, 27, [30]), (27, .bipush (-2), 2, 29, []), (29, .ireturn, 1, 30, []), (30, .aload_n 0, 1, 31, []), (31, .getfield 28, 3, 34, []), (34, .iload_n 1, 1, 35, []), (35, .aaload, 1, 36, []), (36, .getfield 159, 3, 39, []), (39, .astore 4, 2, 41, []), (41, .aload 4, 2, 43, []), (43, .iload_n 2, 1, 44, []), (44, .iaload, 1, 45, []), (45, .istore 5, 2, 47, []), (47, .aload 4, 2, 49, []), (49, .iload_n 2, 1, 50, []), (50, .iload_n 3, 1, 51, []), (51, .iastore, 1, 52, []), (52, .iload 5, 2, 54, []), (54, .ireturn, 1, 55, [])]
def m_X8_rule : am_M := (yX8_rule, cX8_rule, 6, (some .int), 8, am_at k_X8_rule)
theorem ok_X8_rule : am_ok m_X8_rule := am_ok_at (by unfold am_ck; decide +kernel)
def k_X8_draw : List (Nat × Instr × Nat × Nat × List Nat) := [(0, .aload_n 0, 1, 1, []), (1, .getfield 10, 3, 4, []), (4, .invokevirtual 114, 3, 7, []), (7, .aload_n 0, 1, 8, []), (8, .iload_n 1, 1, 9, []), (9, .iload_n 2, 1, 10, []), (10, .invokevirtual 162, 3, 13, []), (13, .ireturn, 1, 14, [])]
def m_X8_draw : am_M := (yX8_draw, cX8_draw, 3, (some .int), 8, am_at k_X8_draw)
theorem ok_X8_draw : am_ok m_X8_draw := am_ok_at (by unfold am_ck; decide +kernel)
def k_X8_pair : List (Nat × Instr × Nat × Nat × List Nat) := [(0, .aload_n 0, 1, 1, []), (1, .iload_n 1, 1, 2, []), (2, .invokevirtual 138, 3, 5, []), (5, .ifCond .ne 6, 3, 8, [11]), (8, .bipush (-2), 2, 10, []), (10, .ireturn, 1, 11, []), (11, .aload_n 0, 1, 12, []), (12, .getfield 28, 3, 15, []), (15, .iload_n 1, 1, 16, []), (16, .aaload, 1, 17, []), (17, .astore 5, 2, 19, []), (19, .aload 5, 2, 21, []), (21, .iload_n 2, 1, 22, []), (22, .iload_n 3, 1, 23, []), (23, .aload_n 0, 1, 24, []), (24, .getfield 10, 3, 27, []), (27, .invokevirtual 165, 3, 30, []), (30, .istore 6, 2, 32, []), (32, .iload 6, 2, 34, []), (34, .ifCond .ge 6, 3, 37, [40]), (37, .iload 6, 2, 39, []), (39, .ireturn, 1, 40, []), (40, .iload 4, 2, 42, []), (42, .ifCond .lt 9, 3, 45, [51]), (45, .iload 4, 2, 47, []), (47, .iconst 1, 1, 48, []), (48, .if_icmp .le 12, 3, 51, [60]), (51, .aload_n 0, 1, 52, []), (52, .getfield 10, 3, 55, []), (55, .iconst 2, 1, 56, []), (56, .invokevirtual 99, 3, 59, []), (59, .ireturn, 1, 60, []), (60, .iload 4, 2, 62, []), (62, .ifCond .ne 14, 3, 65, [76]), (65, .aload 5, 2, 67, []), (67, .getfield 168, 3, 70, []), (70, .iload 6, 2, 72, []), (72, .iaload, 1, 73, []), (73, .goto 11, 3, 76, [84]), (76, .aload 5, 2, 78, []), (78, .getfield 171, 3, 81, []), (81, .iload 6, 2, 83, []), (83, .iaload, 1, 84, []), (84, .ireturn, 1, 85, [])]
def m_X8_pair : am_M := (yX8_pair, cX8_pair, 7, (some .int), 8, am_at k_X8_pair)
theorem ok_X8_pair : am_ok m_X8_pair := am_ok_at (by unfold am_ck; decide +kernel)
def k_X8_round_0 : List (Nat × Instr × Nat × Nat × List Nat) := [(0, .aload_n 0, 1, 1, []), (1, .iload_n 1, 1, 2, []), (2, .invokevirtual 138, 3, 5, []), (5, .ifCond .eq 12, 3, 8, [17]), (8, .iload_n 3, 1, 9, []), (9, .ifCond .lt 8, 3, 12, [17]), (12, .iload_n 3, 1, 13, []), (13, .iconst 3, 1, 14, []), (14, .if_icmp .le 6, 3, 17, [20]), (17, .bipush (-2), 2, 19, []), (19, .ireturn, 1, 20, []), (20, .aload_n 0, 1, 21, []), (21, .getfield 28, 3, 24, []), (24, .iload_n 1, 1, 25, []), (25, .aaload, 1, 26, []), (26, .astore 4, 2, 28, []), (28, .aload 4, 2, 30, []), (30, .iload_n 2, 1, 31, []), (31, .aload_n 0, 1, 32, []), (32, .getfield 10, 3, 35, []), (35, .invokevirtual 174, 3, 38, []), (38, .istore 5, 2, 40, []), (40, .iload 5, 2, 42, []), (42, .ifCond .ge 6, 3, 45, [48]), (45, .iload 5, 2, 47, []), (47, .ireturn, 1, 48, []), (48, .iload_n 3, 1, 49, []), (49, .tableswitch 54 0 2 #[27, 36, 45], 27, 76, [103, 76, 85, 94]), (76, .aload 4, 2, 78, []), (78, .getfield 177, 3, 81, []), (81, .iload 5, 2, 83, []), (83, .iaload, 1, 84, [])]
def k_X8_round_1 : List (Nat × Instr × Nat × Nat × List Nat) := [(84, .ireturn, 1, 85, []), (85, .aload 4, 2, 87, []), (87, .getfield 180, 3, 90, []), (90, .iload 5, 2, 92, []), (92, .iaload, 1, 93, []), (93, .ireturn, 1, 94, []), (94, .aload 4, 2, 96, []), (96, .getfield 183, 3, 99, []), (99, .iload 5, 2, 101, []), (101, .iaload, 1, 102, []), (102, .ireturn, 1, 103, []), (103, .aload 4, 2, 105, []), (105, .getfield 183, 3, 108, []), (108, .iload 5, 2, 110, []), (110, .iaload, 1, 111, []), (111, .invokestatic 186, 3, 114, []), (114, .ireturn, 1, 115, [])]
def k_X8_round : List (Nat × List (Nat × Instr × Nat × Nat × List Nat)) := [(84, k_X8_round_0), (115, k_X8_round_1)]
def m_X8_round : am_M := (yX8_round, cX8_round, 6, (some .int), 8, am_a2 k_X8_round)
theorem ok_X8_round_0 : ∀ q ∈ k_X8_round_0, am_ck cX8_round q := by unfold am_ck; decide +kernel
theorem ok_X8_round_1 : ∀ q ∈ k_X8_round_1, am_ck cX8_round q := by unfold am_ck; decide +kernel
theorem ok_X8_round : am_ok m_X8_round := am_ok_a2 (List.forall_mem_cons.mpr ⟨ok_X8_round_0, List.forall_mem_cons.mpr ⟨ok_X8_round_1, fun _ h => absurd h List.not_mem_nil⟩⟩)
def k_X8_copy : List (Nat × Instr × Nat × Nat × List Nat) := [(0, .aload_n 0, 1, 1, []), (1, .iload_n 1, 1, 2, []), (2, .invokevirtual 138, 3, 5, []), (5, .ifCond .ne 6, 3, 8, [11]), (8, .bipush (-2), 2, 10, []), (10, .ireturn, 1, 11, []), (11, .aload_n 0, 1, 12, []), (12, .getfield 78, 3, 15, []), (15, .iconst 4, 1, 16, []), (16, .if_icmp .lt 6, 3, 19, [22]), (19, .bipush (-4), 2, 21, []), (21, .ireturn, 1, 22, []), (22, .aload_n 0, 1, 23, []), (23, .getfield 28, 3, 26, []), (26, .aload_n 0, 1, 27, []), (27, .getfield 78, 3, 30, []), (30, .aaload, 1, 31, []), (31, .aload_n 0, 1, 32, []), (32, .getfield 28, 3, 35, []), (35, .iload_n 1, 1, 36, []), (36, .aaload, 1, 37, []), (37, .invokevirtual 189, 3, 40, []), (40, .aload_n 0, 1, 41, []), (41, .invokevirtual 134, 3, 44, []), (44, .ireturn, 1, 45, [])]
def m_X8_copy : am_M := (yX8_copy, cX8_copy, 2, (some .int), 8, am_at k_X8_copy)
theorem ok_X8_copy : am_ok m_X8_copy := am_ok_at (by unfold am_ck; decide +kernel)
def k_X8_alike : List (Nat × Instr × Nat × Nat × List Nat) := [(0, .aload_n 0, 1, 1, []), (1, .iload_n 1, 1, 2, []), (2, .invokevirtual 138, 3, 5, []), (5, .ifCond .eq 11, 3, 8, [16]), (8, .aload_n 0, 1, 9, []), (9, .iload_n 2, 1, 10, []), (10, .invokevirtual 138, 3, 13, []), (13, .ifCond .ne 6, 3, 16, [19]), (16, .bipush (-2), 2, 18, []), (18, .ireturn, 1, 19, []), (19, .aload_n 0, 1, 20, []), (20, .getfield 28, 3, 23, []), (23, .iload_n 1, 1, 24, []), (24, .aaload, 1, 25, []), (25, .aload_n 0, 1, 26, []), (26, .getfield 28, 3, 29, []), (29, .iload_n 2, 1, 30, []), (30, .aaload, 1, 31, []), (31, .invokevirtual 193, 3, 34, []), (34, .ifCond .eq 7, 3, 37, [41]), (37, .iconst 1, 1, 38, []), (38, .goto 4, 3, 41, [42]), (41, .iconst 0, 1, 42, []), (42, .ireturn, 1, 43, [])]
def m_X8_alike : am_M := (yX8_alike, cX8_alike, 3, (some .int), 8, am_at k_X8_alike)
theorem ok_X8_alike : am_ok m_X8_alike := am_ok_at (by unfold am_ck; decide +kernel)
def k_X8_isTournament : List (Nat × Instr × Nat × Nat × List Nat) := [(0, .iload_n 1, 1, 1, []), (1, .ifCond .lt 15, 3, 4, [16]), (4, .iload_n 1, 1, 5, []), (5, .aload_n 0, 1, 6, []), (6, .getfield 78, 3, 9, []), (9, .if_icmp .ge 7, 3, 12, [16]), (12, .iconst 1, 1, 13, []), (13, .goto 4, 3, 16, [17]), (16, .iconst 0, 1, 17, []), (17, .ireturn, 1, 18, [])]
def m_X8_isTournament : am_M := (yX8_isTournament, cX8_isTournament, 2, (some .boolean), 8, am_at k_X8_isTournament)
theorem ok_X8_isTournament : am_ok m_X8_isTournament := am_ok_at (by unfold am_ck; decide +kernel)
def k_X8_openNext : List (Nat × Instr × Nat × Nat × List Nat) := [(0, .aload_n 0, 1, 1, []), (1, .dup, 1, 2, []), (2, .getfield 84, 3, 5, []), (5, .iconst 1, 1, 6, []), (6, .iadd, 1, 7, []), (7, .putfield 84, 3, 10, []), (10, .aload_n 0, 1, 11, []), (11, .getfield 28, 3, 14, []), (14, .aload_n 0, 1, 15, []), (15, .getfield 78, 3, 18, []), (18, .aaload, 1, 19, []), (19, .aload_n 0, 1, 20, []), (20, .getfield 84, 3, 23, []), (23, .putfield 197, 3, 26, []), (26, .aload_n 0, 1, 27, []), (27, .dup, 1, 28, []), (28, .getfield 78, 3, 31, []), (31, .iconst 1, 1, 32, []), (32, .iadd, 1, 33, []), (33, .putfield 78, 3, 36, []), (36, .aload_n 0, 1, 37, []), (37, .getfield 78, 3, 40, []), (40, .iconst 1, 1, 41, []), (41, .isub, 1, 42, []), (42, .ireturn, 1, 43, [])]
def m_X8_openNext : am_M := (yX8_openNext, cX8_openNext, 1, (some .int), 8, am_at k_X8_openNext)
theorem ok_X8_openNext : am_ok m_X8_openNext := am_ok_at (by unfold am_ck; decide +kernel)
def k_X8_drawRound_0 : List (Nat × Instr × Nat × Nat × List Nat) := [(0, .aload_n 0, 1, 1, []), (1, .iload_n 1, 1, 2, []), (2, .invokevirtual 138, 3, 5, []), (5, .ifCond .eq 7, 3, 8, [12]), (8, .iload_n 2, 1, 9, []), (9, .ifCond .ge 6, 3, 12, [15]), (12, .bipush (-2), 2, 14, []), (14, .ireturn, 1, 15, []), (15, .aload_n 0, 1, 16, []), (16, .getfield 28, 3, 19, []), (19, .iload_n 1, 1, 20, []), (20, .aaload, 1, 21, []), (21, .astore_n 3, 1, 22, []), (22, .iload_n 2, 1, 23, []), (23, .aload_n 3, 1, 24, []), (24, .invokevirtual 200, 3, 27, []), (27, .if_icmp .ge 6, 3, 30, [33]), (30, .bipush (-2), 2, 32, []), (32, .ireturn, 1, 33, []), (33, .aload_n 0, 1, 34, []), (34, .getfield 45, 3, 37, []), (37, .aload_n 3, 1, 38, []), (38, .invokevirtual 203, 3, 41, []), (41, .iconst 2, 1, 42, []), (42, .if_icmp .ge 6, 3, 45, [48]), (45, .bipush (-3), 2, 47, []), (47, .ireturn, 1, 48, []), (48, .aload_n 3, 1, 49, []), (49, .getfield 144, 3, 52, []), (52, .bipush 6, 2, 54, []), (54, .if_icmp .lt 6, 3, 57, [60]), (57, .bipush (-4), 2, 59, [])]
def k_X8_drawRound_1 : List (Nat × Instr × Nat × Nat × List Nat) := [(59, .ireturn, 1, 60, []), (60, .aload_n 0, 1, 61, []), (61, .getfield 45, 3, 64, []), (64, .aload_n 0, 1, 65, []), (65, .getfield 19, 3, 68, []), (68, .aload_n 0, 1, 69, []), (69, .getfield 10, 3, 72, []), (72, .invokevirtual 207, 3, 75, []), (75, .ifCond .ne 6, 3, 78, [81]), (78, .bipush (-5), 2, 80, []), (80, .ireturn, 1, 81, []), (81, .aload_n 0, 1, 82, []), (82, .getfield 38, 3, 85, []), (85, .aload_n 3, 1, 86, []), (86, .iload_n 2, 1, 87, []), (87, .iload_n 2, 1, 88, []), (88, .invokevirtual 211, 3, 91, []), (91, .aload_n 0, 1, 92, []), (92, .getfield 38, 3, 95, []), (95, .aload_n 3, 1, 96, []), (96, .iload_n 2, 1, 97, []), (97, .invokevirtual 215, 3, 100, []), (100, .aload_n 0, 1, 101, []), (101, .getfield 45, 3, 104, []), (104, .aload_n 3, 1, 105, []), (105, .invokevirtual 219, 3, 108, []), (108, .aload_n 0, 1, 109, []), (109, .getfield 45, 3, 112, []), (112, .aload_n 0, 1, 113, []), (113, .getfield 38, 3, 116, []), (116, .getfield 222, 3, 119, []), (119, .invokevirtual 225, 3, 122, [])]
def k_X8_drawRound_2 : List (Nat × Instr × Nat × Nat × List Nat) := [(122, .aload_n 0, 1, 123, []), (123, .getfield 45, 3, 126, []), (126, .invokevirtual 229, 3, 129, []), (129, .aload_n 0, 1, 130, []), (130, .getfield 45, 3, 133, []), (133, .aload_n 3, 1, 134, []), (134, .iload_n 2, 1, 135, []), (135, .invokevirtual 232, 3, 138, []), (138, .ireturn, 1, 139, [])]
def k_X8_drawRound : List (Nat × List (Nat × Instr × Nat × Nat × List Nat)) := [(59, k_X8_drawRound_0), (122, k_X8_drawRound_1), (139, k_X8_drawRound_2)]
def m_X8_drawRound : am_M := (yX8_drawRound, cX8_drawRound, 4, (some .int), 8, am_a2 k_X8_drawRound)
theorem ok_X8_drawRound_0 : ∀ q ∈ k_X8_drawRound_0, am_ck cX8_drawRound q := by unfold am_ck; decide +kernel
theorem ok_X8_drawRound_1 : ∀ q ∈ k_X8_drawRound_1, am_ck cX8_drawRound q := by unfold am_ck; decide +kernel
theorem ok_X8_drawRound_2 : ∀ q ∈ k_X8_drawRound_2, am_ck cX8_drawRound q := by unfold am_ck; decide +kernel
theorem ok_X8_drawRound : am_ok m_X8_drawRound := am_ok_a2 (List.forall_mem_cons.mpr ⟨ok_X8_drawRound_0, List.forall_mem_cons.mpr ⟨ok_X8_drawRound_1, List.forall_mem_cons.mpr ⟨ok_X8_drawRound_2, fun _ h => absurd h List.not_mem_nil⟩⟩⟩)
def k_X8_tell : List (Nat × Instr × Nat × Nat × List Nat) := [(0, .aload_n 0, 1, 1, []), (1, .iload_n 1, 1, 2, []), (2, .invokevirtual 138, 3, 5, []), (5, .ifCond .eq 25, 3, 8, [30]), (8, .iload 4, 2, 10, []), (10, .ifCond .lt 20, 3, 13, [30]), (13, .iload 4, 2, 15, []), (15, .bipush 6, 2, 17, []), (17, .if_icmp .gt 13, 3, 20, [30]), (20, .iload 5, 2, 22, []), (22, .ifCond .lt 8, 3, 25, [30]), (25, .iload 6, 2, 27, []), (27, .ifCond .ge 6, 3, 30, [33]), (30, .bipush (-2), 2, 32, []), (32, .ireturn, 1, 33, []), (33, .aload_n 0, 1, 34, []), (34, .getfield 28, 3, 37, []), (37, .iload_n 1, 1, 38, []), (38, .aaload, 1, 39, []), (39, .astore 7, 2, 41, []), (41, .aload 7, 2, 43, []), (43, .iload_n 2, 1, 44, []), (44, .iload_n 3, 1, 45, []), (45, .aload_n 0, 1, 46, []), (46, .getfield 10, 3, 49, []), (49, .invokevirtual 165, 3, 52, []), (52, .istore 8, 2, 54, []), (54, .iload 8, 2, 56, []), (56, .ifCond .ge 6, 3, 59, [62]), (59, .iload 8, 2, 61, []), (61, .ireturn, 1, 62, []), (62, .aload 7, 2, 64, []), (64, .getfield 171, 3, 67, []), (67, .iload 8, 2, 69, []), (69, .iaload, 1, 70, []), (70, .bipush 99, 2, 72, []), (72, .if_icmp .ne 6, 3, 75, [78]), (75, .bipush (-3), 2, 77, []), (77, .ireturn, 1, 78, []), (78, .aload 7, 2, 80, []), (80, .iload 8, 2, 82, []), (82, .iload 4, 2, 84, []), (84, .iload 5, 2, 86, []), (86, .iload 6, 2, 88, []), (88, .invokevirtual 236, 3, 91, []), (91, .ireturn, 1, 92, [])]
def m_X8_tell : am_M := (yX8_tell, cX8_tell, 9, (some .int), 8, am_at k_X8_tell)
theorem ok_X8_tell : am_ok m_X8_tell := am_ok_at (by unfold am_ck; decide +kernel)
def k_X8_takeBack : List (Nat × Instr × Nat × Nat × List Nat) := [(0, .aload_n 0, 1, 1, []), (1, .iload_n 1, 1, 2, []), (2, .invokevirtual 138, 3, 5, []), (5, .ifCond .eq 7, 3, 8, [12]), (8, .iload_n 3, 1, 9, []), (9, .ifCond .ge 6, 3, 12, [15]), (12, .bipush (-2), 2, 14, []), (14, .ireturn, 1, 15, []), (15, .aload_n 0, 1, 16, []), (16, .getfield 28, 3, 19, []), (19, .iload_n 1, 1, 20, []), (20, .aaload, 1, 21, []), (21, .astore 4, 2, 23, []), (23, .iload_n 2, 1, 24, []), (24, .ifCond .lt 23, 3, 27, [47]), (27, .iload_n 2, 1, 28, []), (28, .aload 4, 2, 30, []), (30, .getfield 240, 3, 33, []), (33, .if_icmp .ge 14, 3, 36, [47]), (36, .iload_n 3, 1, 37, []), (37, .aload 4, 2, 39, []), (39, .getfield 243, 3, 42, []), (42, .iload_n 2, 1, 43, []), (43, .iaload, 1, 44, []), (44, .if_icmp .ge 6, 3, 47, [50]), (47, .bipush (-2), 2, 49, []), (49, .ireturn, 1, 50, []), (50, .aload 4, 2, 52, []), (52, .getfield 246, 3, 55, []), (55, .iload_n 2, 1, 56, []), (56, .iaload, 1, 57, []), (57, .iconst (-1), 1, 58, []), (58, .if_icmp .eq 6, 3, 61, [64]), (61, .bipush (-3), 2, 63, []), (63, .ireturn, 1, 64, []), (64, .aload 4, 2, 66, []), (66, .getfield 246, 3, 69, []), (69, .iload_n 2, 1, 70, []), (70, .iload_n 3, 1, 71, []), (71, .iastore, 1, 72, []), (72, .iconst 1, 1, 73, []), (73, .ireturn, 1, 74, [])]
def m_X8_takeBack : am_M := (yX8_takeBack, cX8_takeBack, 5, (some .int), 8, am_at k_X8_takeBack)
theorem ok_X8_takeBack : am_ok m_X8_takeBack := am_ok_at (by unfold am_ck; decide +kernel)
def k_X8_counts : List (Nat × Instr × Nat × Nat × List Nat) := [(0, .aload_n 0, 1, 1, []), (1, .iload_n 1, 1, 2, []), (2, .invokevirtual 138, 3, 5, []), (5, .ifCond .eq 8, 3, 8, [13]), (8, .iload 4, 2, 10, []), (10, .ifCond .ge 6, 3, 13, [16]), (13, .bipush (-2), 2, 15, []), (15, .ireturn, 1, 16, []), (16, .aload_n 0, 1, 17, []), (17, .getfield 28, 3, 20, []), (20, .iload_n 1, 1, 21, []), (21, .aaload, 1, 22, []), (22, .astore 5, 2, 24, []), (24, .aload 5, 2, 26, []), (26, .iload_n 2, 1, 27, []), (27, .iload_n 3, 1, 28, []), (28, .aload_n 0, 1, 29, []), (29, .getfield 10, 3, 32, []), (32, .invokevirtual 165, 3, 35, []), (35, .istore 6, 2, 37, []), (37, .iload 6, 2, 39, []), (39, .ifCond .ge 6, 3, 42, [45]), (42, .iload 6, 2, 44, []), (44, .ireturn, 1, 45, []), (45, .aload_n 0, 1, 46, []), (46, .getfield 38, 3, 49, []), (49, .aload 5, 2, 51, []), (51, .ldc 249, 2, 53, []), (53, .iload 4, 2, 55, []), (55, .invokevirtual 211, 3, 58, []), (58, .aload_n 0, 1, 59, []), (59, .getfield 38, 3, 62, []), (62, .getfield 250, 3, 65, []), (65, .iload 6, 2, 67, []), (67, .iaload, 1, 68, []), (68, .ireturn, 1, 69, [])]
def m_X8_counts : am_M := (yX8_counts, cX8_counts, 7, (some .int), 8, am_at k_X8_counts)
theorem ok_X8_counts : am_ok m_X8_counts := am_ok_at (by unfold am_ck; decide +kernel)
def k_X8_points : List (Nat × Instr × Nat × Nat × List Nat) := [(0, .aload_n 0, 1, 1, []), (1, .iload_n 1, 1, 2, []), (2, .iload_n 2, 1, 3, []), (3, .iload_n 3, 1, 4, []), (4, .iload 4, 2, 6, []), (6, .invokevirtual 253, 3, 9, []), (9, .istore 5, 2, 11, []), (11, .iload 5, 2, 13, []), (13, .ifCond .eq 6, 3, 16, [19]), (16, .iload 5, 2, 18, []), (18, .ireturn, 1, 19, []), (19, .aload_n 0, 1, 20, []), (20, .getfield 28, 3, 23, []), (23, .iload_n 1, 1, 24, []), (24, .aaload, 1, 25, []), (25, .astore 6, 2, 27, []), (27, .aload_n 0, 1, 28, []), (28, .getfield 38, 3, 31, []), (31, .aload 6, 2, 33, []), (33, .iload_n 3, 1, 34, []), (34, .iload 4, 2, 36, []), (36, .invokevirtual 211, 3, 39, []), (39, .aload_n 0, 1, 40, []), (40, .getfield 38, 3, 43, []), (43, .aload 6, 2, 45, []), (45, .iload_n 3, 1, 46, []), (46, .invokevirtual 215, 3, 49, []), (49, .aload_n 0, 1, 50, []), (50, .getfield 38, 3, 53, []), (53, .getfield 222, 3, 56, []), (56, .iload_n 2, 1, 57, []), (57, .iaload, 1, 58, []), (58, .ireturn, 1, 59, [])]
def m_X8_points : am_M := (yX8_points, cX8_points, 7, (some .int), 8, am_at k_X8_points)
theorem ok_X8_points : am_ok m_X8_points := am_ok_at (by unfold am_ck; decide +kernel)
def k_X8_sum : List (Nat × Instr × Nat × Nat × List Nat) := [(0, .iload_n 3, 1, 1, []), (1, .iconst 1, 1, 2, []), (2, .if_icmp .lt 8, 3, 5, [10]), (5, .iload_n 3, 1, 6, []), (6, .iconst 5, 1, 7, []), (7, .if_icmp .le 6, 3, 10, [13]), (10, .bipush (-2), 2, 12, []), (12, .ireturn, 1, 13, []), (13, .aload_n 0, 1, 14, []), (14, .iload_n 1, 1, 15, []), (15, .iload_n 2, 1, 16, []), (16, .iload 4, 2, 18, []), (18, .iload 5, 2, 20, []), (20, .invokevirtual 253, 3, 23, []), (23, .istore 6, 2, 25, []), (25, .iload 6, 2, 27, []), (27, .ifCond .eq 6, 3, 30, [33]), (30, .iload 6, 2, 32, []), (32, .ireturn, 1, 33, []), (33, .aload_n 0, 1, 34, []), (34, .iload_n 1, 1, 35, []), (35, .iload 4, 2, 37, []), (37, .iload 5, 2, 39, []), (39, .invokevirtual 256, 3, 42, []), (42, .aload_n 0, 1, 43, []), (43, .getfield 38, 3, 46, []), (46, .iload_n 3, 1, 47, []), (47, .iload_n 2, 1, 48, []), (48, .invokevirtual 260, 3, 51, []), (51, .ireturn, 1, 52, [])]
def m_X8_sum : am_M := (yX8_sum, cX8_sum, 7, (some .int), 8, am_at k_X8_sum)
theorem ok_X8_sum : am_ok m_X8_sum := am_ok_at (by unfold am_ck; decide +kernel)
def k_X8_place : List (Nat × Instr × Nat × Nat × List Nat) := [(0, .aload_n 0, 1, 1, []), (1, .iload_n 1, 1, 2, []), (2, .iload_n 2, 1, 3, []), (3, .iload_n 3, 1, 4, []), (4, .iload 4, 2, 6, []), (6, .invokevirtual 253, 3, 9, []), (9, .istore 5, 2, 11, []), (11, .iload 5, 2, 13, []), (13, .ifCond .eq 6, 3, 16, [19]), (16, .iload 5, 2, 18, []), (18, .ireturn, 1, 19, []), (19, .aload_n 0, 1, 20, []), (20, .iload_n 1, 1, 21, []), (21, .iload_n 3, 1, 22, []), (22, .iload 4, 2, 24, []), (24, .invokevirtual 256, 3, 27, []), (27, .aload_n 0, 1, 28, []), (28, .getfield 38, 3, 31, []), (31, .aload_n 0, 1, 32, []), (32, .getfield 28, 3, 35, []), (35, .iload_n 1, 1, 36, []), (36, .aaload, 1, 37, []), (37, .iload_n 2, 1, 38, []), (38, .invokevirtual 263, 3, 41, []), (41, .iconst 1, 1, 42, []), (42, .iadd, 1, 43, []), (43, .ireturn, 1, 44, [])]
def m_X8_place : am_M := (yX8_place, cX8_place, 6, (some .int), 8, am_at k_X8_place)
theorem ok_X8_place : am_ok m_X8_place := am_ok_at (by unfold am_ck; decide +kernel)
def k_X8_standing : List (Nat × Instr × Nat × Nat × List Nat) := [(0, .aload_n 0, 1, 1, []), (1, .iload_n 1, 1, 2, []), (2, .invokevirtual 138, 3, 5, []), (5, .ifCond .eq 12, 3, 8, [17]), (8, .iload_n 3, 1, 9, []), (9, .ifCond .lt 8, 3, 12, [17]), (12, .iload 4, 2, 14, []), (14, .ifCond .ge 6, 3, 17, [20]), (17, .bipush (-2), 2, 19, []), (19, .ireturn, 1, 20, []), (20, .aload_n 0, 1, 21, []), (21, .iload_n 1, 1, 22, []), (22, .iload_n 3, 1, 23, []), (23, .iload 4, 2, 25, []), (25, .invokevirtual 256, 3, 28, []), (28, .aload_n 0, 1, 29, []), (29, .getfield 38, 3, 32, []), (32, .aload_n 0, 1, 33, []), (33, .getfield 28, 3, 36, []), (36, .iload_n 1, 1, 37, []), (37, .aaload, 1, 38, []), (38, .iload_n 2, 1, 39, []), (39, .invokevirtual 266, 3, 42, []), (42, .ireturn, 1, 43, [])]
def m_X8_standing : am_M := (yX8_standing, cX8_standing, 5, (some .int), 8, am_at k_X8_standing)
theorem ok_X8_standing : am_ok m_X8_standing := am_ok_at (by unfold am_ck; decide +kernel)
def k_X8_why : List (Nat × Instr × Nat × Nat × List Nat) := [(0, .aload_n 0, 1, 1, []), (1, .iload_n 1, 1, 2, []), (2, .iload_n 2, 1, 3, []), (3, .iload 4, 2, 5, []), (5, .iload 5, 2, 7, []), (7, .invokevirtual 253, 3, 10, []), (10, .istore 6, 2, 12, []), (12, .aload_n 0, 1, 13, []), (13, .iload_n 1, 1, 14, []), (14, .iload_n 3, 1, 15, []), (15, .iload 4, 2, 17, []), (17, .iload 5, 2, 19, []), (19, .invokevirtual 253, 3, 22, []), (22, .istore 7, 2, 24, []), (24, .iload 6, 2, 26, []), (26, .bipush (-2), 2, 28, []), (28, .if_icmp .eq 10, 3, 31, [38]), (31, .iload 7, 2, 33, []), (33, .bipush (-2), 2, 35, []), (35, .if_icmp .ne 6, 3, 38, [41]), (38, .bipush (-2), 2, 40, []), (40, .ireturn, 1, 41, []), (41, .iload 6, 2, 43, []), (43, .ifCond .ne 8, 3, 46, [51]), (46, .iload 7, 2, 48, []), (48, .ifCond .eq 6, 3, 51, [54]), (51, .bipush (-3), 2, 53, []), (53, .ireturn, 1, 54, []), (54, .aload_n 0, 1, 55, []), (55, .iload_n 1, 1, 56, []), (56, .iload 4, 2, 58, []), (58, .iload 5, 2, 60, []), (60, .invokevirtual 256, 3, 63, []), (63, .aload_n 0, 1, 64, []), (64, .getfield 38, 3, 67, []), (67, .aload_n 0, 1, 68, []), (68, .getfield 28, 3, 71, []), (71, .iload_n 1, 1, 72, []), (72, .aaload, 1, 73, []), (73, .iload_n 2, 1, 74, []), (74, .iload_n 3, 1, 75, []), (75, .invokevirtual 269, 3, 78, []), (78, .ireturn, 1, 79, [])]
def m_X8_why : am_M := (yX8_why, cX8_why, 8, (some .int), 8, am_at k_X8_why)
theorem ok_X8_why : am_ok m_X8_why := am_ok_at (by unfold am_ck; decide +kernel)
def k_X8_refuseAsking : List (Nat × Instr × Nat × Nat × List Nat) := [(0, .aload_n 0, 1, 1, []), (1, .iload_n 1, 1, 2, []), (2, .invokevirtual 138, 3, 5, []), (5, .ifCond .eq 23, 3, 8, [28]), (8, .aload_n 0, 1, 9, []), (9, .getfield 19, 3, 12, []), (12, .iload_n 2, 1, 13, []), (13, .invokevirtual 92, 3, 16, []), (16, .ifCond .eq 12, 3, 19, [28]), (19, .iload_n 3, 1, 20, []), (20, .ifCond .lt 8, 3, 23, [28]), (23, .iload 4, 2, 25, []), (25, .ifCond .ge 6, 3, 28, [31]), (28, .bipush (-2), 2, 30, []), (30, .ireturn, 1, 31, []), (31, .aload_n 0, 1, 32, []), (32, .getfield 28, 3, 35, []), (35, .iload_n 1, 1, 36, []), (36, .aaload, 1, 37, []), (37, .iload_n 2, 1, 38, []), (38, .invokevirtual 141, 3, 41, []), (41, .ifCond .eq 7, 3, 44, [48]), (44, .iconst 0, 1, 45, []), (45, .goto 5, 3, 48, [50]), (48, .bipush (-3), 2, 50, []), (50, .ireturn, 1, 51, [])]
def m_X8_refuseAsking : am_M := (yX8_refuseAsking, cX8_refuseAsking, 5, (some .int), 8, am_at k_X8_refuseAsking)
theorem ok_X8_refuseAsking : am_ok m_X8_refuseAsking := am_ok_at (by unfold am_ck; decide +kernel)
def k_X8_makeTable : List (Nat × Instr × Nat × Nat × List Nat) := [(0, .aload_n 0, 1, 1, []), (1, .getfield 28, 3, 4, []), (4, .iload_n 1, 1, 5, []), (5, .aaload, 1, 6, []), (6, .astore 4, 2, 8, []), (8, .aload_n 0, 1, 9, []), (9, .getfield 38, 3, 12, []), (12, .aload 4, 2, 14, []), (14, .iload_n 2, 1, 15, []), (15, .iload_n 3, 1, 16, []), (16, .invokevirtual 211, 3, 19, []), (19, .aload_n 0, 1, 20, []), (20, .getfield 38, 3, 23, []), (23, .aload 4, 2, 25, []), (25, .iload_n 2, 1, 26, []), (26, .invokevirtual 215, 3, 29, []), (29, .aload_n 0, 1, 30, []), (30, .getfield 38, 3, 33, []), (33, .aload 4, 2, 35, []), (35, .invokevirtual 273, 3, 38, []), (38, .return_, 1, 39, [])]
def m_X8_makeTable : am_M := (yX8_makeTable, cX8_makeTable, 5, none, 8, am_at k_X8_makeTable)
theorem ok_X8_makeTable : am_ok m_X8_makeTable := am_ok_at (by unfold am_ck; decide +kernel)
def k_X8_rated_0 : List (Nat × Instr × Nat × Nat × List Nat) := [(0, .aload_n 0, 1, 1, []), (1, .getfield 10, 3, 4, []), (4, .invokevirtual 114, 3, 7, []), (7, .iload_n 3, 1, 8, []), (8, .iconst (-1), 1, 9, []), (9, .if_icmp .lt 9, 3, 12, [18]), (12, .iload_n 3, 1, 13, []), (13, .bipush 6, 2, 15, []), (15, .if_icmp .lt 6, 3, 18, [21]), (18, .bipush (-2), 2, 20, []), (20, .ireturn, 1, 21, []), (21, .aload_n 0, 1, 22, []), (22, .iload_n 1, 1, 23, []), (23, .iload_n 2, 1, 24, []), (24, .ldc 249, 2, 26, []), (26, .iload 4, 2, 28, []), (28, .invokevirtual 253, 3, 31, []), (31, .istore 5, 2, 33, []), (33, .iload 5, 2, 35, []), (35, .ifCond .eq 6, 3, 38, [41]), (38, .iload 5, 2, 40, []), (40, .ireturn, 1, 41, []), (41, .aload_n 0, 1, 42, []), (42, .getfield 28, 3, 45, []), (45, .iload_n 1, 1, 46, []), (46, .aaload, 1, 47, []), (47, .astore 6, 2, 49, []), (49, .aload_n 0, 1, 50, []), (50, .getfield 52, 3, 53, []), (53, .aload 6, 2, 55, []), (55, .aload_n 0, 1, 56, []), (56, .getfield 19, 3, 59, [])]
def k_X8_rated_1 : List (Nat × Instr × Nat × Nat × List Nat) := [(59, .aload_n 0, 1, 60, []), (60, .getfield 10, 3, 63, []), (63, .invokevirtual 276, 3, 66, []), (66, .ifCond .ne 6, 3, 69, [72]), (69, .bipush (-5), 2, 71, []), (71, .ireturn, 1, 72, []), (72, .aload_n 0, 1, 73, []), (73, .getfield 38, 3, 76, []), (76, .aload 6, 2, 78, []), (78, .ldc 249, 2, 80, []), (80, .iload 4, 2, 82, []), (82, .invokevirtual 211, 3, 85, []), (85, .iconst 0, 1, 86, []), (86, .istore 7, 2, 88, []), (88, .iload 7, 2, 90, []), (90, .iload_n 3, 1, 91, []), (91, .if_icmp .gt 54, 3, 94, [145]), (94, .iload 7, 2, 96, []), (96, .aload 6, 2, 98, []), (98, .getfield 144, 3, 101, []), (101, .if_icmp .lt 12, 3, 104, [113]), (104, .aload_n 0, 1, 105, []), (105, .getfield 10, 3, 108, []), (108, .iconst 1, 1, 109, []), (109, .invokevirtual 99, 3, 112, []), (112, .ireturn, 1, 113, []), (113, .aload_n 0, 1, 114, []), (114, .getfield 52, 3, 117, []), (117, .aload 6, 2, 119, []), (119, .iload 7, 2, 121, []), (121, .aload_n 0, 1, 122, []), (122, .getfield 38, 3, 125, [])]
def k_X8_rated_2 : List (Nat × Instr × Nat × Nat × List Nat) := [(125, .getfield 280, 3, 128, []), (128, .aload_n 0, 1, 129, []), (129, .getfield 19, 3, 132, []), (132, .aload_n 0, 1, 133, []), (133, .getfield 10, 3, 136, []), (136, .invokevirtual 283, 3, 139, []), (139, .iinc 7 1, 3, 142, []), (142, .goto (-54), 3, 145, [88]), (145, .aload_n 0, 1, 146, []), (146, .getfield 52, 3, 149, []), (149, .getfield 287, 3, 152, []), (152, .iload_n 2, 1, 153, []), (153, .iaload, 1, 154, []), (154, .ireturn, 1, 155, [])]
def k_X8_rated : List (Nat × List (Nat × Instr × Nat × Nat × List Nat)) := [(59, k_X8_rated_0), (125, k_X8_rated_1), (155, k_X8_rated_2)]
def m_X8_rated : am_M := (yX8_rated, cX8_rated, 8, (some .int), 8, am_a2 k_X8_rated)
theorem ok_X8_rated_0 : ∀ q ∈ k_X8_rated_0, am_ck cX8_rated q := by unfold am_ck; decide +kernel
theorem ok_X8_rated_1 : ∀ q ∈ k_X8_rated_1, am_ck cX8_rated q := by unfold am_ck; decide +kernel
theorem ok_X8_rated_2 : ∀ q ∈ k_X8_rated_2, am_ck cX8_rated q := by unfold am_ck; decide +kernel
theorem ok_X8_rated : am_ok m_X8_rated := am_ok_a2 (List.forall_mem_cons.mpr ⟨ok_X8_rated_0, List.forall_mem_cons.mpr ⟨ok_X8_rated_1, List.forall_mem_cons.mpr ⟨ok_X8_rated_2, fun _ h => absurd h List.not_mem_nil⟩⟩⟩)
def k_X8_mean : List (Nat × Instr × Nat × Nat × List Nat) := [(0, .aload_n 0, 1, 1, []), (1, .getfield 10, 3, 4, []), (4, .invokevirtual 114, 3, 7, []), (7, .aload_n 0, 1, 8, []), (8, .iload_n 1, 1, 9, []), (9, .invokevirtual 138, 3, 12, []), (12, .ifCond .ne 6, 3, 15, [18]), (15, .bipush (-2), 2, 17, []), (17, .ireturn, 1, 18, []), (18, .aload_n 0, 1, 19, []), (19, .getfield 28, 3, 22, []), (22, .iload_n 1, 1, 23, []), (23, .aaload, 1, 24, []), (24, .astore_n 2, 1, 25, []), (25, .aload_n 0, 1, 26, []), (26, .getfield 52, 3, 29, []), (29, .aload_n 2, 1, 30, []), (30, .aload_n 0, 1, 31, []), (31, .getfield 19, 3, 34, []), (34, .aload_n 0, 1, 35, []), (35, .getfield 10, 3, 38, []), (38, .invokevirtual 276, 3, 41, []), (41, .ifCond .ne 6, 3, 44, [47]), (44, .bipush (-5), 2, 46, []), (46, .ireturn, 1, 47, []), (47, .aload_n 2, 1, 48, []), (48, .getfield 147, 3, 51, []), (51, .ifCond .ne 12, 3, 54, [63]), (54, .aload_n 0, 1, 55, []), (55, .getfield 10, 3, 58, []), (58, .iconst 4, 1, 59, []), (59, .invokevirtual 99, 3, 62, []), (62, .ireturn, 1, 63, []), (63, .aload_n 0, 1, 64, []), (64, .getfield 52, 3, 67, []), (67, .aload_n 2, 1, 68, []), (68, .invokevirtual 290, 3, 71, []), (71, .aload_n 2, 1, 72, []), (72, .getfield 147, 3, 75, []), (75, .idiv, 1, 76, []), (76, .ireturn, 1, 77, [])]
def m_X8_mean : am_M := (yX8_mean, cX8_mean, 3, (some .int), 8, am_at k_X8_mean)
theorem ok_X8_mean : am_ok m_X8_mean := am_ok_at (by unfold am_ck; decide +kernel)
def k_X8_could_0 : List (Nat × Instr × Nat × Nat × List Nat) := [(0, .iload_n 3, 1, 1, []), (1, .ifCond .lt 8, 3, 4, [9]), (4, .iload_n 3, 1, 5, []), (5, .iconst 1, 1, 6, []), (6, .if_icmp .le 6, 3, 9, [12]), (9, .bipush (-2), 2, 11, []), (11, .ireturn, 1, 12, []), (12, .aload_n 0, 1, 13, []), (13, .iload_n 1, 1, 14, []), (14, .iload_n 2, 1, 15, []), (15, .ldc 249, 2, 17, []), (17, .iload 4, 2, 19, []), (19, .invokevirtual 253, 3, 22, []), (22, .istore 5, 2, 24, []), (24, .iload 5, 2, 26, []), (26, .ifCond .eq 6, 3, 29, [32]), (29, .iload 5, 2, 31, []), (31, .ireturn, 1, 32, []), (32, .aload_n 0, 1, 33, []), (33, .getfield 28, 3, 36, []), (36, .iload_n 1, 1, 37, []), (37, .aaload, 1, 38, []), (38, .astore 6, 2, 40, []), (40, .aload_n 0, 1, 41, []), (41, .getfield 38, 3, 44, []), (44, .aload 6, 2, 46, []), (46, .ldc 249, 2, 48, []), (48, .iload 4, 2, 50, []), (50, .invokevirtual 211, 3, 53, []), (53, .aload_n 0, 1, 54, []), (54, .getfield 38, 3, 57, []), (57, .aload 6, 2, 59, [])]
def k_X8_could_1 : List (Nat × Instr × Nat × Nat × List Nat) := [(59, .invokevirtual 293, 3, 62, []), (62, .istore 7, 2, 64, []), (64, .iload 7, 2, 66, []), (66, .iconst 4, 1, 67, []), (67, .if_icmp .le 6, 3, 70, [73]), (70, .bipush (-3), 2, 72, []), (72, .ireturn, 1, 73, []), (73, .iconst 1, 1, 74, []), (74, .istore 8, 2, 76, []), (76, .iconst 0, 1, 77, []), (77, .istore 9, 2, 79, []), (79, .iload 9, 2, 81, []), (81, .iload 7, 2, 83, []), (83, .if_icmp .ge 15, 3, 86, [98]), (86, .iload 8, 2, 88, []), (88, .iconst 3, 1, 89, []), (89, .imul, 1, 90, []), (90, .istore 8, 2, 92, []), (92, .iinc 9 1, 3, 95, []), (95, .goto (-16), 3, 98, [79]), (98, .iconst 0, 1, 99, []), (99, .istore 9, 2, 101, []), (101, .iload 9, 2, 103, []), (103, .iload 8, 2, 105, []), (105, .if_icmp .ge 51, 3, 108, [156]), (108, .aload_n 0, 1, 109, []), (109, .getfield 38, 3, 112, []), (112, .iload 9, 2, 114, []), (114, .iload 7, 2, 116, []), (116, .invokevirtual 296, 3, 119, []), (119, .aload_n 0, 1, 120, []), (120, .getfield 38, 3, 123, [])]
def k_X8_could_2 : List (Nat × Instr × Nat × Nat × List Nat) := [(123, .aload 6, 2, 125, []), (125, .iload_n 2, 1, 126, []), (126, .iload_n 3, 1, 127, []), (127, .iconst 1, 1, 128, []), (128, .if_icmp .ne 7, 3, 131, [135]), (131, .iconst 1, 1, 132, []), (132, .goto 4, 3, 135, [136]), (135, .iconst 0, 1, 136, []), (136, .invokevirtual 299, 3, 139, []), (139, .ifCond .eq 11, 3, 142, [150]), (142, .aload_n 0, 1, 143, []), (143, .iload 7, 2, 145, []), (145, .invokevirtual 303, 3, 148, []), (148, .iconst 1, 1, 149, []), (149, .ireturn, 1, 150, []), (150, .iinc 9 1, 3, 153, []), (153, .goto (-52), 3, 156, [101]), (156, .iconst 0, 1, 157, []), (157, .ireturn, 1, 158, [])]
def k_X8_could : List (Nat × List (Nat × Instr × Nat × Nat × List Nat)) := [(59, k_X8_could_0), (123, k_X8_could_1), (158, k_X8_could_2)]
def m_X8_could : am_M := (yX8_could, cX8_could, 10, (some .int), 8, am_a2 k_X8_could)
theorem ok_X8_could_0 : ∀ q ∈ k_X8_could_0, am_ck cX8_could q := by unfold am_ck; decide +kernel
theorem ok_X8_could_1 : ∀ q ∈ k_X8_could_1, am_ck cX8_could q := by unfold am_ck; decide +kernel
theorem ok_X8_could_2 : ∀ q ∈ k_X8_could_2, am_ck cX8_could q := by unfold am_ck; decide +kernel
theorem ok_X8_could : am_ok m_X8_could := am_ok_a2 (List.forall_mem_cons.mpr ⟨ok_X8_could_0, List.forall_mem_cons.mpr ⟨ok_X8_could_1, List.forall_mem_cons.mpr ⟨ok_X8_could_2, fun _ h => absurd h List.not_mem_nil⟩⟩⟩)
def k_X8_found : List (Nat × Instr × Nat × Nat × List Nat) := [(0, .iload_n 1, 1, 1, []), (1, .ifCond .lt 20, 3, 4, [21]), (4, .iload_n 1, 1, 5, []), (5, .aload_n 0, 1, 6, []), (6, .getfield 74, 3, 9, []), (9, .if_icmp .ge 12, 3, 12, [21]), (12, .aload_n 0, 1, 13, []), (13, .getfield 70, 3, 16, []), (16, .iload_n 1, 1, 17, []), (17, .iaload, 1, 18, []), (18, .goto 4, 3, 21, [22]), (21, .iconst (-1), 1, 22, []), (22, .ireturn, 1, 23, [])]
def m_X8_found : am_M := (yX8_found, cX8_found, 2, (some .int), 8, am_at k_X8_found)
theorem ok_X8_found : am_ok m_X8_found := am_ok_at (by unfold am_ck; decide +kernel)
def k_X8_keepFound : List (Nat × Instr × Nat × Nat × List Nat) := [(0, .aload_n 0, 1, 1, []), (1, .iload_n 1, 1, 2, []), (2, .putfield 74, 3, 5, []), (5, .iconst 0, 1, 6, []), (6, .istore_n 2, 1, 7, []), (7, .iload_n 2, 1, 8, []), (8, .iload_n 1, 1, 9, []), (9, .if_icmp .ge 32, 3, 12, [41]), (12, .aload_n 0, 1, 13, []), (13, .getfield 70, 3, 16, []), (16, .iload_n 2, 1, 17, []), (17, .aload_n 0, 1, 18, []), (18, .getfield 38, 3, 21, []), (21, .getfield 280, 3, 24, []), (24, .aload_n 0, 1, 25, []), (25, .getfield 38, 3, 28, []), (28, .getfield 307, 3, 31, []), (31, .iload_n 2, 1, 32, []), (32, .iaload, 1, 33, []), (33, .iaload, 1, 34, []), (34, .iastore, 1, 35, []), (35, .iinc 2 1, 3, 38, []), (38, .goto (-31), 3, 41, [7]), (41, .return_, 1, 42, [])]
def m_X8_keepFound : am_M := (yX8_keepFound, cX8_keepFound, 3, none, 8, am_at k_X8_keepFound)
theorem ok_X8_keepFound : am_ok m_X8_keepFound := am_ok_at (by unfold am_ck; decide +kernel)
def k_X8_step_0 : List (Nat × Instr × Nat × Nat × List Nat) := [(0, .iload_n 1, 1, 1, []), (1, .invokestatic 310, 3, 4, []), (4, .ifCond .eq 13, 3, 7, [17]), (7, .iload_n 2, 1, 8, []), (8, .ifCond .lt 9, 3, 11, [17]), (11, .iload_n 2, 1, 12, []), (12, .bipush 11, 2, 14, []), (14, .if_icmp .le 6, 3, 17, [20]), (17, .bipush (-2), 2, 19, []), (19, .ireturn, 1, 20, []), (20, .aload_n 0, 1, 21, []), (21, .getfield 59, 3, 24, []), (24, .iload_n 1, 1, 25, []), (25, .invokevirtual 313, 3, 28, []), (28, .istore 7, 2, 30, []), (30, .iload 7, 2, 32, []), (32, .ifCond .ge 6, 3, 35, [38]), (35, .bipush (-4), 2, 37, []), (37, .ireturn, 1, 38, []), (38, .aload_n 0, 1, 39, []), (39, .getfield 59, 3, 42, []), (42, .getfield 316, 3, 45, []), (45, .iload 7, 2, 47, []), (47, .iload_n 2, 1, 48, []), (48, .iastore, 1, 49, []), (49, .aload_n 0, 1, 50, []), (50, .getfield 59, 3, 53, []), (53, .getfield 316, 3, 56, []), (56, .iload 7, 2, 58, []), (58, .iconst 1, 1, 59, []), (59, .iadd, 1, 60, []), (60, .iload_n 3, 1, 61, [])]
def k_X8_step_1 : List (Nat × Instr × Nat × Nat × List Nat) := [(61, .iastore, 1, 62, []), (62, .aload_n 0, 1, 63, []), (63, .getfield 59, 3, 66, []), (66, .getfield 316, 3, 69, []), (69, .iload 7, 2, 71, []), (71, .iconst 2, 1, 72, []), (72, .iadd, 1, 73, []), (73, .iload 4, 2, 75, []), (75, .iastore, 1, 76, []), (76, .aload_n 0, 1, 77, []), (77, .getfield 59, 3, 80, []), (80, .getfield 316, 3, 83, []), (83, .iload 7, 2, 85, []), (85, .iconst 3, 1, 86, []), (86, .iadd, 1, 87, []), (87, .iload 5, 2, 89, []), (89, .iastore, 1, 90, []), (90, .aload_n 0, 1, 91, []), (91, .getfield 59, 3, 94, []), (94, .getfield 316, 3, 97, []), (97, .iload 7, 2, 99, []), (99, .iconst 4, 1, 100, []), (100, .iadd, 1, 101, []), (101, .iload 6, 2, 103, []), (103, .iastore, 1, 104, []), (104, .aload_n 0, 1, 105, []), (105, .getfield 59, 3, 108, []), (108, .getfield 319, 3, 111, []), (111, .iload_n 1, 1, 112, []), (112, .iaload, 1, 113, []), (113, .ireturn, 1, 114, [])]
def k_X8_step : List (Nat × List (Nat × Instr × Nat × Nat × List Nat)) := [(61, k_X8_step_0), (114, k_X8_step_1)]
def m_X8_step : am_M := (yX8_step, cX8_step, 8, (some .int), 8, am_a2 k_X8_step)
theorem ok_X8_step_0 : ∀ q ∈ k_X8_step_0, am_ck cX8_step q := by unfold am_ck; decide +kernel
theorem ok_X8_step_1 : ∀ q ∈ k_X8_step_1, am_ck cX8_step q := by unfold am_ck; decide +kernel
theorem ok_X8_step : am_ok m_X8_step := am_ok_a2 (List.forall_mem_cons.mpr ⟨ok_X8_step_0, List.forall_mem_cons.mpr ⟨ok_X8_step_1, fun _ h => absurd h List.not_mem_nil⟩⟩)
def k_X8_empty : List (Nat × Instr × Nat × Nat × List Nat) := [(0, .iload_n 1, 1, 1, []), (1, .invokestatic 310, 3, 4, []), (4, .ifCond .ne 6, 3, 7, [10]), (7, .bipush (-2), 2, 9, []), (9, .ireturn, 1, 10, []), (10, .aload_n 0, 1, 11, []), (11, .getfield 59, 3, 14, []), (14, .getfield 319, 3, 17, []), (17, .iload_n 1, 1, 18, []), (18, .iaload, 1, 19, []), (19, .istore_n 2, 1, 20, []), (20, .aload_n 0, 1, 21, []), (21, .getfield 59, 3, 24, []), (24, .getfield 319, 3, 27, []), (27, .iload_n 1, 1, 28, []), (28, .iconst 0, 1, 29, []), (29, .iastore, 1, 30, []), (30, .iload_n 2, 1, 31, []), (31, .ireturn, 1, 32, [])]
def m_X8_empty : am_M := (yX8_empty, cX8_empty, 3, (some .int), 8, am_at k_X8_empty)
theorem ok_X8_empty : am_ok m_X8_empty := am_ok_at (by unfold am_ck; decide +kernel)
def k_X8_run : List (Nat × Instr × Nat × Nat × List Nat) := [(0, .aload_n 0, 1, 1, []), (1, .getfield 10, 3, 4, []), (4, .invokevirtual 114, 3, 7, []), (7, .iload_n 1, 1, 8, []), (8, .invokestatic 310, 3, 11, []), (11, .ifCond .ne 6, 3, 14, [17]), (14, .bipush (-2), 2, 16, []), (16, .ireturn, 1, 17, []), (17, .aload_n 0, 1, 18, []), (18, .invokevirtual 322, 3, 21, []), (21, .aload_n 0, 1, 22, []), (22, .getfield 66, 3, 25, []), (25, .invokevirtual 325, 3, 28, []), (28, .aload_n 0, 1, 29, []), (29, .iload_n 1, 1, 30, []), (30, .invokevirtual 327, 3, 33, []), (33, .ifCond .eq 5, 3, 36, [38]), (36, .iconst 1, 1, 37, []), (37, .ireturn, 1, 38, []), (38, .aload_n 0, 1, 39, []), (39, .invokevirtual 330, 3, 42, []), (42, .bipush (-6), 2, 44, []), (44, .ireturn, 1, 45, [])]
def m_X8_run : am_M := (yX8_run, cX8_run, 2, (some .int), 8, am_at k_X8_run)
theorem ok_X8_run : am_ok m_X8_run := am_ok_at (by unfold am_ck; decide +kernel)
def k_X8_ran : List (Nat × Instr × Nat × Nat × List Nat) := [(0, .iload_n 1, 1, 1, []), (1, .tableswitch 63 0 3 #[31, 39, 47, 55], 31, 32, [64, 32, 40, 48, 56]), (32, .aload_n 0, 1, 33, []), (33, .getfield 66, 3, 36, []), (36, .getfield 333, 3, 39, []), (39, .ireturn, 1, 40, []), (40, .aload_n 0, 1, 41, []), (41, .getfield 66, 3, 44, []), (44, .getfield 336, 3, 47, []), (47, .ireturn, 1, 48, []), (48, .aload_n 0, 1, 49, []), (49, .getfield 66, 3, 52, []), (52, .getfield 339, 3, 55, []), (55, .ireturn, 1, 56, []), (56, .aload_n 0, 1, 57, []), (57, .getfield 66, 3, 60, []), (60, .getfield 342, 3, 63, []), (63, .ireturn, 1, 64, []), (64, .bipush (-2), 2, 66, []), (66, .ireturn, 1, 67, [])]
def m_X8_ran : am_M := (yX8_ran, cX8_ran, 2, (some .int), 8, am_at k_X8_ran)
theorem ok_X8_ran : am_ok m_X8_ran := am_ok_at (by unfold am_ck; decide +kernel)
def k_X8_isPlan : List (Nat × Instr × Nat × Nat × List Nat) := [(0, .iload_n 0, 1, 1, []), (1, .ifCond .lt 12, 3, 4, [13]), (4, .iload_n 0, 1, 5, []), (5, .iconst 4, 1, 6, []), (6, .if_icmp .ge 7, 3, 9, [13]), (9, .iconst 1, 1, 10, []), (10, .goto 4, 3, 13, [14]), (13, .iconst 0, 1, 14, []), (14, .ireturn, 1, 15, [])]
def m_X8_isPlan : am_M := (yX8_isPlan, cX8_isPlan, 1, (some .boolean), 8, am_at k_X8_isPlan)
theorem ok_X8_isPlan : am_ok m_X8_isPlan := am_ok_at (by unfold am_ck; decide +kernel)
def k_X8_fails : List (Nat × Instr × Nat × Nat × List Nat) := [(0, .iload_n 0, 1, 1, []), (1, .bipush (-2), 2, 3, []), (3, .if_icmp .eq 21, 3, 6, [24]), (6, .iload_n 0, 1, 7, []), (7, .bipush (-3), 2, 9, []), (9, .if_icmp .eq 15, 3, 12, [24]), (12, .iload_n 0, 1, 13, []), (13, .bipush (-4), 2, 15, []), (15, .if_icmp .eq 9, 3, 18, [24]), (18, .iload_n 0, 1, 19, []), (19, .bipush (-5), 2, 21, []), (21, .if_icmp .ne 7, 3, 24, [28]), (24, .iconst 1, 1, 25, []), (25, .goto 4, 3, 28, [29]), (28, .iconst 0, 1, 29, []), (29, .ireturn, 1, 30, [])]
def m_X8_fails : am_M := (yX8_fails, cX8_fails, 1, (some .boolean), 8, am_at k_X8_fails)
theorem ok_X8_fails : am_ok m_X8_fails := am_ok_at (by unfold am_ck; decide +kernel)
def k_X8_save : List (Nat × Instr × Nat × Nat × List Nat) := [(0, .aload_n 0, 1, 1, []), (1, .getfield 23, 3, 4, []), (4, .aload_n 0, 1, 5, []), (5, .getfield 19, 3, 8, []), (8, .invokevirtual 345, 3, 11, []), (11, .aload_n 0, 1, 12, []), (12, .aload_n 0, 1, 13, []), (13, .getfield 78, 3, 16, []), (16, .putfield 81, 3, 19, []), (19, .iconst 0, 1, 20, []), (20, .istore_n 1, 1, 21, []), (21, .iload_n 1, 1, 22, []), (22, .aload_n 0, 1, 23, []), (23, .getfield 78, 3, 26, []), (26, .if_icmp .ge 24, 3, 29, [50]), (29, .aload_n 0, 1, 30, []), (30, .getfield 32, 3, 33, []), (33, .iload_n 1, 1, 34, []), (34, .aaload, 1, 35, []), (35, .aload_n 0, 1, 36, []), (36, .getfield 28, 3, 39, []), (39, .iload_n 1, 1, 40, []), (40, .aaload, 1, 41, []), (41, .invokevirtual 189, 3, 44, []), (44, .iinc 1 1, 3, 47, []), (47, .goto (-26), 3, 50, [21]), (50, .return_, 1, 51, [])]
def m_X8_save : am_M := (yX8_save, cX8_save, 2, none, 8, am_at k_X8_save)
theorem ok_X8_save : am_ok m_X8_save := am_ok_at (by unfold am_ck; decide +kernel)
def k_X8_restore : List (Nat × Instr × Nat × Nat × List Nat) := [(0, .aload_n 0, 1, 1, []), (1, .getfield 19, 3, 4, []), (4, .aload_n 0, 1, 5, []), (5, .getfield 23, 3, 8, []), (8, .invokevirtual 345, 3, 11, []), (11, .aload_n 0, 1, 12, []), (12, .aload_n 0, 1, 13, []), (13, .getfield 81, 3, 16, []), (16, .putfield 78, 3, 19, []), (19, .iconst 0, 1, 20, []), (20, .istore_n 1, 1, 21, []), (21, .iload_n 1, 1, 22, []), (22, .aload_n 0, 1, 23, []), (23, .getfield 81, 3, 26, []), (26, .if_icmp .ge 24, 3, 29, [50]), (29, .aload_n 0, 1, 30, []), (30, .getfield 28, 3, 33, []), (33, .iload_n 1, 1, 34, []), (34, .aaload, 1, 35, []), (35, .aload_n 0, 1, 36, []), (36, .getfield 32, 3, 39, []), (39, .iload_n 1, 1, 40, []), (40, .aaload, 1, 41, []), (41, .invokevirtual 189, 3, 44, []), (44, .iinc 1 1, 3, 47, []), (47, .goto (-26), 3, 50, [21]), (50, .return_, 1, 51, [])]
def m_X8_restore : am_M := (yX8_restore, cX8_restore, 2, none, 8, am_at k_X8_restore)
theorem ok_X8_restore : am_ok m_X8_restore := am_ok_at (by unfold am_ck; decide +kernel)
def k_X8_runSteps_0 : List (Nat × Instr × Nat × Nat × List Nat) := [(0, .aload_n 0, 1, 1, []), (1, .getfield 59, 3, 4, []), (4, .getfield 348, 3, 7, []), (7, .iload_n 1, 1, 8, []), (8, .dup2, 1, 9, []), (9, .iaload, 1, 10, []), (10, .iconst 1, 1, 11, []), (11, .iadd, 1, 12, []), (12, .iastore, 1, 13, []), (13, .iconst 0, 1, 14, []), (14, .istore_n 2, 1, 15, []), (15, .iload_n 2, 1, 16, []), (16, .aload_n 0, 1, 17, []), (17, .getfield 59, 3, 20, []), (20, .getfield 319, 3, 23, []), (23, .iload_n 1, 1, 24, []), (24, .iaload, 1, 25, []), (25, .if_icmp .ge 109, 3, 28, [134]), (28, .aload_n 0, 1, 29, []), (29, .getfield 59, 3, 32, []), (32, .iload_n 1, 1, 33, []), (33, .iload_n 2, 1, 34, []), (34, .invokevirtual 351, 3, 37, []), (37, .istore_n 3, 1, 38, []), (38, .aload_n 0, 1, 39, []), (39, .getfield 59, 3, 42, []), (42, .getfield 316, 3, 45, []), (45, .iload_n 3, 1, 46, []), (46, .iconst 1, 1, 47, []), (47, .iadd, 1, 48, []), (48, .iaload, 1, 49, []), (49, .istore 4, 2, 51, [])]
def k_X8_runSteps_1 : List (Nat × Instr × Nat × Nat × List Nat) := [(51, .aload_n 0, 1, 52, []), (52, .getfield 59, 3, 55, []), (55, .getfield 316, 3, 58, []), (58, .iload_n 3, 1, 59, []), (59, .iaload, 1, 60, []), (60, .bipush 11, 2, 62, []), (62, .if_icmp .ne 25, 3, 65, [87]), (65, .iload 4, 2, 67, []), (67, .ifCond .lt 20, 3, 70, [87]), (70, .iload 4, 2, 72, []), (72, .iload_n 1, 1, 73, []), (73, .if_icmp .ge 14, 3, 76, [87]), (76, .aload_n 0, 1, 77, []), (77, .iload 4, 2, 79, []), (79, .invokevirtual 327, 3, 82, []), (82, .ifCond .ne 46, 3, 85, [128]), (85, .iconst 0, 1, 86, []), (86, .ireturn, 1, 87, []), (87, .aload_n 0, 1, 88, []), (88, .iload_n 3, 1, 89, []), (89, .invokevirtual 354, 3, 92, []), (92, .istore 5, 2, 94, []), (94, .iload 5, 2, 96, []), (96, .invokestatic 357, 3, 99, []), (99, .ifCond .eq 16, 3, 102, [115]), (102, .aload_n 0, 1, 103, []), (103, .getfield 66, 3, 106, []), (106, .iload 5, 2, 108, []), (108, .iload_n 1, 1, 109, []), (109, .iload_n 2, 1, 110, []), (110, .invokevirtual 360, 3, 113, []), (113, .iconst 0, 1, 114, [])]
def k_X8_runSteps_2 : List (Nat × Instr × Nat × Nat × List Nat) := [(114, .ireturn, 1, 115, []), (115, .aload_n 0, 1, 116, []), (116, .getfield 66, 3, 119, []), (119, .dup, 1, 120, []), (120, .getfield 342, 3, 123, []), (123, .iconst 1, 1, 124, []), (124, .iadd, 1, 125, []), (125, .putfield 342, 3, 128, []), (128, .iinc 2 1, 3, 131, []), (131, .goto (-116), 3, 134, [15]), (134, .iconst 1, 1, 135, []), (135, .ireturn, 1, 136, [])]
def k_X8_runSteps : List (Nat × List (Nat × Instr × Nat × Nat × List Nat)) := [(51, k_X8_runSteps_0), (114, k_X8_runSteps_1), (136, k_X8_runSteps_2)]
def m_X8_runSteps : am_M := (yX8_runSteps, cX8_runSteps, 6, (some .boolean), 8, am_a2 k_X8_runSteps)
theorem ok_X8_runSteps_0 : ∀ q ∈ k_X8_runSteps_0, am_ck cX8_runSteps q := by unfold am_ck; decide +kernel
theorem ok_X8_runSteps_1 : ∀ q ∈ k_X8_runSteps_1, am_ck cX8_runSteps q := by unfold am_ck; decide +kernel
theorem ok_X8_runSteps_2 : ∀ q ∈ k_X8_runSteps_2, am_ck cX8_runSteps q := by unfold am_ck; decide +kernel
theorem ok_X8_runSteps : am_ok m_X8_runSteps := am_ok_a2 (List.forall_mem_cons.mpr ⟨ok_X8_runSteps_0, List.forall_mem_cons.mpr ⟨ok_X8_runSteps_1, List.forall_mem_cons.mpr ⟨ok_X8_runSteps_2, fun _ h => absurd h List.not_mem_nil⟩⟩⟩)
def k_X8_perform_0 : List (Nat × Instr × Nat × Nat × List Nat) := [(0, .aload_n 0, 1, 1, []), (1, .getfield 59, 3, 4, []), (4, .getfield 316, 3, 7, []), (7, .iload_n 1, 1, 8, []), (8, .iaload, 1, 9, []), (9, .istore_n 2, 1, 10, []), (10, .iload_n 2, 1, 11, []), (11, .bipush 11, 2, 13, []), (13, .if_icmp .ne 6, 3, 16, [19]), (16, .bipush (-2), 2, 18, []), (18, .ireturn, 1, 19, []), (19, .aload_n 0, 1, 20, []), (20, .getfield 66, 3, 23, []), (23, .getfield 342, 3, 26, []), (26, .bipush 60, 2, 28, []), (28, .if_icmp .lt 6, 3, 31, [34]), (31, .bipush (-4), 2, 33, []), (33, .ireturn, 1, 34, []), (34, .aload_n 0, 1, 35, []), (35, .getfield 59, 3, 38, []), (38, .getfield 316, 3, 41, []), (41, .iload_n 1, 1, 42, []), (42, .iconst 1, 1, 43, []), (43, .iadd, 1, 44, []), (44, .iaload, 1, 45, []), (45, .istore_n 3, 1, 46, []), (46, .aload_n 0, 1, 47, []), (47, .getfield 59, 3, 50, []), (50, .getfield 316, 3, 53, []), (53, .iload_n 1, 1, 54, []), (54, .iconst 2, 1, 55, []), (55, .iadd, 1, 56, [])]
def k_X8_perform_1 : List (Nat × Instr × Nat × Nat × List Nat) := [(56, .iaload, 1, 57, []), (57, .istore 4, 2, 59, []), (59, .aload_n 0, 1, 60, []), (60, .getfield 59, 3, 63, []), (63, .getfield 316, 3, 66, []), (66, .iload_n 1, 1, 67, []), (67, .iconst 3, 1, 68, []), (68, .iadd, 1, 69, []), (69, .iaload, 1, 70, []), (70, .istore 5, 2, 72, []), (72, .aload_n 0, 1, 73, []), (73, .getfield 59, 3, 76, []), (76, .getfield 316, 3, 79, []), (79, .iload_n 1, 1, 80, []), (80, .iconst 4, 1, 81, []), (81, .iadd, 1, 82, []), (82, .iaload, 1, 83, []), (83, .istore 6, 2, 85, []), (85, .iload_n 2, 1, 86, []), (86, .tableswitch 147 0 9 #[54, 62, 70, 80, 85, 93, 101, 109, 131, 141], 54, 140, [233, 140, 148, 156, 166, 171, 179, 187, 195, 217, 227]), (140, .aload_n 0, 1, 141, []), (141, .iload_n 3, 1, 142, []), (142, .iload 4, 2, 144, []), (144, .invokevirtual 363, 3, 147, []), (147, .ireturn, 1, 148, []), (148, .aload_n 0, 1, 149, []), (149, .iload_n 3, 1, 150, []), (150, .iload 4, 2, 152, []), (152, .invokevirtual 366, 3, 155, []), (155, .ireturn, 1, 156, []), (156, .aload_n 0, 1, 157, []), (157, .iload_n 3, 1, 158, [])]
def k_X8_perform_2 : List (Nat × Instr × Nat × Nat × List Nat) := [(158, .iload 4, 2, 160, []), (160, .iload 5, 2, 162, []), (162, .invokevirtual 369, 3, 165, []), (165, .ireturn, 1, 166, []), (166, .aload_n 0, 1, 167, []), (167, .invokevirtual 373, 3, 170, []), (170, .ireturn, 1, 171, []), (171, .aload_n 0, 1, 172, []), (172, .iload_n 3, 1, 173, []), (173, .iload 4, 2, 175, []), (175, .invokevirtual 376, 3, 178, []), (178, .ireturn, 1, 179, []), (179, .aload_n 0, 1, 180, []), (180, .iload_n 3, 1, 181, []), (181, .iload 4, 2, 183, []), (183, .invokevirtual 379, 3, 186, []), (186, .ireturn, 1, 187, []), (187, .aload_n 0, 1, 188, []), (188, .iload_n 3, 1, 189, []), (189, .iload 4, 2, 191, []), (191, .invokevirtual 162, 3, 194, []), (194, .ireturn, 1, 195, []), (195, .aload_n 0, 1, 196, []), (196, .iload_n 3, 1, 197, []), (197, .iload 4, 2, 199, []), (199, .bipush 10, 2, 201, []), (201, .idiv, 1, 202, []), (202, .iload 4, 2, 204, []), (204, .bipush 10, 2, 206, []), (206, .irem, 1, 207, []), (207, .iload 5, 2, 209, []), (209, .iload 6, 2, 211, [])]
def k_X8_perform_3 : List (Nat × Instr × Nat × Nat × List Nat) := [(211, .iload 6, 2, 213, []), (213, .invokevirtual 382, 3, 216, []), (216, .ireturn, 1, 217, []), (217, .aload_n 0, 1, 218, []), (218, .iload_n 3, 1, 219, []), (219, .iload 4, 2, 221, []), (221, .iload 5, 2, 223, []), (223, .invokevirtual 386, 3, 226, []), (226, .ireturn, 1, 227, []), (227, .aload_n 0, 1, 228, []), (228, .iload_n 3, 1, 229, []), (229, .invokevirtual 117, 3, 232, []), (232, .ireturn, 1, 233, []), (233, .aload_n 0, 1, 234, []), (234, .iload_n 3, 1, 235, []), (235, .iload 4, 2, 237, []), (237, .iload 5, 2, 239, []), (239, .iload 6, 2, 241, []), (241, .invokevirtual 389, 3, 244, []), (244, .ireturn, 1, 245, [])]
def k_X8_perform : List (Nat × List (Nat × Instr × Nat × Nat × List Nat)) := [(56, k_X8_perform_0), (158, k_X8_perform_1), (211, k_X8_perform_2), (245, k_X8_perform_3)]
def m_X8_perform : am_M := (yX8_perform, cX8_perform, 7, (some .int), 8, am_a2 k_X8_perform)
theorem ok_X8_perform_0 : ∀ q ∈ k_X8_perform_0, am_ck cX8_perform q := by unfold am_ck; decide +kernel
theorem ok_X8_perform_1 : ∀ q ∈ k_X8_perform_1, am_ck cX8_perform q := by unfold am_ck; decide +kernel
theorem ok_X8_perform_2 : ∀ q ∈ k_X8_perform_2, am_ck cX8_perform q := by unfold am_ck; decide +kernel
theorem ok_X8_perform_3 : ∀ q ∈ k_X8_perform_3, am_ck cX8_perform q := by unfold am_ck; decide +kernel
theorem ok_X8_perform : am_ok m_X8_perform := am_ok_a2 (List.forall_mem_cons.mpr ⟨ok_X8_perform_0, List.forall_mem_cons.mpr ⟨ok_X8_perform_1, List.forall_mem_cons.mpr ⟨ok_X8_perform_2, List.forall_mem_cons.mpr ⟨ok_X8_perform_3, fun _ h => absurd h List.not_mem_nil⟩⟩⟩⟩)
def k_X8_need : List (Nat × Instr × Nat × Nat × List Nat) := [(0, .aload_n 0, 1, 1, []), (1, .iload_n 1, 1, 2, []), (2, .iload_n 2, 1, 3, []), (3, .iload_n 3, 1, 4, []), (4, .iload_n 3, 1, 5, []), (5, .invokevirtual 392, 3, 8, []), (8, .istore 5, 2, 10, []), (10, .iload 5, 2, 12, []), (12, .invokestatic 357, 3, 15, []), (15, .ifCond .eq 6, 3, 18, [21]), (18, .iload 5, 2, 20, []), (20, .ireturn, 1, 21, []), (21, .iload 5, 2, 23, []), (23, .iload 4, 2, 25, []), (25, .if_icmp .ge 15, 3, 28, [40]), (28, .aload_n 0, 1, 29, []), (29, .getfield 10, 3, 32, []), (32, .bipush 6, 2, 34, []), (34, .invokevirtual 99, 3, 37, []), (37, .goto 5, 3, 40, [42]), (40, .iload 5, 2, 42, []), (42, .ireturn, 1, 43, [])]
def m_X8_need : am_M := (yX8_need, cX8_need, 6, (some .int), 8, am_at k_X8_need)
theorem ok_X8_need : am_ok m_X8_need := am_ok_at (by unfold am_ck; decide +kernel)
def k_X8_finding : List (Nat × Instr × Nat × Nat × List Nat) := [(0, .aload_n 0, 1, 1, []), (1, .getfield 10, 3, 4, []), (4, .getfield 395, 3, 7, []), (7, .ireturn, 1, 8, [])]
def m_X8_finding : am_M := (yX8_finding, cX8_finding, 1, (some .int), 8, am_at k_X8_finding)
theorem ok_X8_finding : am_ok m_X8_finding := am_ok_at (by unfold am_ck; decide +kernel)
def k_X8_told : List (Nat × Instr × Nat × Nat × List Nat) := [(0, .iload_n 1, 1, 1, []), (1, .tableswitch 57 0 3 #[31, 39, 44, 49], 31, 32, [58, 32, 40, 45, 50]), (32, .aload_n 0, 1, 33, []), (33, .getfield 19, 3, 36, []), (36, .getfield 398, 3, 39, []), (39, .ireturn, 1, 40, []), (40, .aload_n 0, 1, 41, []), (41, .getfield 78, 3, 44, []), (44, .ireturn, 1, 45, []), (45, .aload_n 0, 1, 46, []), (46, .getfield 84, 3, 49, []), (49, .ireturn, 1, 50, []), (50, .aload_n 0, 1, 51, []), (51, .getfield 10, 3, 54, []), (54, .getfield 124, 3, 57, []), (57, .ireturn, 1, 58, []), (58, .iload_n 1, 1, 59, []), (59, .bipush 10, 2, 61, []), (61, .if_icmp .ge 8, 3, 64, [69]), (64, .bipush (-2), 2, 66, []), (66, .goto 15, 3, 69, [81]), (69, .aload_n 0, 1, 70, []), (70, .iload_n 1, 1, 71, []), (71, .bipush 10, 2, 73, []), (73, .idiv, 1, 74, []), (74, .iload_n 1, 1, 75, []), (75, .bipush 10, 2, 77, []), (77, .irem, 1, 78, []), (78, .invokevirtual 401, 3, 81, []), (81, .ireturn, 1, 82, [])]
def m_X8_told : am_M := (yX8_told, cX8_told, 2, (some .int), 8, am_at k_X8_told)
theorem ok_X8_told : am_ok m_X8_told := am_ok_at (by unfold am_ck; decide +kernel)
def k_X8_tellOf : List (Nat × Instr × Nat × Nat × List Nat) := [(0, .iload_n 1, 1, 1, []), (1, .iconst 1, 1, 2, []), (2, .if_icmp .ne 25, 3, 5, [27]), (5, .iload_n 2, 1, 6, []), (6, .invokestatic 310, 3, 9, []), (9, .ifCond .eq 15, 3, 12, [24]), (12, .aload_n 0, 1, 13, []), (13, .getfield 59, 3, 16, []), (16, .getfield 348, 3, 19, []), (19, .iload_n 2, 1, 20, []), (20, .iaload, 1, 21, []), (21, .goto 5, 3, 24, [26]), (24, .bipush (-2), 2, 26, []), (26, .ireturn, 1, 27, []), (27, .aload_n 0, 1, 28, []), (28, .iload_n 2, 1, 29, []), (29, .invokevirtual 138, 3, 32, []), (32, .ifCond .ne 6, 3, 35, [38]), (35, .bipush (-2), 2, 37, []), (37, .ireturn, 1, 38, []), (38, .aload_n 0, 1, 39, []), (39, .getfield 28, 3, 42, []), (42, .iload_n 2, 1, 43, []), (43, .aaload, 1, 44, []), (44, .astore_n 3, 1, 45, []), (45, .iload_n 1, 1, 46, []), (46, .tableswitch 50 2 5 #[30, 35, 40, 45], 30, 76, [96, 76, 81, 86, 91]), (76, .aload_n 3, 1, 77, []), (77, .getfield 147, 3, 80, []), (80, .ireturn, 1, 81, []), (81, .aload_n 3, 1, 82, []), (82, .getfield 144, 3, 85, []), (85, .ireturn, 1, 86, []), (86, .aload_n 3, 1, 87, []), (87, .getfield 240, 3, 90, []), (90, .ireturn, 1, 91, []), (91, .aload_n 3, 1, 92, []), (92, .getfield 197, 3, 95, []), (95, .ireturn, 1, 96, []), (96, .bipush (-2), 2, 98, []), (98, .ireturn, 1, 99, [])]
def m_X8_tellOf : am_M := (yX8_tellOf, cX8_tellOf, 4, (some .int), 8, am_at k_X8_tellOf)
theorem ok_X8_tellOf : am_ok m_X8_tellOf := am_ok_at (by unfold am_ck; decide +kernel)
def k_X9_init_0 : List (Nat × Instr × Nat × Nat × List Nat) := [(0, .aload_n 0, 1, 1, []), (1, .invokespecial 1, 3, 4, []), (4, .aload_n 0, 1, 5, []), (5, .sipush 200, 3, 8, []), (8, .newarray .int, 2, 10, []), (10, .putfield 7, 3, 13, []), (13, .aload_n 0, 1, 14, []), (14, .bipush 24, 2, 16, []), (16, .newarray .int, 2, 18, []), (18, .putfield 13, 3, 21, []), (21, .aload_n 0, 1, 22, []), (22, .bipush 24, 2, 24, []), (24, .newarray .int, 2, 26, []), (26, .putfield 16, 3, 29, []), (29, .aload_n 0, 1, 30, []), (30, .bipush 24, 2, 32, []), (32, .newarray .int, 2, 34, []), (34, .putfield 19, 3, 37, []), (37, .aload_n 0, 1, 38, []), (38, .bipush 96, 2, 40, []), (40, .newarray .int, 2, 42, []), (42, .putfield 22, 3, 45, []), (45, .aload_n 0, 1, 46, []), (46, .sipush 1648, 3, 49, []), (49, .newarray .int, 2, 51, []), (51, .putfield 25, 3, 54, []), (54, .aload_n 0, 1, 55, []), (55, .bipush 24, 2, 57, []), (57, .newarray .int, 2, 59, []), (59, .putfield 28, 3, 62, []), (62, .aload_n 0, 1, 63, []), (63, .bipush 24, 2, 65, [])]
def k_X9_init_1 : List (Nat × Instr × Nat × Nat × List Nat) := [(65, .newarray .int, 2, 67, []), (67, .putfield 31, 3, 70, []), (70, .aload_n 0, 1, 71, []), (71, .bipush 24, 2, 73, []), (73, .newarray .int, 2, 75, []), (75, .putfield 34, 3, 78, []), (78, .aload_n 0, 1, 79, []), (79, .bipush 96, 2, 81, []), (81, .newarray .int, 2, 83, []), (83, .putfield 37, 3, 86, []), (86, .aload_n 0, 1, 87, []), (87, .sipush 1648, 3, 90, []), (90, .newarray .int, 2, 92, []), (92, .putfield 40, 3, 95, []), (95, .aload_n 0, 1, 96, []), (96, .sipush 200, 3, 99, []), (99, .newarray .int, 2, 101, []), (101, .putfield 43, 3, 104, []), (104, .aload_n 0, 1, 105, []), (105, .iconst 4, 1, 106, []), (106, .newarray .int, 2, 108, []), (108, .putfield 46, 3, 111, []), (111, .aload_n 0, 1, 112, []), (112, .iconst 4, 1, 113, []), (113, .newarray .int, 2, 115, []), (115, .putfield 49, 3, 118, []), (118, .aload_n 0, 1, 119, []), (119, .iconst (-1), 1, 120, []), (120, .putfield 52, 3, 123, []), (123, .aload_n 0, 1, 124, []), (124, .iconst (-1), 1, 125, []), (125, .putfield 56, 3, 128, [])]
def k_X9_init_2 : List (Nat × Instr × Nat × Nat × List Nat) := [(128, .aload_n 0, 1, 129, []), (129, .bipush 30, 2, 131, []), (131, .newarray .int, 2, 133, []), (133, .putfield 59, 3, 136, []), (136, .aload_n 0, 1, 137, []), (137, .bipush 10, 2, 139, []), (139, .newarray .int, 2, 141, []), (141, .putfield 62, 3, 144, []), (144, .aload_n 0, 1, 145, []), (145, .bipush 10, 2, 147, []), (147, .newarray .int, 2, 149, []), (149, .putfield 65, 3, 152, []), (152, .aload_n 0, 1, 153, []), (153, .bipush 10, 2, 155, []), (155, .newarray .int, 2, 157, []), (157, .putfield 68, 3, 160, []), (160, .aload_n 0, 1, 161, []), (161, .sipush 1024, 3, 164, []), (164, .newarray .int, 2, 166, []), (166, .putfield 71, 3, 169, []), (169, .aload_n 0, 1, 170, []), (170, .sipush 1024, 3, 173, []), (173, .newarray .int, 2, 175, []), (175, .putfield 74, 3, 178, []), (178, .aload_n 0, 1, 179, []), (179, .bipush 100, 2, 181, []), (181, .newarray .int, 2, 183, []), (183, .putfield 77, 3, 186, []), (186, .aload_n 0, 1, 187, []), (187, .bipush 24, 2, 189, []), (189, .newarray .int, 2, 191, []), (191, .putfield 80, 3, 194, [])]
def k_X9_init_3 : List (Nat × Instr × Nat × Nat × List Nat) := [(194, .aload_n 0, 1, 195, []), (195, .bipush 24, 2, 197, []), (197, .newarray .int, 2, 199, []), (199, .putfield 83, 3, 202, []), (202, .aload_n 0, 1, 203, []), (203, .iconst 4, 1, 204, []), (204, .newarray .int, 2, 206, []), (206, .putfield 86, 3, 209, []), (209, .aload_n 0, 1, 210, []), (210, .iconst 4, 1, 211, []), (211, .newarray .int, 2, 213, []), (213, .putfield 89, 3, 216, []), (216, .return_, 1, 217, [])]
def k_X9_init : List (Nat × List (Nat × Instr × Nat × Nat × List Nat)) := [(65, k_X9_init_0), (128, k_X9_init_1), (194, k_X9_init_2), (217, k_X9_init_3)]
def m_X9_init : am_M := (yX9_init, cX9_init, 1, none, 9, am_a2 k_X9_init)
theorem ok_X9_init_0 : ∀ q ∈ k_X9_init_0, am_ck cX9_init q := by unfold am_ck; decide +kernel
theorem ok_X9_init_1 : ∀ q ∈ k_X9_init_1, am_ck cX9_init q := by unfold am_ck; decide +kernel
theorem ok_X9_init_2 : ∀ q ∈ k_X9_init_2, am_ck cX9_init q := by unfold am_ck; decide +kernel
theorem ok_X9_init_3 : ∀ q ∈ k_X9_init_3, am_ck cX9_init q := by unfold am_ck; decide +kernel
theorem ok_X9_init : am_ok m_X9_init := am_ok_a2 (List.forall_mem_cons.mpr ⟨ok_X9_init_0, List.forall_mem_cons.mpr ⟨ok_X9_init_1, List.forall_mem_cons.mpr ⟨ok_X9_init_2, List.forall_mem_cons.mpr ⟨ok_X9_init_3, fun _ h => absurd h List.not_mem_nil⟩⟩⟩⟩)
def k_X9_in : List (Nat × Instr × Nat × Nat × List Nat) := [(0, .iload_n 0, 1, 1, []), (1, .iload_n 1, 1, 2, []), (2, .if_icmp .lt 12, 3, 5, [14]), (5, .iload_n 0, 1, 6, []), (6, .iload_n 2, 1, 7, []), (7, .if_icmp .gt 7, 3, 10, [14]), (10, .iconst 1, 1, 11, []), (11, .goto 4, 3, 14, [15]), (14, .iconst 0, 1, 15, []), (15, .ireturn, 1, 16, [])]
def m_X9_in : am_M := (yX9_in, cX9_in, 3, (some .boolean), 9, am_at k_X9_in)
theorem ok_X9_in : am_ok m_X9_in := am_ok_at (by unfold am_ck; decide +kernel)
def k_X9_meets : List (Nat × Instr × Nat × Nat × List Nat) := [(0, .aload_n 0, 1, 1, []), (1, .iload_n 1, 1, 2, []), (2, .putfield 92, 3, 5, []), (5, .bipush (-5), 2, 7, []), (7, .ireturn, 1, 8, [])]
def m_X9_meets : am_M := (yX9_meets, cX9_meets, 2, (some .int), 9, am_at k_X9_meets)
theorem ok_X9_meets : am_ok m_X9_meets := am_ok_at (by unfold am_ck; decide +kernel)
def k_X9_began : List (Nat × Instr × Nat × Nat × List Nat) := [(0, .aload_n 0, 1, 1, []), (1, .getfield 95, 3, 4, []), (4, .sipush 200, 3, 7, []), (7, .if_icmp .ge 23, 3, 10, [30]), (10, .aload_n 0, 1, 11, []), (11, .getfield 7, 3, 14, []), (14, .aload_n 0, 1, 15, []), (15, .getfield 95, 3, 18, []), (18, .iload_n 1, 1, 19, []), (19, .iastore, 1, 20, []), (20, .aload_n 0, 1, 21, []), (21, .dup, 1, 22, []), (22, .getfield 95, 3, 25, []), (25, .iconst 1, 1, 26, []), (26, .iadd, 1, 27, []), (27, .putfield 95, 3, 30, []), (30, .return_, 1, 31, [])]
def m_X9_began : am_M := (yX9_began, cX9_began, 2, none, 9, am_at k_X9_began)
theorem ok_X9_began : am_ok m_X9_began := am_ok_at (by unfold am_ck; decide +kernel)
def k_X9_isPlayer : List (Nat × Instr × Nat × Nat × List Nat) := [(0, .iload_n 1, 1, 1, []), (1, .iconst 0, 1, 2, []), (2, .aload_n 0, 1, 3, []), (3, .getfield 98, 3, 6, []), (6, .iconst 1, 1, 7, []), (7, .isub, 1, 8, []), (8, .invokestatic 101, 3, 11, []), (11, .ireturn, 1, 12, [])]
def m_X9_isPlayer : am_M := (yX9_isPlayer, cX9_isPlayer, 2, (some .boolean), 9, am_at k_X9_isPlayer)
theorem ok_X9_isPlayer : am_ok m_X9_isPlayer := am_ok_at (by unfold am_ck; decide +kernel)
def k_X9_isTournament : List (Nat × Instr × Nat × Nat × List Nat) := [(0, .iload_n 1, 1, 1, []), (1, .iconst 0, 1, 2, []), (2, .aload_n 0, 1, 3, []), (3, .getfield 105, 3, 6, []), (6, .iconst 1, 1, 7, []), (7, .isub, 1, 8, []), (8, .invokestatic 101, 3, 11, []), (11, .ireturn, 1, 12, [])]
def m_X9_isTournament : am_M := (yX9_isTournament, cX9_isTournament, 2, (some .boolean), 9, am_at k_X9_isTournament)
theorem ok_X9_isTournament : am_ok m_X9_isTournament := am_ok_at (by unfold am_ck; decide +kernel)
def k_X9_cell : List (Nat × Instr × Nat × Nat × List Nat) := [(0, .aload_n 0, 1, 1, []), (1, .getfield 25, 3, 4, []), (4, .sipush 412, 3, 7, []), (7, .iload_n 1, 1, 8, []), (8, .imul, 1, 9, []), (9, .iload_n 2, 1, 10, []), (10, .iadd, 1, 11, []), (11, .iaload, 1, 12, []), (12, .ireturn, 1, 13, [])]
def m_X9_cell : am_M := (yX9_cell, cX9_cell, 3, (some .int), 9, am_at k_X9_cell)
theorem ok_X9_cell : am_ok m_X9_cell := am_ok_at (by unfold am_ck; decide +kernel)
def k_X9_lay : List (Nat × Instr × Nat × Nat × List Nat) := [(0, .aload_n 0, 1, 1, []), (1, .getfield 25, 3, 4, []), (4, .sipush 412, 3, 7, []), (7, .iload_n 1, 1, 8, []), (8, .imul, 1, 9, []), (9, .iload_n 2, 1, 10, []), (10, .iadd, 1, 11, []), (11, .iload_n 3, 1, 12, []), (12, .iastore, 1, 13, []), (13, .return_, 1, 14, [])]
def m_X9_lay : am_M := (yX9_lay, cX9_lay, 4, none, 9, am_at k_X9_lay)
theorem ok_X9_lay : am_ok m_X9_lay := am_ok_at (by unfold am_ck; decide +kernel)
def k_X9_player : List (Nat × Instr × Nat × Nat × List Nat) := [(0, .iload_n 1, 1, 1, []), (1, .iconst 0, 1, 2, []), (2, .iconst 4, 1, 3, []), (3, .invokestatic 101, 3, 6, []), (6, .ifCond .eq 14, 3, 9, [20]), (9, .iload_n 2, 1, 10, []), (10, .iconst 0, 1, 11, []), (11, .sipush 3000, 3, 14, []), (14, .invokestatic 101, 3, 17, []), (17, .ifCond .ne 6, 3, 20, [23]), (20, .bipush (-2), 2, 22, []), (22, .ireturn, 1, 23, []), (23, .aload_n 0, 1, 24, []), (24, .getfield 98, 3, 27, []), (27, .bipush 24, 2, 29, []), (29, .if_icmp .ne 6, 3, 32, [35]), (32, .bipush (-4), 2, 34, []), (34, .ireturn, 1, 35, []), (35, .aload_n 0, 1, 36, []), (36, .getfield 13, 3, 39, []), (39, .aload_n 0, 1, 40, []), (40, .getfield 98, 3, 43, []), (43, .iload_n 1, 1, 44, []), (44, .iastore, 1, 45, []), (45, .aload_n 0, 1, 46, []), (46, .getfield 16, 3, 49, []), (49, .aload_n 0, 1, 50, []), (50, .getfield 98, 3, 53, []), (53, .iload_n 2, 1, 54, []), (54, .iastore, 1, 55, []), (55, .aload_n 0, 1, 56, []), (56, .getfield 19, 3, 59, []), (59, .aload_n 0, 1, 60, []), (60, .getfield 98, 3, 63, []), (63, .iconst (-1), 1, 64, []), (64, .iastore, 1, 65, []), (65, .aload_n 0, 1, 66, []), (66, .dup, 1, 67, []), (67, .getfield 98, 3, 70, []), (70, .iconst 1, 1, 71, []), (71, .iadd, 1, 72, []), (72, .putfield 98, 3, 75, []), (75, .aload_n 0, 1, 76, []), (76, .getfield 98, 3, 79, []), (79, .iconst 1, 1, 80, []), (80, .isub, 1, 81, []), (81, .ireturn, 1, 82, [])]
def m_X9_player : am_M := (yX9_player, cX9_player, 3, (some .int), 9, am_at k_X9_player)
theorem ok_X9_player : am_ok m_X9_player := am_ok_at (by unfold am_ck; decide +kernel)
def k_X9_places : List (Nat × Instr × Nat × Nat × List Nat) := [(0, .aload_n 0, 1, 1, []), (1, .iload_n 1, 1, 2, []), (2, .invokevirtual 108, 3, 5, []), (5, .ifCond .eq 8, 3, 8, [13]), (8, .iload_n 2, 1, 9, []), (9, .iconst 4, 1, 10, []), (10, .if_icmp .le 6, 3, 13, [16]), (13, .bipush (-2), 2, 15, []), (15, .ireturn, 1, 16, []), (16, .aload_n 0, 1, 17, []), (17, .getfield 13, 3, 20, []), (20, .iload_n 1, 1, 21, []), (21, .iaload, 1, 22, []), (22, .iconst 3, 1, 23, []), (23, .if_icmp .eq 9, 3, 26, [32]), (26, .aload_n 0, 1, 27, []), (27, .iconst 3, 1, 28, []), (28, .invokevirtual 112, 3, 31, []), (31, .ireturn, 1, 32, []), (32, .iload_n 2, 1, 33, []), (33, .ifCond .ge 9, 3, 36, [42]), (36, .aload_n 0, 1, 37, []), (37, .iconst 5, 1, 38, []), (38, .invokevirtual 112, 3, 41, []), (41, .ireturn, 1, 42, []), (42, .aload_n 0, 1, 43, []), (43, .getfield 19, 3, 46, []), (46, .iload_n 1, 1, 47, []), (47, .iload_n 2, 1, 48, []), (48, .iastore, 1, 49, []), (49, .iconst 0, 1, 50, []), (50, .istore_n 3, 1, 51, []), (51, .iload_n 3, 1, 52, []), (52, .iconst 4, 1, 53, []), (53, .if_icmp .ge 20, 3, 56, [73]), (56, .aload_n 0, 1, 57, []), (57, .getfield 22, 3, 60, []), (60, .iconst 4, 1, 61, []), (61, .iload_n 1, 1, 62, []), (62, .imul, 1, 63, []), (63, .iload_n 3, 1, 64, []), (64, .iadd, 1, 65, []), (65, .iconst (-1), 1, 66, []), (66, .iastore, 1, 67, []), (67, .iinc 3 1, 3, 70, []), (70, .goto (-19), 3, 73, [51]), (73, .iload_n 2, 1, 74, []), (74, .ireturn, 1, 75, [])]
def m_X9_places : am_M := (yX9_places, cX9_places, 4, (some .int), 9, am_at k_X9_places)
theorem ok_X9_places : am_ok m_X9_places := am_ok_at (by unfold am_ck; decide +kernel)
def k_X9_seat_0 : List (Nat × Instr × Nat × Nat × List Nat) := [(0, .aload_n 0, 1, 1, []), (1, .iload_n 1, 1, 2, []), (2, .invokevirtual 108, 3, 5, []), (5, .ifCond .eq 16, 3, 8, [21]), (8, .iload_n 3, 1, 9, []), (9, .iconst (-1), 1, 10, []), (10, .if_icmp .eq 14, 3, 13, [24]), (13, .aload_n 0, 1, 14, []), (14, .iload_n 3, 1, 15, []), (15, .invokevirtual 108, 3, 18, []), (18, .ifCond .ne 6, 3, 21, [24]), (21, .bipush (-2), 2, 23, []), (23, .ireturn, 1, 24, []), (24, .aload_n 0, 1, 25, []), (25, .getfield 13, 3, 28, []), (28, .iload_n 1, 1, 29, []), (29, .iaload, 1, 30, []), (30, .iconst 3, 1, 31, []), (31, .if_icmp .ne 18, 3, 34, [49]), (34, .iload_n 3, 1, 35, []), (35, .iconst (-1), 1, 36, []), (36, .if_icmp .eq 19, 3, 39, [55]), (39, .aload_n 0, 1, 40, []), (40, .getfield 13, 3, 43, []), (43, .iload_n 3, 1, 44, []), (44, .iaload, 1, 45, []), (45, .iconst 3, 1, 46, []), (46, .if_icmp .ne 9, 3, 49, [55]), (49, .aload_n 0, 1, 50, []), (50, .iconst 3, 1, 51, []), (51, .invokevirtual 112, 3, 54, []), (54, .ireturn, 1, 55, [])]
def k_X9_seat_1 : List (Nat × Instr × Nat × Nat × List Nat) := [(55, .aload_n 0, 1, 56, []), (56, .getfield 19, 3, 59, []), (59, .iload_n 1, 1, 60, []), (60, .iaload, 1, 61, []), (61, .iconst (-1), 1, 62, []), (62, .if_icmp .ne 9, 3, 65, [71]), (65, .aload_n 0, 1, 66, []), (66, .iconst 1, 1, 67, []), (67, .invokevirtual 112, 3, 70, []), (70, .ireturn, 1, 71, []), (71, .iload_n 2, 1, 72, []), (72, .iconst 0, 1, 73, []), (73, .aload_n 0, 1, 74, []), (74, .getfield 19, 3, 77, []), (77, .iload_n 1, 1, 78, []), (78, .iaload, 1, 79, []), (79, .iconst 1, 1, 80, []), (80, .isub, 1, 81, []), (81, .invokestatic 101, 3, 84, []), (84, .ifCond .ne 9, 3, 87, [93]), (87, .aload_n 0, 1, 88, []), (88, .iconst 2, 1, 89, []), (89, .invokevirtual 112, 3, 92, []), (92, .ireturn, 1, 93, []), (93, .aload_n 0, 1, 94, []), (94, .getfield 22, 3, 97, []), (97, .iconst 4, 1, 98, []), (98, .iload_n 1, 1, 99, []), (99, .imul, 1, 100, []), (100, .iload_n 2, 1, 101, []), (101, .iadd, 1, 102, []), (102, .iload_n 3, 1, 103, [])]
def k_X9_seat_2 : List (Nat × Instr × Nat × Nat × List Nat) := [(103, .iastore, 1, 104, []), (104, .iconst 1, 1, 105, []), (105, .ireturn, 1, 106, [])]
def k_X9_seat : List (Nat × List (Nat × Instr × Nat × Nat × List Nat)) := [(55, k_X9_seat_0), (103, k_X9_seat_1), (106, k_X9_seat_2)]
def m_X9_seat : am_M := (yX9_seat, cX9_seat, 4, (some .int), 9, am_a2 k_X9_seat)
theorem ok_X9_seat_0 : ∀ q ∈ k_X9_seat_0, am_ck cX9_seat q := by unfold am_ck; decide +kernel
theorem ok_X9_seat_1 : ∀ q ∈ k_X9_seat_1, am_ck cX9_seat q := by unfold am_ck; decide +kernel
theorem ok_X9_seat_2 : ∀ q ∈ k_X9_seat_2, am_ck cX9_seat q := by unfold am_ck; decide +kernel
theorem ok_X9_seat : am_ok m_X9_seat := am_ok_a2 (List.forall_mem_cons.mpr ⟨ok_X9_seat_0, List.forall_mem_cons.mpr ⟨ok_X9_seat_1, List.forall_mem_cons.mpr ⟨ok_X9_seat_2, fun _ h => absurd h List.not_mem_nil⟩⟩⟩)
def k_X9_held_0 : List (Nat × Instr × Nat × Nat × List Nat) := [(0, .aload_n 0, 1, 1, []), (1, .iload_n 1, 1, 2, []), (2, .invokevirtual 108, 3, 5, []), (5, .ifCond .ne 6, 3, 8, [11]), (8, .bipush (-2), 2, 10, []), (10, .ireturn, 1, 11, []), (11, .aload_n 0, 1, 12, []), (12, .getfield 13, 3, 15, []), (15, .iload_n 1, 1, 16, []), (16, .iaload, 1, 17, []), (17, .iconst 3, 1, 18, []), (18, .if_icmp .eq 9, 3, 21, [27]), (21, .aload_n 0, 1, 22, []), (22, .iconst 3, 1, 23, []), (23, .invokevirtual 112, 3, 26, []), (26, .ireturn, 1, 27, []), (27, .aload_n 0, 1, 28, []), (28, .getfield 19, 3, 31, []), (31, .iload_n 1, 1, 32, []), (32, .iaload, 1, 33, []), (33, .iconst (-1), 1, 34, []), (34, .if_icmp .ne 9, 3, 37, [43]), (37, .aload_n 0, 1, 38, []), (38, .iconst 1, 1, 39, []), (39, .invokevirtual 112, 3, 42, []), (42, .ireturn, 1, 43, []), (43, .iload_n 2, 1, 44, []), (44, .iconst 0, 1, 45, []), (45, .aload_n 0, 1, 46, []), (46, .getfield 19, 3, 49, []), (49, .iload_n 1, 1, 50, []), (50, .iaload, 1, 51, [])]
def k_X9_held_1 : List (Nat × Instr × Nat × Nat × List Nat) := [(51, .iconst 1, 1, 52, []), (52, .isub, 1, 53, []), (53, .invokestatic 101, 3, 56, []), (56, .ifCond .eq 16, 3, 59, [72]), (59, .aload_n 0, 1, 60, []), (60, .getfield 22, 3, 63, []), (63, .iconst 4, 1, 64, []), (64, .iload_n 1, 1, 65, []), (65, .imul, 1, 66, []), (66, .iload_n 2, 1, 67, []), (67, .iadd, 1, 68, []), (68, .iaload, 1, 69, []), (69, .goto 8, 3, 72, [77]), (72, .aload_n 0, 1, 73, []), (73, .iconst 2, 1, 74, []), (74, .invokevirtual 112, 3, 77, []), (77, .ireturn, 1, 78, [])]
def k_X9_held : List (Nat × List (Nat × Instr × Nat × Nat × List Nat)) := [(51, k_X9_held_0), (78, k_X9_held_1)]
def m_X9_held : am_M := (yX9_held, cX9_held, 3, (some .int), 9, am_a2 k_X9_held)
theorem ok_X9_held_0 : ∀ q ∈ k_X9_held_0, am_ck cX9_held q := by unfold am_ck; decide +kernel
theorem ok_X9_held_1 : ∀ q ∈ k_X9_held_1, am_ck cX9_held q := by unfold am_ck; decide +kernel
theorem ok_X9_held : am_ok m_X9_held := am_ok_a2 (List.forall_mem_cons.mpr ⟨ok_X9_held_0, List.forall_mem_cons.mpr ⟨ok_X9_held_1, fun _ h => absurd h List.not_mem_nil⟩⟩)
def k_X9_soloWorth_0 : List (Nat × Instr × Nat × Nat × List Nat) := [(0, .aload_n 0, 1, 1, []), (1, .getfield 13, 3, 4, []), (4, .iload_n 1, 1, 5, []), (5, .iaload, 1, 6, []), (6, .iconst 1, 1, 7, []), (7, .if_icmp .ne 34, 3, 10, [41]), (10, .aload_n 0, 1, 11, []), (11, .bipush 11, 2, 13, []), (13, .invokevirtual 116, 3, 16, []), (16, .aload_n 0, 1, 17, []), (17, .getfield 16, 3, 20, []), (20, .iload_n 1, 1, 21, []), (21, .iaload, 1, 22, []), (22, .sipush 1500, 3, 25, []), (25, .if_icmp .le 9, 3, 28, [34]), (28, .sipush 1500, 3, 31, []), (31, .goto 9, 3, 34, [40]), (34, .aload_n 0, 1, 35, []), (35, .getfield 16, 3, 38, []), (38, .iload_n 1, 1, 39, []), (39, .iaload, 1, 40, []), (40, .ireturn, 1, 41, []), (41, .aload_n 0, 1, 42, []), (42, .getfield 13, 3, 45, []), (45, .iload_n 1, 1, 46, []), (46, .iaload, 1, 47, []), (47, .iconst 2, 1, 48, []), (48, .if_icmp .ne 9, 3, 51, [57]), (51, .aload_n 0, 1, 52, []), (52, .bipush 12, 2, 54, []), (54, .invokevirtual 116, 3, 57, []), (57, .aload_n 0, 1, 58, [])]
def k_X9_soloWorth_1 : List (Nat × Instr × Nat × Nat × List Nat) := [(58, .bipush 10, 2, 60, []), (60, .invokevirtual 116, 3, 63, []), (63, .aload_n 0, 1, 64, []), (64, .getfield 13, 3, 67, []), (67, .iload_n 1, 1, 68, []), (68, .iaload, 1, 69, []), (69, .iconst 2, 1, 70, []), (70, .if_icmp .ne 15, 3, 73, [85]), (73, .aload_n 0, 1, 74, []), (74, .getfield 16, 3, 77, []), (77, .iload_n 1, 1, 78, []), (78, .iaload, 1, 79, []), (79, .bipush 25, 2, 81, []), (81, .iadd, 1, 82, []), (82, .goto 9, 3, 85, [91]), (85, .aload_n 0, 1, 86, []), (86, .getfield 16, 3, 89, []), (89, .iload_n 1, 1, 90, []), (90, .iaload, 1, 91, []), (91, .ireturn, 1, 92, [])]
def k_X9_soloWorth : List (Nat × List (Nat × Instr × Nat × Nat × List Nat)) := [(58, k_X9_soloWorth_0), (92, k_X9_soloWorth_1)]
def m_X9_soloWorth : am_M := (yX9_soloWorth, cX9_soloWorth, 2, (some .int), 9, am_a2 k_X9_soloWorth)
theorem ok_X9_soloWorth_0 : ∀ q ∈ k_X9_soloWorth_0, am_ck cX9_soloWorth q := by unfold am_ck; decide +kernel
theorem ok_X9_soloWorth_1 : ∀ q ∈ k_X9_soloWorth_1, am_ck cX9_soloWorth q := by unfold am_ck; decide +kernel
theorem ok_X9_soloWorth : am_ok m_X9_soloWorth := am_ok_a2 (List.forall_mem_cons.mpr ⟨ok_X9_soloWorth_0, List.forall_mem_cons.mpr ⟨ok_X9_soloWorth_1, fun _ h => absurd h List.not_mem_nil⟩⟩)
def k_X9_worthOf_0 : List (Nat × Instr × Nat × Nat × List Nat) := [(0, .aload_n 0, 1, 1, []), (1, .getfield 13, 3, 4, []), (4, .iload_n 1, 1, 5, []), (5, .iaload, 1, 6, []), (6, .iconst 4, 1, 7, []), (7, .if_icmp .ne 9, 3, 10, [16]), (10, .aload_n 0, 1, 11, []), (11, .iconst 3, 1, 12, []), (12, .invokevirtual 112, 3, 15, []), (15, .ireturn, 1, 16, []), (16, .aload_n 0, 1, 17, []), (17, .getfield 13, 3, 20, []), (20, .iload_n 1, 1, 21, []), (21, .iaload, 1, 22, []), (22, .iconst 3, 1, 23, []), (23, .if_icmp .eq 9, 3, 26, [32]), (26, .aload_n 0, 1, 27, []), (27, .iload_n 1, 1, 28, []), (28, .invokevirtual 120, 3, 31, []), (31, .ireturn, 1, 32, []), (32, .aload_n 0, 1, 33, []), (33, .bipush 13, 2, 35, []), (35, .invokevirtual 116, 3, 38, []), (38, .aload_n 0, 1, 39, []), (39, .getfield 19, 3, 42, []), (42, .iload_n 1, 1, 43, []), (43, .iaload, 1, 44, []), (44, .iconst (-1), 1, 45, []), (45, .if_icmp .ne 9, 3, 48, [54]), (48, .aload_n 0, 1, 49, []), (49, .iconst 1, 1, 50, []), (50, .invokevirtual 112, 3, 53, [])]
def k_X9_worthOf_1 : List (Nat × Instr × Nat × Nat × List Nat) := [(53, .ireturn, 1, 54, []), (54, .iconst 0, 1, 55, []), (55, .istore_n 2, 1, 56, []), (56, .iconst 0, 1, 57, []), (57, .istore_n 3, 1, 58, []), (58, .iload_n 3, 1, 59, []), (59, .aload_n 0, 1, 60, []), (60, .getfield 19, 3, 63, []), (63, .iload_n 1, 1, 64, []), (64, .iaload, 1, 65, []), (65, .if_icmp .ge 59, 3, 68, [124]), (68, .aload_n 0, 1, 69, []), (69, .getfield 22, 3, 72, []), (72, .iconst 4, 1, 73, []), (73, .iload_n 1, 1, 74, []), (74, .imul, 1, 75, []), (75, .iload_n 3, 1, 76, []), (76, .iadd, 1, 77, []), (77, .iaload, 1, 78, []), (78, .istore 4, 2, 80, []), (80, .iload 4, 2, 82, []), (82, .iconst (-1), 1, 83, []), (83, .if_icmp .ne 9, 3, 86, [92]), (86, .aload_n 0, 1, 87, []), (87, .iconst 1, 1, 88, []), (88, .invokevirtual 112, 3, 91, []), (91, .ireturn, 1, 92, []), (92, .aload_n 0, 1, 93, []), (93, .getfield 13, 3, 96, []), (96, .iload 4, 2, 98, []), (98, .iaload, 1, 99, []), (99, .iconst 4, 1, 100, [])]
def k_X9_worthOf_2 : List (Nat × Instr × Nat × Nat × List Nat) := [(100, .if_icmp .ne 9, 3, 103, [109]), (103, .aload_n 0, 1, 104, []), (104, .iconst 3, 1, 105, []), (105, .invokevirtual 112, 3, 108, []), (108, .ireturn, 1, 109, []), (109, .iload_n 2, 1, 110, []), (110, .aload_n 0, 1, 111, []), (111, .iload 4, 2, 113, []), (113, .invokevirtual 120, 3, 116, []), (116, .iadd, 1, 117, []), (117, .istore_n 2, 1, 118, []), (118, .iinc 3 1, 3, 121, []), (121, .goto (-63), 3, 124, [58]), (124, .aload_n 0, 1, 125, []), (125, .getfield 19, 3, 128, []), (128, .iload_n 1, 1, 129, []), (129, .iaload, 1, 130, []), (130, .ifCond .ne 11, 3, 133, [141]), (133, .aload_n 0, 1, 134, []), (134, .iconst 4, 1, 135, []), (135, .invokevirtual 112, 3, 138, []), (138, .goto 11, 3, 141, [149]), (141, .iload_n 2, 1, 142, []), (142, .aload_n 0, 1, 143, []), (143, .getfield 19, 3, 146, []), (146, .iload_n 1, 1, 147, []), (147, .iaload, 1, 148, []), (148, .idiv, 1, 149, []), (149, .ireturn, 1, 150, [])]
def k_X9_worthOf : List (Nat × List (Nat × Instr × Nat × Nat × List Nat)) := [(53, k_X9_worthOf_0), (100, k_X9_worthOf_1), (150, k_X9_worthOf_2)]
def m_X9_worthOf : am_M := (yX9_worthOf, cX9_worthOf, 5, (some .int), 9, am_a2 k_X9_worthOf)
theorem ok_X9_worthOf_0 : ∀ q ∈ k_X9_worthOf_0, am_ck cX9_worthOf q := by unfold am_ck; decide +kernel
theorem ok_X9_worthOf_1 : ∀ q ∈ k_X9_worthOf_1, am_ck cX9_worthOf q := by unfold am_ck; decide +kernel
theorem ok_X9_worthOf_2 : ∀ q ∈ k_X9_worthOf_2, am_ck cX9_worthOf q := by unfold am_ck; decide +kernel
theorem ok_X9_worthOf : am_ok m_X9_worthOf := am_ok_a2 (List.forall_mem_cons.mpr ⟨ok_X9_worthOf_0, List.forall_mem_cons.mpr ⟨ok_X9_worthOf_1, List.forall_mem_cons.mpr ⟨ok_X9_worthOf_2, fun _ h => absurd h List.not_mem_nil⟩⟩⟩)
def k_X9_worth : List (Nat × Instr × Nat × Nat × List Nat) := [(0, .aload_n 0, 1, 1, []), (1, .iconst 0, 1, 2, []), (2, .putfield 95, 3, 5, []), (5, .aload_n 0, 1, 6, []), (6, .iload_n 1, 1, 7, []), (7, .invokevirtual 108, 3, 10, []), (10, .ifCond .eq 11, 3, 13, [21]), (13, .aload_n 0, 1, 14, []), (14, .iload_n 1, 1, 15, []), (15, .invokevirtual 123, 3, 18, []), (18, .goto 5, 3, 21, [23]), (21, .bipush (-2), 2, 23, []), (23, .ireturn, 1, 24, [])]
def m_X9_worth : am_M := (yX9_worth, cX9_worth, 2, (some .int), 9, am_at k_X9_worth)
theorem ok_X9_worth : am_ok m_X9_worth := am_ok_at (by unfold am_ck; decide +kernel)
def k_X9_stepFor : List (Nat × Instr × Nat × Nat × List Nat) := [(0, .aload_n 0, 1, 1, []), (1, .getfield 13, 3, 4, []), (4, .iload_n 1, 1, 5, []), (5, .iaload, 1, 6, []), (6, .iconst 3, 1, 7, []), (7, .if_icmp .ne 12, 3, 10, [19]), (10, .aload_n 0, 1, 11, []), (11, .bipush 23, 2, 13, []), (13, .invokevirtual 116, 3, 16, []), (16, .bipush 10, 2, 18, []), (18, .ireturn, 1, 19, []), (19, .aload_n 0, 1, 20, []), (20, .getfield 13, 3, 23, []), (23, .iload_n 1, 1, 24, []), (24, .iaload, 1, 25, []), (25, .iconst 2, 1, 26, []), (26, .if_icmp .ne 9, 3, 29, [35]), (29, .aload_n 0, 1, 30, []), (30, .bipush 22, 2, 32, []), (32, .invokevirtual 116, 3, 35, []), (35, .aload_n 0, 1, 36, []), (36, .bipush 20, 2, 38, []), (38, .invokevirtual 116, 3, 41, []), (41, .aload_n 0, 1, 42, []), (42, .getfield 13, 3, 45, []), (45, .iload_n 1, 1, 46, []), (46, .iaload, 1, 47, []), (47, .iconst 2, 1, 48, []), (48, .if_icmp .ne 8, 3, 51, [56]), (51, .bipush 40, 2, 53, []), (53, .goto 5, 3, 56, [58]), (56, .bipush 20, 2, 58, []), (58, .ireturn, 1, 59, [])]
def m_X9_stepFor : am_M := (yX9_stepFor, cX9_stepFor, 2, (some .int), 9, am_at k_X9_stepFor)
theorem ok_X9_stepFor : am_ok m_X9_stepFor := am_ok_at (by unfold am_ck; decide +kernel)
def k_X9_stepOf : List (Nat × Instr × Nat × Nat × List Nat) := [(0, .aload_n 0, 1, 1, []), (1, .iconst 0, 1, 2, []), (2, .putfield 95, 3, 5, []), (5, .aload_n 0, 1, 6, []), (6, .iload_n 1, 1, 7, []), (7, .invokevirtual 108, 3, 10, []), (10, .ifCond .ne 8, 3, 13, [18]), (13, .bipush (-2), 2, 15, []), (15, .goto 26, 3, 18, [41]), (18, .aload_n 0, 1, 19, []), (19, .getfield 13, 3, 22, []), (22, .iload_n 1, 1, 23, []), (23, .iaload, 1, 24, []), (24, .iconst 4, 1, 25, []), (25, .if_icmp .ne 11, 3, 28, [36]), (28, .aload_n 0, 1, 29, []), (29, .iconst 3, 1, 30, []), (30, .invokevirtual 112, 3, 33, []), (33, .goto 8, 3, 36, [41]), (36, .aload_n 0, 1, 37, []), (37, .iload_n 1, 1, 38, []), (38, .invokevirtual 126, 3, 41, []), (41, .ireturn, 1, 42, [])]
def m_X9_stepOf : am_M := (yX9_stepOf, cX9_stepOf, 2, (some .int), 9, am_at k_X9_stepOf)
theorem ok_X9_stepOf : am_ok m_X9_stepOf := am_ok_at (by unfold am_ck; decide +kernel)
def k_X9_trace : List (Nat × Instr × Nat × Nat × List Nat) := [(0, .iload_n 1, 1, 1, []), (1, .iconst 0, 1, 2, []), (2, .aload_n 0, 1, 3, []), (3, .getfield 95, 3, 6, []), (6, .iconst 1, 1, 7, []), (7, .isub, 1, 8, []), (8, .invokestatic 101, 3, 11, []), (11, .ifCond .eq 12, 3, 14, [23]), (14, .aload_n 0, 1, 15, []), (15, .getfield 7, 3, 18, []), (18, .iload_n 1, 1, 19, []), (19, .iaload, 1, 20, []), (20, .goto 4, 3, 23, [24]), (23, .iconst (-1), 1, 24, []), (24, .ireturn, 1, 25, [])]
def m_X9_trace : am_M := (yX9_trace, cX9_trace, 2, (some .int), 9, am_at k_X9_trace)
theorem ok_X9_trace : am_ok m_X9_trace := am_ok_at (by unfold am_ck; decide +kernel)
def k_X9_another : List (Nat × Instr × Nat × Nat × List Nat) := [(0, .aload_n 0, 1, 1, []), (1, .getfield 105, 3, 4, []), (4, .istore_n 1, 1, 5, []), (5, .iconst 0, 1, 6, []), (6, .istore_n 2, 1, 7, []), (7, .iload_n 2, 1, 8, []), (8, .sipush 412, 3, 11, []), (11, .if_icmp .ge 16, 3, 14, [27]), (14, .aload_n 0, 1, 15, []), (15, .iload_n 1, 1, 16, []), (16, .iload_n 2, 1, 17, []), (17, .iconst 0, 1, 18, []), (18, .invokevirtual 129, 3, 21, []), (21, .iinc 2 1, 3, 24, []), (24, .goto (-17), 3, 27, [7]), (27, .aload_n 0, 1, 28, []), (28, .dup, 1, 29, []), (29, .getfield 133, 3, 32, []), (32, .iconst 1, 1, 33, []), (33, .iadd, 1, 34, []), (34, .putfield 133, 3, 37, []), (37, .aload_n 0, 1, 38, []), (38, .iload_n 1, 1, 39, []), (39, .sipush 411, 3, 42, []), (42, .aload_n 0, 1, 43, []), (43, .getfield 133, 3, 46, []), (46, .invokevirtual 129, 3, 49, []), (49, .aload_n 0, 1, 50, []), (50, .dup, 1, 51, []), (51, .getfield 105, 3, 54, []), (54, .iconst 1, 1, 55, []), (55, .iadd, 1, 56, []), (56, .putfield 105, 3, 59, []), (59, .iload_n 1, 1, 60, []), (60, .ireturn, 1, 61, [])]
def m_X9_another : am_M := (yX9_another, cX9_another, 3, (some .int), 9, am_at k_X9_another)
theorem ok_X9_another : am_ok m_X9_another := am_ok_at (by unfold am_ck; decide +kernel)
def k_X9_tournament : List (Nat × Instr × Nat × Nat × List Nat) := [(0, .aload_n 0, 1, 1, []), (1, .getfield 105, 3, 4, []), (4, .iconst 4, 1, 5, []), (5, .if_icmp .ne 8, 3, 8, [13]), (8, .bipush (-4), 2, 10, []), (10, .goto 7, 3, 13, [17]), (13, .aload_n 0, 1, 14, []), (14, .invokevirtual 136, 3, 17, []), (17, .ireturn, 1, 18, [])]
def m_X9_tournament : am_M := (yX9_tournament, cX9_tournament, 1, (some .int), 9, am_at k_X9_tournament)
theorem ok_X9_tournament : am_ok m_X9_tournament := am_ok_at (by unfold am_ck; decide +kernel)
def k_X9_placeOf : List (Nat × Instr × Nat × Nat × List Nat) := [(0, .iconst 0, 1, 1, []), (1, .istore_n 3, 1, 2, []), (2, .iload_n 3, 1, 3, []), (3, .aload_n 0, 1, 4, []), (4, .iload_n 1, 1, 5, []), (5, .iconst 0, 1, 6, []), (6, .invokevirtual 140, 3, 9, []), (9, .if_icmp .ge 23, 3, 12, [32]), (12, .aload_n 0, 1, 13, []), (13, .iload_n 1, 1, 14, []), (14, .iconst 1, 1, 15, []), (15, .iload_n 3, 1, 16, []), (16, .iadd, 1, 17, []), (17, .invokevirtual 140, 3, 20, []), (20, .iload_n 2, 1, 21, []), (21, .if_icmp .ne 5, 3, 24, [26]), (24, .iload_n 3, 1, 25, []), (25, .ireturn, 1, 26, []), (26, .iinc 3 1, 3, 29, []), (29, .goto (-27), 3, 32, [2]), (32, .iconst (-1), 1, 33, []), (33, .ireturn, 1, 34, [])]
def m_X9_placeOf : am_M := (yX9_placeOf, cX9_placeOf, 4, (some .int), 9, am_at k_X9_placeOf)
theorem ok_X9_placeOf : am_ok m_X9_placeOf := am_ok_at (by unfold am_ck; decide +kernel)
def k_X9_enter_0 : List (Nat × Instr × Nat × Nat × List Nat) := [(0, .aload_n 0, 1, 1, []), (1, .iload_n 1, 1, 2, []), (2, .invokevirtual 144, 3, 5, []), (5, .ifCond .eq 11, 3, 8, [16]), (8, .aload_n 0, 1, 9, []), (9, .iload_n 2, 1, 10, []), (10, .invokevirtual 108, 3, 13, []), (13, .ifCond .ne 6, 3, 16, [19]), (16, .bipush (-2), 2, 18, []), (18, .ireturn, 1, 19, []), (19, .aload_n 0, 1, 20, []), (20, .iload_n 1, 1, 21, []), (21, .iload_n 2, 1, 22, []), (22, .invokevirtual 147, 3, 25, []), (25, .iconst (-1), 1, 26, []), (26, .if_icmp .ne 13, 3, 29, [39]), (29, .aload_n 0, 1, 30, []), (30, .iload_n 1, 1, 31, []), (31, .bipush 25, 2, 33, []), (33, .invokevirtual 140, 3, 36, []), (36, .ifCond .le 6, 3, 39, [42]), (39, .bipush (-3), 2, 41, []), (41, .ireturn, 1, 42, []), (42, .aload_n 0, 1, 43, []), (43, .iload_n 1, 1, 44, []), (44, .iconst 0, 1, 45, []), (45, .invokevirtual 140, 3, 48, []), (48, .bipush 10, 2, 50, []), (50, .if_icmp .ne 6, 3, 53, [56]), (53, .bipush (-4), 2, 55, []), (55, .ireturn, 1, 56, []), (56, .aload_n 0, 1, 57, [])]
def k_X9_enter_1 : List (Nat × Instr × Nat × Nat × List Nat) := [(57, .getfield 13, 3, 60, []), (60, .iload_n 2, 1, 61, []), (61, .iaload, 1, 62, []), (62, .iconst 4, 1, 63, []), (63, .if_icmp .ne 9, 3, 66, [72]), (66, .aload_n 0, 1, 67, []), (67, .iconst 3, 1, 68, []), (68, .invokevirtual 112, 3, 71, []), (71, .ireturn, 1, 72, []), (72, .aload_n 0, 1, 73, []), (73, .iload_n 1, 1, 74, []), (74, .iconst 1, 1, 75, []), (75, .aload_n 0, 1, 76, []), (76, .iload_n 1, 1, 77, []), (77, .iconst 0, 1, 78, []), (78, .invokevirtual 140, 3, 81, []), (81, .iadd, 1, 82, []), (82, .iload_n 2, 1, 83, []), (83, .invokevirtual 129, 3, 86, []), (86, .aload_n 0, 1, 87, []), (87, .iload_n 1, 1, 88, []), (88, .iconst 0, 1, 89, []), (89, .aload_n 0, 1, 90, []), (90, .iload_n 1, 1, 91, []), (91, .iconst 0, 1, 92, []), (92, .invokevirtual 140, 3, 95, []), (95, .iconst 1, 1, 96, []), (96, .iadd, 1, 97, []), (97, .invokevirtual 129, 3, 100, []), (100, .aload_n 0, 1, 101, []), (101, .iload_n 1, 1, 102, []), (102, .iconst 0, 1, 103, [])]
def k_X9_enter_2 : List (Nat × Instr × Nat × Nat × List Nat) := [(103, .invokevirtual 140, 3, 106, []), (106, .ireturn, 1, 107, [])]
def k_X9_enter : List (Nat × List (Nat × Instr × Nat × Nat × List Nat)) := [(57, k_X9_enter_0), (103, k_X9_enter_1), (107, k_X9_enter_2)]
def m_X9_enter : am_M := (yX9_enter, cX9_enter, 3, (some .int), 9, am_a2 k_X9_enter)
theorem ok_X9_enter_0 : ∀ q ∈ k_X9_enter_0, am_ck cX9_enter q := by unfold am_ck; decide +kernel
theorem ok_X9_enter_1 : ∀ q ∈ k_X9_enter_1, am_ck cX9_enter q := by unfold am_ck; decide +kernel
theorem ok_X9_enter_2 : ∀ q ∈ k_X9_enter_2, am_ck cX9_enter q := by unfold am_ck; decide +kernel
theorem ok_X9_enter : am_ok m_X9_enter := am_ok_a2 (List.forall_mem_cons.mpr ⟨ok_X9_enter_0, List.forall_mem_cons.mpr ⟨ok_X9_enter_1, List.forall_mem_cons.mpr ⟨ok_X9_enter_2, fun _ h => absurd h List.not_mem_nil⟩⟩⟩)
def k_X9_withdraw : List (Nat × Instr × Nat × Nat × List Nat) := [(0, .aload_n 0, 1, 1, []), (1, .iload_n 1, 1, 2, []), (2, .invokevirtual 144, 3, 5, []), (5, .ifCond .eq 11, 3, 8, [16]), (8, .aload_n 0, 1, 9, []), (9, .iload_n 2, 1, 10, []), (10, .invokevirtual 108, 3, 13, []), (13, .ifCond .ne 6, 3, 16, [19]), (16, .bipush (-2), 2, 18, []), (18, .ireturn, 1, 19, []), (19, .aload_n 0, 1, 20, []), (20, .iload_n 1, 1, 21, []), (21, .iload_n 2, 1, 22, []), (22, .invokevirtual 147, 3, 25, []), (25, .istore_n 3, 1, 26, []), (26, .iload_n 3, 1, 27, []), (27, .iconst (-1), 1, 28, []), (28, .if_icmp .eq 16, 3, 31, [44]), (31, .aload_n 0, 1, 32, []), (32, .iload_n 1, 1, 33, []), (33, .bipush 11, 2, 35, []), (35, .iload_n 3, 1, 36, []), (36, .iadd, 1, 37, []), (37, .invokevirtual 140, 3, 40, []), (40, .iconst 1, 1, 41, []), (41, .if_icmp .ne 6, 3, 44, [47]), (44, .bipush (-3), 2, 46, []), (46, .ireturn, 1, 47, []), (47, .aload_n 0, 1, 48, []), (48, .iload_n 1, 1, 49, []), (49, .bipush 11, 2, 51, []), (51, .iload_n 3, 1, 52, []), (52, .iadd, 1, 53, []), (53, .iconst 1, 1, 54, []), (54, .invokevirtual 129, 3, 57, []), (57, .iconst 1, 1, 58, []), (58, .ireturn, 1, 59, [])]
def m_X9_withdraw : am_M := (yX9_withdraw, cX9_withdraw, 4, (some .int), 9, am_at k_X9_withdraw)
theorem ok_X9_withdraw : am_ok m_X9_withdraw := am_ok_at (by unfold am_ck; decide +kernel)
def k_X9_rule : List (Nat × Instr × Nat × Nat × List Nat) := [(0, .aload_n 0, 1, 1, []), (1, .iload_n 1, 1, 2, []), (2, .invokevirtual 144, 3, 5, []), (5, .ifCond .eq 21, 3, 8, [26]), (8, .iload_n 2, 1, 9, []), (9, .iconst 1, 1, 10, []), (10, .iconst 4, 1, 11, []), (11, .invokestatic 101, 3, 14, []), (14, .ifCond .eq 12, 3, 17, [26]), (17, .iload_n 3, 1, 18, []), (18, .iconst 0, 1, 19, []), (19, .iconst 5, 1, 20, []), (20, .invokestatic 101, 3, 23, []), (23, .ifCond .ne 6, 3, 26, [29]), (26, .bipush (-2), 2, 28, []), (28, .ireturn, 1, 29, []), (29, .aload_n 0, 1, 30, []), (30, .iload_n 1, 1, 31, []), (31, .bipush 21, 2, 33, []), (33, .iload_n 2, 1, 34, []), (34, .iadd, 1, 35, []), (35, .iconst 1, 1, 36, []), (36, .isub, 1, 37, []), (37, .invokevirtual 140, 3, 40, []), (40, .istore 4, 2, 42, []), (42, .aload_n 0, 1, 43, []), (43, .iload_n 1, 1, 44, []), (44, .bipush 21, 2, 46, []), (46, .iload_n 2, 1, 47, []), (47, .iadd, 1, 48, []), (48, .iconst 1, 1, 49, []), (49, .isub, 1, 50, []), (50, .iload_n 3, 1, 51, []), (51, .invokevirtual 129, 3, 54, []), (54, .iload 4, 2, 56, []), (56, .ireturn, 1, 57, [])]
def m_X9_rule : am_M := (yX9_rule, cX9_rule, 5, (some .int), 9, am_at k_X9_rule)
theorem ok_X9_rule : am_ok m_X9_rule := am_ok_at (by unfold am_ck; decide +kernel)
def k_X9_entryOf_0 : List (Nat × Instr × Nat × Nat × List Nat) := [(0, .iconst (-1), 1, 1, []), (1, .istore 4, 2, 3, []), (3, .iconst 0, 1, 4, []), (4, .istore 5, 2, 6, []), (6, .iload 5, 2, 8, []), (8, .aload_n 0, 1, 9, []), (9, .iload_n 1, 1, 10, []), (10, .bipush 110, 2, 12, []), (12, .invokevirtual 140, 3, 15, []), (15, .if_icmp .ge 106, 3, 18, [121]), (18, .aload_n 0, 1, 19, []), (19, .iload_n 1, 1, 20, []), (20, .sipush 291, 3, 23, []), (23, .iload 5, 2, 25, []), (25, .iadd, 1, 26, []), (26, .invokevirtual 140, 3, 29, []), (29, .istore 6, 2, 31, []), (31, .aload_n 0, 1, 32, []), (32, .iload_n 1, 1, 33, []), (33, .sipush 351, 3, 36, []), (36, .iload 5, 2, 38, []), (38, .iadd, 1, 39, []), (39, .invokevirtual 140, 3, 42, []), (42, .istore 7, 2, 44, []), (44, .aload_n 0, 1, 45, []), (45, .iload_n 1, 1, 46, []), (46, .bipush 111, 2, 48, []), (48, .iload 5, 2, 50, []), (50, .iadd, 1, 51, []), (51, .invokevirtual 140, 3, 54, []), (54, .iload_n 2, 1, 55, []), (55, .if_icmp .ne 26, 3, 58, [81])]
def k_X9_entryOf_1 : List (Nat × Instr × Nat × Nat × List Nat) := [(58, .iload 6, 2, 60, []), (60, .iload_n 3, 1, 61, []), (61, .if_icmp .gt 20, 3, 64, [81]), (64, .iload 7, 2, 66, []), (66, .ifCond .eq 11, 3, 69, [77]), (69, .iload 7, 2, 71, []), (71, .iconst 1, 1, 72, []), (72, .isub, 1, 73, []), (73, .iload_n 3, 1, 74, []), (74, .if_icmp .le 7, 3, 77, [81]), (77, .iconst 1, 1, 78, []), (78, .goto 4, 3, 81, [82]), (81, .iconst 0, 1, 82, []), (82, .istore 8, 2, 84, []), (84, .iload 8, 2, 86, []), (86, .ifCond .eq 29, 3, 89, [115]), (89, .iload 4, 2, 91, []), (91, .iconst (-1), 1, 92, []), (92, .if_icmp .eq 19, 3, 95, [111]), (95, .iload 6, 2, 97, []), (97, .aload_n 0, 1, 98, []), (98, .iload_n 1, 1, 99, []), (99, .sipush 291, 3, 102, []), (102, .iload 4, 2, 104, []), (104, .iadd, 1, 105, []), (105, .invokevirtual 140, 3, 108, []), (108, .if_icmp .lt 7, 3, 111, [115]), (111, .iload 5, 2, 113, []), (113, .istore 4, 2, 115, []), (115, .iinc 5 1, 3, 118, []), (118, .goto (-112), 3, 121, [6]), (121, .iload 4, 2, 123, [])]
def k_X9_entryOf_2 : List (Nat × Instr × Nat × Nat × List Nat) := [(123, .ireturn, 1, 124, [])]
def k_X9_entryOf : List (Nat × List (Nat × Instr × Nat × Nat × List Nat)) := [(58, k_X9_entryOf_0), (123, k_X9_entryOf_1), (124, k_X9_entryOf_2)]
def m_X9_entryOf : am_M := (yX9_entryOf, cX9_entryOf, 9, (some .int), 9, am_a2 k_X9_entryOf)
theorem ok_X9_entryOf_0 : ∀ q ∈ k_X9_entryOf_0, am_ck cX9_entryOf q := by unfold am_ck; decide +kernel
theorem ok_X9_entryOf_1 : ∀ q ∈ k_X9_entryOf_1, am_ck cX9_entryOf q := by unfold am_ck; decide +kernel
theorem ok_X9_entryOf_2 : ∀ q ∈ k_X9_entryOf_2, am_ck cX9_entryOf q := by unfold am_ck; decide +kernel
theorem ok_X9_entryOf : am_ok m_X9_entryOf := am_ok_a2 (List.forall_mem_cons.mpr ⟨ok_X9_entryOf_0, List.forall_mem_cons.mpr ⟨ok_X9_entryOf_1, List.forall_mem_cons.mpr ⟨ok_X9_entryOf_2, fun _ h => absurd h List.not_mem_nil⟩⟩⟩)
def k_X9_outcomeOf : List (Nat × Instr × Nat × Nat × List Nat) := [(0, .aload_n 0, 1, 1, []), (1, .getfield 150, 3, 4, []), (4, .ifCond .eq 20, 3, 7, [24]), (7, .aload_n 0, 1, 8, []), (8, .getfield 59, 3, 11, []), (11, .iload_n 2, 1, 12, []), (12, .iaload, 1, 13, []), (13, .iconst (-1), 1, 14, []), (14, .if_icmp .eq 10, 3, 17, [24]), (17, .aload_n 0, 1, 18, []), (18, .getfield 59, 3, 21, []), (21, .iload_n 2, 1, 22, []), (22, .iaload, 1, 23, []), (23, .ireturn, 1, 24, []), (24, .aload_n 0, 1, 25, []), (25, .iload_n 1, 1, 26, []), (26, .iload_n 2, 1, 27, []), (27, .iload 4, 2, 29, []), (29, .invokevirtual 154, 3, 32, []), (32, .istore 5, 2, 34, []), (34, .iload 5, 2, 36, []), (36, .iconst (-1), 1, 37, []), (37, .if_icmp .eq 18, 3, 40, [55]), (40, .aload_n 0, 1, 41, []), (41, .iload_n 1, 1, 42, []), (42, .sipush 231, 3, 45, []), (45, .iload 5, 2, 47, []), (47, .iadd, 1, 48, []), (48, .invokevirtual 140, 3, 51, []), (51, .iload_n 3, 1, 52, []), (52, .if_icmp .le 7, 3, 55, [59]), (55, .iconst (-1), 1, 56, []), (56, .goto 14, 3, 59, [70]), (59, .aload_n 0, 1, 60, []), (60, .iload_n 1, 1, 61, []), (61, .sipush 171, 3, 64, []), (64, .iload 5, 2, 66, []), (66, .iadd, 1, 67, []), (67, .invokevirtual 140, 3, 70, []), (70, .ireturn, 1, 71, [])]
def m_X9_outcomeOf : am_M := (yX9_outcomeOf, cX9_outcomeOf, 6, (some .int), 9, am_at k_X9_outcomeOf)
theorem ok_X9_outcomeOf : am_ok m_X9_outcomeOf := am_ok_at (by unfold am_ck; decide +kernel)
def k_X9_halves : List (Nat × Instr × Nat × Nat × List Nat) := [(0, .iload_n 0, 1, 1, []), (1, .iconst 1, 1, 2, []), (2, .if_icmp .ne 7, 3, 5, [9]), (5, .iconst 1, 1, 6, []), (6, .goto 47, 3, 9, [53]), (9, .iload_n 0, 1, 10, []), (10, .ifCond .eq 8, 3, 13, [18]), (13, .iload_n 0, 1, 14, []), (14, .iconst 3, 1, 15, []), (15, .if_icmp .ne 15, 3, 18, [30]), (18, .iload_n 1, 1, 19, []), (19, .ifCond .eq 7, 3, 22, [26]), (22, .iconst 0, 1, 23, []), (23, .goto 30, 3, 26, [53]), (26, .iconst 2, 1, 27, []), (27, .goto 26, 3, 30, [53]), (30, .iload_n 0, 1, 31, []), (31, .iconst 2, 1, 32, []), (32, .if_icmp .eq 8, 3, 35, [40]), (35, .iload_n 0, 1, 36, []), (36, .iconst 4, 1, 37, []), (37, .if_icmp .ne 15, 3, 40, [52]), (40, .iload_n 1, 1, 41, []), (41, .ifCond .eq 7, 3, 44, [48]), (44, .iconst 2, 1, 45, []), (45, .goto 8, 3, 48, [53]), (48, .iconst 0, 1, 49, []), (49, .goto 4, 3, 52, [53]), (52, .iconst 0, 1, 53, []), (53, .ireturn, 1, 54, [])]
def m_X9_halves : am_M := (yX9_halves, cX9_halves, 2, (some .int), 9, am_at k_X9_halves)
theorem ok_X9_halves : am_ok m_X9_halves := am_ok_at (by unfold am_ck; decide +kernel)
def k_X9_pairOf : List (Nat × Instr × Nat × Nat × List Nat) := [(0, .iconst 0, 1, 1, []), (1, .istore 4, 2, 3, []), (3, .iload 4, 2, 5, []), (5, .aload_n 0, 1, 6, []), (6, .iload_n 1, 1, 7, []), (7, .bipush 32, 2, 9, []), (9, .iload_n 2, 1, 10, []), (10, .iadd, 1, 11, []), (11, .invokevirtual 140, 3, 14, []), (14, .if_icmp .ge 48, 3, 17, [62]), (17, .iconst 5, 1, 18, []), (18, .iload_n 2, 1, 19, []), (19, .imul, 1, 20, []), (20, .iload 4, 2, 22, []), (22, .iadd, 1, 23, []), (23, .istore 5, 2, 25, []), (25, .aload_n 0, 1, 26, []), (26, .iload_n 1, 1, 27, []), (27, .bipush 50, 2, 29, []), (29, .iload 5, 2, 31, []), (31, .iadd, 1, 32, []), (32, .invokevirtual 140, 3, 35, []), (35, .iload_n 3, 1, 36, []), (36, .if_icmp .eq 17, 3, 39, [53]), (39, .aload_n 0, 1, 40, []), (40, .iload_n 1, 1, 41, []), (41, .bipush 80, 2, 43, []), (43, .iload 5, 2, 45, []), (45, .iadd, 1, 46, []), (46, .invokevirtual 140, 3, 49, []), (49, .iload_n 3, 1, 50, []), (50, .if_icmp .ne 6, 3, 53, [56]), (53, .iload 5, 2, 55, []), (55, .ireturn, 1, 56, []), (56, .iinc 4 1, 3, 59, []), (59, .goto (-56), 3, 62, [3]), (62, .iconst (-1), 1, 63, []), (63, .ireturn, 1, 64, [])]
def m_X9_pairOf : am_M := (yX9_pairOf, cX9_pairOf, 6, (some .int), 9, am_at k_X9_pairOf)
theorem ok_X9_pairOf : am_ok m_X9_pairOf := am_ok_at (by unfold am_ck; decide +kernel)
def k_X9_isWithNobody : List (Nat × Instr × Nat × Nat × List Nat) := [(0, .aload_n 0, 1, 1, []), (1, .iload_n 1, 1, 2, []), (2, .bipush 80, 2, 4, []), (4, .iload_n 2, 1, 5, []), (5, .iadd, 1, 6, []), (6, .invokevirtual 140, 3, 9, []), (9, .bipush 99, 2, 11, []), (11, .if_icmp .ne 7, 3, 14, [18]), (14, .iconst 1, 1, 15, []), (15, .goto 4, 3, 18, [19]), (18, .iconst 0, 1, 19, []), (19, .ireturn, 1, 20, [])]
def m_X9_isWithNobody : am_M := (yX9_isWithNobody, cX9_isWithNobody, 3, (some .boolean), 9, am_at k_X9_isWithNobody)
theorem ok_X9_isWithNobody : am_ok m_X9_isWithNobody := am_ok_at (by unfold am_ck; decide +kernel)
def k_X9_otherOf : List (Nat × Instr × Nat × Nat × List Nat) := [(0, .aload_n 0, 1, 1, []), (1, .iload_n 1, 1, 2, []), (2, .bipush 50, 2, 4, []), (4, .iload_n 2, 1, 5, []), (5, .iadd, 1, 6, []), (6, .invokevirtual 140, 3, 9, []), (9, .iload_n 3, 1, 10, []), (10, .if_icmp .ne 15, 3, 13, [25]), (13, .aload_n 0, 1, 14, []), (14, .iload_n 1, 1, 15, []), (15, .bipush 80, 2, 17, []), (17, .iload_n 2, 1, 18, []), (18, .iadd, 1, 19, []), (19, .invokevirtual 140, 3, 22, []), (22, .goto 12, 3, 25, [34]), (25, .aload_n 0, 1, 26, []), (26, .iload_n 1, 1, 27, []), (27, .bipush 50, 2, 29, []), (29, .iload_n 2, 1, 30, []), (30, .iadd, 1, 31, []), (31, .invokevirtual 140, 3, 34, []), (34, .ireturn, 1, 35, [])]
def m_X9_otherOf : am_M := (yX9_otherOf, cX9_otherOf, 4, (some .int), 9, am_at k_X9_otherOf)
theorem ok_X9_otherOf : am_ok m_X9_otherOf := am_ok_at (by unfold am_ck; decide +kernel)
def k_X9_pointsOf_0 : List (Nat × Instr × Nat × Nat × List Nat) := [(0, .iconst 0, 1, 1, []), (1, .istore 5, 2, 3, []), (3, .iconst 0, 1, 4, []), (4, .istore 6, 2, 6, []), (6, .iload 6, 2, 8, []), (8, .aload_n 0, 1, 9, []), (9, .iload_n 1, 1, 10, []), (10, .bipush 25, 2, 12, []), (12, .invokevirtual 140, 3, 15, []), (15, .if_icmp .ge 105, 3, 18, [120]), (18, .aload_n 0, 1, 19, []), (19, .iload_n 1, 1, 20, []), (20, .iload 6, 2, 22, []), (22, .iload_n 2, 1, 23, []), (23, .invokevirtual 158, 3, 26, []), (26, .istore 7, 2, 28, []), (28, .iload 7, 2, 30, []), (30, .iconst (-1), 1, 31, []), (31, .if_icmp .eq 40, 3, 34, [71]), (34, .aload_n 0, 1, 35, []), (35, .iload_n 1, 1, 36, []), (36, .iload 7, 2, 38, []), (38, .invokevirtual 161, 3, 41, []), (41, .ifCond .eq 30, 3, 44, [71]), (44, .iload 5, 2, 46, []), (46, .aload_n 0, 1, 47, []), (47, .iload_n 1, 1, 48, []), (48, .bipush 26, 2, 50, []), (50, .iload 6, 2, 52, []), (52, .iadd, 1, 53, []), (53, .invokevirtual 140, 3, 56, []), (56, .iload_n 3, 1, 57, [])]
def k_X9_pointsOf_1 : List (Nat × Instr × Nat × Nat × List Nat) := [(57, .if_icmp .gt 7, 3, 60, [64]), (60, .iconst 2, 1, 61, []), (61, .goto 4, 3, 64, [65]), (64, .iconst 0, 1, 65, []), (65, .iadd, 1, 66, []), (66, .istore 5, 2, 68, []), (68, .goto 46, 3, 71, [114]), (71, .iload 7, 2, 73, []), (73, .iconst (-1), 1, 74, []), (74, .if_icmp .eq 40, 3, 77, [114]), (77, .iload 5, 2, 79, []), (79, .aload_n 0, 1, 80, []), (80, .iload_n 1, 1, 81, []), (81, .iload 7, 2, 83, []), (83, .iload_n 3, 1, 84, []), (84, .iload 4, 2, 86, []), (86, .invokevirtual 165, 3, 89, []), (89, .aload_n 0, 1, 90, []), (90, .iload_n 1, 1, 91, []), (91, .bipush 50, 2, 93, []), (93, .iload 7, 2, 95, []), (95, .iadd, 1, 96, []), (96, .invokevirtual 140, 3, 99, []), (99, .iload_n 2, 1, 100, []), (100, .if_icmp .ne 7, 3, 103, [107]), (103, .iconst 1, 1, 104, []), (104, .goto 4, 3, 107, [108]), (107, .iconst 0, 1, 108, []), (108, .invokestatic 169, 3, 111, []), (111, .iadd, 1, 112, []), (112, .istore 5, 2, 114, []), (114, .iinc 6 1, 3, 117, [])]
def k_X9_pointsOf_2 : List (Nat × Instr × Nat × Nat × List Nat) := [(117, .goto (-111), 3, 120, [6]), (120, .iload 5, 2, 122, []), (122, .ireturn, 1, 123, [])]
def k_X9_pointsOf : List (Nat × List (Nat × Instr × Nat × Nat × List Nat)) := [(57, k_X9_pointsOf_0), (117, k_X9_pointsOf_1), (123, k_X9_pointsOf_2)]
def m_X9_pointsOf : am_M := (yX9_pointsOf, cX9_pointsOf, 8, (some .int), 9, am_a2 k_X9_pointsOf)
theorem ok_X9_pointsOf_0 : ∀ q ∈ k_X9_pointsOf_0, am_ck cX9_pointsOf q := by unfold am_ck; decide +kernel
theorem ok_X9_pointsOf_1 : ∀ q ∈ k_X9_pointsOf_1, am_ck cX9_pointsOf q := by unfold am_ck; decide +kernel
theorem ok_X9_pointsOf_2 : ∀ q ∈ k_X9_pointsOf_2, am_ck cX9_pointsOf q := by unfold am_ck; decide +kernel
theorem ok_X9_pointsOf : am_ok m_X9_pointsOf := am_ok_a2 (List.forall_mem_cons.mpr ⟨ok_X9_pointsOf_0, List.forall_mem_cons.mpr ⟨ok_X9_pointsOf_1, List.forall_mem_cons.mpr ⟨ok_X9_pointsOf_2, fun _ h => absurd h List.not_mem_nil⟩⟩⟩)
def k_X9_sumOf_0 : List (Nat × Instr × Nat × Nat × List Nat) := [(0, .iconst 0, 1, 1, []), (1, .istore 6, 2, 3, []), (3, .iconst 0, 1, 4, []), (4, .istore 7, 2, 6, []), (6, .iconst 0, 1, 7, []), (7, .istore 8, 2, 9, []), (9, .iconst 0, 1, 10, []), (10, .istore 9, 2, 12, []), (12, .aload_n 0, 1, 13, []), (13, .iload_n 1, 1, 14, []), (14, .iload_n 2, 1, 15, []), (15, .iload 4, 2, 17, []), (17, .iload 5, 2, 19, []), (19, .invokevirtual 173, 3, 22, []), (22, .istore 10, 2, 24, []), (24, .iconst 0, 1, 25, []), (25, .istore 11, 2, 27, []), (27, .iload 11, 2, 29, []), (29, .aload_n 0, 1, 30, []), (30, .iload_n 1, 1, 31, []), (31, .bipush 25, 2, 33, []), (33, .invokevirtual 140, 3, 36, []), (36, .if_icmp .ge 240, 3, 39, [276]), (39, .aload_n 0, 1, 40, []), (40, .iload_n 1, 1, 41, []), (41, .iload 11, 2, 43, []), (43, .iload_n 2, 1, 44, []), (44, .invokevirtual 158, 3, 47, []), (47, .istore 12, 2, 49, []), (49, .iload 12, 2, 51, []), (51, .iconst (-1), 1, 52, []), (52, .if_icmp .eq 218, 3, 55, [270])]
def k_X9_sumOf_1 : List (Nat × Instr × Nat × Nat × List Nat) := [(55, .aload_n 0, 1, 56, []), (56, .iload_n 1, 1, 57, []), (57, .iload 12, 2, 59, []), (59, .invokevirtual 161, 3, 62, []), (62, .ifCond .eq 6, 3, 65, [68]), (65, .goto 205, 3, 68, [270]), (68, .aload_n 0, 1, 69, []), (69, .iload_n 1, 1, 70, []), (70, .bipush 50, 2, 72, []), (72, .iload 12, 2, 74, []), (74, .iadd, 1, 75, []), (75, .invokevirtual 140, 3, 78, []), (78, .iload_n 2, 1, 79, []), (79, .if_icmp .ne 7, 3, 82, [86]), (82, .iconst 1, 1, 83, []), (83, .goto 4, 3, 86, [87]), (86, .iconst 0, 1, 87, []), (87, .istore 13, 2, 89, []), (89, .aload_n 0, 1, 90, []), (90, .iload_n 1, 1, 91, []), (91, .iload 12, 2, 93, []), (93, .iload 4, 2, 95, []), (95, .iload 5, 2, 97, []), (97, .invokevirtual 165, 3, 100, []), (100, .istore 14, 2, 102, []), (102, .aload_n 0, 1, 103, []), (103, .iload_n 1, 1, 104, []), (104, .aload_n 0, 1, 105, []), (105, .iload_n 1, 1, 106, []), (106, .iload 12, 2, 108, []), (108, .iload_n 2, 1, 109, []), (109, .invokevirtual 176, 3, 112, [])]
def k_X9_sumOf_2 : List (Nat × Instr × Nat × Nat × List Nat) := [(112, .iload 4, 2, 114, []), (114, .iload 5, 2, 116, []), (116, .invokevirtual 173, 3, 119, []), (119, .istore 15, 2, 121, []), (121, .iload_n 3, 1, 122, []), (122, .iconst 3, 1, 123, []), (123, .if_icmp .ge 58, 3, 126, [181]), (126, .iload 6, 2, 128, []), (128, .iload 15, 2, 130, []), (130, .iadd, 1, 131, []), (131, .istore 6, 2, 133, []), (133, .iload 7, 2, 135, []), (135, .ifCond .eq 10, 3, 138, [145]), (138, .iload 15, 2, 140, []), (140, .iload 8, 2, 142, []), (142, .if_icmp .ge 8, 3, 145, [150]), (145, .iload 15, 2, 147, []), (147, .goto 5, 3, 150, [152]), (150, .iload 8, 2, 152, []), (152, .istore 8, 2, 154, []), (154, .iload 7, 2, 156, []), (156, .ifCond .eq 10, 3, 159, [166]), (159, .iload 15, 2, 161, []), (161, .iload 9, 2, 163, []), (163, .if_icmp .le 8, 3, 166, [171]), (166, .iload 15, 2, 168, []), (168, .goto 5, 3, 171, [173]), (171, .iload 9, 2, 173, []), (173, .istore 9, 2, 175, []), (175, .iinc 7 1, 3, 178, []), (178, .goto 92, 3, 181, [270]), (181, .iload_n 3, 1, 182, [])]
def k_X9_sumOf_3 : List (Nat × Instr × Nat × Nat × List Nat) := [(182, .iconst 3, 1, 183, []), (183, .if_icmp .ne 31, 3, 186, [214]), (186, .iload 6, 2, 188, []), (188, .iload 14, 2, 190, []), (190, .iload 13, 2, 192, []), (192, .ifCond .eq 7, 3, 195, [199]), (195, .iconst 2, 1, 196, []), (196, .goto 4, 3, 199, [200]), (199, .iconst 0, 1, 200, []), (200, .if_icmp .ne 7, 3, 203, [207]), (203, .iconst 1, 1, 204, []), (204, .goto 4, 3, 207, [208]), (207, .iconst 0, 1, 208, []), (208, .iadd, 1, 209, []), (209, .istore 6, 2, 211, []), (211, .goto 59, 3, 214, [270]), (214, .iload_n 3, 1, 215, []), (215, .iconst 4, 1, 216, []), (216, .if_icmp .ne 29, 3, 219, [245]), (219, .iload 6, 2, 221, []), (221, .iload 15, 2, 223, []), (223, .iload 10, 2, 225, []), (225, .if_icmp .ne 13, 3, 228, [238]), (228, .iload 14, 2, 230, []), (230, .iload 13, 2, 232, []), (232, .invokestatic 169, 3, 235, []), (235, .goto 4, 3, 238, [239]), (238, .iconst 0, 1, 239, []), (239, .iadd, 1, 240, []), (240, .istore 6, 2, 242, []), (242, .goto 28, 3, 245, [270]), (245, .iload 6, 2, 247, [])]
def k_X9_sumOf_4 : List (Nat × Instr × Nat × Nat × List Nat) := [(247, .iload 13, 2, 249, []), (249, .ifCond .ne 17, 3, 252, [266]), (252, .iload 14, 2, 254, []), (254, .iconst 0, 1, 255, []), (255, .iconst 2, 1, 256, []), (256, .invokestatic 101, 3, 259, []), (259, .ifCond .eq 7, 3, 262, [266]), (262, .iconst 1, 1, 263, []), (263, .goto 4, 3, 266, [267]), (266, .iconst 0, 1, 267, []), (267, .iadd, 1, 268, []), (268, .istore 6, 2, 270, []), (270, .iinc 11 1, 3, 273, []), (273, .goto (-246), 3, 276, [27]), (276, .iload_n 3, 1, 277, []), (277, .iconst 2, 1, 278, []), (278, .if_icmp .eq 8, 3, 281, [286]), (281, .iload 6, 2, 283, []), (283, .goto 21, 3, 286, [304]), (286, .iload 7, 2, 288, []), (288, .iconst 3, 1, 289, []), (289, .if_icmp .ge 7, 3, 292, [296]), (292, .iconst 0, 1, 293, []), (293, .goto 11, 3, 296, [304]), (296, .iload 6, 2, 298, []), (298, .iload 8, 2, 300, []), (300, .isub, 1, 301, []), (301, .iload 9, 2, 303, []), (303, .isub, 1, 304, []), (304, .ireturn, 1, 305, [])]
def k_X9_sumOf : List (Nat × List (Nat × Instr × Nat × Nat × List Nat)) := [(55, k_X9_sumOf_0), (112, k_X9_sumOf_1), (182, k_X9_sumOf_2), (247, k_X9_sumOf_3), (305, k_X9_sumOf_4)]
def m_X9_sumOf : am_M := (yX9_sumOf, cX9_sumOf, 16, (some .int), 9, am_a2 k_X9_sumOf)
theorem ok_X9_sumOf_0 : ∀ q ∈ k_X9_sumOf_0, am_ck cX9_sumOf q := by unfold am_ck; decide +kernel
theorem ok_X9_sumOf_1 : ∀ q ∈ k_X9_sumOf_1, am_ck cX9_sumOf q := by unfold am_ck; decide +kernel
theorem ok_X9_sumOf_2 : ∀ q ∈ k_X9_sumOf_2, am_ck cX9_sumOf q := by unfold am_ck; decide +kernel
theorem ok_X9_sumOf_3 : ∀ q ∈ k_X9_sumOf_3, am_ck cX9_sumOf q := by unfold am_ck; decide +kernel
theorem ok_X9_sumOf_4 : ∀ q ∈ k_X9_sumOf_4, am_ck cX9_sumOf q := by unfold am_ck; decide +kernel
theorem ok_X9_sumOf : am_ok m_X9_sumOf := am_ok_a2 (List.forall_mem_cons.mpr ⟨ok_X9_sumOf_0, List.forall_mem_cons.mpr ⟨ok_X9_sumOf_1, List.forall_mem_cons.mpr ⟨ok_X9_sumOf_2, List.forall_mem_cons.mpr ⟨ok_X9_sumOf_3, List.forall_mem_cons.mpr ⟨ok_X9_sumOf_4, fun _ h => absurd h List.not_mem_nil⟩⟩⟩⟩⟩)
def k_X9_parting_0 : List (Nat × Instr × Nat × Nat × List Nat) := [(0, .iconst 0, 1, 1, []), (1, .istore 6, 2, 3, []), (3, .iload 6, 2, 5, []), (5, .iconst 5, 1, 6, []), (6, .if_icmp .ge 129, 3, 9, [135]), (9, .iload 6, 2, 11, []), (11, .ifCond .ne 7, 3, 14, [18]), (14, .iconst 0, 1, 15, []), (15, .goto 15, 3, 18, [30]), (18, .aload_n 0, 1, 19, []), (19, .iload_n 1, 1, 20, []), (20, .bipush 21, 2, 22, []), (22, .iload 6, 2, 24, []), (24, .iadd, 1, 25, []), (25, .iconst 1, 1, 26, []), (26, .isub, 1, 27, []), (27, .invokevirtual 140, 3, 30, []), (30, .istore 7, 2, 32, []), (32, .iconst 0, 1, 33, []), (33, .istore 8, 2, 35, []), (35, .iconst 0, 1, 36, []), (36, .istore 9, 2, 38, []), (38, .iload 6, 2, 40, []), (40, .ifCond .ne 30, 3, 43, [70]), (43, .aload_n 0, 1, 44, []), (44, .iload_n 1, 1, 45, []), (45, .iload_n 2, 1, 46, []), (46, .iload 4, 2, 48, []), (48, .iload 5, 2, 50, []), (50, .invokevirtual 173, 3, 53, []), (53, .istore 8, 2, 55, []), (55, .aload_n 0, 1, 56, [])]
def k_X9_parting_1 : List (Nat × Instr × Nat × Nat × List Nat) := [(56, .iload_n 1, 1, 57, []), (57, .iload_n 3, 1, 58, []), (58, .iload 4, 2, 60, []), (60, .iload 5, 2, 62, []), (62, .invokevirtual 173, 3, 65, []), (65, .istore 9, 2, 67, []), (67, .goto 36, 3, 70, [103]), (70, .iload 7, 2, 72, []), (72, .ifCond .le 31, 3, 75, [103]), (75, .aload_n 0, 1, 76, []), (76, .iload_n 1, 1, 77, []), (77, .iload_n 2, 1, 78, []), (78, .iload 7, 2, 80, []), (80, .iload 4, 2, 82, []), (82, .iload 5, 2, 84, []), (84, .invokevirtual 179, 3, 87, []), (87, .istore 8, 2, 89, []), (89, .aload_n 0, 1, 90, []), (90, .iload_n 1, 1, 91, []), (91, .iload_n 3, 1, 92, []), (92, .iload 7, 2, 94, []), (94, .iload 4, 2, 96, []), (96, .iload 5, 2, 98, []), (98, .invokevirtual 179, 3, 101, []), (101, .istore 9, 2, 103, []), (103, .iload 8, 2, 105, []), (105, .iload 9, 2, 107, []), (107, .if_icmp .eq 22, 3, 110, [129]), (110, .bipush 10, 2, 112, []), (112, .iload 6, 2, 114, []), (114, .imul, 1, 115, []), (115, .iload 8, 2, 117, [])]
def k_X9_parting_2 : List (Nat × Instr × Nat × Nat × List Nat) := [(117, .iload 9, 2, 119, []), (119, .if_icmp .le 7, 3, 122, [126]), (122, .iconst 1, 1, 123, []), (123, .goto 4, 3, 126, [127]), (126, .iconst 2, 1, 127, []), (127, .iadd, 1, 128, []), (128, .ireturn, 1, 129, []), (129, .iinc 6 1, 3, 132, []), (132, .goto (-129), 3, 135, [3]), (135, .iconst 0, 1, 136, []), (136, .ireturn, 1, 137, [])]
def k_X9_parting : List (Nat × List (Nat × Instr × Nat × Nat × List Nat)) := [(56, k_X9_parting_0), (117, k_X9_parting_1), (137, k_X9_parting_2)]
def m_X9_parting : am_M := (yX9_parting, cX9_parting, 10, (some .int), 9, am_a2 k_X9_parting)
theorem ok_X9_parting_0 : ∀ q ∈ k_X9_parting_0, am_ck cX9_parting q := by unfold am_ck; decide +kernel
theorem ok_X9_parting_1 : ∀ q ∈ k_X9_parting_1, am_ck cX9_parting q := by unfold am_ck; decide +kernel
theorem ok_X9_parting_2 : ∀ q ∈ k_X9_parting_2, am_ck cX9_parting q := by unfold am_ck; decide +kernel
theorem ok_X9_parting : am_ok m_X9_parting := am_ok_a2 (List.forall_mem_cons.mpr ⟨ok_X9_parting_0, List.forall_mem_cons.mpr ⟨ok_X9_parting_1, List.forall_mem_cons.mpr ⟨ok_X9_parting_2, fun _ h => absurd h List.not_mem_nil⟩⟩⟩)
def k_X9_colours_0 : List (Nat × Instr × Nat × Nat × List Nat) := [(0, .aload_n 0, 1, 1, []), (1, .iconst 0, 1, 2, []), (2, .putfield 183, 3, 5, []), (5, .aload_n 0, 1, 6, []), (6, .iconst (-1), 1, 7, []), (7, .putfield 186, 3, 10, []), (10, .aload_n 0, 1, 11, []), (11, .iconst (-1), 1, 12, []), (12, .putfield 189, 3, 15, []), (15, .iconst 0, 1, 16, []), (16, .istore_n 3, 1, 17, []), (17, .iload_n 3, 1, 18, []), (18, .aload_n 0, 1, 19, []), (19, .iload_n 1, 1, 20, []), (20, .bipush 25, 2, 22, []), (22, .invokevirtual 140, 3, 25, []), (25, .if_icmp .ge 89, 3, 28, [114]), (28, .aload_n 0, 1, 29, []), (29, .iload_n 1, 1, 30, []), (30, .iload_n 3, 1, 31, []), (31, .iload_n 2, 1, 32, []), (32, .invokevirtual 158, 3, 35, []), (35, .istore 4, 2, 37, []), (37, .iload 4, 2, 39, []), (39, .iconst (-1), 1, 40, []), (40, .if_icmp .eq 68, 3, 43, [108]), (43, .aload_n 0, 1, 44, []), (44, .iload_n 1, 1, 45, []), (45, .iload 4, 2, 47, []), (47, .invokevirtual 161, 3, 50, []), (50, .ifCond .ne 58, 3, 53, [108]), (53, .aload_n 0, 1, 54, [])]
def k_X9_colours_1 : List (Nat × Instr × Nat × Nat × List Nat) := [(54, .iload_n 1, 1, 55, []), (55, .bipush 50, 2, 57, []), (57, .iload 4, 2, 59, []), (59, .iadd, 1, 60, []), (60, .invokevirtual 140, 3, 63, []), (63, .iload_n 2, 1, 64, []), (64, .if_icmp .ne 7, 3, 67, [71]), (67, .iconst 1, 1, 68, []), (68, .goto 4, 3, 71, [72]), (71, .iconst 0, 1, 72, []), (72, .istore 5, 2, 74, []), (74, .aload_n 0, 1, 75, []), (75, .dup, 1, 76, []), (76, .getfield 183, 3, 79, []), (79, .iload 5, 2, 81, []), (81, .iconst 1, 1, 82, []), (82, .if_icmp .ne 7, 3, 85, [89]), (85, .iconst 1, 1, 86, []), (86, .goto 4, 3, 89, [90]), (89, .iconst (-1), 1, 90, []), (90, .iadd, 1, 91, []), (91, .putfield 183, 3, 94, []), (94, .aload_n 0, 1, 95, []), (95, .aload_n 0, 1, 96, []), (96, .getfield 186, 3, 99, []), (99, .putfield 189, 3, 102, []), (102, .aload_n 0, 1, 103, []), (103, .iload 5, 2, 105, []), (105, .putfield 186, 3, 108, []), (108, .iinc 3 1, 3, 111, []), (111, .goto (-94), 3, 114, [17]), (114, .return_, 1, 115, [])]
def k_X9_colours : List (Nat × List (Nat × Instr × Nat × Nat × List Nat)) := [(54, k_X9_colours_0), (115, k_X9_colours_1)]
def m_X9_colours : am_M := (yX9_colours, cX9_colours, 6, none, 9, am_a2 k_X9_colours)
theorem ok_X9_colours_0 : ∀ q ∈ k_X9_colours_0, am_ck cX9_colours q := by unfold am_ck; decide +kernel
theorem ok_X9_colours_1 : ∀ q ∈ k_X9_colours_1, am_ck cX9_colours q := by unfold am_ck; decide +kernel
theorem ok_X9_colours : am_ok m_X9_colours := am_ok_a2 (List.forall_mem_cons.mpr ⟨ok_X9_colours_0, List.forall_mem_cons.mpr ⟨ok_X9_colours_1, fun _ h => absurd h List.not_mem_nil⟩⟩)
def k_X9_colourCost : List (Nat × Instr × Nat × Nat × List Nat) := [(0, .aload_n 0, 1, 1, []), (1, .iload_n 1, 1, 2, []), (2, .iload_n 2, 1, 3, []), (3, .invokevirtual 192, 3, 6, []), (6, .aload_n 0, 1, 7, []), (7, .getfield 183, 3, 10, []), (10, .ifCond .le 7, 3, 13, [17]), (13, .iload_n 3, 1, 14, []), (14, .ifCond .ne 14, 3, 17, [28]), (17, .aload_n 0, 1, 18, []), (18, .getfield 183, 3, 21, []), (21, .ifCond .ge 12, 3, 24, [33]), (24, .iload_n 3, 1, 25, []), (25, .ifCond .ne 8, 3, 28, [33]), (28, .bipush 40, 2, 30, []), (30, .goto 4, 3, 33, [34]), (33, .iconst 0, 1, 34, []), (34, .istore 4, 2, 36, []), (36, .iload 4, 2, 38, []), (38, .aload_n 0, 1, 39, []), (39, .getfield 186, 3, 42, []), (42, .iload_n 3, 1, 43, []), (43, .ifCond .eq 7, 3, 46, [50]), (46, .iconst 1, 1, 47, []), (47, .goto 4, 3, 50, [51]), (50, .iconst 0, 1, 51, []), (51, .if_icmp .ne 19, 3, 54, [70]), (54, .aload_n 0, 1, 55, []), (55, .getfield 189, 3, 58, []), (58, .aload_n 0, 1, 59, []), (59, .getfield 186, 3, 62, []), (62, .if_icmp .ne 8, 3, 65, [70]), (65, .ldc 196, 2, 67, []), (67, .goto 4, 3, 70, [71]), (70, .iconst 0, 1, 71, []), (71, .iadd, 1, 72, []), (72, .ireturn, 1, 73, [])]
def m_X9_colourCost : am_M := (yX9_colourCost, cX9_colourCost, 5, (some .int), 9, am_at k_X9_colourCost)
theorem ok_X9_colourCost : am_ok m_X9_colourCost := am_ok_at (by unfold am_ck; decide +kernel)
def k_X9_wasWith : List (Nat × Instr × Nat × Nat × List Nat) := [(0, .iconst 0, 1, 1, []), (1, .istore 4, 2, 3, []), (3, .iconst 0, 1, 4, []), (4, .istore 5, 2, 6, []), (6, .iload 5, 2, 8, []), (8, .aload_n 0, 1, 9, []), (9, .iload_n 1, 1, 10, []), (10, .bipush 25, 2, 12, []), (12, .invokevirtual 140, 3, 15, []), (15, .if_icmp .ge 49, 3, 18, [64]), (18, .aload_n 0, 1, 19, []), (19, .iload_n 1, 1, 20, []), (20, .iload 5, 2, 22, []), (22, .iload_n 2, 1, 23, []), (23, .invokevirtual 158, 3, 26, []), (26, .istore 6, 2, 28, []), (28, .iload 4, 2, 30, []), (30, .ifCond .ne 21, 3, 33, [51]), (33, .iload 6, 2, 35, []), (35, .iconst (-1), 1, 36, []), (36, .if_icmp .eq 19, 3, 39, [55]), (39, .aload_n 0, 1, 40, []), (40, .iload_n 1, 1, 41, []), (41, .iload 6, 2, 43, []), (43, .iload_n 2, 1, 44, []), (44, .invokevirtual 176, 3, 47, []), (47, .iload_n 3, 1, 48, []), (48, .if_icmp .ne 7, 3, 51, [55]), (51, .iconst 1, 1, 52, []), (52, .goto 4, 3, 55, [56]), (55, .iconst 0, 1, 56, []), (56, .istore 4, 2, 58, []), (58, .iinc 5 1, 3, 61, []), (61, .goto (-55), 3, 64, [6]), (64, .iload 4, 2, 66, []), (66, .ireturn, 1, 67, [])]
def m_X9_wasWith : am_M := (yX9_wasWith, cX9_wasWith, 7, (some .boolean), 9, am_at k_X9_wasWith)
theorem ok_X9_wasWith : am_ok m_X9_wasWith := am_ok_at (by unfold am_ck; decide +kernel)
def k_X9_costAlone_0 : List (Nat × Instr × Nat × Nat × List Nat) := [(0, .aload_n 0, 1, 1, []), (1, .getfield 68, 3, 4, []), (4, .iconst 0, 1, 5, []), (5, .iaload, 1, 6, []), (6, .istore_n 3, 1, 7, []), (7, .iconst 1, 1, 8, []), (8, .istore 4, 2, 10, []), (10, .iload 4, 2, 12, []), (12, .aload_n 0, 1, 13, []), (13, .getfield 197, 3, 16, []), (16, .if_icmp .ge 32, 3, 19, [48]), (19, .aload_n 0, 1, 20, []), (20, .getfield 68, 3, 23, []), (23, .iload 4, 2, 25, []), (25, .iaload, 1, 26, []), (26, .iload_n 3, 1, 27, []), (27, .if_icmp .ge 13, 3, 30, [40]), (30, .aload_n 0, 1, 31, []), (31, .getfield 68, 3, 34, []), (34, .iload 4, 2, 36, []), (36, .iaload, 1, 37, []), (37, .goto 4, 3, 40, [41]), (40, .iload_n 3, 1, 41, []), (41, .istore_n 3, 1, 42, []), (42, .iinc 4 1, 3, 45, []), (45, .goto (-35), 3, 48, [10]), (48, .aload_n 0, 1, 49, []), (49, .getfield 68, 3, 52, []), (52, .iload_n 2, 1, 53, []), (53, .iaload, 1, 54, []), (54, .iload_n 3, 1, 55, []), (55, .isub, 1, 56, [])]
def k_X9_costAlone_1 : List (Nat × Instr × Nat × Nat × List Nat) := [(56, .istore 4, 2, 58, []), (58, .sipush 200, 3, 61, []), (61, .iload 4, 2, 63, []), (63, .imul, 1, 64, []), (64, .iload 4, 2, 66, []), (66, .imul, 1, 67, []), (67, .aload_n 0, 1, 68, []), (68, .iload_n 1, 1, 69, []), (69, .aload_n 0, 1, 70, []), (70, .getfield 62, 3, 73, []), (73, .iload_n 2, 1, 74, []), (74, .iaload, 1, 75, []), (75, .bipush 99, 2, 77, []), (77, .invokevirtual 200, 3, 80, []), (80, .ifCond .eq 8, 3, 83, [88]), (83, .ldc 196, 2, 85, []), (85, .goto 4, 3, 88, [89]), (88, .iconst 0, 1, 89, []), (89, .iadd, 1, 90, []), (90, .ireturn, 1, 91, [])]
def k_X9_costAlone : List (Nat × List (Nat × Instr × Nat × Nat × List Nat)) := [(56, k_X9_costAlone_0), (91, k_X9_costAlone_1)]
def m_X9_costAlone : am_M := (yX9_costAlone, cX9_costAlone, 5, (some .int), 9, am_a2 k_X9_costAlone)
theorem ok_X9_costAlone_0 : ∀ q ∈ k_X9_costAlone_0, am_ck cX9_costAlone q := by unfold am_ck; decide +kernel
theorem ok_X9_costAlone_1 : ∀ q ∈ k_X9_costAlone_1, am_ck cX9_costAlone q := by unfold am_ck; decide +kernel
theorem ok_X9_costAlone : am_ok m_X9_costAlone := am_ok_a2 (List.forall_mem_cons.mpr ⟨ok_X9_costAlone_0, List.forall_mem_cons.mpr ⟨ok_X9_costAlone_1, fun _ h => absurd h List.not_mem_nil⟩⟩)
def k_X9_costOf_0 : List (Nat × Instr × Nat × Nat × List Nat) := [(0, .aload_n 0, 1, 1, []), (1, .getfield 68, 3, 4, []), (4, .iload_n 2, 1, 5, []), (5, .iaload, 1, 6, []), (6, .aload_n 0, 1, 7, []), (7, .getfield 68, 3, 10, []), (10, .iload_n 3, 1, 11, []), (11, .iaload, 1, 12, []), (12, .isub, 1, 13, []), (13, .istore 5, 2, 15, []), (15, .aload_n 0, 1, 16, []), (16, .getfield 65, 3, 19, []), (19, .iload_n 2, 1, 20, []), (20, .iaload, 1, 21, []), (21, .aload_n 0, 1, 22, []), (22, .getfield 65, 3, 25, []), (25, .iload_n 3, 1, 26, []), (26, .iaload, 1, 27, []), (27, .isub, 1, 28, []), (28, .istore 6, 2, 30, []), (30, .iload 6, 2, 32, []), (32, .ifCond .ge 9, 3, 35, [41]), (35, .iload 6, 2, 37, []), (37, .ineg, 1, 38, []), (38, .goto 5, 3, 41, [43]), (41, .iload 6, 2, 43, []), (43, .istore 6, 2, 45, []), (45, .sipush 200, 3, 48, []), (48, .iload 5, 2, 50, []), (50, .imul, 1, 51, []), (51, .iload 5, 2, 53, []), (53, .imul, 1, 54, [])]
def k_X9_costOf_1 : List (Nat × Instr × Nat × Nat × List Nat) := [(54, .iload 6, 2, 56, []), (56, .bipush 10, 2, 58, []), (58, .idiv, 1, 59, []), (59, .iadd, 1, 60, []), (60, .aload_n 0, 1, 61, []), (61, .iload_n 1, 1, 62, []), (62, .aload_n 0, 1, 63, []), (63, .getfield 62, 3, 66, []), (66, .iload_n 2, 1, 67, []), (67, .iaload, 1, 68, []), (68, .aload_n 0, 1, 69, []), (69, .getfield 62, 3, 72, []), (72, .iload_n 3, 1, 73, []), (73, .iaload, 1, 74, []), (74, .invokevirtual 200, 3, 77, []), (77, .ifCond .eq 8, 3, 80, [85]), (80, .ldc 196, 2, 82, []), (82, .goto 4, 3, 85, [86]), (85, .iconst 0, 1, 86, []), (86, .iadd, 1, 87, []), (87, .istore 7, 2, 89, []), (89, .iload 7, 2, 91, []), (91, .aload_n 0, 1, 92, []), (92, .iload_n 1, 1, 93, []), (93, .aload_n 0, 1, 94, []), (94, .getfield 62, 3, 97, []), (97, .iload_n 2, 1, 98, []), (98, .iaload, 1, 99, []), (99, .iload 4, 2, 101, []), (101, .invokevirtual 203, 3, 104, []), (104, .iadd, 1, 105, []), (105, .aload_n 0, 1, 106, [])]
def k_X9_costOf_2 : List (Nat × Instr × Nat × Nat × List Nat) := [(106, .iload_n 1, 1, 107, []), (107, .aload_n 0, 1, 108, []), (108, .getfield 62, 3, 111, []), (111, .iload_n 3, 1, 112, []), (112, .iaload, 1, 113, []), (113, .iload 4, 2, 115, []), (115, .ifCond .ne 7, 3, 118, [122]), (118, .iconst 1, 1, 119, []), (119, .goto 4, 3, 122, [123]), (122, .iconst 0, 1, 123, []), (123, .invokevirtual 203, 3, 126, []), (126, .iadd, 1, 127, []), (127, .ireturn, 1, 128, [])]
def k_X9_costOf : List (Nat × List (Nat × Instr × Nat × Nat × List Nat)) := [(54, k_X9_costOf_0), (106, k_X9_costOf_1), (128, k_X9_costOf_2)]
def m_X9_costOf : am_M := (yX9_costOf, cX9_costOf, 8, (some .int), 9, am_a2 k_X9_costOf)
theorem ok_X9_costOf_0 : ∀ q ∈ k_X9_costOf_0, am_ck cX9_costOf q := by unfold am_ck; decide +kernel
theorem ok_X9_costOf_1 : ∀ q ∈ k_X9_costOf_1, am_ck cX9_costOf q := by unfold am_ck; decide +kernel
theorem ok_X9_costOf_2 : ∀ q ∈ k_X9_costOf_2, am_ck cX9_costOf q := by unfold am_ck; decide +kernel
theorem ok_X9_costOf : am_ok m_X9_costOf := am_ok_a2 (List.forall_mem_cons.mpr ⟨ok_X9_costOf_0, List.forall_mem_cons.mpr ⟨ok_X9_costOf_1, List.forall_mem_cons.mpr ⟨ok_X9_costOf_2, fun _ h => absurd h List.not_mem_nil⟩⟩⟩)
def k_X9_search_0 : List (Nat × Instr × Nat × Nat × List Nat) := [(0, .iconst 0, 1, 1, []), (1, .istore_n 2, 1, 2, []), (2, .iload_n 2, 1, 3, []), (3, .aload_n 0, 1, 4, []), (4, .getfield 197, 3, 7, []), (7, .if_icmp .ge 87, 3, 10, [94]), (10, .iload_n 2, 1, 11, []), (11, .iconst 1, 1, 12, []), (12, .iadd, 1, 13, []), (13, .istore_n 3, 1, 14, []), (14, .iload_n 3, 1, 15, []), (15, .aload_n 0, 1, 16, []), (16, .getfield 197, 3, 19, []), (19, .if_icmp .ge 54, 3, 22, [73]), (22, .aload_n 0, 1, 23, []), (23, .iload_n 1, 1, 24, []), (24, .iload_n 2, 1, 25, []), (25, .iload_n 3, 1, 26, []), (26, .iconst 1, 1, 27, []), (27, .invokevirtual 207, 3, 30, []), (30, .istore 4, 2, 32, []), (32, .aload_n 0, 1, 33, []), (33, .iload_n 1, 1, 34, []), (34, .iload_n 2, 1, 35, []), (35, .iload_n 3, 1, 36, []), (36, .iconst 0, 1, 37, []), (37, .invokevirtual 207, 3, 40, []), (40, .istore 5, 2, 42, []), (42, .aload_n 0, 1, 43, []), (43, .getfield 77, 3, 46, []), (46, .bipush 10, 2, 48, []), (48, .iload_n 2, 1, 49, [])]
def k_X9_search_1 : List (Nat × Instr × Nat × Nat × List Nat) := [(49, .imul, 1, 50, []), (50, .iload_n 3, 1, 51, []), (51, .iadd, 1, 52, []), (52, .iload 4, 2, 54, []), (54, .iload 5, 2, 56, []), (56, .if_icmp .gt 8, 3, 59, [64]), (59, .iload 4, 2, 61, []), (61, .goto 5, 3, 64, [66]), (64, .iload 5, 2, 66, []), (66, .iastore, 1, 67, []), (67, .iinc 3 1, 3, 70, []), (70, .goto (-56), 3, 73, [14]), (73, .aload_n 0, 1, 74, []), (74, .getfield 77, 3, 77, []), (77, .bipush 11, 2, 79, []), (79, .iload_n 2, 1, 80, []), (80, .imul, 1, 81, []), (81, .aload_n 0, 1, 82, []), (82, .iload_n 1, 1, 83, []), (83, .iload_n 2, 1, 84, []), (84, .invokevirtual 211, 3, 87, []), (87, .iastore, 1, 88, []), (88, .iinc 2 1, 3, 91, []), (91, .goto (-89), 3, 94, [2]), (94, .aload_n 0, 1, 95, []), (95, .getfield 71, 3, 98, []), (98, .iconst 0, 1, 99, []), (99, .iconst 0, 1, 100, []), (100, .iastore, 1, 101, []), (101, .iconst 1, 1, 102, []), (102, .aload_n 0, 1, 103, []), (103, .getfield 197, 3, 106, [])]
def k_X9_search_2 : List (Nat × Instr × Nat × Nat × List Nat) := [(106, .ishl, 1, 107, []), (107, .istore_n 2, 1, 108, []), (108, .iconst 1, 1, 109, []), (109, .istore_n 3, 1, 110, []), (110, .iload_n 3, 1, 111, []), (111, .iload_n 2, 1, 112, []), (112, .if_icmp .ge 257, 3, 115, [369]), (115, .iconst 0, 1, 116, []), (116, .istore 4, 2, 118, []), (118, .iconst 0, 1, 119, []), (119, .istore 5, 2, 121, []), (121, .iload 5, 2, 123, []), (123, .aload_n 0, 1, 124, []), (124, .getfield 197, 3, 127, []), (127, .if_icmp .ge 20, 3, 130, [147]), (130, .iload 4, 2, 132, []), (132, .iload_n 3, 1, 133, []), (133, .iload 5, 2, 135, []), (135, .ishr, 1, 136, []), (136, .iconst 1, 1, 137, []), (137, .iand, 1, 138, []), (138, .iadd, 1, 139, []), (139, .istore 4, 2, 141, []), (141, .iinc 5 1, 3, 144, []), (144, .goto (-23), 3, 147, [121]), (147, .iconst 0, 1, 148, []), (148, .istore 5, 2, 150, []), (150, .iload_n 3, 1, 151, []), (151, .iload 5, 2, 153, []), (153, .ishr, 1, 154, []), (154, .iconst 1, 1, 155, []), (155, .iand, 1, 156, [])]
def k_X9_search_3 : List (Nat × Instr × Nat × Nat × List Nat) := [(156, .ifCond .ne 9, 3, 159, [165]), (159, .iinc 5 1, 3, 162, []), (162, .goto (-12), 3, 165, [150]), (165, .iload_n 3, 1, 166, []), (166, .iconst 1, 1, 167, []), (167, .iload 5, 2, 169, []), (169, .ishl, 1, 170, []), (170, .isub, 1, 171, []), (171, .istore 6, 2, 173, []), (173, .aload_n 0, 1, 174, []), (174, .getfield 71, 3, 177, []), (177, .iload_n 3, 1, 178, []), (178, .ldc 214, 2, 180, []), (180, .iastore, 1, 181, []), (181, .aload_n 0, 1, 182, []), (182, .getfield 74, 3, 185, []), (185, .iload_n 3, 1, 186, []), (186, .bipush 10, 2, 188, []), (188, .iastore, 1, 189, []), (189, .iload 5, 2, 191, []), (191, .iconst 1, 1, 192, []), (192, .iadd, 1, 193, []), (193, .istore 7, 2, 195, []), (195, .iload 7, 2, 197, []), (197, .aload_n 0, 1, 198, []), (198, .getfield 197, 3, 201, []), (201, .if_icmp .ge 95, 3, 204, [296]), (204, .iload_n 3, 1, 205, []), (205, .iload 7, 2, 207, []), (207, .ishr, 1, 208, []), (208, .iconst 1, 1, 209, []), (209, .iand, 1, 210, [])]
def k_X9_search_4 : List (Nat × Instr × Nat × Nat × List Nat) := [(210, .iconst 1, 1, 211, []), (211, .if_icmp .ne 79, 3, 214, [290]), (214, .aload_n 0, 1, 215, []), (215, .getfield 71, 3, 218, []), (218, .iload 6, 2, 220, []), (220, .iconst 1, 1, 221, []), (221, .iload 7, 2, 223, []), (223, .ishl, 1, 224, []), (224, .isub, 1, 225, []), (225, .iaload, 1, 226, []), (226, .istore 8, 2, 228, []), (228, .iload 8, 2, 230, []), (230, .ldc 214, 2, 232, []), (232, .if_icmp .eq 58, 3, 235, [290]), (235, .aload_n 0, 1, 236, []), (236, .getfield 77, 3, 239, []), (239, .bipush 10, 2, 241, []), (241, .iload 5, 2, 243, []), (243, .imul, 1, 244, []), (244, .iload 7, 2, 246, []), (246, .iadd, 1, 247, []), (247, .iaload, 1, 248, []), (248, .iload 8, 2, 250, []), (250, .iadd, 1, 251, []), (251, .aload_n 0, 1, 252, []), (252, .getfield 71, 3, 255, []), (255, .iload_n 3, 1, 256, []), (256, .iaload, 1, 257, []), (257, .if_icmp .ge 33, 3, 260, [290]), (260, .aload_n 0, 1, 261, []), (261, .getfield 71, 3, 264, []), (264, .iload_n 3, 1, 265, [])]
def k_X9_search_5 : List (Nat × Instr × Nat × Nat × List Nat) := [(265, .aload_n 0, 1, 266, []), (266, .getfield 77, 3, 269, []), (269, .bipush 10, 2, 271, []), (271, .iload 5, 2, 273, []), (273, .imul, 1, 274, []), (274, .iload 7, 2, 276, []), (276, .iadd, 1, 277, []), (277, .iaload, 1, 278, []), (278, .iload 8, 2, 280, []), (280, .iadd, 1, 281, []), (281, .iastore, 1, 282, []), (282, .aload_n 0, 1, 283, []), (283, .getfield 74, 3, 286, []), (286, .iload_n 3, 1, 287, []), (287, .iload 7, 2, 289, []), (289, .iastore, 1, 290, []), (290, .iinc 7 1, 3, 293, []), (293, .goto (-98), 3, 296, [195]), (296, .iload 4, 2, 298, []), (298, .iconst 2, 1, 299, []), (299, .irem, 1, 300, []), (300, .iconst 1, 1, 301, []), (301, .if_icmp .ne 62, 3, 304, [363]), (304, .aload_n 0, 1, 305, []), (305, .getfield 77, 3, 308, []), (308, .bipush 11, 2, 310, []), (310, .iload 5, 2, 312, []), (312, .imul, 1, 313, []), (313, .iaload, 1, 314, []), (314, .aload_n 0, 1, 315, []), (315, .getfield 71, 3, 318, []), (318, .iload 6, 2, 320, [])]
def k_X9_search_6 : List (Nat × Instr × Nat × Nat × List Nat) := [(320, .iaload, 1, 321, []), (321, .iadd, 1, 322, []), (322, .aload_n 0, 1, 323, []), (323, .getfield 71, 3, 326, []), (326, .iload_n 3, 1, 327, []), (327, .iaload, 1, 328, []), (328, .if_icmp .ge 35, 3, 331, [363]), (331, .aload_n 0, 1, 332, []), (332, .getfield 71, 3, 335, []), (335, .iload_n 3, 1, 336, []), (336, .aload_n 0, 1, 337, []), (337, .getfield 77, 3, 340, []), (340, .bipush 11, 2, 342, []), (342, .iload 5, 2, 344, []), (344, .imul, 1, 345, []), (345, .iaload, 1, 346, []), (346, .aload_n 0, 1, 347, []), (347, .getfield 71, 3, 350, []), (350, .iload 6, 2, 352, []), (352, .iaload, 1, 353, []), (353, .iadd, 1, 354, []), (354, .iastore, 1, 355, []), (355, .aload_n 0, 1, 356, []), (356, .getfield 74, 3, 359, []), (359, .iload_n 3, 1, 360, []), (360, .bipush 10, 2, 362, []), (362, .iastore, 1, 363, []), (363, .iinc 3 1, 3, 366, []), (366, .goto (-256), 3, 369, [110]), (369, .return_, 1, 370, [])]
def k_X9_search : List (Nat × List (Nat × Instr × Nat × Nat × List Nat)) := [(49, k_X9_search_0), (106, k_X9_search_1), (156, k_X9_search_2), (210, k_X9_search_3), (265, k_X9_search_4), (320, k_X9_search_5), (370, k_X9_search_6)]
def m_X9_search : am_M := (yX9_search, cX9_search, 9, none, 9, am_a2 k_X9_search)
theorem ok_X9_search_0 : ∀ q ∈ k_X9_search_0, am_ck cX9_search q := by unfold am_ck; decide +kernel
theorem ok_X9_search_1 : ∀ q ∈ k_X9_search_1, am_ck cX9_search q := by unfold am_ck; decide +kernel
theorem ok_X9_search_2 : ∀ q ∈ k_X9_search_2, am_ck cX9_search q := by unfold am_ck; decide +kernel
theorem ok_X9_search_3 : ∀ q ∈ k_X9_search_3, am_ck cX9_search q := by unfold am_ck; decide +kernel
theorem ok_X9_search_4 : ∀ q ∈ k_X9_search_4, am_ck cX9_search q := by unfold am_ck; decide +kernel
theorem ok_X9_search_5 : ∀ q ∈ k_X9_search_5, am_ck cX9_search q := by unfold am_ck; decide +kernel
theorem ok_X9_search_6 : ∀ q ∈ k_X9_search_6, am_ck cX9_search q := by unfold am_ck; decide +kernel
theorem ok_X9_search : am_ok m_X9_search := am_ok_a2 (List.forall_mem_cons.mpr ⟨ok_X9_search_0, List.forall_mem_cons.mpr ⟨ok_X9_search_1, List.forall_mem_cons.mpr ⟨ok_X9_search_2, List.forall_mem_cons.mpr ⟨ok_X9_search_3, List.forall_mem_cons.mpr ⟨ok_X9_search_4, List.forall_mem_cons.mpr ⟨ok_X9_search_5, List.forall_mem_cons.mpr ⟨ok_X9_search_6, fun _ h => absurd h List.not_mem_nil⟩⟩⟩⟩⟩⟩⟩)
def k_X9_pairUp_0 : List (Nat × Instr × Nat × Nat × List Nat) := [(0, .aload_n 0, 1, 1, []), (1, .iload_n 1, 1, 2, []), (2, .bipush 25, 2, 4, []), (4, .invokevirtual 140, 3, 7, []), (7, .istore_n 3, 1, 8, []), (8, .iconst 1, 1, 9, []), (9, .aload_n 0, 1, 10, []), (10, .getfield 197, 3, 13, []), (13, .ishl, 1, 14, []), (14, .iconst 1, 1, 15, []), (15, .isub, 1, 16, []), (16, .istore 4, 2, 18, []), (18, .aload_n 0, 1, 19, []), (19, .getfield 71, 3, 22, []), (22, .iload 4, 2, 24, []), (24, .iaload, 1, 25, []), (25, .istore 5, 2, 27, []), (27, .iconst 0, 1, 28, []), (28, .istore 6, 2, 30, []), (30, .aload_n 0, 1, 31, []), (31, .iload 5, 2, 33, []), (33, .ldc 196, 2, 35, []), (35, .idiv, 1, 36, []), (36, .putfield 215, 3, 39, []), (39, .iload 4, 2, 41, []), (41, .ifCond .le 183, 3, 44, [224]), (44, .iconst 0, 1, 45, []), (45, .istore 7, 2, 47, []), (47, .iload 4, 2, 49, []), (49, .iload 7, 2, 51, []), (51, .ishr, 1, 52, []), (52, .iconst 1, 1, 53, [])]
def k_X9_pairUp_1 : List (Nat × Instr × Nat × Nat × List Nat) := [(53, .iand, 1, 54, []), (54, .ifCond .ne 9, 3, 57, [63]), (57, .iinc 7 1, 3, 60, []), (60, .goto (-13), 3, 63, [47]), (63, .aload_n 0, 1, 64, []), (64, .getfield 74, 3, 67, []), (67, .iload 4, 2, 69, []), (69, .iaload, 1, 70, []), (70, .istore 8, 2, 72, []), (72, .iconst 5, 1, 73, []), (73, .iload_n 3, 1, 74, []), (74, .imul, 1, 75, []), (75, .iload 6, 2, 77, []), (77, .iadd, 1, 78, []), (78, .istore 9, 2, 80, []), (80, .iload 8, 2, 82, []), (82, .bipush 10, 2, 84, []), (84, .if_icmp .eq 26, 3, 87, [110]), (87, .aload_n 0, 1, 88, []), (88, .iload_n 1, 1, 89, []), (89, .iload 7, 2, 91, []), (91, .iload 8, 2, 93, []), (93, .iconst 1, 1, 94, []), (94, .invokevirtual 207, 3, 97, []), (97, .aload_n 0, 1, 98, []), (98, .iload_n 1, 1, 99, []), (99, .iload 7, 2, 101, []), (101, .iload 8, 2, 103, []), (103, .iconst 0, 1, 104, []), (104, .invokevirtual 207, 3, 107, []), (107, .if_icmp .gt 7, 3, 110, [114]), (110, .iconst 1, 1, 111, [])]
def k_X9_pairUp_2 : List (Nat × Instr × Nat × Nat × List Nat) := [(111, .goto 4, 3, 114, [115]), (114, .iconst 0, 1, 115, []), (115, .istore 10, 2, 117, []), (117, .iload 4, 2, 119, []), (119, .iconst 1, 1, 120, []), (120, .iload 7, 2, 122, []), (122, .ishl, 1, 123, []), (123, .iload 8, 2, 125, []), (125, .bipush 10, 2, 127, []), (127, .if_icmp .ne 7, 3, 130, [134]), (130, .iconst 0, 1, 131, []), (131, .goto 7, 3, 134, [138]), (134, .iconst 1, 1, 135, []), (135, .iload 8, 2, 137, []), (137, .ishl, 1, 138, []), (138, .iadd, 1, 139, []), (139, .isub, 1, 140, []), (140, .istore 4, 2, 142, []), (142, .aload_n 0, 1, 143, []), (143, .iload_n 1, 1, 144, []), (144, .bipush 50, 2, 146, []), (146, .iload 9, 2, 148, []), (148, .iadd, 1, 149, []), (149, .iload 10, 2, 151, []), (151, .ifCond .eq 13, 3, 154, [164]), (154, .aload_n 0, 1, 155, []), (155, .getfield 62, 3, 158, []), (158, .iload 7, 2, 160, []), (160, .iaload, 1, 161, []), (161, .goto 10, 3, 164, [171]), (164, .aload_n 0, 1, 165, []), (165, .getfield 62, 3, 168, [])]
def k_X9_pairUp_3 : List (Nat × Instr × Nat × Nat × List Nat) := [(168, .iload 8, 2, 170, []), (170, .iaload, 1, 171, []), (171, .invokevirtual 129, 3, 174, []), (174, .aload_n 0, 1, 175, []), (175, .iload_n 1, 1, 176, []), (176, .bipush 80, 2, 178, []), (178, .iload 9, 2, 180, []), (180, .iadd, 1, 181, []), (181, .iload 8, 2, 183, []), (183, .bipush 10, 2, 185, []), (185, .if_icmp .ne 8, 3, 188, [193]), (188, .bipush 99, 2, 190, []), (190, .goto 25, 3, 193, [215]), (193, .iload 10, 2, 195, []), (195, .ifCond .eq 13, 3, 198, [208]), (198, .aload_n 0, 1, 199, []), (199, .getfield 62, 3, 202, []), (202, .iload 8, 2, 204, []), (204, .iaload, 1, 205, []), (205, .goto 10, 3, 208, [215]), (208, .aload_n 0, 1, 209, []), (209, .getfield 62, 3, 212, []), (212, .iload 7, 2, 214, []), (214, .iaload, 1, 215, []), (215, .invokevirtual 129, 3, 218, []), (218, .iinc 6 1, 3, 221, []), (221, .goto (-182), 3, 224, [39]), (224, .aload_n 0, 1, 225, []), (225, .iload_n 1, 1, 226, []), (226, .bipush 26, 2, 228, []), (228, .iload_n 3, 1, 229, []), (229, .iadd, 1, 230, [])]
def k_X9_pairUp_4 : List (Nat × Instr × Nat × Nat × List Nat) := [(230, .iload_n 2, 1, 231, []), (231, .invokevirtual 129, 3, 234, []), (234, .aload_n 0, 1, 235, []), (235, .iload_n 1, 1, 236, []), (236, .bipush 32, 2, 238, []), (238, .iload_n 3, 1, 239, []), (239, .iadd, 1, 240, []), (240, .iload 6, 2, 242, []), (242, .invokevirtual 129, 3, 245, []), (245, .aload_n 0, 1, 246, []), (246, .iload_n 1, 1, 247, []), (247, .bipush 38, 2, 249, []), (249, .iload_n 3, 1, 250, []), (250, .iadd, 1, 251, []), (251, .iload 5, 2, 253, []), (253, .invokevirtual 129, 3, 256, []), (256, .aload_n 0, 1, 257, []), (257, .iload_n 1, 1, 258, []), (258, .bipush 44, 2, 260, []), (260, .iload_n 3, 1, 261, []), (261, .iadd, 1, 262, []), (262, .aload_n 0, 1, 263, []), (263, .getfield 215, 3, 266, []), (266, .invokevirtual 129, 3, 269, []), (269, .aload_n 0, 1, 270, []), (270, .iload_n 1, 1, 271, []), (271, .bipush 25, 2, 273, []), (273, .iload_n 3, 1, 274, []), (274, .iconst 1, 1, 275, []), (275, .iadd, 1, 276, []), (276, .invokevirtual 129, 3, 279, []), (279, .return_, 1, 280, [])]
def k_X9_pairUp : List (Nat × List (Nat × Instr × Nat × Nat × List Nat)) := [(53, k_X9_pairUp_0), (111, k_X9_pairUp_1), (168, k_X9_pairUp_2), (230, k_X9_pairUp_3), (280, k_X9_pairUp_4)]
def m_X9_pairUp : am_M := (yX9_pairUp, cX9_pairUp, 11, none, 9, am_a2 k_X9_pairUp)
theorem ok_X9_pairUp_0 : ∀ q ∈ k_X9_pairUp_0, am_ck cX9_pairUp q := by unfold am_ck; decide +kernel
theorem ok_X9_pairUp_1 : ∀ q ∈ k_X9_pairUp_1, am_ck cX9_pairUp q := by unfold am_ck; decide +kernel
theorem ok_X9_pairUp_2 : ∀ q ∈ k_X9_pairUp_2, am_ck cX9_pairUp q := by unfold am_ck; decide +kernel
theorem ok_X9_pairUp_3 : ∀ q ∈ k_X9_pairUp_3, am_ck cX9_pairUp q := by unfold am_ck; decide +kernel
theorem ok_X9_pairUp_4 : ∀ q ∈ k_X9_pairUp_4, am_ck cX9_pairUp q := by unfold am_ck; decide +kernel
theorem ok_X9_pairUp : am_ok m_X9_pairUp := am_ok_a2 (List.forall_mem_cons.mpr ⟨ok_X9_pairUp_0, List.forall_mem_cons.mpr ⟨ok_X9_pairUp_1, List.forall_mem_cons.mpr ⟨ok_X9_pairUp_2, List.forall_mem_cons.mpr ⟨ok_X9_pairUp_3, List.forall_mem_cons.mpr ⟨ok_X9_pairUp_4, fun _ h => absurd h List.not_mem_nil⟩⟩⟩⟩⟩)
def k_X9_gather : List (Nat × Instr × Nat × Nat × List Nat) := [(0, .aload_n 0, 1, 1, []), (1, .iconst 0, 1, 2, []), (2, .putfield 197, 3, 5, []), (5, .iconst 0, 1, 6, []), (6, .istore_n 3, 1, 7, []), (7, .iload_n 3, 1, 8, []), (8, .aload_n 0, 1, 9, []), (9, .getfield 98, 3, 12, []), (12, .if_icmp .ge 60, 3, 15, [72]), (15, .aload_n 0, 1, 16, []), (16, .iload_n 1, 1, 17, []), (17, .iload_n 3, 1, 18, []), (18, .invokevirtual 147, 3, 21, []), (21, .istore 4, 2, 23, []), (23, .iload 4, 2, 25, []), (25, .iconst (-1), 1, 26, []), (26, .if_icmp .eq 40, 3, 29, [66]), (29, .iload_n 2, 1, 30, []), (30, .ifCond .ne 16, 3, 33, [46]), (33, .aload_n 0, 1, 34, []), (34, .iload_n 1, 1, 35, []), (35, .bipush 11, 2, 37, []), (37, .iload 4, 2, 39, []), (39, .iadd, 1, 40, []), (40, .invokevirtual 140, 3, 43, []), (43, .ifCond .ne 23, 3, 46, [66]), (46, .aload_n 0, 1, 47, []), (47, .getfield 62, 3, 50, []), (50, .aload_n 0, 1, 51, []), (51, .getfield 197, 3, 54, []), (54, .iload_n 3, 1, 55, []), (55, .iastore, 1, 56, []), (56, .aload_n 0, 1, 57, []), (57, .dup, 1, 58, []), (58, .getfield 197, 3, 61, []), (61, .iconst 1, 1, 62, []), (62, .iadd, 1, 63, []), (63, .putfield 197, 3, 66, []), (66, .iinc 3 1, 3, 69, []), (69, .goto (-62), 3, 72, [7]), (72, .return_, 1, 73, [])]
def m_X9_gather : am_M := (yX9_gather, cX9_gather, 5, none, 9, am_at k_X9_gather)
theorem ok_X9_gather : am_ok m_X9_gather := am_ok_at (by unfold am_ck; decide +kernel)
def k_X9_askWorths : List (Nat × Instr × Nat × Nat × List Nat) := [(0, .iconst 0, 1, 1, []), (1, .istore_n 1, 1, 2, []), (2, .iload_n 1, 1, 3, []), (3, .aload_n 0, 1, 4, []), (4, .getfield 197, 3, 7, []), (7, .if_icmp .ge 36, 3, 10, [43]), (10, .aload_n 0, 1, 11, []), (11, .aload_n 0, 1, 12, []), (12, .getfield 62, 3, 15, []), (15, .iload_n 1, 1, 16, []), (16, .iaload, 1, 17, []), (17, .invokevirtual 123, 3, 20, []), (20, .istore_n 2, 1, 21, []), (21, .iload_n 2, 1, 22, []), (22, .bipush (-5), 2, 24, []), (24, .if_icmp .ne 6, 3, 27, [30]), (27, .bipush (-5), 2, 29, []), (29, .ireturn, 1, 30, []), (30, .aload_n 0, 1, 31, []), (31, .getfield 65, 3, 34, []), (34, .iload_n 1, 1, 35, []), (35, .iload_n 2, 1, 36, []), (36, .iastore, 1, 37, []), (37, .iinc 1 1, 3, 40, []), (40, .goto (-38), 3, 43, [2]), (43, .iconst 1, 1, 44, []), (44, .ireturn, 1, 45, [])]
def m_X9_askWorths : am_M := (yX9_askWorths, cX9_askWorths, 3, (some .int), 9, am_at k_X9_askWorths)
theorem ok_X9_askWorths : am_ok m_X9_askWorths := am_ok_at (by unfold am_ck; decide +kernel)
def k_X9_drawOf_0 : List (Nat × Instr × Nat × Nat × List Nat) := [(0, .aload_n 0, 1, 1, []), (1, .iload_n 1, 1, 2, []), (2, .invokevirtual 144, 3, 5, []), (5, .ifCond .eq 38, 3, 8, [43]), (8, .iload_n 2, 1, 9, []), (9, .ifCond .lt 34, 3, 12, [43]), (12, .aload_n 0, 1, 13, []), (13, .iload_n 1, 1, 14, []), (14, .bipush 25, 2, 16, []), (16, .invokevirtual 140, 3, 19, []), (19, .ifCond .le 27, 3, 22, [46]), (22, .iload_n 2, 1, 23, []), (23, .aload_n 0, 1, 24, []), (24, .iload_n 1, 1, 25, []), (25, .bipush 26, 2, 27, []), (27, .aload_n 0, 1, 28, []), (28, .iload_n 1, 1, 29, []), (29, .bipush 25, 2, 31, []), (31, .invokevirtual 140, 3, 34, []), (34, .iadd, 1, 35, []), (35, .iconst 1, 1, 36, []), (36, .isub, 1, 37, []), (37, .invokevirtual 140, 3, 40, []), (40, .if_icmp .ge 6, 3, 43, [46]), (43, .bipush (-2), 2, 45, []), (45, .ireturn, 1, 46, []), (46, .aload_n 0, 1, 47, []), (47, .iload_n 1, 1, 48, []), (48, .iconst 0, 1, 49, []), (49, .invokevirtual 218, 3, 52, []), (52, .aload_n 0, 1, 53, []), (53, .getfield 197, 3, 56, [])]
def k_X9_drawOf_1 : List (Nat × Instr × Nat × Nat × List Nat) := [(56, .iconst 2, 1, 57, []), (57, .if_icmp .ge 6, 3, 60, [63]), (60, .bipush (-3), 2, 62, []), (62, .ireturn, 1, 63, []), (63, .aload_n 0, 1, 64, []), (64, .iload_n 1, 1, 65, []), (65, .bipush 25, 2, 67, []), (67, .invokevirtual 140, 3, 70, []), (70, .bipush 6, 2, 72, []), (72, .if_icmp .ne 6, 3, 75, [78]), (75, .bipush (-4), 2, 77, []), (77, .ireturn, 1, 78, []), (78, .aload_n 0, 1, 79, []), (79, .invokevirtual 222, 3, 82, []), (82, .bipush (-5), 2, 84, []), (84, .if_icmp .ne 6, 3, 87, [90]), (87, .bipush (-5), 2, 89, []), (89, .ireturn, 1, 90, []), (90, .iconst 0, 1, 91, []), (91, .istore_n 3, 1, 92, []), (92, .iload_n 3, 1, 93, []), (93, .aload_n 0, 1, 94, []), (94, .getfield 197, 3, 97, []), (97, .if_icmp .ge 28, 3, 100, [125]), (100, .aload_n 0, 1, 101, []), (101, .getfield 68, 3, 104, []), (104, .iload_n 3, 1, 105, []), (105, .aload_n 0, 1, 106, []), (106, .iload_n 1, 1, 107, []), (107, .aload_n 0, 1, 108, []), (108, .getfield 62, 3, 111, []), (111, .iload_n 3, 1, 112, [])]
def k_X9_drawOf_2 : List (Nat × Instr × Nat × Nat × List Nat) := [(112, .iaload, 1, 113, []), (113, .iload_n 2, 1, 114, []), (114, .iload_n 2, 1, 115, []), (115, .invokevirtual 173, 3, 118, []), (118, .iastore, 1, 119, []), (119, .iinc 3 1, 3, 122, []), (122, .goto (-30), 3, 125, [92]), (125, .aload_n 0, 1, 126, []), (126, .iload_n 1, 1, 127, []), (127, .invokevirtual 225, 3, 130, []), (130, .aload_n 0, 1, 131, []), (131, .iload_n 1, 1, 132, []), (132, .iload_n 2, 1, 133, []), (133, .invokevirtual 228, 3, 136, []), (136, .aload_n 0, 1, 137, []), (137, .iload_n 1, 1, 138, []), (138, .bipush 32, 2, 140, []), (140, .aload_n 0, 1, 141, []), (141, .iload_n 1, 1, 142, []), (142, .bipush 25, 2, 144, []), (144, .invokevirtual 140, 3, 147, []), (147, .iadd, 1, 148, []), (148, .iconst 1, 1, 149, []), (149, .isub, 1, 150, []), (150, .invokevirtual 140, 3, 153, []), (153, .ireturn, 1, 154, [])]
def k_X9_drawOf : List (Nat × List (Nat × Instr × Nat × Nat × List Nat)) := [(56, k_X9_drawOf_0), (112, k_X9_drawOf_1), (154, k_X9_drawOf_2)]
def m_X9_drawOf : am_M := (yX9_drawOf, cX9_drawOf, 4, (some .int), 9, am_a2 k_X9_drawOf)
theorem ok_X9_drawOf_0 : ∀ q ∈ k_X9_drawOf_0, am_ck cX9_drawOf q := by unfold am_ck; decide +kernel
theorem ok_X9_drawOf_1 : ∀ q ∈ k_X9_drawOf_1, am_ck cX9_drawOf q := by unfold am_ck; decide +kernel
theorem ok_X9_drawOf_2 : ∀ q ∈ k_X9_drawOf_2, am_ck cX9_drawOf q := by unfold am_ck; decide +kernel
theorem ok_X9_drawOf : am_ok m_X9_drawOf := am_ok_a2 (List.forall_mem_cons.mpr ⟨ok_X9_drawOf_0, List.forall_mem_cons.mpr ⟨ok_X9_drawOf_1, List.forall_mem_cons.mpr ⟨ok_X9_drawOf_2, fun _ h => absurd h List.not_mem_nil⟩⟩⟩)
def k_X9_draw : List (Nat × Instr × Nat × Nat × List Nat) := [(0, .aload_n 0, 1, 1, []), (1, .iconst 0, 1, 2, []), (2, .putfield 95, 3, 5, []), (5, .aload_n 0, 1, 6, []), (6, .iload_n 1, 1, 7, []), (7, .iload_n 2, 1, 8, []), (8, .invokevirtual 231, 3, 11, []), (11, .ireturn, 1, 12, [])]
def m_X9_draw : am_M := (yX9_draw, cX9_draw, 3, (some .int), 9, am_at k_X9_draw)
theorem ok_X9_draw : am_ok m_X9_draw := am_ok_at (by unfold am_ck; decide +kernel)
def k_X9_against : List (Nat × Instr × Nat × Nat × List Nat) := [(0, .iload_n 2, 1, 1, []), (1, .iconst 0, 1, 2, []), (2, .iconst 5, 1, 3, []), (3, .invokestatic 101, 3, 6, []), (6, .ifCond .ne 7, 3, 9, [13]), (9, .iconst 2, 1, 10, []), (10, .goto 42, 3, 13, [52]), (13, .iload_n 2, 1, 14, []), (14, .aload_n 0, 1, 15, []), (15, .iload_n 1, 1, 16, []), (16, .bipush 25, 2, 18, []), (18, .invokevirtual 140, 3, 21, []), (21, .if_icmp .lt 7, 3, 24, [28]), (24, .iconst 1, 1, 25, []), (25, .goto 27, 3, 28, [52]), (28, .iload_n 3, 1, 29, []), (29, .iconst 0, 1, 30, []), (30, .aload_n 0, 1, 31, []), (31, .iload_n 1, 1, 32, []), (32, .bipush 32, 2, 34, []), (34, .iload_n 2, 1, 35, []), (35, .iadd, 1, 36, []), (36, .invokevirtual 140, 3, 39, []), (39, .iconst 1, 1, 40, []), (40, .isub, 1, 41, []), (41, .invokestatic 101, 3, 44, []), (44, .ifCond .ne 7, 3, 47, [51]), (47, .iconst 2, 1, 48, []), (48, .goto 4, 3, 51, [52]), (51, .iconst 0, 1, 52, []), (52, .ireturn, 1, 53, [])]
def m_X9_against : am_M := (yX9_against, cX9_against, 4, (some .int), 9, am_at k_X9_against)
theorem ok_X9_against : am_ok m_X9_against := am_ok_at (by unfold am_ck; decide +kernel)
def k_X9_pair : List (Nat × Instr × Nat × Nat × List Nat) := [(0, .aload_n 0, 1, 1, []), (1, .iload_n 1, 1, 2, []), (2, .invokevirtual 144, 3, 5, []), (5, .ifCond .ne 6, 3, 8, [11]), (8, .bipush (-2), 2, 10, []), (10, .ireturn, 1, 11, []), (11, .aload_n 0, 1, 12, []), (12, .iload_n 1, 1, 13, []), (13, .iload_n 2, 1, 14, []), (14, .iload_n 3, 1, 15, []), (15, .invokevirtual 234, 3, 18, []), (18, .istore 5, 2, 20, []), (20, .iload 5, 2, 22, []), (22, .ifCond .ne 17, 3, 25, [39]), (25, .iload 4, 2, 27, []), (27, .iconst 0, 1, 28, []), (28, .iconst 1, 1, 29, []), (29, .invokestatic 101, 3, 32, []), (32, .ifCond .ne 7, 3, 35, [39]), (35, .iconst 2, 1, 36, []), (36, .goto 5, 3, 39, [41]), (39, .iload 5, 2, 41, []), (41, .istore 5, 2, 43, []), (43, .iload 5, 2, 45, []), (45, .ifCond .le 12, 3, 48, [57]), (48, .aload_n 0, 1, 49, []), (49, .iload 5, 2, 51, []), (51, .invokevirtual 112, 3, 54, []), (54, .goto 26, 3, 57, [80]), (57, .aload_n 0, 1, 58, []), (58, .iload_n 1, 1, 59, []), (59, .iload 4, 2, 61, []), (61, .ifCond .ne 8, 3, 64, [69]), (64, .bipush 50, 2, 66, []), (66, .goto 5, 3, 69, [71]), (69, .bipush 80, 2, 71, []), (71, .iconst 5, 1, 72, []), (72, .iload_n 2, 1, 73, []), (73, .imul, 1, 74, []), (74, .iadd, 1, 75, []), (75, .iload_n 3, 1, 76, []), (76, .iadd, 1, 77, []), (77, .invokevirtual 140, 3, 80, []), (80, .ireturn, 1, 81, [])]
def m_X9_pair : am_M := (yX9_pair, cX9_pair, 6, (some .int), 9, am_at k_X9_pair)
theorem ok_X9_pair : am_ok m_X9_pair := am_ok_at (by unfold am_ck; decide +kernel)
def k_X9_round : List (Nat × Instr × Nat × Nat × List Nat) := [(0, .aload_n 0, 1, 1, []), (1, .iload_n 1, 1, 2, []), (2, .invokevirtual 144, 3, 5, []), (5, .ifCond .eq 12, 3, 8, [17]), (8, .iload_n 3, 1, 9, []), (9, .iconst 0, 1, 10, []), (10, .iconst 3, 1, 11, []), (11, .invokestatic 101, 3, 14, []), (14, .ifCond .ne 6, 3, 17, [20]), (17, .bipush (-2), 2, 19, []), (19, .ireturn, 1, 20, []), (20, .aload_n 0, 1, 21, []), (21, .iload_n 1, 1, 22, []), (22, .iload_n 2, 1, 23, []), (23, .iconst 0, 1, 24, []), (24, .invokevirtual 234, 3, 27, []), (27, .istore 4, 2, 29, []), (29, .iload 4, 2, 31, []), (31, .ifCond .le 12, 3, 34, [43]), (34, .aload_n 0, 1, 35, []), (35, .iload 4, 2, 37, []), (37, .invokevirtual 112, 3, 40, []), (40, .goto 41, 3, 43, [81]), (43, .aload_n 0, 1, 44, []), (44, .iload_n 1, 1, 45, []), (45, .iload_n 3, 1, 46, []), (46, .ifCond .ne 8, 3, 49, [54]), (49, .bipush 26, 2, 51, []), (51, .goto 25, 3, 54, [76]), (54, .iload_n 3, 1, 55, []), (55, .iconst 1, 1, 56, []), (56, .if_icmp .ne 8, 3, 59, [64]), (59, .bipush 32, 2, 61, []), (61, .goto 15, 3, 64, [76]), (64, .iload_n 3, 1, 65, []), (65, .iconst 2, 1, 66, []), (66, .if_icmp .ne 8, 3, 69, [74]), (69, .bipush 38, 2, 71, []), (71, .goto 5, 3, 74, [76]), (74, .bipush 44, 2, 76, []), (76, .iload_n 2, 1, 77, []), (77, .iadd, 1, 78, []), (78, .invokevirtual 140, 3, 81, []), (81, .ireturn, 1, 82, [])]
def m_X9_round : am_M := (yX9_round, cX9_round, 5, (some .int), 9, am_at k_X9_round)
theorem ok_X9_round : am_ok m_X9_round := am_ok_at (by unfold am_ck; decide +kernel)
def k_X9_tell_0 : List (Nat × Instr × Nat × Nat × List Nat) := [(0, .aload_n 0, 1, 1, []), (1, .iload_n 1, 1, 2, []), (2, .invokevirtual 144, 3, 5, []), (5, .ifCond .eq 24, 3, 8, [29]), (8, .iload 4, 2, 10, []), (10, .iconst 0, 1, 11, []), (11, .bipush 6, 2, 13, []), (13, .invokestatic 101, 3, 16, []), (16, .ifCond .eq 13, 3, 19, [29]), (19, .iload 5, 2, 21, []), (21, .ifCond .lt 8, 3, 24, [29]), (24, .iload 6, 2, 26, []), (26, .ifCond .ge 6, 3, 29, [32]), (29, .bipush (-2), 2, 31, []), (31, .ireturn, 1, 32, []), (32, .aload_n 0, 1, 33, []), (33, .iload_n 1, 1, 34, []), (34, .iload_n 2, 1, 35, []), (35, .iload_n 3, 1, 36, []), (36, .invokevirtual 234, 3, 39, []), (39, .istore 7, 2, 41, []), (41, .iload 7, 2, 43, []), (43, .ifCond .le 10, 3, 46, [53]), (46, .aload_n 0, 1, 47, []), (47, .iload 7, 2, 49, []), (49, .invokevirtual 112, 3, 52, []), (52, .ireturn, 1, 53, []), (53, .aload_n 0, 1, 54, []), (54, .iload_n 1, 1, 55, []), (55, .iconst 5, 1, 56, []), (56, .iload_n 2, 1, 57, []), (57, .imul, 1, 58, [])]
def k_X9_tell_1 : List (Nat × Instr × Nat × Nat × List Nat) := [(58, .iload_n 3, 1, 59, []), (59, .iadd, 1, 60, []), (60, .invokevirtual 161, 3, 63, []), (63, .ifCond .eq 6, 3, 66, [69]), (66, .bipush (-3), 2, 68, []), (68, .ireturn, 1, 69, []), (69, .aload_n 0, 1, 70, []), (70, .iload_n 1, 1, 71, []), (71, .bipush 110, 2, 73, []), (73, .invokevirtual 140, 3, 76, []), (76, .istore 8, 2, 78, []), (78, .iload 8, 2, 80, []), (80, .bipush 60, 2, 82, []), (82, .if_icmp .ne 6, 3, 85, [88]), (85, .bipush (-4), 2, 87, []), (87, .ireturn, 1, 88, []), (88, .aload_n 0, 1, 89, []), (89, .iload_n 1, 1, 90, []), (90, .bipush 111, 2, 92, []), (92, .iload 8, 2, 94, []), (94, .iadd, 1, 95, []), (95, .iconst 5, 1, 96, []), (96, .iload_n 2, 1, 97, []), (97, .imul, 1, 98, []), (98, .iload_n 3, 1, 99, []), (99, .iadd, 1, 100, []), (100, .invokevirtual 129, 3, 103, []), (103, .aload_n 0, 1, 104, []), (104, .iload_n 1, 1, 105, []), (105, .sipush 171, 3, 108, []), (108, .iload 8, 2, 110, []), (110, .iadd, 1, 111, [])]
def k_X9_tell_2 : List (Nat × Instr × Nat × Nat × List Nat) := [(111, .iload 4, 2, 113, []), (113, .invokevirtual 129, 3, 116, []), (116, .aload_n 0, 1, 117, []), (117, .iload_n 1, 1, 118, []), (118, .sipush 231, 3, 121, []), (121, .iload 8, 2, 123, []), (123, .iadd, 1, 124, []), (124, .iload 5, 2, 126, []), (126, .invokevirtual 129, 3, 129, []), (129, .aload_n 0, 1, 130, []), (130, .iload_n 1, 1, 131, []), (131, .sipush 291, 3, 134, []), (134, .iload 8, 2, 136, []), (136, .iadd, 1, 137, []), (137, .iload 6, 2, 139, []), (139, .invokevirtual 129, 3, 142, []), (142, .aload_n 0, 1, 143, []), (143, .iload_n 1, 1, 144, []), (144, .bipush 110, 2, 146, []), (146, .iload 8, 2, 148, []), (148, .iconst 1, 1, 149, []), (149, .iadd, 1, 150, []), (150, .invokevirtual 129, 3, 153, []), (153, .iload 8, 2, 155, []), (155, .ireturn, 1, 156, [])]
def k_X9_tell : List (Nat × List (Nat × Instr × Nat × Nat × List Nat)) := [(58, k_X9_tell_0), (111, k_X9_tell_1), (156, k_X9_tell_2)]
def m_X9_tell : am_M := (yX9_tell, cX9_tell, 9, (some .int), 9, am_a2 k_X9_tell)
theorem ok_X9_tell_0 : ∀ q ∈ k_X9_tell_0, am_ck cX9_tell q := by unfold am_ck; decide +kernel
theorem ok_X9_tell_1 : ∀ q ∈ k_X9_tell_1, am_ck cX9_tell q := by unfold am_ck; decide +kernel
theorem ok_X9_tell_2 : ∀ q ∈ k_X9_tell_2, am_ck cX9_tell q := by unfold am_ck; decide +kernel
theorem ok_X9_tell : am_ok m_X9_tell := am_ok_a2 (List.forall_mem_cons.mpr ⟨ok_X9_tell_0, List.forall_mem_cons.mpr ⟨ok_X9_tell_1, List.forall_mem_cons.mpr ⟨ok_X9_tell_2, fun _ h => absurd h List.not_mem_nil⟩⟩⟩)
def k_X9_takeBack : List (Nat × Instr × Nat × Nat × List Nat) := [(0, .aload_n 0, 1, 1, []), (1, .iload_n 1, 1, 2, []), (2, .invokevirtual 144, 3, 5, []), (5, .ifCond .eq 38, 3, 8, [43]), (8, .iload_n 2, 1, 9, []), (9, .iconst 0, 1, 10, []), (10, .aload_n 0, 1, 11, []), (11, .iload_n 1, 1, 12, []), (12, .bipush 110, 2, 14, []), (14, .invokevirtual 140, 3, 17, []), (17, .iconst 1, 1, 18, []), (18, .isub, 1, 19, []), (19, .invokestatic 101, 3, 22, []), (22, .ifCond .eq 21, 3, 25, [43]), (25, .iload_n 3, 1, 26, []), (26, .ifCond .lt 17, 3, 29, [43]), (29, .iload_n 3, 1, 30, []), (30, .aload_n 0, 1, 31, []), (31, .iload_n 1, 1, 32, []), (32, .sipush 291, 3, 35, []), (35, .iload_n 2, 1, 36, []), (36, .iadd, 1, 37, []), (37, .invokevirtual 140, 3, 40, []), (40, .if_icmp .ge 6, 3, 43, [46]), (43, .bipush (-2), 2, 45, []), (45, .ireturn, 1, 46, []), (46, .aload_n 0, 1, 47, []), (47, .iload_n 1, 1, 48, []), (48, .sipush 351, 3, 51, []), (51, .iload_n 2, 1, 52, []), (52, .iadd, 1, 53, []), (53, .invokevirtual 140, 3, 56, []), (56, .ifCond .eq 6, 3, 59, [62]), (59, .bipush (-3), 2, 61, []), (61, .ireturn, 1, 62, []), (62, .aload_n 0, 1, 63, []), (63, .iload_n 1, 1, 64, []), (64, .sipush 351, 3, 67, []), (67, .iload_n 2, 1, 68, []), (68, .iadd, 1, 69, []), (69, .iload_n 3, 1, 70, []), (70, .iconst 1, 1, 71, []), (71, .iadd, 1, 72, []), (72, .invokevirtual 129, 3, 75, []), (75, .iconst 1, 1, 76, []), (76, .ireturn, 1, 77, [])]
def m_X9_takeBack : am_M := (yX9_takeBack, cX9_takeBack, 4, (some .int), 9, am_at k_X9_takeBack)
theorem ok_X9_takeBack : am_ok m_X9_takeBack := am_ok_at (by unfold am_ck; decide +kernel)
def k_X9_counts : List (Nat × Instr × Nat × Nat × List Nat) := [(0, .aload_n 0, 1, 1, []), (1, .iload_n 1, 1, 2, []), (2, .invokevirtual 144, 3, 5, []), (5, .ifCond .eq 8, 3, 8, [13]), (8, .iload 4, 2, 10, []), (10, .ifCond .ge 6, 3, 13, [16]), (13, .bipush (-2), 2, 15, []), (15, .ireturn, 1, 16, []), (16, .aload_n 0, 1, 17, []), (17, .iload_n 1, 1, 18, []), (18, .iload_n 2, 1, 19, []), (19, .iload_n 3, 1, 20, []), (20, .invokevirtual 234, 3, 23, []), (23, .istore 5, 2, 25, []), (25, .iload 5, 2, 27, []), (27, .ifCond .le 12, 3, 30, [39]), (30, .aload_n 0, 1, 31, []), (31, .iload 5, 2, 33, []), (33, .invokevirtual 112, 3, 36, []), (36, .goto 15, 3, 39, [51]), (39, .aload_n 0, 1, 40, []), (40, .iload_n 1, 1, 41, []), (41, .iconst 5, 1, 42, []), (42, .iload_n 2, 1, 43, []), (43, .imul, 1, 44, []), (44, .iload_n 3, 1, 45, []), (45, .iadd, 1, 46, []), (46, .iload 4, 2, 48, []), (48, .invokevirtual 154, 3, 51, []), (51, .ireturn, 1, 52, [])]
def m_X9_counts : am_M := (yX9_counts, cX9_counts, 6, (some .int), 9, am_at k_X9_counts)
theorem ok_X9_counts : am_ok m_X9_counts := am_ok_at (by unfold am_ck; decide +kernel)
def k_X9_refused : List (Nat × Instr × Nat × Nat × List Nat) := [(0, .aload_n 0, 1, 1, []), (1, .iload_n 1, 1, 2, []), (2, .invokevirtual 144, 3, 5, []), (5, .ifCond .eq 20, 3, 8, [25]), (8, .aload_n 0, 1, 9, []), (9, .iload_n 2, 1, 10, []), (10, .invokevirtual 108, 3, 13, []), (13, .ifCond .eq 12, 3, 16, [25]), (16, .iload_n 3, 1, 17, []), (17, .ifCond .lt 8, 3, 20, [25]), (20, .iload 4, 2, 22, []), (22, .ifCond .ge 8, 3, 25, [30]), (25, .bipush (-2), 2, 27, []), (27, .goto 19, 3, 30, [46]), (30, .aload_n 0, 1, 31, []), (31, .iload_n 1, 1, 32, []), (32, .iload_n 2, 1, 33, []), (33, .invokevirtual 147, 3, 36, []), (36, .iconst (-1), 1, 37, []), (37, .if_icmp .ne 8, 3, 40, [45]), (40, .bipush (-3), 2, 42, []), (42, .goto 4, 3, 45, [46]), (45, .iconst 0, 1, 46, []), (46, .ireturn, 1, 47, [])]
def m_X9_refused : am_M := (yX9_refused, cX9_refused, 5, (some .int), 9, am_at k_X9_refused)
theorem ok_X9_refused : am_ok m_X9_refused := am_ok_at (by unfold am_ck; decide +kernel)
def k_X9_points : List (Nat × Instr × Nat × Nat × List Nat) := [(0, .aload_n 0, 1, 1, []), (1, .iload_n 1, 1, 2, []), (2, .iload_n 2, 1, 3, []), (3, .iload_n 3, 1, 4, []), (4, .iload 4, 2, 6, []), (6, .invokevirtual 237, 3, 9, []), (9, .istore 5, 2, 11, []), (11, .iload 5, 2, 13, []), (13, .ifCond .eq 8, 3, 16, [21]), (16, .iload 5, 2, 18, []), (18, .goto 12, 3, 21, [30]), (21, .aload_n 0, 1, 22, []), (22, .iload_n 1, 1, 23, []), (23, .iload_n 2, 1, 24, []), (24, .iload_n 3, 1, 25, []), (25, .iload 4, 2, 27, []), (27, .invokevirtual 173, 3, 30, []), (30, .ireturn, 1, 31, [])]
def m_X9_points : am_M := (yX9_points, cX9_points, 6, (some .int), 9, am_at k_X9_points)
theorem ok_X9_points : am_ok m_X9_points := am_ok_at (by unfold am_ck; decide +kernel)
def k_X9_sum : List (Nat × Instr × Nat × Nat × List Nat) := [(0, .aload_n 0, 1, 1, []), (1, .iload_n 1, 1, 2, []), (2, .iload_n 2, 1, 3, []), (3, .iload 4, 2, 5, []), (5, .iload 5, 2, 7, []), (7, .invokevirtual 237, 3, 10, []), (10, .istore 6, 2, 12, []), (12, .iload 6, 2, 14, []), (14, .bipush (-2), 2, 16, []), (16, .if_icmp .eq 12, 3, 19, [28]), (19, .iload_n 3, 1, 20, []), (20, .iconst 1, 1, 21, []), (21, .iconst 5, 1, 22, []), (22, .invokestatic 101, 3, 25, []), (25, .ifCond .ne 8, 3, 28, [33]), (28, .bipush (-2), 2, 30, []), (30, .goto 24, 3, 33, [54]), (33, .iload 6, 2, 35, []), (35, .ifCond .eq 8, 3, 38, [43]), (38, .iload 6, 2, 40, []), (40, .goto 14, 3, 43, [54]), (43, .aload_n 0, 1, 44, []), (44, .iload_n 1, 1, 45, []), (45, .iload_n 2, 1, 46, []), (46, .iload_n 3, 1, 47, []), (47, .iload 4, 2, 49, []), (49, .iload 5, 2, 51, []), (51, .invokevirtual 179, 3, 54, []), (54, .ireturn, 1, 55, [])]
def m_X9_sum : am_M := (yX9_sum, cX9_sum, 7, (some .int), 9, am_at k_X9_sum)
theorem ok_X9_sum : am_ok m_X9_sum := am_ok_at (by unfold am_ck; decide +kernel)
def k_X9_ahead : List (Nat × Instr × Nat × Nat × List Nat) := [(0, .iconst 0, 1, 1, []), (1, .istore 5, 2, 3, []), (3, .iconst 0, 1, 4, []), (4, .istore 6, 2, 6, []), (6, .iload 6, 2, 8, []), (8, .aload_n 0, 1, 9, []), (9, .iload_n 1, 1, 10, []), (10, .iconst 0, 1, 11, []), (11, .invokevirtual 140, 3, 14, []), (14, .if_icmp .ge 44, 3, 17, [58]), (17, .iload 5, 2, 19, []), (19, .aload_n 0, 1, 20, []), (20, .iload_n 1, 1, 21, []), (21, .aload_n 0, 1, 22, []), (22, .iload_n 1, 1, 23, []), (23, .iconst 1, 1, 24, []), (24, .iload 6, 2, 26, []), (26, .iadd, 1, 27, []), (27, .invokevirtual 140, 3, 30, []), (30, .iload_n 2, 1, 31, []), (31, .iload_n 3, 1, 32, []), (32, .iload 4, 2, 34, []), (34, .invokevirtual 240, 3, 37, []), (37, .bipush 10, 2, 39, []), (39, .irem, 1, 40, []), (40, .iconst 1, 1, 41, []), (41, .if_icmp .ne 7, 3, 44, [48]), (44, .iconst 1, 1, 45, []), (45, .goto 4, 3, 48, [49]), (48, .iconst 0, 1, 49, []), (49, .iadd, 1, 50, []), (50, .istore 5, 2, 52, []), (52, .iinc 6 1, 3, 55, []), (55, .goto (-49), 3, 58, [6]), (58, .iload 5, 2, 60, []), (60, .ireturn, 1, 61, [])]
def m_X9_ahead : am_M := (yX9_ahead, cX9_ahead, 7, (some .int), 9, am_at k_X9_ahead)
theorem ok_X9_ahead : am_ok m_X9_ahead := am_ok_at (by unfold am_ck; decide +kernel)
def k_X9_place : List (Nat × Instr × Nat × Nat × List Nat) := [(0, .aload_n 0, 1, 1, []), (1, .iload_n 1, 1, 2, []), (2, .iload_n 2, 1, 3, []), (3, .iload_n 3, 1, 4, []), (4, .iload 4, 2, 6, []), (6, .invokevirtual 237, 3, 9, []), (9, .istore 5, 2, 11, []), (11, .iload 5, 2, 13, []), (13, .ifCond .eq 8, 3, 16, [21]), (16, .iload 5, 2, 18, []), (18, .goto 14, 3, 21, [32]), (21, .aload_n 0, 1, 22, []), (22, .iload_n 1, 1, 23, []), (23, .iload_n 2, 1, 24, []), (24, .iload_n 3, 1, 25, []), (25, .iload 4, 2, 27, []), (27, .invokevirtual 243, 3, 30, []), (30, .iconst 1, 1, 31, []), (31, .iadd, 1, 32, []), (32, .ireturn, 1, 33, [])]
def m_X9_place : am_M := (yX9_place, cX9_place, 6, (some .int), 9, am_at k_X9_place)
theorem ok_X9_place : am_ok m_X9_place := am_ok_at (by unfold am_ck; decide +kernel)
def k_X9_standing_0 : List (Nat × Instr × Nat × Nat × List Nat) := [(0, .aload_n 0, 1, 1, []), (1, .iload_n 1, 1, 2, []), (2, .invokevirtual 144, 3, 5, []), (5, .ifCond .eq 12, 3, 8, [17]), (8, .iload_n 3, 1, 9, []), (9, .ifCond .lt 8, 3, 12, [17]), (12, .iload 4, 2, 14, []), (14, .ifCond .ge 6, 3, 17, [20]), (17, .bipush (-2), 2, 19, []), (19, .ireturn, 1, 20, []), (20, .iconst 0, 1, 21, []), (21, .istore 5, 2, 23, []), (23, .iload 5, 2, 25, []), (25, .aload_n 0, 1, 26, []), (26, .iload_n 1, 1, 27, []), (27, .iconst 0, 1, 28, []), (28, .invokevirtual 140, 3, 31, []), (31, .if_icmp .ge 104, 3, 34, [135]), (34, .aload_n 0, 1, 35, []), (35, .iload_n 1, 1, 36, []), (36, .iconst 1, 1, 37, []), (37, .iload 5, 2, 39, []), (39, .iadd, 1, 40, []), (40, .invokevirtual 140, 3, 43, []), (43, .istore 6, 2, 45, []), (45, .aload_n 0, 1, 46, []), (46, .iload_n 1, 1, 47, []), (47, .iload 6, 2, 49, []), (49, .iload_n 3, 1, 50, []), (50, .iload 4, 2, 52, []), (52, .invokevirtual 243, 3, 55, []), (55, .istore 7, 2, 57, [])]
def k_X9_standing_1 : List (Nat × Instr × Nat × Nat × List Nat) := [(57, .iconst 0, 1, 58, []), (58, .istore 8, 2, 60, []), (60, .iload 8, 2, 62, []), (62, .aload_n 0, 1, 63, []), (63, .iload_n 1, 1, 64, []), (64, .iconst 0, 1, 65, []), (65, .invokevirtual 140, 3, 68, []), (68, .if_icmp .ge 52, 3, 71, [120]), (71, .aload_n 0, 1, 72, []), (72, .iload_n 1, 1, 73, []), (73, .iconst 1, 1, 74, []), (74, .iload 8, 2, 76, []), (76, .iadd, 1, 77, []), (77, .invokevirtual 140, 3, 80, []), (80, .istore 9, 2, 82, []), (82, .iload 7, 2, 84, []), (84, .iload 9, 2, 86, []), (86, .iload 6, 2, 88, []), (88, .if_icmp .ge 22, 3, 91, [110]), (91, .aload_n 0, 1, 92, []), (92, .iload_n 1, 1, 93, []), (93, .iload 9, 2, 95, []), (95, .iload 6, 2, 97, []), (97, .iload_n 3, 1, 98, []), (98, .iload 4, 2, 100, []), (100, .invokevirtual 240, 3, 103, []), (103, .ifCond .ne 7, 3, 106, [110]), (106, .iconst 1, 1, 107, []), (107, .goto 4, 3, 110, [111]), (110, .iconst 0, 1, 111, []), (111, .iadd, 1, 112, []), (112, .istore 7, 2, 114, [])]
def k_X9_standing_2 : List (Nat × Instr × Nat × Nat × List Nat) := [(114, .iinc 8 1, 3, 117, []), (117, .goto (-57), 3, 120, [60]), (120, .iload 7, 2, 122, []), (122, .iload_n 2, 1, 123, []), (123, .if_icmp .ne 6, 3, 126, [129]), (126, .iload 6, 2, 128, []), (128, .ireturn, 1, 129, []), (129, .iinc 5 1, 3, 132, []), (132, .goto (-109), 3, 135, [23]), (135, .iconst (-1), 1, 136, []), (136, .ireturn, 1, 137, [])]
def k_X9_standing : List (Nat × List (Nat × Instr × Nat × Nat × List Nat)) := [(57, k_X9_standing_0), (114, k_X9_standing_1), (137, k_X9_standing_2)]
def m_X9_standing : am_M := (yX9_standing, cX9_standing, 10, (some .int), 9, am_a2 k_X9_standing)
theorem ok_X9_standing_0 : ∀ q ∈ k_X9_standing_0, am_ck cX9_standing q := by unfold am_ck; decide +kernel
theorem ok_X9_standing_1 : ∀ q ∈ k_X9_standing_1, am_ck cX9_standing q := by unfold am_ck; decide +kernel
theorem ok_X9_standing_2 : ∀ q ∈ k_X9_standing_2, am_ck cX9_standing q := by unfold am_ck; decide +kernel
theorem ok_X9_standing : am_ok m_X9_standing := am_ok_a2 (List.forall_mem_cons.mpr ⟨ok_X9_standing_0, List.forall_mem_cons.mpr ⟨ok_X9_standing_1, List.forall_mem_cons.mpr ⟨ok_X9_standing_2, fun _ h => absurd h List.not_mem_nil⟩⟩⟩)
def k_X9_why : List (Nat × Instr × Nat × Nat × List Nat) := [(0, .aload_n 0, 1, 1, []), (1, .iload_n 1, 1, 2, []), (2, .iload_n 2, 1, 3, []), (3, .iload 4, 2, 5, []), (5, .iload 5, 2, 7, []), (7, .invokevirtual 237, 3, 10, []), (10, .istore 6, 2, 12, []), (12, .aload_n 0, 1, 13, []), (13, .iload_n 1, 1, 14, []), (14, .iload_n 3, 1, 15, []), (15, .iload 4, 2, 17, []), (17, .iload 5, 2, 19, []), (19, .invokevirtual 237, 3, 22, []), (22, .istore 7, 2, 24, []), (24, .iload 6, 2, 26, []), (26, .bipush (-2), 2, 28, []), (28, .if_icmp .eq 10, 3, 31, [38]), (31, .iload 7, 2, 33, []), (33, .bipush (-2), 2, 35, []), (35, .if_icmp .ne 8, 3, 38, [43]), (38, .bipush (-2), 2, 40, []), (40, .goto 29, 3, 43, [69]), (43, .iload 6, 2, 45, []), (45, .ifCond .ne 8, 3, 48, [53]), (48, .iload 7, 2, 50, []), (50, .ifCond .eq 8, 3, 53, [58]), (53, .bipush (-3), 2, 55, []), (55, .goto 14, 3, 58, [69]), (58, .aload_n 0, 1, 59, []), (59, .iload_n 1, 1, 60, []), (60, .iload_n 2, 1, 61, []), (61, .iload_n 3, 1, 62, []), (62, .iload 4, 2, 64, []), (64, .iload 5, 2, 66, []), (66, .invokevirtual 240, 3, 69, []), (69, .ireturn, 1, 70, [])]
def m_X9_why : am_M := (yX9_why, cX9_why, 8, (some .int), 9, am_at k_X9_why)
theorem ok_X9_why : am_ok m_X9_why := am_ok_at (by unfold am_ck; decide +kernel)
def k_X9_rounded : List (Nat × Instr × Nat × Nat × List Nat) := [(0, .iload_n 0, 1, 1, []), (1, .sipush 1000, 3, 4, []), (4, .invokestatic 245, 3, 7, []), (7, .istore_n 1, 1, 8, []), (8, .iload_n 0, 1, 9, []), (9, .sipush 1000, 3, 12, []), (12, .iload_n 1, 1, 13, []), (13, .imul, 1, 14, []), (14, .isub, 1, 15, []), (15, .istore_n 2, 1, 16, []), (16, .iload_n 2, 1, 17, []), (17, .sipush 500, 3, 20, []), (20, .if_icmp .gt 17, 3, 23, [37]), (23, .iload_n 2, 1, 24, []), (24, .sipush 500, 3, 27, []), (27, .if_icmp .ne 16, 3, 30, [43]), (30, .iload_n 1, 1, 31, []), (31, .iconst 1, 1, 32, []), (32, .iand, 1, 33, []), (33, .iconst 1, 1, 34, []), (34, .if_icmp .ne 9, 3, 37, [43]), (37, .iload_n 1, 1, 38, []), (38, .iconst 1, 1, 39, []), (39, .iadd, 1, 40, []), (40, .goto 4, 3, 43, [44]), (43, .iload_n 1, 1, 44, []), (44, .ireturn, 1, 45, [])]
def m_X9_rounded : am_M := (yX9_rounded, cX9_rounded, 3, (some .int), 9, am_at k_X9_rounded)
theorem ok_X9_rounded : am_ok m_X9_rounded := am_ok_at (by unfold am_ck; decide +kernel)
def k_X9_rate : List (Nat × Instr × Nat × Nat × List Nat) := [(0, .aload_n 0, 1, 1, []), (1, .getfield 83, 3, 4, []), (4, .iload_n 1, 1, 5, []), (5, .iaload, 1, 6, []), (6, .aload_n 0, 1, 7, []), (7, .getfield 83, 3, 10, []), (10, .iload_n 2, 1, 11, []), (11, .iaload, 1, 12, []), (12, .isub, 1, 13, []), (13, .istore 5, 2, 15, []), (15, .iload 5, 2, 17, []), (17, .sipush 400, 3, 20, []), (20, .if_icmp .le 9, 3, 23, [29]), (23, .sipush 400, 3, 26, []), (26, .goto 19, 3, 29, [45]), (29, .iload 5, 2, 31, []), (31, .sipush (-400), 3, 34, []), (34, .if_icmp .ge 9, 3, 37, [43]), (37, .sipush (-400), 3, 40, []), (40, .goto 5, 3, 43, [45]), (43, .iload 5, 2, 45, []), (45, .istore 5, 2, 47, []), (47, .aload_n 0, 1, 48, []), (48, .getfield 80, 3, 51, []), (51, .iload_n 1, 1, 52, []), (52, .aload_n 0, 1, 53, []), (53, .getfield 83, 3, 56, []), (56, .iload_n 1, 1, 57, []), (57, .iaload, 1, 58, []), (58, .iload_n 3, 1, 59, []), (59, .sipush 500, 3, 62, []), (62, .iload 4, 2, 64, []), (64, .imul, 1, 65, []), (65, .sipush 500, 3, 68, []), (68, .iconst 5, 1, 69, []), (69, .iload 5, 2, 71, []), (71, .imul, 1, 72, []), (72, .iconst 4, 1, 73, []), (73, .idiv, 1, 74, []), (74, .iadd, 1, 75, []), (75, .isub, 1, 76, []), (76, .imul, 1, 77, []), (77, .invokestatic 250, 3, 80, []), (80, .iadd, 1, 81, []), (81, .iastore, 1, 82, []), (82, .return_, 1, 83, [])]
def m_X9_rate : am_M := (yX9_rate, cX9_rate, 6, none, 9, am_at k_X9_rate)
theorem ok_X9_rate : am_ok m_X9_rate := am_ok_at (by unfold am_ck; decide +kernel)
def k_X9_rated_0 : List (Nat × Instr × Nat × Nat × List Nat) := [(0, .aload_n 0, 1, 1, []), (1, .iconst 0, 1, 2, []), (2, .putfield 95, 3, 5, []), (5, .aload_n 0, 1, 6, []), (6, .iload_n 1, 1, 7, []), (7, .invokevirtual 144, 3, 10, []), (10, .ifCond .eq 25, 3, 13, [35]), (13, .aload_n 0, 1, 14, []), (14, .iload_n 2, 1, 15, []), (15, .invokevirtual 108, 3, 18, []), (18, .ifCond .eq 17, 3, 21, [35]), (21, .iload_n 3, 1, 22, []), (22, .iconst (-1), 1, 23, []), (23, .iconst 5, 1, 24, []), (24, .invokestatic 101, 3, 27, []), (27, .ifCond .eq 8, 3, 30, [35]), (30, .iload 4, 2, 32, []), (32, .ifCond .ge 6, 3, 35, [38]), (35, .bipush (-2), 2, 37, []), (37, .ireturn, 1, 38, []), (38, .aload_n 0, 1, 39, []), (39, .iload_n 1, 1, 40, []), (40, .iload_n 2, 1, 41, []), (41, .invokevirtual 147, 3, 44, []), (44, .iconst (-1), 1, 45, []), (45, .if_icmp .ne 6, 3, 48, [51]), (48, .bipush (-3), 2, 50, []), (50, .ireturn, 1, 51, []), (51, .aload_n 0, 1, 52, []), (52, .iload_n 1, 1, 53, []), (53, .iconst 1, 1, 54, []), (54, .invokevirtual 218, 3, 57, [])]
def k_X9_rated_1 : List (Nat × Instr × Nat × Nat × List Nat) := [(57, .aload_n 0, 1, 58, []), (58, .invokevirtual 222, 3, 61, []), (61, .bipush (-5), 2, 63, []), (63, .if_icmp .ne 6, 3, 66, [69]), (66, .bipush (-5), 2, 68, []), (68, .ireturn, 1, 69, []), (69, .iconst 0, 1, 70, []), (70, .istore 5, 2, 72, []), (72, .iload 5, 2, 74, []), (74, .aload_n 0, 1, 75, []), (75, .getfield 197, 3, 78, []), (78, .if_icmp .ge 28, 3, 81, [106]), (81, .aload_n 0, 1, 82, []), (82, .getfield 80, 3, 85, []), (85, .aload_n 0, 1, 86, []), (86, .getfield 62, 3, 89, []), (89, .iload 5, 2, 91, []), (91, .iaload, 1, 92, []), (92, .aload_n 0, 1, 93, []), (93, .getfield 65, 3, 96, []), (96, .iload 5, 2, 98, []), (98, .iaload, 1, 99, []), (99, .iastore, 1, 100, []), (100, .iinc 5 1, 3, 103, []), (103, .goto (-31), 3, 106, [72]), (106, .iconst 0, 1, 107, []), (107, .istore 5, 2, 109, []), (109, .iload 5, 2, 111, []), (111, .iload_n 3, 1, 112, []), (112, .if_icmp .gt 199, 3, 115, [311]), (115, .iload 5, 2, 117, []), (117, .aload_n 0, 1, 118, [])]
def k_X9_rated_2 : List (Nat × Instr × Nat × Nat × List Nat) := [(118, .iload_n 1, 1, 119, []), (119, .bipush 25, 2, 121, []), (121, .invokevirtual 140, 3, 124, []), (124, .if_icmp .lt 9, 3, 127, [133]), (127, .aload_n 0, 1, 128, []), (128, .iconst 1, 1, 129, []), (129, .invokevirtual 112, 3, 132, []), (132, .ireturn, 1, 133, []), (133, .iconst 0, 1, 134, []), (134, .istore 6, 2, 136, []), (136, .iload 6, 2, 138, []), (138, .bipush 24, 2, 140, []), (140, .if_icmp .ge 23, 3, 143, [163]), (143, .aload_n 0, 1, 144, []), (144, .getfield 83, 3, 147, []), (147, .iload 6, 2, 149, []), (149, .aload_n 0, 1, 150, []), (150, .getfield 80, 3, 153, []), (153, .iload 6, 2, 155, []), (155, .iaload, 1, 156, []), (156, .iastore, 1, 157, []), (157, .iinc 6 1, 3, 160, []), (160, .goto (-24), 3, 163, [136]), (163, .iconst 0, 1, 164, []), (164, .istore 6, 2, 166, []), (166, .iload 6, 2, 168, []), (168, .aload_n 0, 1, 169, []), (169, .iload_n 1, 1, 170, []), (170, .bipush 32, 2, 172, []), (172, .iload 5, 2, 174, []), (174, .iadd, 1, 175, []), (175, .invokevirtual 140, 3, 178, [])]
def k_X9_rated_3 : List (Nat × Instr × Nat × Nat × List Nat) := [(178, .if_icmp .ge 127, 3, 181, [305]), (181, .iconst 5, 1, 182, []), (182, .iload 5, 2, 184, []), (184, .imul, 1, 185, []), (185, .iload 6, 2, 187, []), (187, .iadd, 1, 188, []), (188, .istore 7, 2, 190, []), (190, .aload_n 0, 1, 191, []), (191, .iload_n 1, 1, 192, []), (192, .iload 7, 2, 194, []), (194, .invokevirtual 161, 3, 197, []), (197, .ifCond .eq 7, 3, 200, [204]), (200, .iconst (-1), 1, 201, []), (201, .goto 14, 3, 204, [215]), (204, .aload_n 0, 1, 205, []), (205, .iload_n 1, 1, 206, []), (206, .iload 7, 2, 208, []), (208, .ldc 214, 2, 210, []), (210, .iload 4, 2, 212, []), (212, .invokevirtual 165, 3, 215, []), (215, .istore 8, 2, 217, []), (217, .iload 8, 2, 219, []), (219, .iconst 0, 1, 220, []), (220, .iconst 2, 1, 221, []), (221, .invokestatic 101, 3, 224, []), (224, .ifCond .eq 75, 3, 227, [299]), (227, .aload_n 0, 1, 228, []), (228, .iload_n 1, 1, 229, []), (229, .bipush 50, 2, 231, []), (231, .iload 7, 2, 233, []), (233, .iadd, 1, 234, []), (234, .invokevirtual 140, 3, 237, [])]
def k_X9_rated_4 : List (Nat × Instr × Nat × Nat × List Nat) := [(237, .istore 9, 2, 239, []), (239, .aload_n 0, 1, 240, []), (240, .iload_n 1, 1, 241, []), (241, .bipush 80, 2, 243, []), (243, .iload 7, 2, 245, []), (245, .iadd, 1, 246, []), (246, .invokevirtual 140, 3, 249, []), (249, .istore 10, 2, 251, []), (251, .aload_n 0, 1, 252, []), (252, .iload 9, 2, 254, []), (254, .invokevirtual 126, 3, 257, []), (257, .istore 11, 2, 259, []), (259, .aload_n 0, 1, 260, []), (260, .iload 10, 2, 262, []), (262, .invokevirtual 126, 3, 265, []), (265, .istore 12, 2, 267, []), (267, .aload_n 0, 1, 268, []), (268, .iload 9, 2, 270, []), (270, .iload 10, 2, 272, []), (272, .iload 11, 2, 274, []), (274, .iload 8, 2, 276, []), (276, .iconst 1, 1, 277, []), (277, .invokestatic 169, 3, 280, []), (280, .invokevirtual 253, 3, 283, []), (283, .aload_n 0, 1, 284, []), (284, .iload 10, 2, 286, []), (286, .iload 9, 2, 288, []), (288, .iload 12, 2, 290, []), (290, .iload 8, 2, 292, []), (292, .iconst 0, 1, 293, []), (293, .invokestatic 169, 3, 296, []), (296, .invokevirtual 253, 3, 299, [])]
def k_X9_rated_5 : List (Nat × Instr × Nat × Nat × List Nat) := [(299, .iinc 6 1, 3, 302, []), (302, .goto (-136), 3, 305, [166]), (305, .iinc 5 1, 3, 308, []), (308, .goto (-199), 3, 311, [109]), (311, .aload_n 0, 1, 312, []), (312, .getfield 80, 3, 315, []), (315, .iload_n 2, 1, 316, []), (316, .iaload, 1, 317, []), (317, .ireturn, 1, 318, [])]
def k_X9_rated : List (Nat × List (Nat × Instr × Nat × Nat × List Nat)) := [(57, k_X9_rated_0), (118, k_X9_rated_1), (178, k_X9_rated_2), (237, k_X9_rated_3), (299, k_X9_rated_4), (318, k_X9_rated_5)]
def m_X9_rated : am_M := (yX9_rated, cX9_rated, 13, (some .int), 9, am_a2 k_X9_rated)
theorem ok_X9_rated_0 : ∀ q ∈ k_X9_rated_0, am_ck cX9_rated q := by unfold am_ck; decide +kernel
theorem ok_X9_rated_1 : ∀ q ∈ k_X9_rated_1, am_ck cX9_rated q := by unfold am_ck; decide +kernel
theorem ok_X9_rated_2 : ∀ q ∈ k_X9_rated_2, am_ck cX9_rated q := by unfold am_ck; decide +kernel
theorem ok_X9_rated_3 : ∀ q ∈ k_X9_rated_3, am_ck cX9_rated q := by unfold am_ck; decide +kernel
theorem ok_X9_rated_4 : ∀ q ∈ k_X9_rated_4, am_ck cX9_rated q := by unfold am_ck; decide +kernel
theorem ok_X9_rated_5 : ∀ q ∈ k_X9_rated_5, am_ck cX9_rated q := by unfold am_ck; decide +kernel
theorem ok_X9_rated : am_ok m_X9_rated := am_ok_a2 (List.forall_mem_cons.mpr ⟨ok_X9_rated_0, List.forall_mem_cons.mpr ⟨ok_X9_rated_1, List.forall_mem_cons.mpr ⟨ok_X9_rated_2, List.forall_mem_cons.mpr ⟨ok_X9_rated_3, List.forall_mem_cons.mpr ⟨ok_X9_rated_4, List.forall_mem_cons.mpr ⟨ok_X9_rated_5, fun _ h => absurd h List.not_mem_nil⟩⟩⟩⟩⟩⟩)
def k_X9_mean : List (Nat × Instr × Nat × Nat × List Nat) := [(0, .aload_n 0, 1, 1, []), (1, .iconst 0, 1, 2, []), (2, .putfield 95, 3, 5, []), (5, .aload_n 0, 1, 6, []), (6, .iload_n 1, 1, 7, []), (7, .invokevirtual 144, 3, 10, []), (10, .ifCond .ne 6, 3, 13, [16]), (13, .bipush (-2), 2, 15, []), (15, .ireturn, 1, 16, []), (16, .aload_n 0, 1, 17, []), (17, .iload_n 1, 1, 18, []), (18, .iconst 1, 1, 19, []), (19, .invokevirtual 218, 3, 22, []), (22, .aload_n 0, 1, 23, []), (23, .invokevirtual 222, 3, 26, []), (26, .bipush (-5), 2, 28, []), (28, .if_icmp .ne 6, 3, 31, [34]), (31, .bipush (-5), 2, 33, []), (33, .ireturn, 1, 34, []), (34, .iconst 0, 1, 35, []), (35, .istore_n 2, 1, 36, []), (36, .iconst 0, 1, 37, []), (37, .istore_n 3, 1, 38, []), (38, .iload_n 3, 1, 39, []), (39, .aload_n 0, 1, 40, []), (40, .getfield 197, 3, 43, []), (43, .if_icmp .ge 18, 3, 46, [61]), (46, .iload_n 2, 1, 47, []), (47, .aload_n 0, 1, 48, []), (48, .getfield 65, 3, 51, []), (51, .iload_n 3, 1, 52, []), (52, .iaload, 1, 53, []), (53, .iadd, 1, 54, []), (54, .istore_n 2, 1, 55, []), (55, .iinc 3 1, 3, 58, []), (58, .goto (-20), 3, 61, [38]), (61, .aload_n 0, 1, 62, []), (62, .getfield 197, 3, 65, []), (65, .ifCond .ne 11, 3, 68, [76]), (68, .aload_n 0, 1, 69, []), (69, .iconst 4, 1, 70, []), (70, .invokevirtual 112, 3, 73, []), (73, .goto 9, 3, 76, [82]), (76, .iload_n 2, 1, 77, []), (77, .aload_n 0, 1, 78, []), (78, .getfield 197, 3, 81, []), (81, .idiv, 1, 82, []), (82, .ireturn, 1, 83, [])]
def m_X9_mean : am_M := (yX9_mean, cX9_mean, 4, (some .int), 9, am_at k_X9_mean)
theorem ok_X9_mean : am_ok m_X9_mean := am_ok_at (by unfold am_ck; decide +kernel)
def k_X9_isFirst_0 : List (Nat × Instr × Nat × Nat × List Nat) := [(0, .iconst 1, 1, 1, []), (1, .istore 5, 2, 3, []), (3, .iconst 0, 1, 4, []), (4, .istore 6, 2, 6, []), (6, .iload 6, 2, 8, []), (8, .aload_n 0, 1, 9, []), (9, .iload_n 1, 1, 10, []), (10, .iconst 0, 1, 11, []), (11, .invokevirtual 140, 3, 14, []), (14, .if_icmp .ge 74, 3, 17, [88]), (17, .aload_n 0, 1, 18, []), (18, .iload_n 1, 1, 19, []), (19, .iconst 1, 1, 20, []), (20, .iload 6, 2, 22, []), (22, .iadd, 1, 23, []), (23, .invokevirtual 140, 3, 26, []), (26, .istore 7, 2, 28, []), (28, .iload 7, 2, 30, []), (30, .iload_n 2, 1, 31, []), (31, .if_icmp .ne 7, 3, 34, [38]), (34, .iconst 2, 1, 35, []), (35, .goto 18, 3, 38, [53]), (38, .aload_n 0, 1, 39, []), (39, .iload_n 1, 1, 40, []), (40, .iload 7, 2, 42, []), (42, .iload_n 2, 1, 43, []), (43, .ldc 214, 2, 45, []), (45, .iload 4, 2, 47, []), (47, .invokevirtual 240, 3, 50, []), (50, .bipush 10, 2, 52, []), (52, .irem, 1, 53, []), (53, .istore 8, 2, 55, [])]
def k_X9_isFirst_1 : List (Nat × Instr × Nat × Nat × List Nat) := [(55, .iload 5, 2, 57, []), (57, .ifCond .eq 22, 3, 60, [79]), (60, .iload 8, 2, 62, []), (62, .iconst 1, 1, 63, []), (63, .if_icmp .eq 16, 3, 66, [79]), (66, .iload_n 3, 1, 67, []), (67, .ifCond .eq 8, 3, 70, [75]), (70, .iload 8, 2, 72, []), (72, .ifCond .eq 7, 3, 75, [79]), (75, .iconst 1, 1, 76, []), (76, .goto 4, 3, 79, [80]), (79, .iconst 0, 1, 80, []), (80, .istore 5, 2, 82, []), (82, .iinc 6 1, 3, 85, []), (85, .goto (-79), 3, 88, [6]), (88, .iload 5, 2, 90, []), (90, .ireturn, 1, 91, [])]
def k_X9_isFirst : List (Nat × List (Nat × Instr × Nat × Nat × List Nat)) := [(55, k_X9_isFirst_0), (91, k_X9_isFirst_1)]
def m_X9_isFirst : am_M := (yX9_isFirst, cX9_isFirst, 9, (some .boolean), 9, am_a2 k_X9_isFirst)
theorem ok_X9_isFirst_0 : ∀ q ∈ k_X9_isFirst_0, am_ck cX9_isFirst q := by unfold am_ck; decide +kernel
theorem ok_X9_isFirst_1 : ∀ q ∈ k_X9_isFirst_1, am_ck cX9_isFirst q := by unfold am_ck; decide +kernel
theorem ok_X9_isFirst : am_ok m_X9_isFirst := am_ok_a2 (List.forall_mem_cons.mpr ⟨ok_X9_isFirst_0, List.forall_mem_cons.mpr ⟨ok_X9_isFirst_1, fun _ h => absurd h List.not_mem_nil⟩⟩)
def k_X9_could_0 : List (Nat × Instr × Nat × Nat × List Nat) := [(0, .aload_n 0, 1, 1, []), (1, .iload_n 1, 1, 2, []), (2, .iload_n 2, 1, 3, []), (3, .iconst 0, 1, 4, []), (4, .iload 4, 2, 6, []), (6, .invokevirtual 237, 3, 9, []), (9, .istore 5, 2, 11, []), (11, .iload 5, 2, 13, []), (13, .bipush (-2), 2, 15, []), (15, .if_icmp .eq 12, 3, 18, [27]), (18, .iload_n 3, 1, 19, []), (19, .iconst 0, 1, 20, []), (20, .iconst 1, 1, 21, []), (21, .invokestatic 101, 3, 24, []), (24, .ifCond .ne 6, 3, 27, [30]), (27, .bipush (-2), 2, 29, []), (29, .ireturn, 1, 30, []), (30, .iconst 0, 1, 31, []), (31, .istore 6, 2, 33, []), (33, .iconst 0, 1, 34, []), (34, .istore 7, 2, 36, []), (36, .iload 7, 2, 38, []), (38, .bipush 30, 2, 40, []), (40, .if_icmp .ge 17, 3, 43, [57]), (43, .aload_n 0, 1, 44, []), (44, .getfield 59, 3, 47, []), (47, .iload 7, 2, 49, []), (49, .iconst (-1), 1, 50, []), (50, .iastore, 1, 51, []), (51, .iinc 7 1, 3, 54, []), (54, .goto (-18), 3, 57, [36]), (57, .iconst 0, 1, 58, [])]
def k_X9_could_1 : List (Nat × Instr × Nat × Nat × List Nat) := [(58, .istore 7, 2, 60, []), (60, .iload 7, 2, 62, []), (62, .iload 5, 2, 64, []), (64, .ifCond .ne 13, 3, 67, [77]), (67, .aload_n 0, 1, 68, []), (68, .iload_n 1, 1, 69, []), (69, .bipush 25, 2, 71, []), (71, .invokevirtual 140, 3, 74, []), (74, .goto 4, 3, 77, [78]), (77, .iconst 0, 1, 78, []), (78, .if_icmp .ge 99, 3, 81, [177]), (81, .iconst 0, 1, 82, []), (82, .istore 8, 2, 84, []), (84, .iload 8, 2, 86, []), (86, .aload_n 0, 1, 87, []), (87, .iload_n 1, 1, 88, []), (88, .bipush 32, 2, 90, []), (90, .iload 7, 2, 92, []), (92, .iadd, 1, 93, []), (93, .invokevirtual 140, 3, 96, []), (96, .if_icmp .ge 75, 3, 99, [171]), (99, .iconst 5, 1, 100, []), (100, .iload 7, 2, 102, []), (102, .imul, 1, 103, []), (103, .iload 8, 2, 105, []), (105, .iadd, 1, 106, []), (106, .istore 9, 2, 108, []), (108, .aload_n 0, 1, 109, []), (109, .iload_n 1, 1, 110, []), (110, .iload 9, 2, 112, []), (112, .invokevirtual 161, 3, 115, []), (115, .ifCond .eq 7, 3, 118, [122])]
def k_X9_could_2 : List (Nat × Instr × Nat × Nat × List Nat) := [(118, .iconst 0, 1, 119, []), (119, .goto 14, 3, 122, [133]), (122, .aload_n 0, 1, 123, []), (123, .iload_n 1, 1, 124, []), (124, .iload 9, 2, 126, []), (126, .ldc 214, 2, 128, []), (128, .iload 4, 2, 130, []), (130, .invokevirtual 165, 3, 133, []), (133, .istore 10, 2, 135, []), (135, .iload 10, 2, 137, []), (137, .iconst (-1), 1, 138, []), (138, .if_icmp .eq 9, 3, 141, [147]), (141, .iload 10, 2, 143, []), (143, .iconst 5, 1, 144, []), (144, .if_icmp .ne 21, 3, 147, [165]), (147, .iload 6, 2, 149, []), (149, .iconst 4, 1, 150, []), (150, .if_icmp .ge 12, 3, 153, [162]), (153, .aload_n 0, 1, 154, []), (154, .getfield 86, 3, 157, []), (157, .iload 6, 2, 159, []), (159, .iload 9, 2, 161, []), (161, .iastore, 1, 162, []), (162, .iinc 6 1, 3, 165, []), (165, .iinc 8 1, 3, 168, []), (168, .goto (-84), 3, 171, [84]), (171, .iinc 7 1, 3, 174, []), (174, .goto (-114), 3, 177, [60]), (177, .iload 5, 2, 179, []), (179, .ifCond .ne 9, 3, 182, [188]), (182, .iload 6, 2, 184, []), (184, .iconst 4, 1, 185, [])]
def k_X9_could_3 : List (Nat × Instr × Nat × Nat × List Nat) := [(185, .if_icmp .le 6, 3, 188, [191]), (188, .bipush (-3), 2, 190, []), (190, .ireturn, 1, 191, []), (191, .iconst 1, 1, 192, []), (192, .istore 7, 2, 194, []), (194, .iconst 0, 1, 195, []), (195, .istore 8, 2, 197, []), (197, .iload 8, 2, 199, []), (199, .iload 6, 2, 201, []), (201, .if_icmp .ge 15, 3, 204, [216]), (204, .iload 7, 2, 206, []), (206, .iconst 3, 1, 207, []), (207, .imul, 1, 208, []), (208, .istore 7, 2, 210, []), (210, .iinc 8 1, 3, 213, []), (213, .goto (-16), 3, 216, [197]), (216, .iconst 0, 1, 217, []), (217, .istore 8, 2, 219, []), (219, .iconst 0, 1, 220, []), (220, .istore 9, 2, 222, []), (222, .iload 9, 2, 224, []), (224, .iload 7, 2, 226, []), (226, .if_icmp .ge 78, 3, 229, [304]), (229, .iload 8, 2, 231, []), (231, .ifCond .ne 73, 3, 234, [304]), (234, .iload 9, 2, 236, []), (236, .istore 10, 2, 238, []), (238, .iload 6, 2, 240, []), (240, .iconst 1, 1, 241, []), (241, .isub, 1, 242, []), (242, .istore 11, 2, 244, []), (244, .iload 11, 2, 246, [])]
def k_X9_could_4 : List (Nat × Instr × Nat × Nat × List Nat) := [(246, .ifCond .lt 31, 3, 249, [277]), (249, .aload_n 0, 1, 250, []), (250, .getfield 59, 3, 253, []), (253, .aload_n 0, 1, 254, []), (254, .getfield 86, 3, 257, []), (257, .iload 11, 2, 259, []), (259, .iaload, 1, 260, []), (260, .iload 10, 2, 262, []), (262, .iconst 3, 1, 263, []), (263, .irem, 1, 264, []), (264, .iastore, 1, 265, []), (265, .iload 10, 2, 267, []), (267, .iconst 3, 1, 268, []), (268, .idiv, 1, 269, []), (269, .istore 10, 2, 271, []), (271, .iinc 11 (-1), 3, 274, []), (274, .goto (-30), 3, 277, [244]), (277, .aload_n 0, 1, 278, []), (278, .iconst 1, 1, 279, []), (279, .putfield 150, 3, 282, []), (282, .aload_n 0, 1, 283, []), (283, .iload_n 1, 1, 284, []), (284, .iload_n 2, 1, 285, []), (285, .iload_n 3, 1, 286, []), (286, .iload 4, 2, 288, []), (288, .invokevirtual 257, 3, 291, []), (291, .istore 8, 2, 293, []), (293, .aload_n 0, 1, 294, []), (294, .iconst 0, 1, 295, []), (295, .putfield 150, 3, 298, []), (298, .iinc 9 1, 3, 301, []), (301, .goto (-79), 3, 304, [222])]
def k_X9_could_5 : List (Nat × Instr × Nat × Nat × List Nat) := [(304, .iload 8, 2, 306, []), (306, .ifCond .eq 44, 3, 309, [350]), (309, .aload_n 0, 1, 310, []), (310, .iload 6, 2, 312, []), (312, .putfield 261, 3, 315, []), (315, .iconst 0, 1, 316, []), (316, .istore 9, 2, 318, []), (318, .iload 9, 2, 320, []), (320, .iload 6, 2, 322, []), (322, .if_icmp .ge 28, 3, 325, [350]), (325, .aload_n 0, 1, 326, []), (326, .getfield 89, 3, 329, []), (329, .iload 9, 2, 331, []), (331, .aload_n 0, 1, 332, []), (332, .getfield 59, 3, 335, []), (335, .aload_n 0, 1, 336, []), (336, .getfield 86, 3, 339, []), (339, .iload 9, 2, 341, []), (341, .iaload, 1, 342, []), (342, .iaload, 1, 343, []), (343, .iastore, 1, 344, []), (344, .iinc 9 1, 3, 347, []), (347, .goto (-29), 3, 350, [318]), (350, .iload 8, 2, 352, []), (352, .ifCond .eq 7, 3, 355, [359]), (355, .iconst 1, 1, 356, []), (356, .goto 4, 3, 359, [360]), (359, .iconst 0, 1, 360, []), (360, .ireturn, 1, 361, [])]
def k_X9_could : List (Nat × List (Nat × Instr × Nat × Nat × List Nat)) := [(58, k_X9_could_0), (118, k_X9_could_1), (185, k_X9_could_2), (246, k_X9_could_3), (304, k_X9_could_4), (361, k_X9_could_5)]
def m_X9_could : am_M := (yX9_could, cX9_could, 12, (some .int), 9, am_a2 k_X9_could)
theorem ok_X9_could_0 : ∀ q ∈ k_X9_could_0, am_ck cX9_could q := by unfold am_ck; decide +kernel
theorem ok_X9_could_1 : ∀ q ∈ k_X9_could_1, am_ck cX9_could q := by unfold am_ck; decide +kernel
theorem ok_X9_could_2 : ∀ q ∈ k_X9_could_2, am_ck cX9_could q := by unfold am_ck; decide +kernel
theorem ok_X9_could_3 : ∀ q ∈ k_X9_could_3, am_ck cX9_could q := by unfold am_ck; decide +kernel
theorem ok_X9_could_4 : ∀ q ∈ k_X9_could_4, am_ck cX9_could q := by unfold am_ck; decide +kernel
theorem ok_X9_could_5 : ∀ q ∈ k_X9_could_5, am_ck cX9_could q := by unfold am_ck; decide +kernel
theorem ok_X9_could : am_ok m_X9_could := am_ok_a2 (List.forall_mem_cons.mpr ⟨ok_X9_could_0, List.forall_mem_cons.mpr ⟨ok_X9_could_1, List.forall_mem_cons.mpr ⟨ok_X9_could_2, List.forall_mem_cons.mpr ⟨ok_X9_could_3, List.forall_mem_cons.mpr ⟨ok_X9_could_4, List.forall_mem_cons.mpr ⟨ok_X9_could_5, fun _ h => absurd h List.not_mem_nil⟩⟩⟩⟩⟩⟩)
def k_X9_found : List (Nat × Instr × Nat × Nat × List Nat) := [(0, .iload_n 1, 1, 1, []), (1, .iconst 0, 1, 2, []), (2, .aload_n 0, 1, 3, []), (3, .getfield 261, 3, 6, []), (6, .iconst 1, 1, 7, []), (7, .isub, 1, 8, []), (8, .invokestatic 101, 3, 11, []), (11, .ifCond .eq 12, 3, 14, [23]), (14, .aload_n 0, 1, 15, []), (15, .getfield 89, 3, 18, []), (18, .iload_n 1, 1, 19, []), (19, .iaload, 1, 20, []), (20, .goto 4, 3, 23, [24]), (23, .iconst (-1), 1, 24, []), (24, .ireturn, 1, 25, [])]
def m_X9_found : am_M := (yX9_found, cX9_found, 2, (some .int), 9, am_at k_X9_found)
theorem ok_X9_found : am_ok m_X9_found := am_ok_at (by unfold am_ck; decide +kernel)
def k_X9_step_0 : List (Nat × Instr × Nat × Nat × List Nat) := [(0, .iload_n 1, 1, 1, []), (1, .iconst 0, 1, 2, []), (2, .iconst 3, 1, 3, []), (3, .invokestatic 101, 3, 6, []), (6, .ifCond .eq 13, 3, 9, [19]), (9, .iload_n 2, 1, 10, []), (10, .iconst 0, 1, 11, []), (11, .bipush 11, 2, 13, []), (13, .invokestatic 101, 3, 16, []), (16, .ifCond .ne 6, 3, 19, [22]), (19, .bipush (-2), 2, 21, []), (21, .ireturn, 1, 22, []), (22, .aload_n 0, 1, 23, []), (23, .getfield 46, 3, 26, []), (26, .iload_n 1, 1, 27, []), (27, .iaload, 1, 28, []), (28, .bipush 10, 2, 30, []), (30, .if_icmp .ne 6, 3, 33, [36]), (33, .bipush (-4), 2, 35, []), (35, .ireturn, 1, 36, []), (36, .bipush 50, 2, 38, []), (38, .iload_n 1, 1, 39, []), (39, .imul, 1, 40, []), (40, .iconst 5, 1, 41, []), (41, .aload_n 0, 1, 42, []), (42, .getfield 46, 3, 45, []), (45, .iload_n 1, 1, 46, []), (46, .iaload, 1, 47, []), (47, .imul, 1, 48, []), (48, .iadd, 1, 49, []), (49, .istore 7, 2, 51, []), (51, .aload_n 0, 1, 52, [])]
def k_X9_step_1 : List (Nat × Instr × Nat × Nat × List Nat) := [(52, .getfield 43, 3, 55, []), (55, .iload 7, 2, 57, []), (57, .iload_n 2, 1, 58, []), (58, .iastore, 1, 59, []), (59, .aload_n 0, 1, 60, []), (60, .getfield 43, 3, 63, []), (63, .iload 7, 2, 65, []), (65, .iconst 1, 1, 66, []), (66, .iadd, 1, 67, []), (67, .iload_n 3, 1, 68, []), (68, .iastore, 1, 69, []), (69, .aload_n 0, 1, 70, []), (70, .getfield 43, 3, 73, []), (73, .iload 7, 2, 75, []), (75, .iconst 2, 1, 76, []), (76, .iadd, 1, 77, []), (77, .iload 4, 2, 79, []), (79, .iastore, 1, 80, []), (80, .aload_n 0, 1, 81, []), (81, .getfield 43, 3, 84, []), (84, .iload 7, 2, 86, []), (86, .iconst 3, 1, 87, []), (87, .iadd, 1, 88, []), (88, .iload 5, 2, 90, []), (90, .iastore, 1, 91, []), (91, .aload_n 0, 1, 92, []), (92, .getfield 43, 3, 95, []), (95, .iload 7, 2, 97, []), (97, .iconst 4, 1, 98, []), (98, .iadd, 1, 99, []), (99, .iload 6, 2, 101, []), (101, .iastore, 1, 102, [])]
def k_X9_step_2 : List (Nat × Instr × Nat × Nat × List Nat) := [(102, .aload_n 0, 1, 103, []), (103, .getfield 46, 3, 106, []), (106, .iload_n 1, 1, 107, []), (107, .dup2, 1, 108, []), (108, .iaload, 1, 109, []), (109, .iconst 1, 1, 110, []), (110, .iadd, 1, 111, []), (111, .iastore, 1, 112, []), (112, .aload_n 0, 1, 113, []), (113, .getfield 46, 3, 116, []), (116, .iload_n 1, 1, 117, []), (117, .iaload, 1, 118, []), (118, .ireturn, 1, 119, [])]
def k_X9_step : List (Nat × List (Nat × Instr × Nat × Nat × List Nat)) := [(52, k_X9_step_0), (102, k_X9_step_1), (119, k_X9_step_2)]
def m_X9_step : am_M := (yX9_step, cX9_step, 8, (some .int), 9, am_a2 k_X9_step)
theorem ok_X9_step_0 : ∀ q ∈ k_X9_step_0, am_ck cX9_step q := by unfold am_ck; decide +kernel
theorem ok_X9_step_1 : ∀ q ∈ k_X9_step_1, am_ck cX9_step q := by unfold am_ck; decide +kernel
theorem ok_X9_step_2 : ∀ q ∈ k_X9_step_2, am_ck cX9_step q := by unfold am_ck; decide +kernel
theorem ok_X9_step : am_ok m_X9_step := am_ok_a2 (List.forall_mem_cons.mpr ⟨ok_X9_step_0, List.forall_mem_cons.mpr ⟨ok_X9_step_1, List.forall_mem_cons.mpr ⟨ok_X9_step_2, fun _ h => absurd h List.not_mem_nil⟩⟩⟩)
def k_X9_empty : List (Nat × Instr × Nat × Nat × List Nat) := [(0, .iload_n 1, 1, 1, []), (1, .iconst 0, 1, 2, []), (2, .iconst 3, 1, 3, []), (3, .invokestatic 101, 3, 6, []), (6, .ifCond .ne 6, 3, 9, [12]), (9, .bipush (-2), 2, 11, []), (11, .ireturn, 1, 12, []), (12, .aload_n 0, 1, 13, []), (13, .getfield 46, 3, 16, []), (16, .iload_n 1, 1, 17, []), (17, .iaload, 1, 18, []), (18, .istore_n 2, 1, 19, []), (19, .aload_n 0, 1, 20, []), (20, .getfield 46, 3, 23, []), (23, .iload_n 1, 1, 24, []), (24, .iconst 0, 1, 25, []), (25, .iastore, 1, 26, []), (26, .iload_n 2, 1, 27, []), (27, .ireturn, 1, 28, [])]
def m_X9_empty : am_M := (yX9_empty, cX9_empty, 3, (some .int), 9, am_at k_X9_empty)
theorem ok_X9_empty : am_ok m_X9_empty := am_ok_at (by unfold am_ck; decide +kernel)
def k_X9_need : List (Nat × Instr × Nat × Nat × List Nat) := [(0, .aload_n 0, 1, 1, []), (1, .iload_n 1, 1, 2, []), (2, .iload_n 2, 1, 3, []), (3, .iload_n 3, 1, 4, []), (4, .iload_n 3, 1, 5, []), (5, .invokevirtual 264, 3, 8, []), (8, .istore 5, 2, 10, []), (10, .iload 5, 2, 12, []), (12, .ifCond .ge 8, 3, 15, [20]), (15, .iload 5, 2, 17, []), (17, .goto 21, 3, 20, [38]), (20, .iload 5, 2, 22, []), (22, .iload 4, 2, 24, []), (24, .if_icmp .ge 12, 3, 27, [36]), (27, .aload_n 0, 1, 28, []), (28, .bipush 6, 2, 30, []), (30, .invokevirtual 112, 3, 33, []), (33, .goto 5, 3, 36, [38]), (36, .iload 5, 2, 38, []), (38, .ireturn, 1, 39, [])]
def m_X9_need : am_M := (yX9_need, cX9_need, 6, (some .int), 9, am_at k_X9_need)
theorem ok_X9_need : am_ok m_X9_need := am_ok_at (by unfold am_ck; decide +kernel)
def k_X9_answer_0 : List (Nat × Instr × Nat × Nat × List Nat) := [(0, .aload_n 0, 1, 1, []), (1, .getfield 43, 3, 4, []), (4, .iload_n 1, 1, 5, []), (5, .iconst 1, 1, 6, []), (6, .iadd, 1, 7, []), (7, .iaload, 1, 8, []), (8, .istore_n 2, 1, 9, []), (9, .aload_n 0, 1, 10, []), (10, .getfield 43, 3, 13, []), (13, .iload_n 1, 1, 14, []), (14, .iconst 2, 1, 15, []), (15, .iadd, 1, 16, []), (16, .iaload, 1, 17, []), (17, .istore_n 3, 1, 18, []), (18, .aload_n 0, 1, 19, []), (19, .getfield 43, 3, 22, []), (22, .iload_n 1, 1, 23, []), (23, .iconst 3, 1, 24, []), (24, .iadd, 1, 25, []), (25, .iaload, 1, 26, []), (26, .istore 4, 2, 28, []), (28, .aload_n 0, 1, 29, []), (29, .getfield 43, 3, 32, []), (32, .iload_n 1, 1, 33, []), (33, .iconst 4, 1, 34, []), (34, .iadd, 1, 35, []), (35, .iaload, 1, 36, []), (36, .istore 5, 2, 38, []), (38, .aload_n 0, 1, 39, []), (39, .getfield 43, 3, 42, []), (42, .iload_n 1, 1, 43, []), (43, .iaload, 1, 44, [])]
def k_X9_answer_1 : List (Nat × Instr × Nat × Nat × List Nat) := [(44, .tableswitch 153 0 9 #[56, 63, 70, 79, 84, 91, 98, 105, 125, 134], 56, 100, [197, 100, 107, 114, 123, 128, 135, 142, 149, 169, 178]), (100, .aload_n 0, 1, 101, []), (101, .iload_n 2, 1, 102, []), (102, .iload_n 3, 1, 103, []), (103, .invokevirtual 266, 3, 106, []), (106, .ireturn, 1, 107, []), (107, .aload_n 0, 1, 108, []), (108, .iload_n 2, 1, 109, []), (109, .iload_n 3, 1, 110, []), (110, .invokevirtual 269, 3, 113, []), (113, .ireturn, 1, 114, []), (114, .aload_n 0, 1, 115, []), (115, .iload_n 2, 1, 116, []), (116, .iload_n 3, 1, 117, []), (117, .iload 4, 2, 119, []), (119, .invokevirtual 271, 3, 122, []), (122, .ireturn, 1, 123, []), (123, .aload_n 0, 1, 124, []), (124, .invokevirtual 274, 3, 127, []), (127, .ireturn, 1, 128, []), (128, .aload_n 0, 1, 129, []), (129, .iload_n 2, 1, 130, []), (130, .iload_n 3, 1, 131, []), (131, .invokevirtual 277, 3, 134, []), (134, .ireturn, 1, 135, []), (135, .aload_n 0, 1, 136, []), (136, .iload_n 2, 1, 137, []), (137, .iload_n 3, 1, 138, []), (138, .invokevirtual 280, 3, 141, []), (141, .ireturn, 1, 142, []), (142, .aload_n 0, 1, 143, []), (143, .iload_n 2, 1, 144, [])]
def k_X9_answer_2 : List (Nat × Instr × Nat × Nat × List Nat) := [(144, .iload_n 3, 1, 145, []), (145, .invokevirtual 231, 3, 148, []), (148, .ireturn, 1, 149, []), (149, .aload_n 0, 1, 150, []), (150, .iload_n 2, 1, 151, []), (151, .iload_n 3, 1, 152, []), (152, .bipush 10, 2, 154, []), (154, .idiv, 1, 155, []), (155, .iload_n 3, 1, 156, []), (156, .bipush 10, 2, 158, []), (158, .irem, 1, 159, []), (159, .iload 4, 2, 161, []), (161, .iload 5, 2, 163, []), (163, .iload 5, 2, 165, []), (165, .invokevirtual 283, 3, 168, []), (168, .ireturn, 1, 169, []), (169, .aload_n 0, 1, 170, []), (170, .iload_n 2, 1, 171, []), (171, .iload_n 3, 1, 172, []), (172, .iload 4, 2, 174, []), (174, .invokevirtual 287, 3, 177, []), (177, .ireturn, 1, 178, []), (178, .aload_n 0, 1, 179, []), (179, .iload_n 2, 1, 180, []), (180, .invokevirtual 108, 3, 183, []), (183, .ifCond .eq 11, 3, 186, [194]), (186, .aload_n 0, 1, 187, []), (187, .iload_n 2, 1, 188, []), (188, .invokevirtual 123, 3, 191, []), (191, .goto 5, 3, 194, [196]), (194, .bipush (-2), 2, 196, []), (196, .ireturn, 1, 197, [])]
def k_X9_answer_3 : List (Nat × Instr × Nat × Nat × List Nat) := [(197, .aload_n 0, 1, 198, []), (198, .iload_n 2, 1, 199, []), (199, .iload_n 3, 1, 200, []), (200, .iload 4, 2, 202, []), (202, .iload 5, 2, 204, []), (204, .invokevirtual 290, 3, 207, []), (207, .ireturn, 1, 208, [])]
def k_X9_answer : List (Nat × List (Nat × Instr × Nat × Nat × List Nat)) := [(44, k_X9_answer_0), (144, k_X9_answer_1), (197, k_X9_answer_2), (208, k_X9_answer_3)]
def m_X9_answer : am_M := (yX9_answer, cX9_answer, 6, (some .int), 9, am_a2 k_X9_answer)
theorem ok_X9_answer_0 : ∀ q ∈ k_X9_answer_0, am_ck cX9_answer q := by unfold am_ck; decide +kernel
theorem ok_X9_answer_1 : ∀ q ∈ k_X9_answer_1, am_ck cX9_answer q := by unfold am_ck; decide +kernel
theorem ok_X9_answer_2 : ∀ q ∈ k_X9_answer_2, am_ck cX9_answer q := by unfold am_ck; decide +kernel
theorem ok_X9_answer_3 : ∀ q ∈ k_X9_answer_3, am_ck cX9_answer q := by unfold am_ck; decide +kernel
theorem ok_X9_answer : am_ok m_X9_answer := am_ok_a2 (List.forall_mem_cons.mpr ⟨ok_X9_answer_0, List.forall_mem_cons.mpr ⟨ok_X9_answer_1, List.forall_mem_cons.mpr ⟨ok_X9_answer_2, List.forall_mem_cons.mpr ⟨ok_X9_answer_3, fun _ h => absurd h List.not_mem_nil⟩⟩⟩⟩)
def k_X9_fails : List (Nat × Instr × Nat × Nat × List Nat) := [(0, .aload_n 0, 1, 1, []), (1, .iload_n 1, 1, 2, []), (2, .putfield 293, 3, 5, []), (5, .aload_n 0, 1, 6, []), (6, .iload_n 2, 1, 7, []), (7, .putfield 52, 3, 10, []), (10, .aload_n 0, 1, 11, []), (11, .iload_n 3, 1, 12, []), (12, .putfield 56, 3, 15, []), (15, .return_, 1, 16, [])]
def m_X9_fails : am_M := (yX9_fails, cX9_fails, 4, none, 9, am_at k_X9_fails)
theorem ok_X9_fails : am_ok m_X9_fails := am_ok_at (by unfold am_ck; decide +kernel)
def k_X9_goes_0 : List (Nat × Instr × Nat × Nat × List Nat) := [(0, .aload_n 0, 1, 1, []), (1, .getfield 49, 3, 4, []), (4, .iload_n 1, 1, 5, []), (5, .dup2, 1, 6, []), (6, .iaload, 1, 7, []), (7, .iconst 1, 1, 8, []), (8, .iadd, 1, 9, []), (9, .iastore, 1, 10, []), (10, .iconst 0, 1, 11, []), (11, .istore_n 2, 1, 12, []), (12, .iload_n 2, 1, 13, []), (13, .aload_n 0, 1, 14, []), (14, .getfield 46, 3, 17, []), (17, .iload_n 1, 1, 18, []), (18, .iaload, 1, 19, []), (19, .if_icmp .ge 121, 3, 22, [140]), (22, .bipush 50, 2, 24, []), (24, .iload_n 1, 1, 25, []), (25, .imul, 1, 26, []), (26, .iconst 5, 1, 27, []), (27, .iload_n 2, 1, 28, []), (28, .imul, 1, 29, []), (29, .iadd, 1, 30, []), (30, .istore_n 3, 1, 31, []), (31, .aload_n 0, 1, 32, []), (32, .getfield 43, 3, 35, []), (35, .iload_n 3, 1, 36, []), (36, .iaload, 1, 37, []), (37, .bipush 11, 2, 39, []), (39, .if_icmp .ne 48, 3, 42, [87]), (42, .aload_n 0, 1, 43, []), (43, .getfield 43, 3, 46, [])]
def k_X9_goes_1 : List (Nat × Instr × Nat × Nat × List Nat) := [(46, .iload_n 3, 1, 47, []), (47, .iconst 1, 1, 48, []), (48, .iadd, 1, 49, []), (49, .iaload, 1, 50, []), (50, .iconst 0, 1, 51, []), (51, .iload_n 1, 1, 52, []), (52, .iconst 1, 1, 53, []), (53, .isub, 1, 54, []), (54, .invokestatic 101, 3, 57, []), (57, .ifCond .ne 13, 3, 60, [70]), (60, .aload_n 0, 1, 61, []), (61, .bipush (-2), 2, 63, []), (63, .iload_n 1, 1, 64, []), (64, .iload_n 2, 1, 65, []), (65, .invokevirtual 296, 3, 68, []), (68, .iconst 0, 1, 69, []), (69, .ireturn, 1, 70, []), (70, .aload_n 0, 1, 71, []), (71, .aload_n 0, 1, 72, []), (72, .getfield 43, 3, 75, []), (75, .iload_n 3, 1, 76, []), (76, .iconst 1, 1, 77, []), (77, .iadd, 1, 78, []), (78, .iaload, 1, 79, []), (79, .invokevirtual 299, 3, 82, []), (82, .ifCond .ne 52, 3, 85, [134]), (85, .iconst 0, 1, 86, []), (86, .ireturn, 1, 87, []), (87, .aload_n 0, 1, 88, []), (88, .getfield 302, 3, 91, []), (91, .bipush 60, 2, 93, []), (93, .if_icmp .ne 8, 3, 96, [101])]
def k_X9_goes_2 : List (Nat × Instr × Nat × Nat × List Nat) := [(96, .bipush (-4), 2, 98, []), (98, .goto 8, 3, 101, [106]), (101, .aload_n 0, 1, 102, []), (102, .iload_n 3, 1, 103, []), (103, .invokevirtual 305, 3, 106, []), (106, .istore 4, 2, 108, []), (108, .iload 4, 2, 110, []), (110, .iconst (-1), 1, 111, []), (111, .if_icmp .ge 13, 3, 114, [124]), (114, .aload_n 0, 1, 115, []), (115, .iload 4, 2, 117, []), (117, .iload_n 1, 1, 118, []), (118, .iload_n 2, 1, 119, []), (119, .invokevirtual 296, 3, 122, []), (122, .iconst 0, 1, 123, []), (123, .ireturn, 1, 124, []), (124, .aload_n 0, 1, 125, []), (125, .dup, 1, 126, []), (126, .getfield 302, 3, 129, []), (129, .iconst 1, 1, 130, []), (130, .iadd, 1, 131, []), (131, .putfield 302, 3, 134, []), (134, .iinc 2 1, 3, 137, []), (137, .goto (-125), 3, 140, [12]), (140, .iconst 1, 1, 141, []), (141, .ireturn, 1, 142, [])]
def k_X9_goes : List (Nat × List (Nat × Instr × Nat × Nat × List Nat)) := [(46, k_X9_goes_0), (96, k_X9_goes_1), (142, k_X9_goes_2)]
def m_X9_goes : am_M := (yX9_goes, cX9_goes, 5, (some .boolean), 9, am_a2 k_X9_goes)
theorem ok_X9_goes_0 : ∀ q ∈ k_X9_goes_0, am_ck cX9_goes q := by unfold am_ck; decide +kernel
theorem ok_X9_goes_1 : ∀ q ∈ k_X9_goes_1, am_ck cX9_goes q := by unfold am_ck; decide +kernel
theorem ok_X9_goes_2 : ∀ q ∈ k_X9_goes_2, am_ck cX9_goes q := by unfold am_ck; decide +kernel
theorem ok_X9_goes : am_ok m_X9_goes := am_ok_a2 (List.forall_mem_cons.mpr ⟨ok_X9_goes_0, List.forall_mem_cons.mpr ⟨ok_X9_goes_1, List.forall_mem_cons.mpr ⟨ok_X9_goes_2, fun _ h => absurd h List.not_mem_nil⟩⟩⟩)
def k_X9_keep_0 : List (Nat × Instr × Nat × Nat × List Nat) := [(0, .aload_n 0, 1, 1, []), (1, .aload_n 0, 1, 2, []), (2, .getfield 98, 3, 5, []), (5, .putfield 308, 3, 8, []), (8, .aload_n 0, 1, 9, []), (9, .aload_n 0, 1, 10, []), (10, .getfield 105, 3, 13, []), (13, .putfield 311, 3, 16, []), (16, .iconst 0, 1, 17, []), (17, .istore_n 1, 1, 18, []), (18, .iload_n 1, 1, 19, []), (19, .bipush 24, 2, 21, []), (21, .if_icmp .ge 45, 3, 24, [66]), (24, .aload_n 0, 1, 25, []), (25, .getfield 28, 3, 28, []), (28, .iload_n 1, 1, 29, []), (29, .aload_n 0, 1, 30, []), (30, .getfield 13, 3, 33, []), (33, .iload_n 1, 1, 34, []), (34, .iaload, 1, 35, []), (35, .iastore, 1, 36, []), (36, .aload_n 0, 1, 37, []), (37, .getfield 31, 3, 40, []), (40, .iload_n 1, 1, 41, []), (41, .aload_n 0, 1, 42, []), (42, .getfield 16, 3, 45, []), (45, .iload_n 1, 1, 46, []), (46, .iaload, 1, 47, []), (47, .iastore, 1, 48, []), (48, .aload_n 0, 1, 49, []), (49, .getfield 34, 3, 52, []), (52, .iload_n 1, 1, 53, [])]
def k_X9_keep_1 : List (Nat × Instr × Nat × Nat × List Nat) := [(53, .aload_n 0, 1, 54, []), (54, .getfield 19, 3, 57, []), (57, .iload_n 1, 1, 58, []), (58, .iaload, 1, 59, []), (59, .iastore, 1, 60, []), (60, .iinc 1 1, 3, 63, []), (63, .goto (-45), 3, 66, [18]), (66, .iconst 0, 1, 67, []), (67, .istore_n 1, 1, 68, []), (68, .iload_n 1, 1, 69, []), (69, .bipush 96, 2, 71, []), (71, .if_icmp .ge 21, 3, 74, [92]), (74, .aload_n 0, 1, 75, []), (75, .getfield 37, 3, 78, []), (78, .iload_n 1, 1, 79, []), (79, .aload_n 0, 1, 80, []), (80, .getfield 22, 3, 83, []), (83, .iload_n 1, 1, 84, []), (84, .iaload, 1, 85, []), (85, .iastore, 1, 86, []), (86, .iinc 1 1, 3, 89, []), (89, .goto (-21), 3, 92, [68]), (92, .iconst 0, 1, 93, []), (93, .istore_n 1, 1, 94, []), (94, .iload_n 1, 1, 95, []), (95, .sipush 1648, 3, 98, []), (98, .if_icmp .ge 21, 3, 101, [119]), (101, .aload_n 0, 1, 102, []), (102, .getfield 40, 3, 105, []), (105, .iload_n 1, 1, 106, []), (106, .aload_n 0, 1, 107, []), (107, .getfield 25, 3, 110, [])]
def k_X9_keep_2 : List (Nat × Instr × Nat × Nat × List Nat) := [(110, .iload_n 1, 1, 111, []), (111, .iaload, 1, 112, []), (112, .iastore, 1, 113, []), (113, .iinc 1 1, 3, 116, []), (116, .goto (-22), 3, 119, [94]), (119, .return_, 1, 120, [])]
def k_X9_keep : List (Nat × List (Nat × Instr × Nat × Nat × List Nat)) := [(53, k_X9_keep_0), (110, k_X9_keep_1), (120, k_X9_keep_2)]
def m_X9_keep : am_M := (yX9_keep, cX9_keep, 2, none, 9, am_a2 k_X9_keep)
theorem ok_X9_keep_0 : ∀ q ∈ k_X9_keep_0, am_ck cX9_keep q := by unfold am_ck; decide +kernel
theorem ok_X9_keep_1 : ∀ q ∈ k_X9_keep_1, am_ck cX9_keep q := by unfold am_ck; decide +kernel
theorem ok_X9_keep_2 : ∀ q ∈ k_X9_keep_2, am_ck cX9_keep q := by unfold am_ck; decide +kernel
theorem ok_X9_keep : am_ok m_X9_keep := am_ok_a2 (List.forall_mem_cons.mpr ⟨ok_X9_keep_0, List.forall_mem_cons.mpr ⟨ok_X9_keep_1, List.forall_mem_cons.mpr ⟨ok_X9_keep_2, fun _ h => absurd h List.not_mem_nil⟩⟩⟩)
def k_X9_back_0 : List (Nat × Instr × Nat × Nat × List Nat) := [(0, .aload_n 0, 1, 1, []), (1, .aload_n 0, 1, 2, []), (2, .getfield 308, 3, 5, []), (5, .putfield 98, 3, 8, []), (8, .aload_n 0, 1, 9, []), (9, .aload_n 0, 1, 10, []), (10, .getfield 311, 3, 13, []), (13, .putfield 105, 3, 16, []), (16, .iconst 0, 1, 17, []), (17, .istore_n 1, 1, 18, []), (18, .iload_n 1, 1, 19, []), (19, .bipush 24, 2, 21, []), (21, .if_icmp .ge 45, 3, 24, [66]), (24, .aload_n 0, 1, 25, []), (25, .getfield 13, 3, 28, []), (28, .iload_n 1, 1, 29, []), (29, .aload_n 0, 1, 30, []), (30, .getfield 28, 3, 33, []), (33, .iload_n 1, 1, 34, []), (34, .iaload, 1, 35, []), (35, .iastore, 1, 36, []), (36, .aload_n 0, 1, 37, []), (37, .getfield 16, 3, 40, []), (40, .iload_n 1, 1, 41, []), (41, .aload_n 0, 1, 42, []), (42, .getfield 31, 3, 45, []), (45, .iload_n 1, 1, 46, []), (46, .iaload, 1, 47, []), (47, .iastore, 1, 48, []), (48, .aload_n 0, 1, 49, []), (49, .getfield 19, 3, 52, []), (52, .iload_n 1, 1, 53, [])]
def k_X9_back_1 : List (Nat × Instr × Nat × Nat × List Nat) := [(53, .aload_n 0, 1, 54, []), (54, .getfield 34, 3, 57, []), (57, .iload_n 1, 1, 58, []), (58, .iaload, 1, 59, []), (59, .iastore, 1, 60, []), (60, .iinc 1 1, 3, 63, []), (63, .goto (-45), 3, 66, [18]), (66, .iconst 0, 1, 67, []), (67, .istore_n 1, 1, 68, []), (68, .iload_n 1, 1, 69, []), (69, .bipush 96, 2, 71, []), (71, .if_icmp .ge 21, 3, 74, [92]), (74, .aload_n 0, 1, 75, []), (75, .getfield 22, 3, 78, []), (78, .iload_n 1, 1, 79, []), (79, .aload_n 0, 1, 80, []), (80, .getfield 37, 3, 83, []), (83, .iload_n 1, 1, 84, []), (84, .iaload, 1, 85, []), (85, .iastore, 1, 86, []), (86, .iinc 1 1, 3, 89, []), (89, .goto (-21), 3, 92, [68]), (92, .iconst 0, 1, 93, []), (93, .istore_n 1, 1, 94, []), (94, .iload_n 1, 1, 95, []), (95, .sipush 1648, 3, 98, []), (98, .if_icmp .ge 21, 3, 101, [119]), (101, .aload_n 0, 1, 102, []), (102, .getfield 25, 3, 105, []), (105, .iload_n 1, 1, 106, []), (106, .aload_n 0, 1, 107, []), (107, .getfield 40, 3, 110, [])]
def k_X9_back_2 : List (Nat × Instr × Nat × Nat × List Nat) := [(110, .iload_n 1, 1, 111, []), (111, .iaload, 1, 112, []), (112, .iastore, 1, 113, []), (113, .iinc 1 1, 3, 116, []), (116, .goto (-22), 3, 119, [94]), (119, .return_, 1, 120, [])]
def k_X9_back : List (Nat × List (Nat × Instr × Nat × Nat × List Nat)) := [(53, k_X9_back_0), (110, k_X9_back_1), (120, k_X9_back_2)]
def m_X9_back : am_M := (yX9_back, cX9_back, 2, none, 9, am_a2 k_X9_back)
theorem ok_X9_back_0 : ∀ q ∈ k_X9_back_0, am_ck cX9_back q := by unfold am_ck; decide +kernel
theorem ok_X9_back_1 : ∀ q ∈ k_X9_back_1, am_ck cX9_back q := by unfold am_ck; decide +kernel
theorem ok_X9_back_2 : ∀ q ∈ k_X9_back_2, am_ck cX9_back q := by unfold am_ck; decide +kernel
theorem ok_X9_back : am_ok m_X9_back := am_ok_a2 (List.forall_mem_cons.mpr ⟨ok_X9_back_0, List.forall_mem_cons.mpr ⟨ok_X9_back_1, List.forall_mem_cons.mpr ⟨ok_X9_back_2, fun _ h => absurd h List.not_mem_nil⟩⟩⟩)
def k_X9_run : List (Nat × Instr × Nat × Nat × List Nat) := [(0, .aload_n 0, 1, 1, []), (1, .iconst 0, 1, 2, []), (2, .putfield 95, 3, 5, []), (5, .iload_n 1, 1, 6, []), (6, .iconst 0, 1, 7, []), (7, .iconst 3, 1, 8, []), (8, .invokestatic 101, 3, 11, []), (11, .ifCond .ne 6, 3, 14, [17]), (14, .bipush (-2), 2, 16, []), (16, .ireturn, 1, 17, []), (17, .aload_n 0, 1, 18, []), (18, .invokevirtual 314, 3, 21, []), (21, .aload_n 0, 1, 22, []), (22, .iconst 0, 1, 23, []), (23, .iconst (-1), 1, 24, []), (24, .iconst (-1), 1, 25, []), (25, .invokevirtual 296, 3, 28, []), (28, .aload_n 0, 1, 29, []), (29, .iconst 0, 1, 30, []), (30, .putfield 302, 3, 33, []), (33, .aload_n 0, 1, 34, []), (34, .iload_n 1, 1, 35, []), (35, .invokevirtual 299, 3, 38, []), (38, .ifCond .eq 5, 3, 41, [43]), (41, .iconst 1, 1, 42, []), (42, .ireturn, 1, 43, []), (43, .aload_n 0, 1, 44, []), (44, .invokevirtual 317, 3, 47, []), (47, .bipush (-6), 2, 49, []), (49, .ireturn, 1, 50, [])]
def m_X9_run : am_M := (yX9_run, cX9_run, 2, (some .int), 9, am_at k_X9_run)
theorem ok_X9_run : am_ok m_X9_run := am_ok_at (by unfold am_ck; decide +kernel)
def k_X9_ran : List (Nat × Instr × Nat × Nat × List Nat) := [(0, .iload_n 1, 1, 1, []), (1, .ifCond .ne 10, 3, 4, [11]), (4, .aload_n 0, 1, 5, []), (5, .getfield 293, 3, 8, []), (8, .goto 41, 3, 11, [49]), (11, .iload_n 1, 1, 12, []), (12, .iconst 1, 1, 13, []), (13, .if_icmp .ne 10, 3, 16, [23]), (16, .aload_n 0, 1, 17, []), (17, .getfield 52, 3, 20, []), (20, .goto 29, 3, 23, [49]), (23, .iload_n 1, 1, 24, []), (24, .iconst 2, 1, 25, []), (25, .if_icmp .ne 10, 3, 28, [35]), (28, .aload_n 0, 1, 29, []), (29, .getfield 56, 3, 32, []), (32, .goto 17, 3, 35, [49]), (35, .iload_n 1, 1, 36, []), (36, .iconst 3, 1, 37, []), (37, .if_icmp .ne 10, 3, 40, [47]), (40, .aload_n 0, 1, 41, []), (41, .getfield 302, 3, 44, []), (44, .goto 5, 3, 47, [49]), (47, .bipush (-2), 2, 49, []), (49, .ireturn, 1, 50, [])]
def m_X9_ran : am_M := (yX9_ran, cX9_ran, 2, (some .int), 9, am_at k_X9_ran)
theorem ok_X9_ran : am_ok m_X9_ran := am_ok_at (by unfold am_ck; decide +kernel)
def k_X9_copy : List (Nat × Instr × Nat × Nat × List Nat) := [(0, .aload_n 0, 1, 1, []), (1, .iload_n 1, 1, 2, []), (2, .invokevirtual 144, 3, 5, []), (5, .ifCond .ne 6, 3, 8, [11]), (8, .bipush (-2), 2, 10, []), (10, .ireturn, 1, 11, []), (11, .aload_n 0, 1, 12, []), (12, .getfield 105, 3, 15, []), (15, .iconst 4, 1, 16, []), (16, .if_icmp .ne 6, 3, 19, [22]), (19, .bipush (-4), 2, 21, []), (21, .ireturn, 1, 22, []), (22, .aload_n 0, 1, 23, []), (23, .invokevirtual 136, 3, 26, []), (26, .istore_n 2, 1, 27, []), (27, .iconst 0, 1, 28, []), (28, .istore_n 3, 1, 29, []), (29, .iload_n 3, 1, 30, []), (30, .sipush 411, 3, 33, []), (33, .if_icmp .ge 21, 3, 36, [54]), (36, .aload_n 0, 1, 37, []), (37, .iload_n 2, 1, 38, []), (38, .iload_n 3, 1, 39, []), (39, .aload_n 0, 1, 40, []), (40, .iload_n 1, 1, 41, []), (41, .iload_n 3, 1, 42, []), (42, .invokevirtual 140, 3, 45, []), (45, .invokevirtual 129, 3, 48, []), (48, .iinc 3 1, 3, 51, []), (51, .goto (-22), 3, 54, [29]), (54, .iload_n 2, 1, 55, []), (55, .ireturn, 1, 56, [])]
def m_X9_copy : am_M := (yX9_copy, cX9_copy, 4, (some .int), 9, am_at k_X9_copy)
theorem ok_X9_copy : am_ok m_X9_copy := am_ok_at (by unfold am_ck; decide +kernel)
def k_X9_alike : List (Nat × Instr × Nat × Nat × List Nat) := [(0, .aload_n 0, 1, 1, []), (1, .iload_n 1, 1, 2, []), (2, .invokevirtual 144, 3, 5, []), (5, .ifCond .eq 11, 3, 8, [16]), (8, .aload_n 0, 1, 9, []), (9, .iload_n 2, 1, 10, []), (10, .invokevirtual 144, 3, 13, []), (13, .ifCond .ne 6, 3, 16, [19]), (16, .bipush (-2), 2, 18, []), (18, .ireturn, 1, 19, []), (19, .iconst 1, 1, 20, []), (20, .istore_n 3, 1, 21, []), (21, .iconst 0, 1, 22, []), (22, .istore 4, 2, 24, []), (24, .iload 4, 2, 26, []), (26, .sipush 411, 3, 29, []), (29, .if_icmp .ge 36, 3, 32, [65]), (32, .iload_n 3, 1, 33, []), (33, .ifCond .eq 24, 3, 36, [57]), (36, .aload_n 0, 1, 37, []), (37, .iload_n 1, 1, 38, []), (38, .iload 4, 2, 40, []), (40, .invokevirtual 140, 3, 43, []), (43, .aload_n 0, 1, 44, []), (44, .iload_n 2, 1, 45, []), (45, .iload 4, 2, 47, []), (47, .invokevirtual 140, 3, 50, []), (50, .if_icmp .ne 7, 3, 53, [57]), (53, .iconst 1, 1, 54, []), (54, .goto 4, 3, 57, [58]), (57, .iconst 0, 1, 58, []), (58, .istore_n 3, 1, 59, []), (59, .iinc 4 1, 3, 62, []), (62, .goto (-38), 3, 65, [24]), (65, .iload_n 3, 1, 66, []), (66, .ifCond .eq 7, 3, 69, [73]), (69, .iconst 1, 1, 70, []), (70, .goto 4, 3, 73, [74]), (73, .iconst 0, 1, 74, []), (74, .ireturn, 1, 75, [])]
def m_X9_alike : am_M := (yX9_alike, cX9_alike, 5, (some .int), 9, am_at k_X9_alike)
theorem ok_X9_alike : am_ok m_X9_alike := am_ok_at (by unfold am_ck; decide +kernel)
def k_X9_finding : List (Nat × Instr × Nat × Nat × List Nat) := [(0, .aload_n 0, 1, 1, []), (1, .getfield 92, 3, 4, []), (4, .ireturn, 1, 5, [])]
def m_X9_finding : am_M := (yX9_finding, cX9_finding, 1, (some .int), 9, am_at k_X9_finding)
theorem ok_X9_finding : am_ok m_X9_finding := am_ok_at (by unfold am_ck; decide +kernel)
def k_X9_told_0 : List (Nat × Instr × Nat × Nat × List Nat) := [(0, .iload_n 1, 1, 1, []), (1, .iconst 0, 1, 2, []), (2, .iconst 3, 1, 3, []), (3, .invokestatic 101, 3, 6, []), (6, .ifCond .eq 43, 3, 9, [49]), (9, .iload_n 1, 1, 10, []), (10, .ifCond .ne 10, 3, 13, [20]), (13, .aload_n 0, 1, 14, []), (14, .getfield 98, 3, 17, []), (17, .goto 31, 3, 20, [48]), (20, .iload_n 1, 1, 21, []), (21, .iconst 1, 1, 22, []), (22, .if_icmp .ne 10, 3, 25, [32]), (25, .aload_n 0, 1, 26, []), (26, .getfield 105, 3, 29, []), (29, .goto 19, 3, 32, [48]), (32, .iload_n 1, 1, 33, []), (33, .iconst 2, 1, 34, []), (34, .if_icmp .ne 10, 3, 37, [44]), (37, .aload_n 0, 1, 38, []), (38, .getfield 133, 3, 41, []), (41, .goto 7, 3, 44, [48]), (44, .aload_n 0, 1, 45, []), (45, .getfield 95, 3, 48, []), (48, .ireturn, 1, 49, []), (49, .iload_n 1, 1, 50, []), (50, .bipush 10, 2, 52, []), (52, .bipush 13, 2, 54, []), (54, .invokestatic 101, 3, 57, []), (57, .ifCond .eq 13, 3, 60, [70]), (60, .aload_n 0, 1, 61, []), (61, .getfield 49, 3, 64, [])]
def k_X9_told_1 : List (Nat × Instr × Nat × Nat × List Nat) := [(64, .iload_n 1, 1, 65, []), (65, .bipush 10, 2, 67, []), (67, .isub, 1, 68, []), (68, .iaload, 1, 69, []), (69, .ireturn, 1, 70, []), (70, .iload_n 1, 1, 71, []), (71, .bipush 10, 2, 73, []), (73, .irem, 1, 74, []), (74, .istore_n 2, 1, 75, []), (75, .iload_n 1, 1, 76, []), (76, .bipush 20, 2, 78, []), (78, .bipush 59, 2, 80, []), (80, .invokestatic 101, 3, 83, []), (83, .ifCond .eq 11, 3, 86, [94]), (86, .aload_n 0, 1, 87, []), (87, .iload_n 2, 1, 88, []), (88, .invokevirtual 144, 3, 91, []), (91, .ifCond .ne 6, 3, 94, [97]), (94, .bipush (-2), 2, 96, []), (96, .ireturn, 1, 97, []), (97, .aload_n 0, 1, 98, []), (98, .iload_n 2, 1, 99, []), (99, .iload_n 1, 1, 100, []), (100, .bipush 30, 2, 102, []), (102, .if_icmp .ge 7, 3, 105, [109]), (105, .iconst 0, 1, 106, []), (106, .goto 28, 3, 109, [134]), (109, .iload_n 1, 1, 110, []), (110, .bipush 40, 2, 112, []), (112, .if_icmp .ge 8, 3, 115, [120]), (115, .bipush 25, 2, 117, []), (117, .goto 17, 3, 120, [134])]
def k_X9_told_2 : List (Nat × Instr × Nat × Nat × List Nat) := [(120, .iload_n 1, 1, 121, []), (121, .bipush 50, 2, 123, []), (123, .if_icmp .ge 8, 3, 126, [131]), (126, .bipush 110, 2, 128, []), (128, .goto 6, 3, 131, [134]), (131, .sipush 411, 3, 134, []), (134, .invokevirtual 140, 3, 137, []), (137, .ireturn, 1, 138, [])]
def k_X9_told : List (Nat × List (Nat × Instr × Nat × Nat × List Nat)) := [(64, k_X9_told_0), (120, k_X9_told_1), (138, k_X9_told_2)]
def m_X9_told : am_M := (yX9_told, cX9_told, 3, (some .int), 9, am_a2 k_X9_told)
theorem ok_X9_told_0 : ∀ q ∈ k_X9_told_0, am_ck cX9_told q := by unfold am_ck; decide +kernel
theorem ok_X9_told_1 : ∀ q ∈ k_X9_told_1, am_ck cX9_told q := by unfold am_ck; decide +kernel
theorem ok_X9_told_2 : ∀ q ∈ k_X9_told_2, am_ck cX9_told q := by unfold am_ck; decide +kernel
theorem ok_X9_told : am_ok m_X9_told := am_ok_a2 (List.forall_mem_cons.mpr ⟨ok_X9_told_0, List.forall_mem_cons.mpr ⟨ok_X9_told_1, List.forall_mem_cons.mpr ⟨ok_X9_told_2, fun _ h => absurd h List.not_mem_nil⟩⟩⟩)
def k_X0_init_0 : List (Nat × Instr × Nat × Nat × List Nat) := [(0, .aload_n 0, 1, 1, []), (1, .invokespecial 3, 3, 4, []), (4, .aload_n 0, 1, 5, []), (5, .bipush 10, 2, 7, []), (7, .newarray .int, 2, 9, []), (9, .putfield 9, 3, 12, []), (12, .aload_n 0, 1, 13, []), (13, .bipush 24, 2, 15, []), (15, .newarray .int, 2, 17, []), (17, .putfield 15, 3, 20, []), (20, .aload_n 0, 1, 21, []), (21, .bipush 10, 2, 23, []), (23, .newarray .int, 2, 25, []), (25, .putfield 18, 3, 28, []), (28, .aload_n 0, 1, 29, []), (29, .bipush 10, 2, 31, []), (31, .newarray .int, 2, 33, []), (33, .putfield 21, 3, 36, []), (36, .aload_n 0, 1, 37, []), (37, .bipush 10, 2, 39, []), (39, .newarray .int, 2, 41, []), (41, .putfield 24, 3, 44, []), (44, .aload_n 0, 1, 45, []), (45, .bipush 10, 2, 47, []), (47, .newarray .int, 2, 49, []), (49, .putfield 27, 3, 52, []), (52, .aload_n 0, 1, 53, []), (53, .bipush 110, 2, 55, []), (55, .newarray .boolean, 2, 57, []), (57, .putfield 30, 3, 60, []), (60, .aload_n 0, 1, 61, []), (61, .bipush 110, 2, 63, [])]
def k_X0_init_1 : List (Nat × Instr × Nat × Nat × List Nat) := [(63, .newarray .boolean, 2, 65, []), (65, .putfield 34, 3, 68, []), (68, .aload_n 0, 1, 69, []), (69, .bipush 110, 2, 71, []), (71, .newarray .int, 2, 73, []), (73, .putfield 37, 3, 76, []), (76, .aload_n 0, 1, 77, []), (77, .bipush 10, 2, 79, []), (79, .newarray .int, 2, 81, []), (81, .putfield 40, 3, 84, []), (84, .aload_n 0, 1, 85, []), (85, .bipush 10, 2, 87, []), (87, .newarray .int, 2, 89, []), (89, .putfield 43, 3, 92, []), (92, .aload_n 0, 1, 93, []), (93, .iconst 0, 1, 94, []), (94, .putfield 46, 3, 97, []), (97, .aload_n 0, 1, 98, []), (98, .iconst 0, 1, 99, []), (99, .putfield 50, 3, 102, []), (102, .return_, 1, 103, [])]
def k_X0_init : List (Nat × List (Nat × Instr × Nat × Nat × List Nat)) := [(63, k_X0_init_0), (103, k_X0_init_1)]
def m_X0_init : am_M := (yX0_init, cX0_init, 1, none, 0, am_a2 k_X0_init)
theorem ok_X0_init_0 : ∀ q ∈ k_X0_init_0, am_ck cX0_init q := by unfold am_ck; decide +kernel
theorem ok_X0_init_1 : ∀ q ∈ k_X0_init_1, am_ck cX0_init q := by unfold am_ck; decide +kernel
theorem ok_X0_init : am_ok m_X0_init := am_ok_a2 (List.forall_mem_cons.mpr ⟨ok_X0_init_0, List.forall_mem_cons.mpr ⟨ok_X0_init_1, fun _ h => absurd h List.not_mem_nil⟩⟩)
def k_X0_brokenIn : List (Nat × Instr × Nat × Nat × List Nat) := [(0, .iload_n 0, 1, 1, []), (1, .ldc 53, 2, 3, []), (3, .idiv, 1, 4, []), (4, .ireturn, 1, 5, [])]
def m_X0_brokenIn : am_M := (yX0_brokenIn, cX0_brokenIn, 1, (some .int), 0, am_at k_X0_brokenIn)
theorem ok_X0_brokenIn : am_ok m_X0_brokenIn := am_ok_at (by unfold am_ck; decide +kernel)
def k_X0_gather : List (Nat × Instr × Nat × Nat × List Nat) := [(0, .aload_n 0, 1, 1, []), (1, .iconst 0, 1, 2, []), (2, .putfield 46, 3, 5, []), (5, .iconst 0, 1, 6, []), (6, .istore_n 2, 1, 7, []), (7, .iload_n 2, 1, 8, []), (8, .bipush 24, 2, 10, []), (10, .if_icmp .ge 65, 3, 13, [75]), (13, .aload_n 0, 1, 14, []), (14, .getfield 15, 3, 17, []), (17, .iload_n 2, 1, 18, []), (18, .iconst (-1), 1, 19, []), (19, .iastore, 1, 20, []), (20, .aload_n 1, 1, 21, []), (21, .getfield 54, 3, 24, []), (24, .iload_n 2, 1, 25, []), (25, .iaload, 1, 26, []), (26, .iconst 1, 1, 27, []), (27, .if_icmp .ne 42, 3, 30, [69]), (30, .aload_n 0, 1, 31, []), (31, .getfield 46, 3, 34, []), (34, .bipush 10, 2, 36, []), (36, .if_icmp .ge 33, 3, 39, [69]), (39, .aload_n 0, 1, 40, []), (40, .getfield 15, 3, 43, []), (43, .iload_n 2, 1, 44, []), (44, .aload_n 0, 1, 45, []), (45, .getfield 46, 3, 48, []), (48, .iastore, 1, 49, []), (49, .aload_n 0, 1, 50, []), (50, .getfield 9, 3, 53, []), (53, .aload_n 0, 1, 54, []), (54, .getfield 46, 3, 57, []), (57, .iload_n 2, 1, 58, []), (58, .iastore, 1, 59, []), (59, .aload_n 0, 1, 60, []), (60, .dup, 1, 61, []), (61, .getfield 46, 3, 64, []), (64, .iconst 1, 1, 65, []), (65, .iadd, 1, 66, []), (66, .putfield 46, 3, 69, []), (69, .iinc 2 1, 3, 72, []), (72, .goto (-65), 3, 75, [7]), (75, .aload_n 0, 1, 76, []), (76, .getfield 46, 3, 79, []), (79, .ireturn, 1, 80, [])]
def m_X0_gather : am_M := (yX0_gather, cX0_gather, 3, (some .int), 0, am_at k_X0_gather)
theorem ok_X0_gather : am_ok m_X0_gather := am_ok_at (by unfold am_ck; decide +kernel)
def k_X0_askWorths : List (Nat × Instr × Nat × Nat × List Nat) := [(0, .iconst 0, 1, 1, []), (1, .istore_n 3, 1, 2, []), (2, .iload_n 3, 1, 3, []), (3, .aload_n 0, 1, 4, []), (4, .getfield 46, 3, 7, []), (7, .if_icmp .ge 37, 3, 10, [44]), (10, .aload_n 0, 1, 11, []), (11, .getfield 18, 3, 14, []), (14, .iload_n 3, 1, 15, []), (15, .aload_n 1, 1, 16, []), (16, .aload_n 0, 1, 17, []), (17, .getfield 9, 3, 20, []), (20, .iload_n 3, 1, 21, []), (21, .iaload, 1, 22, []), (22, .aload_n 2, 1, 23, []), (23, .invokevirtual 59, 3, 26, []), (26, .iastore, 1, 27, []), (27, .aload_n 0, 1, 28, []), (28, .getfield 18, 3, 31, []), (31, .iload_n 3, 1, 32, []), (32, .iaload, 1, 33, []), (33, .ifCond .ge 5, 3, 36, [38]), (36, .iconst 0, 1, 37, []), (37, .ireturn, 1, 38, []), (38, .iinc 3 1, 3, 41, []), (41, .goto (-39), 3, 44, [2]), (44, .iconst 1, 1, 45, []), (45, .ireturn, 1, 46, [])]
def m_X0_askWorths : am_M := (yX0_askWorths, cX0_askWorths, 4, (some .boolean), 0, am_at k_X0_askWorths)
theorem ok_X0_askWorths : am_ok m_X0_askWorths := am_ok_at (by unfold am_ck; decide +kernel)
def k_X0_recall_0 : List (Nat × Instr × Nat × Nat × List Nat) := [(0, .aload_n 0, 1, 1, []), (1, .getfield 21, 3, 4, []), (4, .iconst 0, 1, 5, []), (5, .invokestatic 65, 3, 8, []), (8, .aload_n 0, 1, 9, []), (9, .getfield 24, 3, 12, []), (12, .iconst 0, 1, 13, []), (13, .invokestatic 65, 3, 16, []), (16, .aload_n 0, 1, 17, []), (17, .getfield 27, 3, 20, []), (20, .iconst 0, 1, 21, []), (21, .invokestatic 65, 3, 24, []), (24, .iconst 0, 1, 25, []), (25, .istore_n 2, 1, 26, []), (26, .iload_n 2, 1, 27, []), (27, .bipush 110, 2, 29, []), (29, .if_icmp .ge 16, 3, 32, [45]), (32, .aload_n 0, 1, 33, []), (33, .getfield 30, 3, 36, []), (36, .iload_n 2, 1, 37, []), (37, .iconst 0, 1, 38, []), (38, .bastore, 1, 39, []), (39, .iinc 2 1, 3, 42, []), (42, .goto (-16), 3, 45, [26]), (45, .iconst 0, 1, 46, []), (46, .istore_n 2, 1, 47, []), (47, .iload_n 2, 1, 48, []), (48, .aload_n 1, 1, 49, []), (49, .getfield 71, 3, 52, []), (52, .if_icmp .ge 52, 3, 55, [104]), (55, .iconst 0, 1, 56, []), (56, .istore_n 3, 1, 57, [])]
def k_X0_recall_1 : List (Nat × Instr × Nat × Nat × List Nat) := [(57, .iload_n 3, 1, 58, []), (58, .aload_n 1, 1, 59, []), (59, .getfield 74, 3, 62, []), (62, .iload_n 2, 1, 63, []), (63, .iaload, 1, 64, []), (64, .if_icmp .ge 34, 3, 67, [98]), (67, .iload_n 2, 1, 68, []), (68, .iconst 5, 1, 69, []), (69, .imul, 1, 70, []), (70, .iload_n 3, 1, 71, []), (71, .iadd, 1, 72, []), (72, .istore 4, 2, 74, []), (74, .aload_n 0, 1, 75, []), (75, .aload_n 1, 1, 76, []), (76, .getfield 77, 3, 79, []), (79, .iload 4, 2, 81, []), (81, .iaload, 1, 82, []), (82, .aload_n 1, 1, 83, []), (83, .getfield 80, 3, 86, []), (86, .iload 4, 2, 88, []), (88, .iaload, 1, 89, []), (89, .invokevirtual 83, 3, 92, []), (92, .iinc 3 1, 3, 95, []), (95, .goto (-38), 3, 98, [57]), (98, .iinc 2 1, 3, 101, []), (101, .goto (-54), 3, 104, [47]), (104, .return_, 1, 105, [])]
def k_X0_recall : List (Nat × List (Nat × Instr × Nat × Nat × List Nat)) := [(57, k_X0_recall_0), (105, k_X0_recall_1)]
def m_X0_recall : am_M := (yX0_recall, cX0_recall, 5, none, 0, am_a2 k_X0_recall)
theorem ok_X0_recall_0 : ∀ q ∈ k_X0_recall_0, am_ck cX0_recall q := by unfold am_ck; decide +kernel
theorem ok_X0_recall_1 : ∀ q ∈ k_X0_recall_1, am_ck cX0_recall q := by unfold am_ck; decide +kernel
theorem ok_X0_recall : am_ok m_X0_recall := am_ok_a2 (List.forall_mem_cons.mpr ⟨ok_X0_recall_0, List.forall_mem_cons.mpr ⟨ok_X0_recall_1, fun _ h => absurd h List.not_mem_nil⟩⟩)
def k_X0_recallPair : List (Nat × Instr × Nat × Nat × List Nat) := [(0, .aload_n 0, 1, 1, []), (1, .getfield 15, 3, 4, []), (4, .iload_n 1, 1, 5, []), (5, .iaload, 1, 6, []), (6, .istore_n 3, 1, 7, []), (7, .iload_n 2, 1, 8, []), (8, .bipush 99, 2, 10, []), (10, .if_icmp .ne 11, 3, 13, [21]), (13, .aload_n 0, 1, 14, []), (14, .iload_n 3, 1, 15, []), (15, .bipush 10, 2, 17, []), (17, .invokevirtual 87, 3, 20, []), (20, .return_, 1, 21, []), (21, .aload_n 0, 1, 22, []), (22, .getfield 15, 3, 25, []), (25, .iload_n 2, 1, 26, []), (26, .iaload, 1, 27, []), (27, .istore 4, 2, 29, []), (29, .aload_n 0, 1, 30, []), (30, .iload_n 3, 1, 31, []), (31, .iload 4, 2, 33, []), (33, .invokevirtual 87, 3, 36, []), (36, .aload_n 0, 1, 37, []), (37, .iload 4, 2, 39, []), (39, .iload_n 3, 1, 40, []), (40, .invokevirtual 87, 3, 43, []), (43, .aload_n 0, 1, 44, []), (44, .iload_n 3, 1, 45, []), (45, .iconst 1, 1, 46, []), (46, .invokevirtual 90, 3, 49, []), (49, .aload_n 0, 1, 50, []), (50, .iload 4, 2, 52, []), (52, .iconst (-1), 1, 53, []), (53, .invokevirtual 90, 3, 56, []), (56, .return_, 1, 57, [])]
def m_X0_recallPair : am_M := (yX0_recallPair, cX0_recallPair, 5, none, 0, am_at k_X0_recallPair)
theorem ok_X0_recallPair : am_ok m_X0_recallPair := am_ok_at (by unfold am_ck; decide +kernel)
def k_X0_recallSpot : List (Nat × Instr × Nat × Nat × List Nat) := [(0, .iload_n 1, 1, 1, []), (1, .iconst (-1), 1, 2, []), (2, .if_icmp .eq 20, 3, 5, [22]), (5, .iload_n 2, 1, 6, []), (6, .iconst (-1), 1, 7, []), (7, .if_icmp .eq 15, 3, 10, [22]), (10, .aload_n 0, 1, 11, []), (11, .getfield 30, 3, 14, []), (14, .iload_n 1, 1, 15, []), (15, .bipush 11, 2, 17, []), (17, .imul, 1, 18, []), (18, .iload_n 2, 1, 19, []), (19, .iadd, 1, 20, []), (20, .iconst 1, 1, 21, []), (21, .bastore, 1, 22, []), (22, .return_, 1, 23, [])]
def m_X0_recallSpot : am_M := (yX0_recallSpot, cX0_recallSpot, 3, none, 0, am_at k_X0_recallSpot)
theorem ok_X0_recallSpot : am_ok m_X0_recallSpot := am_ok_at (by unfold am_ck; decide +kernel)
def k_X0_recallColour : List (Nat × Instr × Nat × Nat × List Nat) := [(0, .iload_n 1, 1, 1, []), (1, .iconst (-1), 1, 2, []), (2, .if_icmp .eq 32, 3, 5, [34]), (5, .aload_n 0, 1, 6, []), (6, .getfield 21, 3, 9, []), (9, .iload_n 1, 1, 10, []), (10, .dup2, 1, 11, []), (11, .iaload, 1, 12, []), (12, .iload_n 2, 1, 13, []), (13, .iadd, 1, 14, []), (14, .iastore, 1, 15, []), (15, .aload_n 0, 1, 16, []), (16, .getfield 27, 3, 19, []), (19, .iload_n 1, 1, 20, []), (20, .aload_n 0, 1, 21, []), (21, .getfield 24, 3, 24, []), (24, .iload_n 1, 1, 25, []), (25, .iaload, 1, 26, []), (26, .iastore, 1, 27, []), (27, .aload_n 0, 1, 28, []), (28, .getfield 24, 3, 31, []), (31, .iload_n 1, 1, 32, []), (32, .iload_n 2, 1, 33, []), (33, .iastore, 1, 34, []), (34, .return_, 1, 35, [])]
def m_X0_recallColour : am_M := (yX0_recallColour, cX0_recallColour, 3, none, 0, am_at k_X0_recallColour)
theorem ok_X0_recallColour : am_ok m_X0_recallColour := am_ok_at (by unfold am_ck; decide +kernel)
def k_X0_priceAll_0 : List (Nat × Instr × Nat × Nat × List Nat) := [(0, .ldc 93, 2, 2, []), (2, .istore_n 2, 1, 3, []), (3, .iconst 0, 1, 4, []), (4, .istore_n 3, 1, 5, []), (5, .iload_n 3, 1, 6, []), (6, .aload_n 0, 1, 7, []), (7, .getfield 46, 3, 10, []), (10, .if_icmp .ge 22, 3, 13, [32]), (13, .iload_n 2, 1, 14, []), (14, .aload_n 1, 1, 15, []), (15, .aload_n 0, 1, 16, []), (16, .getfield 9, 3, 19, []), (19, .iload_n 3, 1, 20, []), (20, .iaload, 1, 21, []), (21, .iaload, 1, 22, []), (22, .invokestatic 94, 3, 25, []), (25, .istore_n 2, 1, 26, []), (26, .iinc 3 1, 3, 29, []), (29, .goto (-24), 3, 32, [5]), (32, .iconst 0, 1, 33, []), (33, .istore_n 3, 1, 34, []), (34, .iload_n 3, 1, 35, []), (35, .aload_n 0, 1, 36, []), (36, .getfield 46, 3, 39, []), (39, .if_icmp .ge 83, 3, 42, [122]), (42, .aload_n 0, 1, 43, []), (43, .getfield 37, 3, 46, []), (46, .iload_n 3, 1, 47, []), (47, .bipush 11, 2, 49, []), (49, .imul, 1, 50, []), (50, .bipush 10, 2, 52, []), (52, .iadd, 1, 53, [])]
def k_X0_priceAll_1 : List (Nat × Instr × Nat × Nat × List Nat) := [(53, .aload_n 0, 1, 54, []), (54, .iload_n 3, 1, 55, []), (55, .bipush 10, 2, 57, []), (57, .aload_n 1, 1, 58, []), (58, .aload_n 0, 1, 59, []), (59, .getfield 9, 3, 62, []), (62, .iload_n 3, 1, 63, []), (63, .iaload, 1, 64, []), (64, .iaload, 1, 65, []), (65, .iload_n 2, 1, 66, []), (66, .isub, 1, 67, []), (67, .invokevirtual 100, 3, 70, []), (70, .iastore, 1, 71, []), (71, .iload_n 3, 1, 72, []), (72, .iconst 1, 1, 73, []), (73, .iadd, 1, 74, []), (74, .istore 4, 2, 76, []), (76, .iload 4, 2, 78, []), (78, .aload_n 0, 1, 79, []), (79, .getfield 46, 3, 82, []), (82, .if_icmp .ge 34, 3, 85, [116]), (85, .aload_n 0, 1, 86, []), (86, .iload_n 3, 1, 87, []), (87, .iload 4, 2, 89, []), (89, .aload_n 1, 1, 90, []), (90, .aload_n 0, 1, 91, []), (91, .getfield 9, 3, 94, []), (94, .iload_n 3, 1, 95, []), (95, .iaload, 1, 96, []), (96, .iaload, 1, 97, []), (97, .aload_n 1, 1, 98, []), (98, .aload_n 0, 1, 99, [])]
def k_X0_priceAll_2 : List (Nat × Instr × Nat × Nat × List Nat) := [(99, .getfield 9, 3, 102, []), (102, .iload 4, 2, 104, []), (104, .iaload, 1, 105, []), (105, .iaload, 1, 106, []), (106, .isub, 1, 107, []), (107, .invokevirtual 104, 3, 110, []), (110, .iinc 4 1, 3, 113, []), (113, .goto (-37), 3, 116, [76]), (116, .iinc 3 1, 3, 119, []), (119, .goto (-85), 3, 122, [34]), (122, .return_, 1, 123, [])]
def k_X0_priceAll : List (Nat × List (Nat × Instr × Nat × Nat × List Nat)) := [(53, k_X0_priceAll_0), (99, k_X0_priceAll_1), (123, k_X0_priceAll_2)]
def m_X0_priceAll : am_M := (yX0_priceAll, cX0_priceAll, 5, none, 0, am_a2 k_X0_priceAll)
theorem ok_X0_priceAll_0 : ∀ q ∈ k_X0_priceAll_0, am_ck cX0_priceAll q := by unfold am_ck; decide +kernel
theorem ok_X0_priceAll_1 : ∀ q ∈ k_X0_priceAll_1, am_ck cX0_priceAll q := by unfold am_ck; decide +kernel
theorem ok_X0_priceAll_2 : ∀ q ∈ k_X0_priceAll_2, am_ck cX0_priceAll q := by unfold am_ck; decide +kernel
theorem ok_X0_priceAll : am_ok m_X0_priceAll := am_ok_a2 (List.forall_mem_cons.mpr ⟨ok_X0_priceAll_0, List.forall_mem_cons.mpr ⟨ok_X0_priceAll_1, List.forall_mem_cons.mpr ⟨ok_X0_priceAll_2, fun _ h => absurd h List.not_mem_nil⟩⟩⟩)
def k_X0_basePrice : List (Nat × Instr × Nat × Nat × List Nat) := [(0, .sipush 200, 3, 3, []), (3, .iload_n 3, 1, 4, []), (4, .imul, 1, 5, []), (5, .iload_n 3, 1, 6, []), (6, .imul, 1, 7, []), (7, .aload_n 0, 1, 8, []), (8, .getfield 30, 3, 11, []), (11, .iload_n 1, 1, 12, []), (12, .bipush 11, 2, 14, []), (14, .imul, 1, 15, []), (15, .iload_n 2, 1, 16, []), (16, .iadd, 1, 17, []), (17, .baload, 1, 18, []), (18, .ifCond .eq 8, 3, 21, [26]), (21, .ldc 53, 2, 23, []), (23, .goto 4, 3, 26, [27]), (26, .iconst 0, 1, 27, []), (27, .iadd, 1, 28, []), (28, .ireturn, 1, 29, [])]
def m_X0_basePrice : am_M := (yX0_basePrice, cX0_basePrice, 4, (some .int), 0, am_at k_X0_basePrice)
theorem ok_X0_basePrice : am_ok m_X0_basePrice := am_ok_at (by unfold am_ck; decide +kernel)
def k_X0_priceTwo_0 : List (Nat × Instr × Nat × Nat × List Nat) := [(0, .aload_n 0, 1, 1, []), (1, .iload_n 1, 1, 2, []), (2, .iconst 1, 1, 3, []), (3, .invokevirtual 108, 3, 6, []), (6, .aload_n 0, 1, 7, []), (7, .iload_n 2, 1, 8, []), (8, .iconst (-1), 1, 9, []), (9, .invokevirtual 108, 3, 12, []), (12, .iadd, 1, 13, []), (13, .istore 4, 2, 15, []), (15, .aload_n 0, 1, 16, []), (16, .iload_n 1, 1, 17, []), (17, .iconst (-1), 1, 18, []), (18, .invokevirtual 108, 3, 21, []), (21, .aload_n 0, 1, 22, []), (22, .iload_n 2, 1, 23, []), (23, .iconst 1, 1, 24, []), (24, .invokevirtual 108, 3, 27, []), (27, .iadd, 1, 28, []), (28, .istore 5, 2, 30, []), (30, .iload_n 1, 1, 31, []), (31, .bipush 11, 2, 33, []), (33, .imul, 1, 34, []), (34, .iload_n 2, 1, 35, []), (35, .iadd, 1, 36, []), (36, .istore 6, 2, 38, []), (38, .aload_n 0, 1, 39, []), (39, .getfield 34, 3, 42, []), (42, .iload 6, 2, 44, []), (44, .iload 5, 2, 46, []), (46, .iload 4, 2, 48, []), (48, .if_icmp .ge 7, 3, 51, [55])]
def k_X0_priceTwo_1 : List (Nat × Instr × Nat × Nat × List Nat) := [(51, .iconst 1, 1, 52, []), (52, .goto 4, 3, 55, [56]), (55, .iconst 0, 1, 56, []), (56, .bastore, 1, 57, []), (57, .aload_n 0, 1, 58, []), (58, .getfield 37, 3, 61, []), (61, .iload 6, 2, 63, []), (63, .aload_n 0, 1, 64, []), (64, .iload_n 1, 1, 65, []), (65, .iload_n 2, 1, 66, []), (66, .iload_n 3, 1, 67, []), (67, .invokevirtual 100, 3, 70, []), (70, .aload_n 0, 1, 71, []), (71, .getfield 18, 3, 74, []), (74, .iload_n 1, 1, 75, []), (75, .iaload, 1, 76, []), (76, .aload_n 0, 1, 77, []), (77, .getfield 18, 3, 80, []), (80, .iload_n 2, 1, 81, []), (81, .iaload, 1, 82, []), (82, .isub, 1, 83, []), (83, .invokestatic 111, 3, 86, []), (86, .bipush 10, 2, 88, []), (88, .idiv, 1, 89, []), (89, .iadd, 1, 90, []), (90, .iload 4, 2, 92, []), (92, .iload 5, 2, 94, []), (94, .invokestatic 94, 3, 97, []), (97, .iadd, 1, 98, []), (98, .iastore, 1, 99, []), (99, .return_, 1, 100, [])]
def k_X0_priceTwo : List (Nat × List (Nat × Instr × Nat × Nat × List Nat)) := [(51, k_X0_priceTwo_0), (100, k_X0_priceTwo_1)]
def m_X0_priceTwo : am_M := (yX0_priceTwo, cX0_priceTwo, 7, none, 0, am_a2 k_X0_priceTwo)
theorem ok_X0_priceTwo_0 : ∀ q ∈ k_X0_priceTwo_0, am_ck cX0_priceTwo q := by unfold am_ck; decide +kernel
theorem ok_X0_priceTwo_1 : ∀ q ∈ k_X0_priceTwo_1, am_ck cX0_priceTwo q := by unfold am_ck; decide +kernel
theorem ok_X0_priceTwo : am_ok m_X0_priceTwo := am_ok_a2 (List.forall_mem_cons.mpr ⟨ok_X0_priceTwo_0, List.forall_mem_cons.mpr ⟨ok_X0_priceTwo_1, fun _ h => absurd h List.not_mem_nil⟩⟩)
def k_X0_colourPrice : List (Nat × Instr × Nat × Nat × List Nat) := [(0, .aload_n 0, 1, 1, []), (1, .getfield 21, 3, 4, []), (4, .iload_n 1, 1, 5, []), (5, .iaload, 1, 6, []), (6, .iload_n 2, 1, 7, []), (7, .imul, 1, 8, []), (8, .ifCond .le 7, 3, 11, [15]), (11, .iconst 1, 1, 12, []), (12, .goto 4, 3, 15, [16]), (15, .iconst 0, 1, 16, []), (16, .istore_n 3, 1, 17, []), (17, .aload_n 0, 1, 18, []), (18, .getfield 24, 3, 21, []), (21, .iload_n 1, 1, 22, []), (22, .iaload, 1, 23, []), (23, .iload_n 2, 1, 24, []), (24, .if_icmp .ne 17, 3, 27, [41]), (27, .aload_n 0, 1, 28, []), (28, .getfield 27, 3, 31, []), (31, .iload_n 1, 1, 32, []), (32, .iaload, 1, 33, []), (33, .iload_n 2, 1, 34, []), (34, .if_icmp .ne 7, 3, 37, [41]), (37, .iconst 1, 1, 38, []), (38, .goto 4, 3, 41, [42]), (41, .iconst 0, 1, 42, []), (42, .istore 4, 2, 44, []), (44, .iload_n 3, 1, 45, []), (45, .ifCond .eq 8, 3, 48, [53]), (48, .bipush 40, 2, 50, []), (50, .goto 4, 3, 53, [54]), (53, .iconst 0, 1, 54, []), (54, .iload 4, 2, 56, []), (56, .ifCond .eq 8, 3, 59, [64]), (59, .ldc 53, 2, 61, []), (61, .goto 4, 3, 64, [65]), (64, .iconst 0, 1, 65, []), (65, .iadd, 1, 66, []), (66, .ireturn, 1, 67, [])]
def m_X0_colourPrice : am_M := (yX0_colourPrice, cX0_colourPrice, 5, (some .int), 0, am_at k_X0_colourPrice)
theorem ok_X0_colourPrice : am_ok m_X0_colourPrice := am_ok_at (by unfold am_ck; decide +kernel)
def k_X0_findWay : List (Nat × Instr × Nat × Nat × List Nat) := [(0, .aload_n 0, 1, 1, []), (1, .getfield 40, 3, 4, []), (4, .iconst (-1), 1, 5, []), (5, .invokestatic 65, 3, 8, []), (8, .aload_n 0, 1, 9, []), (9, .ldc 93, 2, 11, []), (11, .putfield 50, 3, 14, []), (14, .aload_n 0, 1, 15, []), (15, .iconst 0, 1, 16, []), (16, .aload_n 0, 1, 17, []), (17, .getfield 46, 3, 20, []), (20, .iconst 2, 1, 21, []), (21, .irem, 1, 22, []), (22, .iconst 1, 1, 23, []), (23, .if_icmp .ne 7, 3, 26, [30]), (26, .iconst 1, 1, 27, []), (27, .goto 4, 3, 30, [31]), (30, .iconst 0, 1, 31, []), (31, .iconst 0, 1, 32, []), (32, .invokevirtual 115, 3, 35, []), (35, .return_, 1, 36, [])]
def m_X0_findWay : am_M := (yX0_findWay, cX0_findWay, 1, none, 0, am_at k_X0_findWay)
theorem ok_X0_findWay : am_ok m_X0_findWay := am_ok_at (by unfold am_ck; decide +kernel)
def k_X0_search_0 : List (Nat × Instr × Nat × Nat × List Nat) := [(0, .iload_n 1, 1, 1, []), (1, .aload_n 0, 1, 2, []), (2, .getfield 50, 3, 5, []), (5, .if_icmp .ge 9, 3, 8, [14]), (8, .iload_n 3, 1, 9, []), (9, .bipush 10, 2, 11, []), (11, .if_icmp .le 4, 3, 14, [15]), (14, .return_, 1, 15, []), (15, .aload_n 0, 1, 16, []), (16, .invokevirtual 119, 3, 19, []), (19, .istore 4, 2, 21, []), (21, .iload 4, 2, 23, []), (23, .iconst (-1), 1, 24, []), (24, .if_icmp .ne 24, 3, 27, [48]), (27, .aload_n 0, 1, 28, []), (28, .iload_n 1, 1, 29, []), (29, .putfield 50, 3, 32, []), (32, .aload_n 0, 1, 33, []), (33, .getfield 40, 3, 36, []), (36, .iconst 0, 1, 37, []), (37, .aload_n 0, 1, 38, []), (38, .getfield 43, 3, 41, []), (41, .iconst 0, 1, 42, []), (42, .bipush 10, 2, 44, []), (44, .invokestatic 123, 3, 47, []), (47, .return_, 1, 48, []), (48, .iload 4, 2, 50, []), (50, .iconst 1, 1, 51, []), (51, .iadd, 1, 52, []), (52, .istore 5, 2, 54, []), (54, .iload 5, 2, 56, []), (56, .aload_n 0, 1, 57, [])]
def k_X0_search_1 : List (Nat × Instr × Nat × Nat × List Nat) := [(57, .getfield 46, 3, 60, []), (60, .if_icmp .ge 69, 3, 63, [129]), (63, .aload_n 0, 1, 64, []), (64, .getfield 40, 3, 67, []), (67, .iload 5, 2, 69, []), (69, .iaload, 1, 70, []), (70, .iconst (-1), 1, 71, []), (71, .if_icmp .ne 52, 3, 74, [123]), (74, .aload_n 0, 1, 75, []), (75, .getfield 40, 3, 78, []), (78, .iload 4, 2, 80, []), (80, .iload 5, 2, 82, []), (82, .iastore, 1, 83, []), (83, .aload_n 0, 1, 84, []), (84, .getfield 40, 3, 87, []), (87, .iload 5, 2, 89, []), (89, .iload 4, 2, 91, []), (91, .iastore, 1, 92, []), (92, .aload_n 0, 1, 93, []), (93, .iload_n 1, 1, 94, []), (94, .aload_n 0, 1, 95, []), (95, .getfield 37, 3, 98, []), (98, .iload 4, 2, 100, []), (100, .bipush 11, 2, 102, []), (102, .imul, 1, 103, []), (103, .iload 5, 2, 105, []), (105, .iadd, 1, 106, []), (106, .iaload, 1, 107, []), (107, .iadd, 1, 108, []), (108, .iload_n 2, 1, 109, []), (109, .iload_n 3, 1, 110, []), (110, .iconst 1, 1, 111, [])]
def k_X0_search_2 : List (Nat × Instr × Nat × Nat × List Nat) := [(111, .iadd, 1, 112, []), (112, .invokevirtual 115, 3, 115, []), (115, .aload_n 0, 1, 116, []), (116, .getfield 40, 3, 119, []), (119, .iload 5, 2, 121, []), (121, .iconst (-1), 1, 122, []), (122, .iastore, 1, 123, []), (123, .iinc 5 1, 3, 126, []), (126, .goto (-72), 3, 129, [54]), (129, .iload_n 2, 1, 130, []), (130, .ifCond .eq 35, 3, 133, [165]), (133, .aload_n 0, 1, 134, []), (134, .getfield 40, 3, 137, []), (137, .iload 4, 2, 139, []), (139, .bipush 10, 2, 141, []), (141, .iastore, 1, 142, []), (142, .aload_n 0, 1, 143, []), (143, .iload_n 1, 1, 144, []), (144, .aload_n 0, 1, 145, []), (145, .getfield 37, 3, 148, []), (148, .iload 4, 2, 150, []), (150, .bipush 11, 2, 152, []), (152, .imul, 1, 153, []), (153, .bipush 10, 2, 155, []), (155, .iadd, 1, 156, []), (156, .iaload, 1, 157, []), (157, .iadd, 1, 158, []), (158, .iconst 0, 1, 159, []), (159, .iload_n 3, 1, 160, []), (160, .iconst 1, 1, 161, []), (161, .iadd, 1, 162, []), (162, .invokevirtual 115, 3, 165, [])]
def k_X0_search_3 : List (Nat × Instr × Nat × Nat × List Nat) := [(165, .aload_n 0, 1, 166, []), (166, .getfield 40, 3, 169, []), (169, .iload 4, 2, 171, []), (171, .iconst (-1), 1, 172, []), (172, .iastore, 1, 173, []), (173, .return_, 1, 174, [])]
def k_X0_search : List (Nat × List (Nat × Instr × Nat × Nat × List Nat)) := [(57, k_X0_search_0), (111, k_X0_search_1), (165, k_X0_search_2), (174, k_X0_search_3)]
def m_X0_search : am_M := (yX0_search, cX0_search, 6, none, 0, am_a2 k_X0_search)
theorem ok_X0_search_0 : ∀ q ∈ k_X0_search_0, am_ck cX0_search q := by unfold am_ck; decide +kernel
theorem ok_X0_search_1 : ∀ q ∈ k_X0_search_1, am_ck cX0_search q := by unfold am_ck; decide +kernel
theorem ok_X0_search_2 : ∀ q ∈ k_X0_search_2, am_ck cX0_search q := by unfold am_ck; decide +kernel
theorem ok_X0_search_3 : ∀ q ∈ k_X0_search_3, am_ck cX0_search q := by unfold am_ck; decide +kernel
theorem ok_X0_search : am_ok m_X0_search := am_ok_a2 (List.forall_mem_cons.mpr ⟨ok_X0_search_0, List.forall_mem_cons.mpr ⟨ok_X0_search_1, List.forall_mem_cons.mpr ⟨ok_X0_search_2, List.forall_mem_cons.mpr ⟨ok_X0_search_3, fun _ h => absurd h List.not_mem_nil⟩⟩⟩⟩)
def k_X0_firstFree : List (Nat × Instr × Nat × Nat × List Nat) := [(0, .iconst 0, 1, 1, []), (1, .istore_n 1, 1, 2, []), (2, .iload_n 1, 1, 3, []), (3, .aload_n 0, 1, 4, []), (4, .getfield 46, 3, 7, []), (7, .if_icmp .ge 21, 3, 10, [28]), (10, .aload_n 0, 1, 11, []), (11, .getfield 40, 3, 14, []), (14, .iload_n 1, 1, 15, []), (15, .iaload, 1, 16, []), (16, .iconst (-1), 1, 17, []), (17, .if_icmp .ne 5, 3, 20, [22]), (20, .iload_n 1, 1, 21, []), (21, .ireturn, 1, 22, []), (22, .iinc 1 1, 3, 25, []), (25, .goto (-23), 3, 28, [2]), (28, .iconst (-1), 1, 29, []), (29, .ireturn, 1, 30, [])]
def m_X0_firstFree : am_M := (yX0_firstFree, cX0_firstFree, 2, (some .int), 0, am_at k_X0_firstFree)
theorem ok_X0_firstFree : am_ok m_X0_firstFree := am_ok_at (by unfold am_ck; decide +kernel)
def k_X0_writeRound_0 : List (Nat × Instr × Nat × Nat × List Nat) := [(0, .aload_n 1, 1, 1, []), (1, .getfield 71, 3, 4, []), (4, .istore_n 3, 1, 5, []), (5, .iload_n 3, 1, 6, []), (6, .iconst 5, 1, 7, []), (7, .imul, 1, 8, []), (8, .istore 4, 2, 10, []), (10, .iconst 0, 1, 11, []), (11, .istore 5, 2, 13, []), (13, .iload 5, 2, 15, []), (15, .aload_n 0, 1, 16, []), (16, .getfield 46, 3, 19, []), (19, .if_icmp .ge 127, 3, 22, [146]), (22, .aload_n 0, 1, 23, []), (23, .getfield 43, 3, 26, []), (26, .iload 5, 2, 28, []), (28, .iaload, 1, 29, []), (29, .istore 6, 2, 31, []), (31, .iload 6, 2, 33, []), (33, .iload 5, 2, 35, []), (35, .if_icmp .le 105, 3, 38, [140]), (38, .iload 6, 2, 40, []), (40, .bipush 10, 2, 42, []), (42, .if_icmp .eq 23, 3, 45, [65]), (45, .aload_n 0, 1, 46, []), (46, .getfield 34, 3, 49, []), (49, .iload 5, 2, 51, []), (51, .bipush 11, 2, 53, []), (53, .imul, 1, 54, []), (54, .iload 6, 2, 56, []), (56, .iadd, 1, 57, []), (57, .baload, 1, 58, [])]
def k_X0_writeRound_1 : List (Nat × Instr × Nat × Nat × List Nat) := [(58, .ifCond .eq 7, 3, 61, [65]), (61, .iconst 1, 1, 62, []), (62, .goto 4, 3, 65, [66]), (65, .iconst 0, 1, 66, []), (66, .istore 7, 2, 68, []), (68, .iload 6, 2, 70, []), (70, .bipush 10, 2, 72, []), (72, .if_icmp .ne 8, 3, 75, [80]), (75, .bipush 99, 2, 77, []), (77, .goto 10, 3, 80, [87]), (80, .aload_n 0, 1, 81, []), (81, .getfield 9, 3, 84, []), (84, .iload 6, 2, 86, []), (86, .iaload, 1, 87, []), (87, .istore 8, 2, 89, []), (89, .aload_n 1, 1, 90, []), (90, .getfield 77, 3, 93, []), (93, .iload 4, 2, 95, []), (95, .iload 7, 2, 97, []), (97, .ifCond .eq 8, 3, 100, [105]), (100, .iload 8, 2, 102, []), (102, .goto 10, 3, 105, [112]), (105, .aload_n 0, 1, 106, []), (106, .getfield 9, 3, 109, []), (109, .iload 5, 2, 111, []), (111, .iaload, 1, 112, []), (112, .iastore, 1, 113, []), (113, .aload_n 1, 1, 114, []), (114, .getfield 80, 3, 117, []), (117, .iload 4, 2, 119, []), (119, .iload 7, 2, 121, []), (121, .ifCond .eq 13, 3, 124, [134])]
def k_X0_writeRound_2 : List (Nat × Instr × Nat × Nat × List Nat) := [(124, .aload_n 0, 1, 125, []), (125, .getfield 9, 3, 128, []), (128, .iload 5, 2, 130, []), (130, .iaload, 1, 131, []), (131, .goto 5, 3, 134, [136]), (134, .iload 8, 2, 136, []), (136, .iastore, 1, 137, []), (137, .iinc 4 1, 3, 140, []), (140, .iinc 5 1, 3, 143, []), (143, .goto (-130), 3, 146, [13]), (146, .aload_n 1, 1, 147, []), (147, .getfield 129, 3, 150, []), (150, .iload_n 3, 1, 151, []), (151, .iload_n 2, 1, 152, []), (152, .iastore, 1, 153, []), (153, .aload_n 1, 1, 154, []), (154, .getfield 74, 3, 157, []), (157, .iload_n 3, 1, 158, []), (158, .iload 4, 2, 160, []), (160, .iload_n 3, 1, 161, []), (161, .iconst 5, 1, 162, []), (162, .imul, 1, 163, []), (163, .isub, 1, 164, []), (164, .iastore, 1, 165, []), (165, .aload_n 1, 1, 166, []), (166, .getfield 132, 3, 169, []), (169, .iload_n 3, 1, 170, []), (170, .aload_n 0, 1, 171, []), (171, .getfield 50, 3, 174, []), (174, .iastore, 1, 175, []), (175, .aload_n 1, 1, 176, []), (176, .dup, 1, 177, [])]
def k_X0_writeRound_3 : List (Nat × Instr × Nat × Nat × List Nat) := [(177, .getfield 71, 3, 180, []), (180, .iconst 1, 1, 181, []), (181, .iadd, 1, 182, []), (182, .putfield 71, 3, 185, []), (185, .aload_n 1, 1, 186, []), (186, .getfield 74, 3, 189, []), (189, .iload_n 3, 1, 190, []), (190, .iaload, 1, 191, []), (191, .ireturn, 1, 192, [])]
def k_X0_writeRound : List (Nat × List (Nat × Instr × Nat × Nat × List Nat)) := [(58, k_X0_writeRound_0), (124, k_X0_writeRound_1), (177, k_X0_writeRound_2), (192, k_X0_writeRound_3)]
def m_X0_writeRound : am_M := (yX0_writeRound, cX0_writeRound, 9, (some .int), 0, am_a2 k_X0_writeRound)
theorem ok_X0_writeRound_0 : ∀ q ∈ k_X0_writeRound_0, am_ck cX0_writeRound q := by unfold am_ck; decide +kernel
theorem ok_X0_writeRound_1 : ∀ q ∈ k_X0_writeRound_1, am_ck cX0_writeRound q := by unfold am_ck; decide +kernel
theorem ok_X0_writeRound_2 : ∀ q ∈ k_X0_writeRound_2, am_ck cX0_writeRound q := by unfold am_ck; decide +kernel
theorem ok_X0_writeRound_3 : ∀ q ∈ k_X0_writeRound_3, am_ck cX0_writeRound q := by unfold am_ck; decide +kernel
theorem ok_X0_writeRound : am_ok m_X0_writeRound := am_ok_a2 (List.forall_mem_cons.mpr ⟨ok_X0_writeRound_0, List.forall_mem_cons.mpr ⟨ok_X0_writeRound_1, List.forall_mem_cons.mpr ⟨ok_X0_writeRound_2, List.forall_mem_cons.mpr ⟨ok_X0_writeRound_3, fun _ h => absurd h List.not_mem_nil⟩⟩⟩⟩)
def k_X1_init : List (Nat × Instr × Nat × Nat × List Nat) := [(0, .aload_n 0, 1, 1, []), (1, .invokespecial 3, 3, 4, []), (4, .aload_n 0, 1, 5, []), (5, .sipush 200, 3, 8, []), (8, .newarray .int, 2, 10, []), (10, .putfield 9, 3, 13, []), (13, .aload_n 0, 1, 14, []), (14, .iconst 0, 1, 15, []), (15, .putfield 15, 3, 18, []), (18, .aload_n 0, 1, 19, []), (19, .iconst 0, 1, 20, []), (20, .putfield 19, 3, 23, []), (23, .return_, 1, 24, [])]
def m_X1_init : am_M := (yX1_init, cX1_init, 1, none, 1, am_at k_X1_init)
theorem ok_X1_init : am_ok m_X1_init := am_ok_at (by unfold am_ck; decide +kernel)
def k_X1_clear : List (Nat × Instr × Nat × Nat × List Nat) := [(0, .aload_n 0, 1, 1, []), (1, .iconst 0, 1, 2, []), (2, .putfield 15, 3, 5, []), (5, .return_, 1, 6, [])]
def m_X1_clear : am_M := (yX1_clear, cX1_clear, 1, none, 1, am_at k_X1_clear)
theorem ok_X1_clear : am_ok m_X1_clear := am_ok_at (by unfold am_ck; decide +kernel)
def k_X1_write : List (Nat × Instr × Nat × Nat × List Nat) := [(0, .aload_n 0, 1, 1, []), (1, .getfield 15, 3, 4, []), (4, .sipush 200, 3, 7, []), (7, .if_icmp .ge 23, 3, 10, [30]), (10, .aload_n 0, 1, 11, []), (11, .getfield 9, 3, 14, []), (14, .aload_n 0, 1, 15, []), (15, .getfield 15, 3, 18, []), (18, .iload_n 1, 1, 19, []), (19, .iastore, 1, 20, []), (20, .aload_n 0, 1, 21, []), (21, .dup, 1, 22, []), (22, .getfield 15, 3, 25, []), (25, .iconst 1, 1, 26, []), (26, .iadd, 1, 27, []), (27, .putfield 15, 3, 30, []), (30, .return_, 1, 31, [])]
def m_X1_write : am_M := (yX1_write, cX1_write, 2, none, 1, am_at k_X1_write)
theorem ok_X1_write : am_ok m_X1_write := am_ok_at (by unfold am_ck; decide +kernel)
def k_X1_met : List (Nat × Instr × Nat × Nat × List Nat) := [(0, .aload_n 0, 1, 1, []), (1, .iload_n 1, 1, 2, []), (2, .putfield 19, 3, 5, []), (5, .bipush (-5), 2, 7, []), (7, .ireturn, 1, 8, [])]
def m_X1_met : am_M := (yX1_met, cX1_met, 2, (some .int), 1, am_at k_X1_met)
theorem ok_X1_met : am_ok m_X1_met := am_ok_at (by unfold am_ck; decide +kernel)
def k_X2_init : List (Nat × Instr × Nat × Nat × List Nat) := [(0, .aload_n 0, 1, 1, []), (1, .invokespecial 3, 3, 4, []), (4, .aload_n 0, 1, 5, []), (5, .iconst 4, 1, 6, []), (6, .newarray .int, 2, 8, []), (8, .putfield 9, 3, 11, []), (11, .aload_n 0, 1, 12, []), (12, .iconst 4, 1, 13, []), (13, .newarray .int, 2, 15, []), (15, .putfield 15, 3, 18, []), (18, .aload_n 0, 1, 19, []), (19, .sipush 200, 3, 22, []), (22, .newarray .int, 2, 24, []), (24, .putfield 18, 3, 27, []), (27, .return_, 1, 28, [])]
def m_X2_init : am_M := (yX2_init, cX2_init, 1, none, 2, am_at k_X2_init)
theorem ok_X2_init : am_ok m_X2_init := am_ok_at (by unfold am_ck; decide +kernel)
def k_X2_rowOf : List (Nat × Instr × Nat × Nat × List Nat) := [(0, .iload_n 1, 1, 1, []), (1, .bipush 10, 2, 3, []), (3, .imul, 1, 4, []), (4, .iload_n 2, 1, 5, []), (5, .iadd, 1, 6, []), (6, .iconst 5, 1, 7, []), (7, .imul, 1, 8, []), (8, .ireturn, 1, 9, [])]
def m_X2_rowOf : am_M := (yX2_rowOf, cX2_rowOf, 3, (some .int), 2, am_at k_X2_rowOf)
theorem ok_X2_rowOf : am_ok m_X2_rowOf := am_ok_at (by unfold am_ck; decide +kernel)
def k_X2_openRow : List (Nat × Instr × Nat × Nat × List Nat) := [(0, .aload_n 0, 1, 1, []), (1, .getfield 9, 3, 4, []), (4, .iload_n 1, 1, 5, []), (5, .iaload, 1, 6, []), (6, .istore_n 2, 1, 7, []), (7, .iload_n 2, 1, 8, []), (8, .bipush 10, 2, 10, []), (10, .if_icmp .lt 5, 3, 13, [15]), (13, .iconst (-1), 1, 14, []), (14, .ireturn, 1, 15, []), (15, .aload_n 0, 1, 16, []), (16, .getfield 9, 3, 19, []), (19, .iload_n 1, 1, 20, []), (20, .iload_n 2, 1, 21, []), (21, .iconst 1, 1, 22, []), (22, .iadd, 1, 23, []), (23, .iastore, 1, 24, []), (24, .aload_n 0, 1, 25, []), (25, .iload_n 1, 1, 26, []), (26, .iload_n 2, 1, 27, []), (27, .invokevirtual 21, 3, 30, []), (30, .ireturn, 1, 31, [])]
def m_X2_openRow : am_M := (yX2_openRow, cX2_openRow, 3, (some .int), 2, am_at k_X2_openRow)
theorem ok_X2_openRow : am_ok m_X2_openRow := am_ok_at (by unfold am_ck; decide +kernel)
def k_X3_init : List (Nat × Instr × Nat × Nat × List Nat) := [(0, .aload_n 0, 1, 1, []), (1, .invokespecial 3, 3, 4, []), (4, .aload_n 0, 1, 5, []), (5, .bipush 24, 2, 7, []), (7, .newarray .int, 2, 9, []), (9, .putfield 9, 3, 12, []), (12, .return_, 1, 13, [])]
def m_X3_init : am_M := (yX3_init, cX3_init, 1, none, 3, am_at k_X3_init)
theorem ok_X3_init : am_ok m_X3_init := am_ok_at (by unfold am_ck; decide +kernel)
def k_X3_begin : List (Nat × Instr × Nat × Nat × List Nat) := [(0, .iconst 0, 1, 1, []), (1, .istore 4, 2, 3, []), (3, .iload 4, 2, 5, []), (5, .bipush 24, 2, 7, []), (7, .if_icmp .ge 44, 3, 10, [51]), (10, .aload_n 1, 1, 11, []), (11, .iload 4, 2, 13, []), (13, .invokevirtual 15, 3, 16, []), (16, .ifCond .eq 29, 3, 19, [45]), (19, .aload_n 0, 1, 20, []), (20, .getfield 9, 3, 23, []), (23, .iload 4, 2, 25, []), (25, .aload_n 2, 1, 26, []), (26, .iload 4, 2, 28, []), (28, .aload_n 3, 1, 29, []), (29, .invokevirtual 21, 3, 32, []), (32, .iastore, 1, 33, []), (33, .aload_n 0, 1, 34, []), (34, .getfield 9, 3, 37, []), (37, .iload 4, 2, 39, []), (39, .iaload, 1, 40, []), (40, .ifCond .ge 5, 3, 43, [45]), (43, .iconst 0, 1, 44, []), (44, .ireturn, 1, 45, []), (45, .iinc 4 1, 3, 48, []), (48, .goto (-45), 3, 51, [3]), (51, .iconst 1, 1, 52, []), (52, .ireturn, 1, 53, [])]
def m_X3_begin : am_M := (yX3_begin, cX3_begin, 5, (some .boolean), 3, am_at k_X3_begin)
theorem ok_X3_begin : am_ok m_X3_begin := am_ok_at (by unfold am_ck; decide +kernel)
def k_X3_total : List (Nat × Instr × Nat × Nat × List Nat) := [(0, .iconst 0, 1, 1, []), (1, .istore_n 2, 1, 2, []), (2, .iconst 0, 1, 3, []), (3, .istore_n 3, 1, 4, []), (4, .iload_n 3, 1, 5, []), (5, .aload_n 1, 1, 6, []), (6, .getfield 27, 3, 9, []), (9, .if_icmp .ge 23, 3, 12, [32]), (12, .iload_n 2, 1, 13, []), (13, .aload_n 0, 1, 14, []), (14, .getfield 9, 3, 17, []), (17, .aload_n 1, 1, 18, []), (18, .getfield 31, 3, 21, []), (21, .iload_n 3, 1, 22, []), (22, .iaload, 1, 23, []), (23, .iaload, 1, 24, []), (24, .iadd, 1, 25, []), (25, .istore_n 2, 1, 26, []), (26, .iinc 3 1, 3, 29, []), (29, .goto (-25), 3, 32, [4]), (32, .iload_n 2, 1, 33, []), (33, .ireturn, 1, 34, [])]
def m_X3_total : am_M := (yX3_total, cX3_total, 4, (some .int), 3, am_at k_X3_total)
theorem ok_X3_total : am_ok m_X3_total := am_ok_at (by unfold am_ck; decide +kernel)
def k_X3_goThrough_0 : List (Nat × Instr × Nat × Nat × List Nat) := [(0, .iconst 0, 1, 1, []), (1, .istore 6, 2, 3, []), (3, .iload 6, 2, 5, []), (5, .aload_n 1, 1, 6, []), (6, .getfield 34, 3, 9, []), (9, .iload_n 2, 1, 10, []), (10, .iaload, 1, 11, []), (11, .if_icmp .ge 140, 3, 14, [151]), (14, .iload_n 2, 1, 15, []), (15, .iconst 5, 1, 16, []), (16, .imul, 1, 17, []), (17, .iload 6, 2, 19, []), (19, .iadd, 1, 20, []), (20, .istore 7, 2, 22, []), (22, .aload_n 3, 1, 23, []), (23, .iload 7, 2, 25, []), (25, .iaload, 1, 26, []), (26, .istore 8, 2, 28, []), (28, .aload_n 1, 1, 29, []), (29, .getfield 37, 3, 32, []), (32, .iload 7, 2, 34, []), (34, .iaload, 1, 35, []), (35, .istore 9, 2, 37, []), (37, .aload_n 1, 1, 38, []), (38, .getfield 40, 3, 41, []), (41, .iload 7, 2, 43, []), (43, .iaload, 1, 44, []), (44, .istore 10, 2, 46, []), (46, .iload 10, 2, 48, []), (48, .bipush 99, 2, 50, []), (50, .if_icmp .eq 95, 3, 53, [145]), (53, .iload 8, 2, 55, [])]
def k_X3_goThrough_1 : List (Nat × Instr × Nat × Nat × List Nat) := [(55, .invokestatic 43, 3, 58, []), (58, .ifCond .eq 87, 3, 61, [145]), (61, .aload_n 0, 1, 62, []), (62, .getfield 9, 3, 65, []), (65, .iload 9, 2, 67, []), (67, .iaload, 1, 68, []), (68, .aload_n 0, 1, 69, []), (69, .getfield 9, 3, 72, []), (72, .iload 10, 2, 74, []), (74, .iaload, 1, 75, []), (75, .isub, 1, 76, []), (76, .istore 11, 2, 78, []), (78, .aload 4, 2, 80, []), (80, .iload 9, 2, 82, []), (82, .aload 5, 2, 84, []), (84, .invokevirtual 48, 3, 87, []), (87, .istore 12, 2, 89, []), (89, .aload 4, 2, 91, []), (91, .iload 10, 2, 93, []), (93, .aload 5, 2, 95, []), (95, .invokevirtual 48, 3, 98, []), (98, .istore 13, 2, 100, []), (100, .aload_n 0, 1, 101, []), (101, .getfield 9, 3, 104, []), (104, .iload 9, 2, 106, []), (106, .dup2, 1, 107, []), (107, .iaload, 1, 108, []), (108, .iload 12, 2, 110, []), (110, .iload 8, 2, 112, []), (112, .invokestatic 51, 3, 115, []), (115, .iload 11, 2, 117, []), (117, .invokestatic 55, 3, 120, [])]
def k_X3_goThrough_2 : List (Nat × Instr × Nat × Nat × List Nat) := [(120, .iadd, 1, 121, []), (121, .iastore, 1, 122, []), (122, .aload_n 0, 1, 123, []), (123, .getfield 9, 3, 126, []), (126, .iload 10, 2, 128, []), (128, .dup2, 1, 129, []), (129, .iaload, 1, 130, []), (130, .iload 13, 2, 132, []), (132, .iload 8, 2, 134, []), (134, .invokestatic 59, 3, 137, []), (137, .iload 11, 2, 139, []), (139, .ineg, 1, 140, []), (140, .invokestatic 55, 3, 143, []), (143, .iadd, 1, 144, []), (144, .iastore, 1, 145, []), (145, .iinc 6 1, 3, 148, []), (148, .goto (-145), 3, 151, [3]), (151, .return_, 1, 152, [])]
def k_X3_goThrough : List (Nat × List (Nat × Instr × Nat × Nat × List Nat)) := [(55, k_X3_goThrough_0), (120, k_X3_goThrough_1), (152, k_X3_goThrough_2)]
def m_X3_goThrough : am_M := (yX3_goThrough, cX3_goThrough, 14, none, 3, am_a2 k_X3_goThrough)
theorem ok_X3_goThrough_0 : ∀ q ∈ k_X3_goThrough_0, am_ck cX3_goThrough q := by unfold am_ck; decide +kernel
theorem ok_X3_goThrough_1 : ∀ q ∈ k_X3_goThrough_1, am_ck cX3_goThrough q := by unfold am_ck; decide +kernel
theorem ok_X3_goThrough_2 : ∀ q ∈ k_X3_goThrough_2, am_ck cX3_goThrough q := by unfold am_ck; decide +kernel
theorem ok_X3_goThrough : am_ok m_X3_goThrough := am_ok_a2 (List.forall_mem_cons.mpr ⟨ok_X3_goThrough_0, List.forall_mem_cons.mpr ⟨ok_X3_goThrough_1, List.forall_mem_cons.mpr ⟨ok_X3_goThrough_2, fun _ h => absurd h List.not_mem_nil⟩⟩⟩)
def k_X3_gain : List (Nat × Instr × Nat × Nat × List Nat) := [(0, .sipush (-400), 3, 3, []), (3, .sipush 400, 3, 6, []), (6, .iload_n 2, 1, 7, []), (7, .invokestatic 62, 3, 10, []), (10, .invokestatic 68, 3, 13, []), (13, .istore_n 3, 1, 14, []), (14, .sipush 500, 3, 17, []), (17, .iconst 5, 1, 18, []), (18, .iload_n 3, 1, 19, []), (19, .imul, 1, 20, []), (20, .iconst 4, 1, 21, []), (21, .idiv, 1, 22, []), (22, .iadd, 1, 23, []), (23, .istore 4, 2, 25, []), (25, .iload_n 0, 1, 26, []), (26, .sipush 500, 3, 29, []), (29, .iload_n 1, 1, 30, []), (30, .imul, 1, 31, []), (31, .iload 4, 2, 33, []), (33, .isub, 1, 34, []), (34, .imul, 1, 35, []), (35, .invokestatic 71, 3, 38, []), (38, .ireturn, 1, 39, [])]
def m_X3_gain : am_M := (yX3_gain, cX3_gain, 5, (some .int), 3, am_at k_X3_gain)
theorem ok_X3_gain : am_ok m_X3_gain := am_ok_at (by unfold am_ck; decide +kernel)
def k_X3_roundThousandths : List (Nat × Instr × Nat × Nat × List Nat) := [(0, .iload_n 0, 1, 1, []), (1, .sipush 1000, 3, 4, []), (4, .invokestatic 74, 3, 7, []), (7, .istore_n 1, 1, 8, []), (8, .iload_n 0, 1, 9, []), (9, .sipush 1000, 3, 12, []), (12, .invokestatic 77, 3, 15, []), (15, .istore_n 2, 1, 16, []), (16, .iload_n 1, 1, 17, []), (17, .iconst 2, 1, 18, []), (18, .irem, 1, 19, []), (19, .ifCond .eq 7, 3, 22, [26]), (22, .iconst 1, 1, 23, []), (23, .goto 4, 3, 26, [27]), (26, .iconst 0, 1, 27, []), (27, .istore_n 3, 1, 28, []), (28, .iload_n 2, 1, 29, []), (29, .sipush 500, 3, 32, []), (32, .if_icmp .gt 14, 3, 35, [46]), (35, .iload_n 2, 1, 36, []), (36, .sipush 500, 3, 39, []), (39, .if_icmp .ne 13, 3, 42, [52]), (42, .iload_n 3, 1, 43, []), (43, .ifCond .eq 9, 3, 46, [52]), (46, .iload_n 1, 1, 47, []), (47, .iconst 1, 1, 48, []), (48, .iadd, 1, 49, []), (49, .goto 4, 3, 52, [53]), (52, .iload_n 1, 1, 53, []), (53, .ireturn, 1, 54, [])]
def m_X3_roundThousandths : am_M := (yX3_roundThousandths, cX3_roundThousandths, 4, (some .int), 3, am_at k_X3_roundThousandths)
theorem ok_X3_roundThousandths : am_ok m_X3_roundThousandths := am_ok_at (by unfold am_ck; decide +kernel)
def k_X4_init : List (Nat × Instr × Nat × Nat × List Nat) := [(0, .aload_n 0, 1, 1, []), (1, .invokespecial 3, 3, 4, []), (4, .aload_n 0, 1, 5, []), (5, .iconst 0, 1, 6, []), (6, .putfield 9, 3, 9, []), (9, .aload_n 0, 1, 10, []), (10, .iconst (-1), 1, 11, []), (11, .putfield 15, 3, 14, []), (14, .aload_n 0, 1, 15, []), (15, .iconst (-1), 1, 16, []), (16, .putfield 18, 3, 19, []), (19, .aload_n 0, 1, 20, []), (20, .iconst 0, 1, 21, []), (21, .putfield 21, 3, 24, []), (24, .return_, 1, 25, [])]
def m_X4_init : am_M := (yX4_init, cX4_init, 1, none, 4, am_at k_X4_init)
theorem ok_X4_init : am_ok m_X4_init := am_ok_at (by unfold am_ck; decide +kernel)
def k_X4_begin : List (Nat × Instr × Nat × Nat × List Nat) := [(0, .aload_n 0, 1, 1, []), (1, .iconst 0, 1, 2, []), (2, .putfield 9, 3, 5, []), (5, .aload_n 0, 1, 6, []), (6, .iconst (-1), 1, 7, []), (7, .putfield 15, 3, 10, []), (10, .aload_n 0, 1, 11, []), (11, .iconst (-1), 1, 12, []), (12, .putfield 18, 3, 15, []), (15, .aload_n 0, 1, 16, []), (16, .iconst 0, 1, 17, []), (17, .putfield 21, 3, 20, []), (20, .return_, 1, 21, [])]
def m_X4_begin : am_M := (yX4_begin, cX4_begin, 1, none, 4, am_at k_X4_begin)
theorem ok_X4_begin : am_ok m_X4_begin := am_ok_at (by unfold am_ck; decide +kernel)
def k_X4_tellFailure : List (Nat × Instr × Nat × Nat × List Nat) := [(0, .aload_n 0, 1, 1, []), (1, .iload_n 1, 1, 2, []), (2, .putfield 9, 3, 5, []), (5, .aload_n 0, 1, 6, []), (6, .iload_n 2, 1, 7, []), (7, .putfield 15, 3, 10, []), (10, .aload_n 0, 1, 11, []), (11, .iload_n 3, 1, 12, []), (12, .putfield 18, 3, 15, []), (15, .return_, 1, 16, [])]
def m_X4_tellFailure : am_M := (yX4_tellFailure, cX4_tellFailure, 4, none, 4, am_at k_X4_tellFailure)
theorem ok_X4_tellFailure : am_ok m_X4_tellFailure := am_ok_at (by unfold am_ck; decide +kernel)
def k_X5_init : List (Nat × Instr × Nat × Nat × List Nat) := [(0, .aload_n 0, 1, 1, []), (1, .invokespecial 3, 3, 4, []), (4, .aload_n 0, 1, 5, []), (5, .bipush 24, 2, 7, []), (7, .newarray .int, 2, 9, []), (9, .putfield 9, 3, 12, []), (12, .aload_n 0, 1, 13, []), (13, .bipush 24, 2, 15, []), (15, .newarray .int, 2, 17, []), (17, .putfield 15, 3, 20, []), (20, .aload_n 0, 1, 21, []), (21, .bipush 24, 2, 23, []), (23, .newarray .int, 2, 25, []), (25, .putfield 18, 3, 28, []), (28, .aload_n 0, 1, 29, []), (29, .bipush 96, 2, 31, []), (31, .newarray .int, 2, 33, []), (33, .putfield 21, 3, 36, []), (36, .aload_n 0, 1, 37, []), (37, .iconst 0, 1, 38, []), (38, .putfield 24, 3, 41, []), (41, .return_, 1, 42, [])]
def m_X5_init : am_M := (yX5_init, cX5_init, 1, none, 5, am_at k_X5_init)
theorem ok_X5_init : am_ok m_X5_init := am_ok_at (by unfold am_ck; decide +kernel)
def k_X5_has : List (Nat × Instr × Nat × Nat × List Nat) := [(0, .iload_n 1, 1, 1, []), (1, .ifCond .lt 15, 3, 4, [16]), (4, .iload_n 1, 1, 5, []), (5, .aload_n 0, 1, 6, []), (6, .getfield 24, 3, 9, []), (9, .if_icmp .ge 7, 3, 12, [16]), (12, .iconst 1, 1, 13, []), (13, .goto 4, 3, 16, [17]), (16, .iconst 0, 1, 17, []), (17, .ireturn, 1, 18, [])]
def m_X5_has : am_M := (yX5_has, cX5_has, 2, (some .boolean), 5, am_at k_X5_has)
theorem ok_X5_has : am_ok m_X5_has := am_ok_at (by unfold am_ck; decide +kernel)
def k_X5_isTeam : List (Nat × Instr × Nat × Nat × List Nat) := [(0, .aload_n 0, 1, 1, []), (1, .getfield 9, 3, 4, []), (4, .iload_n 1, 1, 5, []), (5, .iaload, 1, 6, []), (6, .iconst 3, 1, 7, []), (7, .if_icmp .ne 7, 3, 10, [14]), (10, .iconst 1, 1, 11, []), (11, .goto 4, 3, 14, [15]), (14, .iconst 0, 1, 15, []), (15, .ireturn, 1, 16, [])]
def m_X5_isTeam : am_M := (yX5_isTeam, cX5_isTeam, 2, (some .boolean), 5, am_at k_X5_isTeam)
theorem ok_X5_isTeam : am_ok m_X5_isTeam := am_ok_at (by unfold am_ck; decide +kernel)
def k_X5_isRated : List (Nat × Instr × Nat × Nat × List Nat) := [(0, .aload_n 0, 1, 1, []), (1, .getfield 9, 3, 4, []), (4, .iload_n 1, 1, 5, []), (5, .iaload, 1, 6, []), (6, .iconst 4, 1, 7, []), (7, .if_icmp .eq 7, 3, 10, [14]), (10, .iconst 1, 1, 11, []), (11, .goto 4, 3, 14, [15]), (14, .iconst 0, 1, 15, []), (15, .ireturn, 1, 16, [])]
def m_X5_isRated : am_M := (yX5_isRated, cX5_isRated, 2, (some .boolean), 5, am_at k_X5_isRated)
theorem ok_X5_isRated : am_ok m_X5_isRated := am_ok_at (by unfold am_ck; decide +kernel)
def k_X5_add : List (Nat × Instr × Nat × Nat × List Nat) := [(0, .aload_n 0, 1, 1, []), (1, .getfield 24, 3, 4, []), (4, .bipush 24, 2, 6, []), (6, .if_icmp .lt 6, 3, 9, [12]), (9, .bipush (-4), 2, 11, []), (11, .ireturn, 1, 12, []), (12, .aload_n 0, 1, 13, []), (13, .getfield 9, 3, 16, []), (16, .aload_n 0, 1, 17, []), (17, .getfield 24, 3, 20, []), (20, .iload_n 1, 1, 21, []), (21, .iastore, 1, 22, []), (22, .aload_n 0, 1, 23, []), (23, .getfield 15, 3, 26, []), (26, .aload_n 0, 1, 27, []), (27, .getfield 24, 3, 30, []), (30, .iload_n 2, 1, 31, []), (31, .iastore, 1, 32, []), (32, .aload_n 0, 1, 33, []), (33, .getfield 18, 3, 36, []), (36, .aload_n 0, 1, 37, []), (37, .getfield 24, 3, 40, []), (40, .iconst (-1), 1, 41, []), (41, .iastore, 1, 42, []), (42, .aload_n 0, 1, 43, []), (43, .dup, 1, 44, []), (44, .getfield 24, 3, 47, []), (47, .iconst 1, 1, 48, []), (48, .iadd, 1, 49, []), (49, .putfield 24, 3, 52, []), (52, .aload_n 0, 1, 53, []), (53, .getfield 24, 3, 56, []), (56, .iconst 1, 1, 57, []), (57, .isub, 1, 58, []), (58, .ireturn, 1, 59, [])]
def m_X5_add : am_M := (yX5_add, cX5_add, 3, (some .int), 5, am_at k_X5_add)
theorem ok_X5_add : am_ok m_X5_add := am_ok_at (by unfold am_ck; decide +kernel)
def k_X5_setPlaces : List (Nat × Instr × Nat × Nat × List Nat) := [(0, .aload_n 0, 1, 1, []), (1, .getfield 18, 3, 4, []), (4, .iload_n 1, 1, 5, []), (5, .iload_n 2, 1, 6, []), (6, .iastore, 1, 7, []), (7, .iconst 0, 1, 8, []), (8, .istore_n 3, 1, 9, []), (9, .iload_n 3, 1, 10, []), (10, .iload_n 2, 1, 11, []), (11, .if_icmp .ge 20, 3, 14, [31]), (14, .aload_n 0, 1, 15, []), (15, .getfield 21, 3, 18, []), (18, .iload_n 1, 1, 19, []), (19, .iconst 4, 1, 20, []), (20, .imul, 1, 21, []), (21, .iload_n 3, 1, 22, []), (22, .iadd, 1, 23, []), (23, .iconst (-1), 1, 24, []), (24, .iastore, 1, 25, []), (25, .iinc 3 1, 3, 28, []), (28, .goto (-19), 3, 31, [9]), (31, .return_, 1, 32, [])]
def m_X5_setPlaces : am_M := (yX5_setPlaces, cX5_setPlaces, 4, none, 5, am_at k_X5_setPlaces)
theorem ok_X5_setPlaces : am_ok m_X5_setPlaces := am_ok_at (by unfold am_ck; decide +kernel)
def k_X5_chairOf : List (Nat × Instr × Nat × Nat × List Nat) := [(0, .aload_n 0, 1, 1, []), (1, .getfield 18, 3, 4, []), (4, .iload_n 1, 1, 5, []), (5, .iaload, 1, 6, []), (6, .iconst (-1), 1, 7, []), (7, .if_icmp .ne 9, 3, 10, [16]), (10, .aload_n 3, 1, 11, []), (11, .iconst 1, 1, 12, []), (12, .invokevirtual 28, 3, 15, []), (15, .ireturn, 1, 16, []), (16, .iload_n 2, 1, 17, []), (17, .ifCond .lt 13, 3, 20, [30]), (20, .iload_n 2, 1, 21, []), (21, .aload_n 0, 1, 22, []), (22, .getfield 18, 3, 25, []), (25, .iload_n 1, 1, 26, []), (26, .iaload, 1, 27, []), (27, .if_icmp .lt 9, 3, 30, [36]), (30, .aload_n 3, 1, 31, []), (31, .iconst 2, 1, 32, []), (32, .invokevirtual 28, 3, 35, []), (35, .ireturn, 1, 36, []), (36, .iload_n 1, 1, 37, []), (37, .iconst 4, 1, 38, []), (38, .imul, 1, 39, []), (39, .iload_n 2, 1, 40, []), (40, .iadd, 1, 41, []), (41, .ireturn, 1, 42, [])]
def m_X5_chairOf : am_M := (yX5_chairOf, cX5_chairOf, 4, (some .int), 5, am_at k_X5_chairOf)
theorem ok_X5_chairOf : am_ok m_X5_chairOf := am_ok_at (by unfold am_ck; decide +kernel)
def k_X5_worthFor_0 : List (Nat × Instr × Nat × Nat × List Nat) := [(0, .aload_n 0, 1, 1, []), (1, .iload_n 1, 1, 2, []), (2, .invokevirtual 34, 3, 5, []), (5, .ifCond .ne 10, 3, 8, [15]), (8, .aload_n 0, 1, 9, []), (9, .iload_n 1, 1, 10, []), (10, .aload_n 2, 1, 11, []), (11, .invokevirtual 38, 3, 14, []), (14, .ireturn, 1, 15, []), (15, .aload_n 2, 1, 16, []), (16, .bipush 13, 2, 18, []), (18, .invokevirtual 42, 3, 21, []), (21, .aload_n 0, 1, 22, []), (22, .getfield 18, 3, 25, []), (25, .iload_n 1, 1, 26, []), (26, .iaload, 1, 27, []), (27, .istore_n 3, 1, 28, []), (28, .iload_n 3, 1, 29, []), (29, .iconst (-1), 1, 30, []), (30, .if_icmp .ne 9, 3, 33, [39]), (33, .aload_n 2, 1, 34, []), (34, .iconst 1, 1, 35, []), (35, .invokevirtual 28, 3, 38, []), (38, .ireturn, 1, 39, []), (39, .iconst 0, 1, 40, []), (40, .istore 4, 2, 42, []), (42, .iconst 0, 1, 43, []), (43, .istore 5, 2, 45, []), (45, .iload 5, 2, 47, []), (47, .iload_n 3, 1, 48, []), (48, .if_icmp .ge 60, 3, 51, [108]), (51, .aload_n 0, 1, 52, [])]
def k_X5_worthFor_1 : List (Nat × Instr × Nat × Nat × List Nat) := [(52, .getfield 21, 3, 55, []), (55, .iload_n 1, 1, 56, []), (56, .iconst 4, 1, 57, []), (57, .imul, 1, 58, []), (58, .iload 5, 2, 60, []), (60, .iadd, 1, 61, []), (61, .iaload, 1, 62, []), (62, .istore 6, 2, 64, []), (64, .iload 6, 2, 66, []), (66, .iconst (-1), 1, 67, []), (67, .if_icmp .ne 11, 3, 70, [78]), (70, .aload_n 2, 1, 71, []), (71, .iconst 1, 1, 72, []), (72, .invokevirtual 28, 3, 75, []), (75, .goto 10, 3, 78, [85]), (78, .aload_n 0, 1, 79, []), (79, .iload 6, 2, 81, []), (81, .aload_n 2, 1, 82, []), (82, .invokevirtual 38, 3, 85, []), (85, .istore 7, 2, 87, []), (87, .iload 7, 2, 89, []), (89, .ifCond .ge 6, 3, 92, [95]), (92, .iload 7, 2, 94, []), (94, .ireturn, 1, 95, []), (95, .iload 4, 2, 97, []), (97, .iload 7, 2, 99, []), (99, .iadd, 1, 100, []), (100, .istore 4, 2, 102, []), (102, .iinc 5 1, 3, 105, []), (105, .goto (-60), 3, 108, [45]), (108, .iload_n 3, 1, 109, []), (109, .ifCond .ne 11, 3, 112, [120])]
def k_X5_worthFor_2 : List (Nat × Instr × Nat × Nat × List Nat) := [(112, .aload_n 2, 1, 113, []), (113, .iconst 4, 1, 114, []), (114, .invokevirtual 28, 3, 117, []), (117, .goto 7, 3, 120, [124]), (120, .iload 4, 2, 122, []), (122, .iload_n 3, 1, 123, []), (123, .idiv, 1, 124, []), (124, .ireturn, 1, 125, [])]
def k_X5_worthFor : List (Nat × List (Nat × Instr × Nat × Nat × List Nat)) := [(52, k_X5_worthFor_0), (112, k_X5_worthFor_1), (125, k_X5_worthFor_2)]
def m_X5_worthFor : am_M := (yX5_worthFor, cX5_worthFor, 8, (some .int), 5, am_a2 k_X5_worthFor)
theorem ok_X5_worthFor_0 : ∀ q ∈ k_X5_worthFor_0, am_ck cX5_worthFor q := by unfold am_ck; decide +kernel
theorem ok_X5_worthFor_1 : ∀ q ∈ k_X5_worthFor_1, am_ck cX5_worthFor q := by unfold am_ck; decide +kernel
theorem ok_X5_worthFor_2 : ∀ q ∈ k_X5_worthFor_2, am_ck cX5_worthFor q := by unfold am_ck; decide +kernel
theorem ok_X5_worthFor : am_ok m_X5_worthFor := am_ok_a2 (List.forall_mem_cons.mpr ⟨ok_X5_worthFor_0, List.forall_mem_cons.mpr ⟨ok_X5_worthFor_1, List.forall_mem_cons.mpr ⟨ok_X5_worthFor_2, fun _ h => absurd h List.not_mem_nil⟩⟩⟩)
def k_X5_soloWorth : List (Nat × Instr × Nat × Nat × List Nat) := [(0, .aload_n 0, 1, 1, []), (1, .getfield 9, 3, 4, []), (4, .iload_n 1, 1, 5, []), (5, .iaload, 1, 6, []), (6, .tableswitch 80 0 2 #[26, 39, 58], 26, 32, [86, 32, 45, 64]), (32, .aload_n 2, 1, 33, []), (33, .bipush 10, 2, 35, []), (35, .invokevirtual 42, 3, 38, []), (38, .aload_n 0, 1, 39, []), (39, .getfield 15, 3, 42, []), (42, .iload_n 1, 1, 43, []), (43, .iaload, 1, 44, []), (44, .ireturn, 1, 45, []), (45, .aload_n 2, 1, 46, []), (46, .bipush 11, 2, 48, []), (48, .invokevirtual 42, 3, 51, []), (51, .aload_n 0, 1, 52, []), (52, .getfield 15, 3, 55, []), (55, .iload_n 1, 1, 56, []), (56, .iaload, 1, 57, []), (57, .sipush 1500, 3, 60, []), (60, .invokestatic 46, 3, 63, []), (63, .ireturn, 1, 64, []), (64, .aload_n 2, 1, 65, []), (65, .bipush 12, 2, 67, []), (67, .invokevirtual 42, 3, 70, []), (70, .aload_n 2, 1, 71, []), (71, .bipush 10, 2, 73, []), (73, .invokevirtual 42, 3, 76, []), (76, .aload_n 0, 1, 77, []), (77, .getfield 15, 3, 80, []), (80, .iload_n 1, 1, 81, []), (81, .iaload, 1, 82, []), (82, .bipush 25, 2, 84, []), (84, .iadd, 1, 85, []), (85, .ireturn, 1, 86, []), (86, .aload_n 2, 1, 87, []), (87, .iconst 3, 1, 88, []), (88, .invokevirtual 28, 3, 91, []), (91, .ireturn, 1, 92, [])]
def m_X5_soloWorth : am_M := (yX5_soloWorth, cX5_soloWorth, 3, (some .int), 5, am_at k_X5_soloWorth)
theorem ok_X5_soloWorth : am_ok m_X5_soloWorth := am_ok_at (by unfold am_ck; decide +kernel)
def k_X5_stepFor : List (Nat × Instr × Nat × Nat × List Nat) := [(0, .aload_n 0, 1, 1, []), (1, .getfield 9, 3, 4, []), (4, .iload_n 1, 1, 5, []), (5, .iaload, 1, 6, []), (6, .tableswitch 63 0 3 #[30, 30, 39, 54], 30, 36, [69, 36, 36, 45, 60]), (36, .aload_n 2, 1, 37, []), (37, .bipush 20, 2, 39, []), (39, .invokevirtual 42, 3, 42, []), (42, .bipush 20, 2, 44, []), (44, .ireturn, 1, 45, []), (45, .aload_n 2, 1, 46, []), (46, .bipush 22, 2, 48, []), (48, .invokevirtual 42, 3, 51, []), (51, .aload_n 2, 1, 52, []), (52, .bipush 20, 2, 54, []), (54, .invokevirtual 42, 3, 57, []), (57, .bipush 40, 2, 59, []), (59, .ireturn, 1, 60, []), (60, .aload_n 2, 1, 61, []), (61, .bipush 23, 2, 63, []), (63, .invokevirtual 42, 3, 66, []), (66, .bipush 10, 2, 68, []), (68, .ireturn, 1, 69, []), (69, .aload_n 2, 1, 70, []), (70, .iconst 3, 1, 71, []), (71, .invokevirtual 28, 3, 74, []), (74, .ireturn, 1, 75, [])]
def m_X5_stepFor : am_M := (yX5_stepFor, cX5_stepFor, 3, (some .int), 5, am_at k_X5_stepFor)
theorem ok_X5_stepFor : am_ok m_X5_stepFor := am_ok_at (by unfold am_ck; decide +kernel)
def k_X5_takeOver : List (Nat × Instr × Nat × Nat × List Nat) := [(0, .aload_n 0, 1, 1, []), (1, .aload_n 1, 1, 2, []), (2, .getfield 24, 3, 5, []), (5, .putfield 24, 3, 8, []), (8, .aload_n 1, 1, 9, []), (9, .getfield 9, 3, 12, []), (12, .iconst 0, 1, 13, []), (13, .aload_n 0, 1, 14, []), (14, .getfield 9, 3, 17, []), (17, .iconst 0, 1, 18, []), (18, .aload_n 0, 1, 19, []), (19, .getfield 24, 3, 22, []), (22, .invokestatic 52, 3, 25, []), (25, .aload_n 1, 1, 26, []), (26, .getfield 15, 3, 29, []), (29, .iconst 0, 1, 30, []), (30, .aload_n 0, 1, 31, []), (31, .getfield 15, 3, 34, []), (34, .iconst 0, 1, 35, []), (35, .aload_n 0, 1, 36, []), (36, .getfield 24, 3, 39, []), (39, .invokestatic 52, 3, 42, []), (42, .aload_n 1, 1, 43, []), (43, .getfield 18, 3, 46, []), (46, .iconst 0, 1, 47, []), (47, .aload_n 0, 1, 48, []), (48, .getfield 18, 3, 51, []), (51, .iconst 0, 1, 52, []), (52, .aload_n 0, 1, 53, []), (53, .getfield 24, 3, 56, []), (56, .invokestatic 52, 3, 59, []), (59, .aload_n 1, 1, 60, []), (60, .getfield 21, 3, 63, []), (63, .iconst 0, 1, 64, []), (64, .aload_n 0, 1, 65, []), (65, .getfield 21, 3, 68, []), (68, .iconst 0, 1, 69, []), (69, .aload_n 0, 1, 70, []), (70, .getfield 24, 3, 73, []), (73, .iconst 4, 1, 74, []), (74, .imul, 1, 75, []), (75, .invokestatic 52, 3, 78, []), (78, .return_, 1, 79, [])]
def m_X5_takeOver : am_M := (yX5_takeOver, cX5_takeOver, 2, none, 5, am_at k_X5_takeOver)
theorem ok_X5_takeOver : am_ok m_X5_takeOver := am_ok_at (by unfold am_ck; decide +kernel)
def k_X6_init : List (Nat × Instr × Nat × Nat × List Nat) := [(0, .aload_n 0, 1, 1, []), (1, .invokespecial 3, 3, 4, []), (4, .aload_n 0, 1, 5, []), (5, .bipush 30, 2, 7, []), (7, .newarray .int, 2, 9, []), (9, .putfield 9, 3, 12, []), (12, .aload_n 0, 1, 13, []), (13, .bipush 30, 2, 15, []), (15, .newarray .int, 2, 17, []), (17, .putfield 15, 3, 20, []), (20, .aload_n 0, 1, 21, []), (21, .iconst 4, 1, 22, []), (22, .newarray .int, 2, 24, []), (24, .putfield 18, 3, 27, []), (27, .aload_n 0, 1, 28, []), (28, .bipush 24, 2, 30, []), (30, .newarray .int, 2, 32, []), (32, .putfield 21, 3, 35, []), (35, .aload_n 0, 1, 36, []), (36, .bipush 24, 2, 38, []), (38, .newarray .int, 2, 40, []), (40, .putfield 24, 3, 43, []), (43, .aload_n 0, 1, 44, []), (44, .bipush 24, 2, 46, []), (46, .newarray .int, 2, 48, []), (48, .putfield 27, 3, 51, []), (51, .aload_n 0, 1, 52, []), (52, .bipush 24, 2, 54, []), (54, .newarray .int, 2, 56, []), (56, .putfield 30, 3, 59, []), (59, .aload_n 0, 1, 60, []), (60, .bipush 24, 2, 62, []), (62, .newarray .int, 2, 64, []), (64, .putfield 33, 3, 67, []), (67, .aload_n 0, 1, 68, []), (68, .bipush 24, 2, 70, []), (70, .newarray .int, 2, 72, []), (72, .putfield 36, 3, 75, []), (75, .aload_n 0, 1, 76, []), (76, .bipush 24, 2, 78, []), (78, .newarray .int, 2, 80, []), (80, .putfield 39, 3, 83, []), (83, .aload_n 0, 1, 84, []), (84, .bipush 24, 2, 86, []), (86, .newarray .int, 2, 88, []), (88, .putfield 42, 3, 91, []), (91, .return_, 1, 92, [])]
def m_X6_init : am_M := (yX6_init, cX6_init, 1, none, 6, am_at k_X6_init)
theorem ok_X6_init : am_ok m_X6_init := am_ok_at (by unfold am_ck; decide +kernel)
def k_X6_read_0 : List (Nat × Instr × Nat × Nat × List Nat) := [(0, .aload_n 0, 1, 1, []), (1, .getfield 9, 3, 4, []), (4, .iconst (-1), 1, 5, []), (5, .invokestatic 45, 3, 8, []), (8, .iconst 0, 1, 9, []), (9, .istore 4, 2, 11, []), (11, .iload 4, 2, 13, []), (13, .aload_n 1, 1, 14, []), (14, .getfield 51, 3, 17, []), (17, .if_icmp .ge 69, 3, 20, [86]), (20, .aload_n 1, 1, 21, []), (21, .getfield 57, 3, 24, []), (24, .iload 4, 2, 26, []), (26, .iaload, 1, 27, []), (27, .istore 5, 2, 29, []), (29, .aload_n 0, 1, 30, []), (30, .getfield 9, 3, 33, []), (33, .iload 5, 2, 35, []), (35, .iaload, 1, 36, []), (36, .istore 6, 2, 38, []), (38, .aload_n 1, 1, 39, []), (39, .iload 4, 2, 41, []), (41, .iload_n 3, 1, 42, []), (42, .invokevirtual 60, 3, 45, []), (45, .ifCond .eq 35, 3, 48, [80]), (48, .iload 6, 2, 50, []), (50, .iconst (-1), 1, 51, []), (51, .if_icmp .eq 20, 3, 54, [71]), (54, .aload_n 1, 1, 55, []), (55, .getfield 64, 3, 58, []), (58, .iload 6, 2, 60, []), (60, .iaload, 1, 61, [])]
def k_X6_read_1 : List (Nat × Instr × Nat × Nat × List Nat) := [(61, .aload_n 1, 1, 62, []), (62, .getfield 64, 3, 65, []), (65, .iload 4, 2, 67, []), (67, .iaload, 1, 68, []), (68, .if_icmp .gt 12, 3, 71, [80]), (71, .aload_n 0, 1, 72, []), (72, .getfield 9, 3, 75, []), (75, .iload 5, 2, 77, []), (77, .iload 4, 2, 79, []), (79, .iastore, 1, 80, []), (80, .iinc 4 1, 3, 83, []), (83, .goto (-72), 3, 86, [11]), (86, .iconst 0, 1, 87, []), (87, .istore 4, 2, 89, []), (89, .iload 4, 2, 91, []), (91, .bipush 30, 2, 93, []), (93, .if_icmp .ge 53, 3, 96, [146]), (96, .aload_n 0, 1, 97, []), (97, .getfield 9, 3, 100, []), (100, .iload 4, 2, 102, []), (102, .iaload, 1, 103, []), (103, .istore 5, 2, 105, []), (105, .aload_n 0, 1, 106, []), (106, .getfield 15, 3, 109, []), (109, .iload 4, 2, 111, []), (111, .iload 5, 2, 113, []), (113, .iconst (-1), 1, 114, []), (114, .if_icmp .eq 14, 3, 117, [128]), (117, .aload_n 1, 1, 118, []), (118, .getfield 67, 3, 121, []), (121, .iload 5, 2, 123, []), (123, .iaload, 1, 124, [])]
def k_X6_read_2 : List (Nat × Instr × Nat × Nat × List Nat) := [(124, .iload_n 2, 1, 125, []), (125, .if_icmp .le 7, 3, 128, [132]), (128, .iconst (-1), 1, 129, []), (129, .goto 10, 3, 132, [139]), (132, .aload_n 1, 1, 133, []), (133, .getfield 70, 3, 136, []), (136, .iload 5, 2, 138, []), (138, .iaload, 1, 139, []), (139, .iastore, 1, 140, []), (140, .iinc 4 1, 3, 143, []), (143, .goto (-54), 3, 146, [89]), (146, .return_, 1, 147, [])]
def k_X6_read : List (Nat × List (Nat × Instr × Nat × Nat × List Nat)) := [(61, k_X6_read_0), (124, k_X6_read_1), (147, k_X6_read_2)]
def m_X6_read : am_M := (yX6_read, cX6_read, 7, none, 6, am_a2 k_X6_read)
theorem ok_X6_read_0 : ∀ q ∈ k_X6_read_0, am_ck cX6_read q := by unfold am_ck; decide +kernel
theorem ok_X6_read_1 : ∀ q ∈ k_X6_read_1, am_ck cX6_read q := by unfold am_ck; decide +kernel
theorem ok_X6_read_2 : ∀ q ∈ k_X6_read_2, am_ck cX6_read q := by unfold am_ck; decide +kernel
theorem ok_X6_read : am_ok m_X6_read := am_ok_a2 (List.forall_mem_cons.mpr ⟨ok_X6_read_0, List.forall_mem_cons.mpr ⟨ok_X6_read_1, List.forall_mem_cons.mpr ⟨ok_X6_read_2, fun _ h => absurd h List.not_mem_nil⟩⟩⟩)
def k_X6_score_0 : List (Nat × Instr × Nat × Nat × List Nat) := [(0, .aload_n 0, 1, 1, []), (1, .getfield 21, 3, 4, []), (4, .iconst 0, 1, 5, []), (5, .invokestatic 45, 3, 8, []), (8, .iconst 0, 1, 9, []), (9, .istore_n 3, 1, 10, []), (10, .iload_n 3, 1, 11, []), (11, .aload_n 1, 1, 12, []), (12, .getfield 73, 3, 15, []), (15, .if_icmp .ge 128, 3, 18, [143]), (18, .iconst 0, 1, 19, []), (19, .istore 4, 2, 21, []), (21, .iload 4, 2, 23, []), (23, .aload_n 1, 1, 24, []), (24, .getfield 76, 3, 27, []), (27, .iload_n 3, 1, 28, []), (28, .iaload, 1, 29, []), (29, .if_icmp .ge 108, 3, 32, [137]), (32, .iload_n 3, 1, 33, []), (33, .iconst 5, 1, 34, []), (34, .imul, 1, 35, []), (35, .iload 4, 2, 37, []), (37, .iadd, 1, 38, []), (38, .istore 5, 2, 40, []), (40, .aload_n 1, 1, 41, []), (41, .getfield 79, 3, 44, []), (44, .iload 5, 2, 46, []), (46, .iaload, 1, 47, []), (47, .bipush 99, 2, 49, []), (49, .if_icmp .eq 56, 3, 52, [105]), (52, .aload_n 0, 1, 53, []), (53, .getfield 21, 3, 56, [])]
def k_X6_score_1 : List (Nat × Instr × Nat × Nat × List Nat) := [(56, .aload_n 1, 1, 57, []), (57, .getfield 82, 3, 60, []), (60, .iload 5, 2, 62, []), (62, .iaload, 1, 63, []), (63, .dup2, 1, 64, []), (64, .iaload, 1, 65, []), (65, .aload_n 0, 1, 66, []), (66, .getfield 15, 3, 69, []), (69, .iload 5, 2, 71, []), (71, .iaload, 1, 72, []), (72, .invokestatic 85, 3, 75, []), (75, .iadd, 1, 76, []), (76, .iastore, 1, 77, []), (77, .aload_n 0, 1, 78, []), (78, .getfield 21, 3, 81, []), (81, .aload_n 1, 1, 82, []), (82, .getfield 79, 3, 85, []), (85, .iload 5, 2, 87, []), (87, .iaload, 1, 88, []), (88, .dup2, 1, 89, []), (89, .iaload, 1, 90, []), (90, .aload_n 0, 1, 91, []), (91, .getfield 15, 3, 94, []), (94, .iload 5, 2, 96, []), (96, .iaload, 1, 97, []), (97, .invokestatic 89, 3, 100, []), (100, .iadd, 1, 101, []), (101, .iastore, 1, 102, []), (102, .goto 29, 3, 105, [131]), (105, .aload_n 1, 1, 106, []), (106, .getfield 92, 3, 109, []), (109, .iload_n 3, 1, 110, [])]
def k_X6_score_2 : List (Nat × Instr × Nat × Nat × List Nat) := [(110, .iaload, 1, 111, []), (111, .iload_n 2, 1, 112, []), (112, .if_icmp .gt 19, 3, 115, [131]), (115, .aload_n 0, 1, 116, []), (116, .getfield 21, 3, 119, []), (119, .aload_n 1, 1, 120, []), (120, .getfield 82, 3, 123, []), (123, .iload 5, 2, 125, []), (125, .iaload, 1, 126, []), (126, .dup2, 1, 127, []), (127, .iaload, 1, 128, []), (128, .iconst 2, 1, 129, []), (129, .iadd, 1, 130, []), (130, .iastore, 1, 131, []), (131, .iinc 4 1, 3, 134, []), (134, .goto (-113), 3, 137, [21]), (137, .iinc 3 1, 3, 140, []), (140, .goto (-130), 3, 143, [10]), (143, .return_, 1, 144, [])]
def k_X6_score : List (Nat × List (Nat × Instr × Nat × Nat × List Nat)) := [(56, k_X6_score_0), (110, k_X6_score_1), (144, k_X6_score_2)]
def m_X6_score : am_M := (yX6_score, cX6_score, 6, none, 6, am_a2 k_X6_score)
theorem ok_X6_score_0 : ∀ q ∈ k_X6_score_0, am_ck cX6_score q := by unfold am_ck; decide +kernel
theorem ok_X6_score_1 : ∀ q ∈ k_X6_score_1, am_ck cX6_score q := by unfold am_ck; decide +kernel
theorem ok_X6_score_2 : ∀ q ∈ k_X6_score_2, am_ck cX6_score q := by unfold am_ck; decide +kernel
theorem ok_X6_score : am_ok m_X6_score := am_ok_a2 (List.forall_mem_cons.mpr ⟨ok_X6_score_0, List.forall_mem_cons.mpr ⟨ok_X6_score_1, List.forall_mem_cons.mpr ⟨ok_X6_score_2, fun _ h => absurd h List.not_mem_nil⟩⟩⟩)
def k_X6_whiteHalves : List (Nat × Instr × Nat × Nat × List Nat) := [(0, .iload_n 0, 1, 1, []), (1, .iconst 1, 1, 2, []), (2, .if_icmp .ne 5, 3, 5, [7]), (5, .iconst 1, 1, 6, []), (6, .ireturn, 1, 7, []), (7, .iload_n 0, 1, 8, []), (8, .iconst 2, 1, 9, []), (9, .if_icmp .eq 8, 3, 12, [17]), (12, .iload_n 0, 1, 13, []), (13, .iconst 4, 1, 14, []), (14, .if_icmp .ne 7, 3, 17, [21]), (17, .iconst 2, 1, 18, []), (18, .goto 4, 3, 21, [22]), (21, .iconst 0, 1, 22, []), (22, .ireturn, 1, 23, [])]
def m_X6_whiteHalves : am_M := (yX6_whiteHalves, cX6_whiteHalves, 1, (some .int), 6, am_at k_X6_whiteHalves)
theorem ok_X6_whiteHalves : am_ok m_X6_whiteHalves := am_ok_at (by unfold am_ck; decide +kernel)
def k_X6_blackHalves : List (Nat × Instr × Nat × Nat × List Nat) := [(0, .iload_n 0, 1, 1, []), (1, .iconst 1, 1, 2, []), (2, .if_icmp .ne 5, 3, 5, [7]), (5, .iconst 1, 1, 6, []), (6, .ireturn, 1, 7, []), (7, .iload_n 0, 1, 8, []), (8, .ifCond .eq 8, 3, 11, [16]), (11, .iload_n 0, 1, 12, []), (12, .iconst 3, 1, 13, []), (13, .if_icmp .ne 7, 3, 16, [20]), (16, .iconst 2, 1, 17, []), (17, .goto 4, 3, 20, [21]), (20, .iconst 0, 1, 21, []), (21, .ireturn, 1, 22, [])]
def m_X6_blackHalves : am_M := (yX6_blackHalves, cX6_blackHalves, 1, (some .int), 6, am_at k_X6_blackHalves)
theorem ok_X6_blackHalves : am_ok m_X6_blackHalves := am_ok_at (by unfold am_ck; decide +kernel)
def k_X6_isPlayed : List (Nat × Instr × Nat × Nat × List Nat) := [(0, .iload_n 0, 1, 1, []), (1, .ifCond .eq 13, 3, 4, [14]), (4, .iload_n 0, 1, 5, []), (5, .iconst 1, 1, 6, []), (6, .if_icmp .eq 8, 3, 9, [14]), (9, .iload_n 0, 1, 10, []), (10, .iconst 2, 1, 11, []), (11, .if_icmp .ne 7, 3, 14, [18]), (14, .iconst 1, 1, 15, []), (15, .goto 4, 3, 18, [19]), (18, .iconst 0, 1, 19, []), (19, .ireturn, 1, 20, [])]
def m_X6_isPlayed : am_M := (yX6_isPlayed, cX6_isPlayed, 1, (some .boolean), 6, am_at k_X6_isPlayed)
theorem ok_X6_isPlayed : am_ok m_X6_isPlayed := am_ok_at (by unfold am_ck; decide +kernel)
def k_X6_tally_0 : List (Nat × Instr × Nat × Nat × List Nat) := [(0, .aload_n 0, 1, 1, []), (1, .getfield 24, 3, 4, []), (4, .iconst 0, 1, 5, []), (5, .invokestatic 45, 3, 8, []), (8, .aload_n 0, 1, 9, []), (9, .getfield 27, 3, 12, []), (12, .iconst 0, 1, 13, []), (13, .invokestatic 45, 3, 16, []), (16, .aload_n 0, 1, 17, []), (17, .getfield 36, 3, 20, []), (20, .iconst 0, 1, 21, []), (21, .invokestatic 45, 3, 24, []), (24, .aload_n 0, 1, 25, []), (25, .getfield 39, 3, 28, []), (28, .iconst 0, 1, 29, []), (29, .invokestatic 45, 3, 32, []), (32, .aload_n 0, 1, 33, []), (33, .getfield 42, 3, 36, []), (36, .iconst 0, 1, 37, []), (37, .invokestatic 45, 3, 40, []), (40, .iconst 0, 1, 41, []), (41, .istore_n 2, 1, 42, []), (42, .iload_n 2, 1, 43, []), (43, .aload_n 1, 1, 44, []), (44, .getfield 73, 3, 47, []), (47, .if_icmp .ge 71, 3, 50, [118]), (50, .iconst 0, 1, 51, []), (51, .istore_n 3, 1, 52, []), (52, .iload_n 3, 1, 53, []), (53, .aload_n 1, 1, 54, []), (54, .getfield 76, 3, 57, []), (57, .iload_n 2, 1, 58, [])]
def k_X6_tally_1 : List (Nat × Instr × Nat × Nat × List Nat) := [(58, .iaload, 1, 59, []), (59, .if_icmp .ge 53, 3, 62, [112]), (62, .iload_n 2, 1, 63, []), (63, .iconst 5, 1, 64, []), (64, .imul, 1, 65, []), (65, .iload_n 3, 1, 66, []), (66, .iadd, 1, 67, []), (67, .istore 4, 2, 69, []), (69, .aload_n 1, 1, 70, []), (70, .getfield 79, 3, 73, []), (73, .iload 4, 2, 75, []), (75, .iaload, 1, 76, []), (76, .bipush 99, 2, 78, []), (78, .if_icmp .eq 28, 3, 81, [106]), (81, .aload_n 0, 1, 82, []), (82, .aload_n 1, 1, 83, []), (83, .getfield 82, 3, 86, []), (86, .iload 4, 2, 88, []), (88, .iaload, 1, 89, []), (89, .aload_n 1, 1, 90, []), (90, .getfield 79, 3, 93, []), (93, .iload 4, 2, 95, []), (95, .iaload, 1, 96, []), (96, .aload_n 0, 1, 97, []), (97, .getfield 15, 3, 100, []), (100, .iload 4, 2, 102, []), (102, .iaload, 1, 103, []), (103, .invokevirtual 95, 3, 106, []), (106, .iinc 3 1, 3, 109, []), (109, .goto (-57), 3, 112, [52]), (112, .iinc 2 1, 3, 115, []), (115, .goto (-73), 3, 118, [42])]
def k_X6_tally_2 : List (Nat × Instr × Nat × Nat × List Nat) := [(118, .return_, 1, 119, [])]
def k_X6_tally : List (Nat × List (Nat × Instr × Nat × Nat × List Nat)) := [(58, k_X6_tally_0), (118, k_X6_tally_1), (119, k_X6_tally_2)]
def m_X6_tally : am_M := (yX6_tally, cX6_tally, 5, none, 6, am_a2 k_X6_tally)
theorem ok_X6_tally_0 : ∀ q ∈ k_X6_tally_0, am_ck cX6_tally q := by unfold am_ck; decide +kernel
theorem ok_X6_tally_1 : ∀ q ∈ k_X6_tally_1, am_ck cX6_tally q := by unfold am_ck; decide +kernel
theorem ok_X6_tally_2 : ∀ q ∈ k_X6_tally_2, am_ck cX6_tally q := by unfold am_ck; decide +kernel
theorem ok_X6_tally : am_ok m_X6_tally := am_ok_a2 (List.forall_mem_cons.mpr ⟨ok_X6_tally_0, List.forall_mem_cons.mpr ⟨ok_X6_tally_1, List.forall_mem_cons.mpr ⟨ok_X6_tally_2, fun _ h => absurd h List.not_mem_nil⟩⟩⟩)
def k_X6_tallyPair_0 : List (Nat × Instr × Nat × Nat × List Nat) := [(0, .aload_n 0, 1, 1, []), (1, .iload_n 1, 1, 2, []), (2, .aload_n 0, 1, 3, []), (3, .getfield 21, 3, 6, []), (6, .iload_n 2, 1, 7, []), (7, .iaload, 1, 8, []), (8, .invokevirtual 99, 3, 11, []), (11, .aload_n 0, 1, 12, []), (12, .iload_n 2, 1, 13, []), (13, .aload_n 0, 1, 14, []), (14, .getfield 21, 3, 17, []), (17, .iload_n 1, 1, 18, []), (18, .iaload, 1, 19, []), (19, .invokevirtual 99, 3, 22, []), (22, .iload_n 3, 1, 23, []), (23, .iconst 2, 1, 24, []), (24, .if_icmp .ne 13, 3, 27, [37]), (27, .aload_n 0, 1, 28, []), (28, .getfield 36, 3, 31, []), (31, .iload_n 1, 1, 32, []), (32, .dup2, 1, 33, []), (33, .iaload, 1, 34, []), (34, .iconst 1, 1, 35, []), (35, .iadd, 1, 36, []), (36, .iastore, 1, 37, []), (37, .iload_n 3, 1, 38, []), (38, .ifCond .ne 13, 3, 41, [51]), (41, .aload_n 0, 1, 42, []), (42, .getfield 36, 3, 45, []), (45, .iload_n 2, 1, 46, []), (46, .dup2, 1, 47, []), (47, .iaload, 1, 48, [])]
def k_X6_tallyPair_1 : List (Nat × Instr × Nat × Nat × List Nat) := [(48, .iconst 1, 1, 49, []), (49, .iadd, 1, 50, []), (50, .iastore, 1, 51, []), (51, .aload_n 0, 1, 52, []), (52, .getfield 21, 3, 55, []), (55, .iload_n 1, 1, 56, []), (56, .iaload, 1, 57, []), (57, .aload_n 0, 1, 58, []), (58, .getfield 21, 3, 61, []), (61, .iload_n 2, 1, 62, []), (62, .iaload, 1, 63, []), (63, .if_icmp .ne 29, 3, 66, [92]), (66, .aload_n 0, 1, 67, []), (67, .getfield 39, 3, 70, []), (70, .iload_n 1, 1, 71, []), (71, .dup2, 1, 72, []), (72, .iaload, 1, 73, []), (73, .iload_n 3, 1, 74, []), (74, .invokestatic 85, 3, 77, []), (77, .iadd, 1, 78, []), (78, .iastore, 1, 79, []), (79, .aload_n 0, 1, 80, []), (80, .getfield 39, 3, 83, []), (83, .iload_n 2, 1, 84, []), (84, .dup2, 1, 85, []), (85, .iaload, 1, 86, []), (86, .iload_n 3, 1, 87, []), (87, .invokestatic 89, 3, 90, []), (90, .iadd, 1, 91, []), (91, .iastore, 1, 92, []), (92, .iload_n 3, 1, 93, []), (93, .invokestatic 103, 3, 96, [])]
def k_X6_tallyPair_2 : List (Nat × Instr × Nat × Nat × List Nat) := [(96, .ifCond .eq 13, 3, 99, [109]), (99, .aload_n 0, 1, 100, []), (100, .getfield 42, 3, 103, []), (103, .iload_n 2, 1, 104, []), (104, .dup2, 1, 105, []), (105, .iaload, 1, 106, []), (106, .iconst 1, 1, 107, []), (107, .iadd, 1, 108, []), (108, .iastore, 1, 109, []), (109, .return_, 1, 110, [])]
def k_X6_tallyPair : List (Nat × List (Nat × Instr × Nat × Nat × List Nat)) := [(48, k_X6_tallyPair_0), (96, k_X6_tallyPair_1), (110, k_X6_tallyPair_2)]
def m_X6_tallyPair : am_M := (yX6_tallyPair, cX6_tallyPair, 4, none, 6, am_a2 k_X6_tallyPair)
theorem ok_X6_tallyPair_0 : ∀ q ∈ k_X6_tallyPair_0, am_ck cX6_tallyPair q := by unfold am_ck; decide +kernel
theorem ok_X6_tallyPair_1 : ∀ q ∈ k_X6_tallyPair_1, am_ck cX6_tallyPair q := by unfold am_ck; decide +kernel
theorem ok_X6_tallyPair_2 : ∀ q ∈ k_X6_tallyPair_2, am_ck cX6_tallyPair q := by unfold am_ck; decide +kernel
theorem ok_X6_tallyPair : am_ok m_X6_tallyPair := am_ok_a2 (List.forall_mem_cons.mpr ⟨ok_X6_tallyPair_0, List.forall_mem_cons.mpr ⟨ok_X6_tallyPair_1, List.forall_mem_cons.mpr ⟨ok_X6_tallyPair_2, fun _ h => absurd h List.not_mem_nil⟩⟩⟩)
def k_X6_addFoe_0 : List (Nat × Instr × Nat × Nat × List Nat) := [(0, .aload_n 0, 1, 1, []), (1, .getfield 24, 3, 4, []), (4, .iload_n 1, 1, 5, []), (5, .iaload, 1, 6, []), (6, .ifCond .ne 7, 3, 9, [13]), (9, .iconst 1, 1, 10, []), (10, .goto 4, 3, 13, [14]), (13, .iconst 0, 1, 14, []), (14, .istore_n 3, 1, 15, []), (15, .aload_n 0, 1, 16, []), (16, .getfield 30, 3, 19, []), (19, .iload_n 1, 1, 20, []), (20, .iload_n 3, 1, 21, []), (21, .ifCond .eq 7, 3, 24, [28]), (24, .iload_n 2, 1, 25, []), (25, .goto 13, 3, 28, [38]), (28, .aload_n 0, 1, 29, []), (29, .getfield 30, 3, 32, []), (32, .iload_n 1, 1, 33, []), (33, .iaload, 1, 34, []), (34, .iload_n 2, 1, 35, []), (35, .invokestatic 107, 3, 38, []), (38, .iastore, 1, 39, []), (39, .aload_n 0, 1, 40, []), (40, .getfield 33, 3, 43, []), (43, .iload_n 1, 1, 44, []), (44, .iload_n 3, 1, 45, []), (45, .ifCond .eq 7, 3, 48, [52]), (48, .iload_n 2, 1, 49, []), (49, .goto 13, 3, 52, [62]), (52, .aload_n 0, 1, 53, []), (53, .getfield 33, 3, 56, [])]
def k_X6_addFoe_1 : List (Nat × Instr × Nat × Nat × List Nat) := [(56, .iload_n 1, 1, 57, []), (57, .iaload, 1, 58, []), (58, .iload_n 2, 1, 59, []), (59, .invokestatic 113, 3, 62, []), (62, .iastore, 1, 63, []), (63, .aload_n 0, 1, 64, []), (64, .getfield 27, 3, 67, []), (67, .iload_n 1, 1, 68, []), (68, .dup2, 1, 69, []), (69, .iaload, 1, 70, []), (70, .iload_n 2, 1, 71, []), (71, .iadd, 1, 72, []), (72, .iastore, 1, 73, []), (73, .aload_n 0, 1, 74, []), (74, .getfield 24, 3, 77, []), (77, .iload_n 1, 1, 78, []), (78, .dup2, 1, 79, []), (79, .iaload, 1, 80, []), (80, .iconst 1, 1, 81, []), (81, .iadd, 1, 82, []), (82, .iastore, 1, 83, []), (83, .return_, 1, 84, [])]
def k_X6_addFoe : List (Nat × List (Nat × Instr × Nat × Nat × List Nat)) := [(56, k_X6_addFoe_0), (84, k_X6_addFoe_1)]
def m_X6_addFoe : am_M := (yX6_addFoe, cX6_addFoe, 4, none, 6, am_a2 k_X6_addFoe)
theorem ok_X6_addFoe_0 : ∀ q ∈ k_X6_addFoe_0, am_ck cX6_addFoe q := by unfold am_ck; decide +kernel
theorem ok_X6_addFoe_1 : ∀ q ∈ k_X6_addFoe_1, am_ck cX6_addFoe q := by unfold am_ck; decide +kernel
theorem ok_X6_addFoe : am_ok m_X6_addFoe := am_ok_a2 (List.forall_mem_cons.mpr ⟨ok_X6_addFoe_0, List.forall_mem_cons.mpr ⟨ok_X6_addFoe_1, fun _ h => absurd h List.not_mem_nil⟩⟩)
def k_X6_amountOf : List (Nat × Instr × Nat × Nat × List Nat) := [(0, .iload_n 1, 1, 1, []), (1, .tableswitch 87 1 4 #[31, 38, 73, 80], 31, 32, [88, 32, 39, 74, 81]), (32, .aload_n 0, 1, 33, []), (33, .getfield 27, 3, 36, []), (36, .iload_n 2, 1, 37, []), (37, .iaload, 1, 38, []), (38, .ireturn, 1, 39, []), (39, .aload_n 0, 1, 40, []), (40, .getfield 24, 3, 43, []), (43, .iload_n 2, 1, 44, []), (44, .iaload, 1, 45, []), (45, .iconst 3, 1, 46, []), (46, .if_icmp .ge 7, 3, 49, [53]), (49, .iconst 0, 1, 50, []), (50, .goto 23, 3, 53, [73]), (53, .aload_n 0, 1, 54, []), (54, .getfield 27, 3, 57, []), (57, .iload_n 2, 1, 58, []), (58, .iaload, 1, 59, []), (59, .aload_n 0, 1, 60, []), (60, .getfield 30, 3, 63, []), (63, .iload_n 2, 1, 64, []), (64, .iaload, 1, 65, []), (65, .isub, 1, 66, []), (66, .aload_n 0, 1, 67, []), (67, .getfield 33, 3, 70, []), (70, .iload_n 2, 1, 71, []), (71, .iaload, 1, 72, []), (72, .isub, 1, 73, []), (73, .ireturn, 1, 74, []), (74, .aload_n 0, 1, 75, []), (75, .getfield 36, 3, 78, []), (78, .iload_n 2, 1, 79, []), (79, .iaload, 1, 80, []), (80, .ireturn, 1, 81, []), (81, .aload_n 0, 1, 82, []), (82, .getfield 39, 3, 85, []), (85, .iload_n 2, 1, 86, []), (86, .iaload, 1, 87, []), (87, .ireturn, 1, 88, []), (88, .aload_n 0, 1, 89, []), (89, .getfield 42, 3, 92, []), (92, .iload_n 2, 1, 93, []), (93, .iaload, 1, 94, []), (94, .ireturn, 1, 95, [])]
def m_X6_amountOf : am_M := (yX6_amountOf, cX6_amountOf, 3, (some .int), 6, am_at k_X6_amountOf)
theorem ok_X6_amountOf : am_ok m_X6_amountOf := am_ok_at (by unfold am_ck; decide +kernel)
def k_X6_parting_0 : List (Nat × Instr × Nat × Nat × List Nat) := [(0, .aload_n 0, 1, 1, []), (1, .getfield 21, 3, 4, []), (4, .iload_n 2, 1, 5, []), (5, .iaload, 1, 6, []), (6, .aload_n 0, 1, 7, []), (7, .getfield 21, 3, 10, []), (10, .iload_n 3, 1, 11, []), (11, .iaload, 1, 12, []), (12, .if_icmp .eq 24, 3, 15, [36]), (15, .aload_n 0, 1, 16, []), (16, .getfield 21, 3, 19, []), (19, .iload_n 2, 1, 20, []), (20, .iaload, 1, 21, []), (21, .aload_n 0, 1, 22, []), (22, .getfield 21, 3, 25, []), (25, .iload_n 3, 1, 26, []), (26, .iaload, 1, 27, []), (27, .if_icmp .le 7, 3, 30, [34]), (30, .iconst 1, 1, 31, []), (31, .goto 4, 3, 34, [35]), (34, .iconst 2, 1, 35, []), (35, .ireturn, 1, 36, []), (36, .iconst 1, 1, 37, []), (37, .istore 4, 2, 39, []), (39, .iload 4, 2, 41, []), (41, .iconst 4, 1, 42, []), (42, .if_icmp .gt 80, 3, 45, [122]), (45, .aload_n 1, 1, 46, []), (46, .getfield 116, 3, 49, []), (49, .iload 4, 2, 51, []), (51, .iaload, 1, 52, []), (52, .istore 5, 2, 54, [])]
def k_X6_parting_1 : List (Nat × Instr × Nat × Nat × List Nat) := [(54, .iload 5, 2, 56, []), (56, .ifCond .ne 7, 3, 59, [63]), (59, .iconst 0, 1, 60, []), (60, .goto 10, 3, 63, [70]), (63, .aload_n 0, 1, 64, []), (64, .iload 5, 2, 66, []), (66, .iload_n 2, 1, 67, []), (67, .invokevirtual 119, 3, 70, []), (70, .istore 6, 2, 72, []), (72, .iload 5, 2, 74, []), (74, .ifCond .ne 7, 3, 77, [81]), (77, .iconst 0, 1, 78, []), (78, .goto 10, 3, 81, [88]), (81, .aload_n 0, 1, 82, []), (82, .iload 5, 2, 84, []), (84, .iload_n 3, 1, 85, []), (85, .invokevirtual 119, 3, 88, []), (88, .istore 7, 2, 90, []), (90, .iload 6, 2, 92, []), (92, .iload 7, 2, 94, []), (94, .if_icmp .eq 22, 3, 97, [116]), (97, .bipush 10, 2, 99, []), (99, .iload 4, 2, 101, []), (101, .imul, 1, 102, []), (102, .iload 6, 2, 104, []), (104, .iload 7, 2, 106, []), (106, .if_icmp .le 7, 3, 109, [113]), (109, .iconst 1, 1, 110, []), (110, .goto 4, 3, 113, [114]), (113, .iconst 2, 1, 114, []), (114, .iadd, 1, 115, []), (115, .ireturn, 1, 116, [])]
def k_X6_parting_2 : List (Nat × Instr × Nat × Nat × List Nat) := [(116, .iinc 4 1, 3, 119, []), (119, .goto (-80), 3, 122, [39]), (122, .iconst 0, 1, 123, []), (123, .ireturn, 1, 124, [])]
def k_X6_parting : List (Nat × List (Nat × Instr × Nat × Nat × List Nat)) := [(54, k_X6_parting_0), (116, k_X6_parting_1), (124, k_X6_parting_2)]
def m_X6_parting : am_M := (yX6_parting, cX6_parting, 8, (some .int), 6, am_a2 k_X6_parting)
theorem ok_X6_parting_0 : ∀ q ∈ k_X6_parting_0, am_ck cX6_parting q := by unfold am_ck; decide +kernel
theorem ok_X6_parting_1 : ∀ q ∈ k_X6_parting_1, am_ck cX6_parting q := by unfold am_ck; decide +kernel
theorem ok_X6_parting_2 : ∀ q ∈ k_X6_parting_2, am_ck cX6_parting q := by unfold am_ck; decide +kernel
theorem ok_X6_parting : am_ok m_X6_parting := am_ok_a2 (List.forall_mem_cons.mpr ⟨ok_X6_parting_0, List.forall_mem_cons.mpr ⟨ok_X6_parting_1, List.forall_mem_cons.mpr ⟨ok_X6_parting_2, fun _ h => absurd h List.not_mem_nil⟩⟩⟩)
def k_X6_aheadOf : List (Nat × Instr × Nat × Nat × List Nat) := [(0, .iconst 0, 1, 1, []), (1, .istore_n 3, 1, 2, []), (2, .iconst 0, 1, 3, []), (3, .istore 4, 2, 5, []), (5, .iload 4, 2, 7, []), (7, .aload_n 1, 1, 8, []), (8, .getfield 122, 3, 11, []), (11, .if_icmp .ge 32, 3, 14, [43]), (14, .aload_n 0, 1, 15, []), (15, .aload_n 1, 1, 16, []), (16, .aload_n 1, 1, 17, []), (17, .getfield 125, 3, 20, []), (20, .iload 4, 2, 22, []), (22, .iaload, 1, 23, []), (23, .iload_n 2, 1, 24, []), (24, .invokevirtual 128, 3, 27, []), (27, .bipush 10, 2, 29, []), (29, .irem, 1, 30, []), (30, .iconst 1, 1, 31, []), (31, .if_icmp .ne 6, 3, 34, [37]), (34, .iinc 3 1, 3, 37, []), (37, .iinc 4 1, 3, 40, []), (40, .goto (-35), 3, 43, [5]), (43, .iload_n 3, 1, 44, []), (44, .ireturn, 1, 45, [])]
def m_X6_aheadOf : am_M := (yX6_aheadOf, cX6_aheadOf, 5, (some .int), 6, am_at k_X6_aheadOf)
theorem ok_X6_aheadOf : am_ok m_X6_aheadOf := am_ok_at (by unfold am_ck; decide +kernel)
def k_X6_whoIs : List (Nat × Instr × Nat × Nat × List Nat) := [(0, .iconst 0, 1, 1, []), (1, .istore_n 3, 1, 2, []), (2, .iload_n 3, 1, 3, []), (3, .aload_n 1, 1, 4, []), (4, .getfield 122, 3, 7, []), (7, .if_icmp .ge 39, 3, 10, [46]), (10, .aload_n 1, 1, 11, []), (11, .getfield 125, 3, 14, []), (14, .iload_n 3, 1, 15, []), (15, .iaload, 1, 16, []), (16, .istore 4, 2, 18, []), (18, .aload_n 0, 1, 19, []), (19, .aload_n 1, 1, 20, []), (20, .iload 4, 2, 22, []), (22, .invokevirtual 132, 3, 25, []), (25, .aload_n 0, 1, 26, []), (26, .aload_n 1, 1, 27, []), (27, .iload 4, 2, 29, []), (29, .invokevirtual 136, 3, 32, []), (32, .iadd, 1, 33, []), (33, .iload_n 2, 1, 34, []), (34, .if_icmp .ne 6, 3, 37, [40]), (37, .iload 4, 2, 39, []), (39, .ireturn, 1, 40, []), (40, .iinc 3 1, 3, 43, []), (43, .goto (-41), 3, 46, [2]), (46, .iconst (-1), 1, 47, []), (47, .ireturn, 1, 48, [])]
def m_X6_whoIs : am_M := (yX6_whoIs, cX6_whoIs, 5, (some .int), 6, am_at k_X6_whoIs)
theorem ok_X6_whoIs : am_ok m_X6_whoIs := am_ok_at (by unfold am_ck; decide +kernel)
def k_X6_lesserAlike : List (Nat × Instr × Nat × Nat × List Nat) := [(0, .iconst 0, 1, 1, []), (1, .istore_n 3, 1, 2, []), (2, .iconst 0, 1, 3, []), (3, .istore 4, 2, 5, []), (5, .iload 4, 2, 7, []), (7, .aload_n 1, 1, 8, []), (8, .getfield 122, 3, 11, []), (11, .if_icmp .ge 38, 3, 14, [49]), (14, .aload_n 1, 1, 15, []), (15, .getfield 125, 3, 18, []), (18, .iload 4, 2, 20, []), (20, .iaload, 1, 21, []), (21, .istore 5, 2, 23, []), (23, .iload 5, 2, 25, []), (25, .iload_n 2, 1, 26, []), (26, .if_icmp .ge 17, 3, 29, [43]), (29, .aload_n 0, 1, 30, []), (30, .aload_n 1, 1, 31, []), (31, .iload 5, 2, 33, []), (33, .iload_n 2, 1, 34, []), (34, .invokevirtual 128, 3, 37, []), (37, .ifCond .ne 6, 3, 40, [43]), (40, .iinc 3 1, 3, 43, []), (43, .iinc 4 1, 3, 46, []), (46, .goto (-41), 3, 49, [5]), (49, .iload_n 3, 1, 50, []), (50, .ireturn, 1, 51, [])]
def m_X6_lesserAlike : am_M := (yX6_lesserAlike, cX6_lesserAlike, 6, (some .int), 6, am_at k_X6_lesserAlike)
theorem ok_X6_lesserAlike : am_ok m_X6_lesserAlike := am_ok_at (by unfold am_ck; decide +kernel)
def k_X6_listOpen_0 : List (Nat × Instr × Nat × Nat × List Nat) := [(0, .iconst 0, 1, 1, []), (1, .istore_n 2, 1, 2, []), (2, .iconst 0, 1, 3, []), (3, .istore_n 3, 1, 4, []), (4, .iload_n 3, 1, 5, []), (5, .aload_n 1, 1, 6, []), (6, .getfield 73, 3, 9, []), (9, .if_icmp .ge 99, 3, 12, [108]), (12, .iconst 0, 1, 13, []), (13, .istore 4, 2, 15, []), (15, .iload 4, 2, 17, []), (17, .aload_n 1, 1, 18, []), (18, .getfield 76, 3, 21, []), (21, .iload_n 3, 1, 22, []), (22, .iaload, 1, 23, []), (23, .if_icmp .ge 79, 3, 26, [102]), (26, .iload_n 3, 1, 27, []), (27, .iconst 5, 1, 28, []), (28, .imul, 1, 29, []), (29, .iload 4, 2, 31, []), (31, .iadd, 1, 32, []), (32, .istore 5, 2, 34, []), (34, .aload_n 0, 1, 35, []), (35, .getfield 9, 3, 38, []), (38, .iload 5, 2, 40, []), (40, .iaload, 1, 41, []), (41, .iconst (-1), 1, 42, []), (42, .if_icmp .eq 14, 3, 45, [56]), (45, .aload_n 0, 1, 46, []), (46, .getfield 15, 3, 49, []), (49, .iload 5, 2, 51, []), (51, .iaload, 1, 52, [])]
def k_X6_listOpen_1 : List (Nat × Instr × Nat × Nat × List Nat) := [(52, .iconst 5, 1, 53, []), (53, .if_icmp .ne 7, 3, 56, [60]), (56, .iconst 1, 1, 57, []), (57, .goto 4, 3, 60, [61]), (60, .iconst 0, 1, 61, []), (61, .istore 6, 2, 63, []), (63, .aload_n 1, 1, 64, []), (64, .getfield 79, 3, 67, []), (67, .iload 5, 2, 69, []), (69, .iaload, 1, 70, []), (70, .bipush 99, 2, 72, []), (72, .if_icmp .eq 24, 3, 75, [96]), (75, .iload 6, 2, 77, []), (77, .ifCond .eq 19, 3, 80, [96]), (80, .iload_n 2, 1, 81, []), (81, .iconst 4, 1, 82, []), (82, .if_icmp .ge 11, 3, 85, [93]), (85, .aload_n 0, 1, 86, []), (86, .getfield 18, 3, 89, []), (89, .iload_n 2, 1, 90, []), (90, .iload 5, 2, 92, []), (92, .iastore, 1, 93, []), (93, .iinc 2 1, 3, 96, []), (96, .iinc 4 1, 3, 99, []), (99, .goto (-84), 3, 102, [15]), (102, .iinc 3 1, 3, 105, []), (105, .goto (-101), 3, 108, [4]), (108, .iload_n 2, 1, 109, []), (109, .ireturn, 1, 110, [])]
def k_X6_listOpen : List (Nat × List (Nat × Instr × Nat × Nat × List Nat)) := [(52, k_X6_listOpen_0), (110, k_X6_listOpen_1)]
def m_X6_listOpen : am_M := (yX6_listOpen, cX6_listOpen, 7, (some .int), 6, am_a2 k_X6_listOpen)
theorem ok_X6_listOpen_0 : ∀ q ∈ k_X6_listOpen_0, am_ck cX6_listOpen q := by unfold am_ck; decide +kernel
theorem ok_X6_listOpen_1 : ∀ q ∈ k_X6_listOpen_1, am_ck cX6_listOpen q := by unfold am_ck; decide +kernel
theorem ok_X6_listOpen : am_ok m_X6_listOpen := am_ok_a2 (List.forall_mem_cons.mpr ⟨ok_X6_listOpen_0, List.forall_mem_cons.mpr ⟨ok_X6_listOpen_1, fun _ h => absurd h List.not_mem_nil⟩⟩)
def k_X6_suppose : List (Nat × Instr × Nat × Nat × List Nat) := [(0, .iload_n 1, 1, 1, []), (1, .istore_n 3, 1, 2, []), (2, .iload_n 2, 1, 3, []), (3, .iconst 1, 1, 4, []), (4, .isub, 1, 5, []), (5, .istore 4, 2, 7, []), (7, .iload 4, 2, 9, []), (9, .ifCond .lt 28, 3, 12, [37]), (12, .aload_n 0, 1, 13, []), (13, .getfield 15, 3, 16, []), (16, .aload_n 0, 1, 17, []), (17, .getfield 18, 3, 20, []), (20, .iload 4, 2, 22, []), (22, .iaload, 1, 23, []), (23, .iload_n 3, 1, 24, []), (24, .iconst 3, 1, 25, []), (25, .irem, 1, 26, []), (26, .iastore, 1, 27, []), (27, .iload_n 3, 1, 28, []), (28, .iconst 3, 1, 29, []), (29, .idiv, 1, 30, []), (30, .istore_n 3, 1, 31, []), (31, .iinc 4 (-1), 3, 34, []), (34, .goto (-27), 3, 37, [7]), (37, .return_, 1, 38, [])]
def m_X6_suppose : am_M := (yX6_suppose, cX6_suppose, 5, none, 6, am_at k_X6_suppose)
theorem ok_X6_suppose : am_ok m_X6_suppose := am_ok_at (by unfold am_ck; decide +kernel)
def k_X6_isOutscored : List (Nat × Instr × Nat × Nat × List Nat) := [(0, .iconst 0, 1, 1, []), (1, .istore_n 3, 1, 2, []), (2, .iload_n 3, 1, 3, []), (3, .aload_n 1, 1, 4, []), (4, .getfield 122, 3, 7, []), (7, .if_icmp .ge 31, 3, 10, [38]), (10, .aload_n 0, 1, 11, []), (11, .getfield 21, 3, 14, []), (14, .aload_n 1, 1, 15, []), (15, .getfield 125, 3, 18, []), (18, .iload_n 3, 1, 19, []), (19, .iaload, 1, 20, []), (20, .iaload, 1, 21, []), (21, .aload_n 0, 1, 22, []), (22, .getfield 21, 3, 25, []), (25, .iload_n 2, 1, 26, []), (26, .iaload, 1, 27, []), (27, .if_icmp .le 5, 3, 30, [32]), (30, .iconst 1, 1, 31, []), (31, .ireturn, 1, 32, []), (32, .iinc 3 1, 3, 35, []), (35, .goto (-33), 3, 38, [2]), (38, .iconst 0, 1, 39, []), (39, .ireturn, 1, 40, [])]
def m_X6_isOutscored : am_M := (yX6_isOutscored, cX6_isOutscored, 4, (some .boolean), 6, am_at k_X6_isOutscored)
theorem ok_X6_isOutscored : am_ok m_X6_isOutscored := am_ok_at (by unfold am_ck; decide +kernel)
def k_X6_isFirst_0 : List (Nat × Instr × Nat × Nat × List Nat) := [(0, .aload_n 0, 1, 1, []), (1, .aload_n 1, 1, 2, []), (2, .ldc 139, 2, 4, []), (4, .invokevirtual 140, 3, 7, []), (7, .aload_n 0, 1, 8, []), (8, .aload_n 1, 1, 9, []), (9, .iload_n 2, 1, 10, []), (10, .invokevirtual 144, 3, 13, []), (13, .ifCond .eq 5, 3, 16, [18]), (16, .iconst 0, 1, 17, []), (17, .ireturn, 1, 18, []), (18, .aload_n 0, 1, 19, []), (19, .aload_n 1, 1, 20, []), (20, .invokevirtual 148, 3, 23, []), (23, .iconst 0, 1, 24, []), (24, .istore 4, 2, 26, []), (26, .iload 4, 2, 28, []), (28, .aload_n 1, 1, 29, []), (29, .getfield 122, 3, 32, []), (32, .if_icmp .ge 54, 3, 35, [86]), (35, .aload_n 1, 1, 36, []), (36, .getfield 125, 3, 39, []), (39, .iload 4, 2, 41, []), (41, .iaload, 1, 42, []), (42, .istore 5, 2, 44, []), (44, .aload_n 0, 1, 45, []), (45, .aload_n 1, 1, 46, []), (46, .iload 5, 2, 48, []), (48, .iload_n 2, 1, 49, []), (49, .invokevirtual 128, 3, 52, []), (52, .istore 6, 2, 54, []), (54, .iload 5, 2, 56, [])]
def k_X6_isFirst_1 : List (Nat × Instr × Nat × Nat × List Nat) := [(56, .iload_n 2, 1, 57, []), (57, .if_icmp .eq 23, 3, 60, [80]), (60, .iload 6, 2, 62, []), (62, .bipush 10, 2, 64, []), (64, .irem, 1, 65, []), (65, .iconst 1, 1, 66, []), (66, .if_icmp .eq 12, 3, 69, [78]), (69, .iload_n 3, 1, 70, []), (70, .ifCond .eq 10, 3, 73, [80]), (73, .iload 6, 2, 75, []), (75, .ifCond .ne 5, 3, 78, [80]), (78, .iconst 0, 1, 79, []), (79, .ireturn, 1, 80, []), (80, .iinc 4 1, 3, 83, []), (83, .goto (-57), 3, 86, [26]), (86, .iconst 1, 1, 87, []), (87, .ireturn, 1, 88, [])]
def k_X6_isFirst : List (Nat × List (Nat × Instr × Nat × Nat × List Nat)) := [(56, k_X6_isFirst_0), (88, k_X6_isFirst_1)]
def m_X6_isFirst : am_M := (yX6_isFirst, cX6_isFirst, 7, (some .boolean), 6, am_a2 k_X6_isFirst)
theorem ok_X6_isFirst_0 : ∀ q ∈ k_X6_isFirst_0, am_ck cX6_isFirst q := by unfold am_ck; decide +kernel
theorem ok_X6_isFirst_1 : ∀ q ∈ k_X6_isFirst_1, am_ck cX6_isFirst q := by unfold am_ck; decide +kernel
theorem ok_X6_isFirst : am_ok m_X6_isFirst := am_ok_a2 (List.forall_mem_cons.mpr ⟨ok_X6_isFirst_0, List.forall_mem_cons.mpr ⟨ok_X6_isFirst_1, fun _ h => absurd h List.not_mem_nil⟩⟩)
def k_X7_init_0 : List (Nat × Instr × Nat × Nat × List Nat) := [(0, .aload_n 0, 1, 1, []), (1, .invokespecial 3, 3, 4, []), (4, .aload_n 0, 1, 5, []), (5, .iconst 0, 1, 6, []), (6, .putfield 9, 3, 9, []), (9, .aload_n 0, 1, 10, []), (10, .iconst 0, 1, 11, []), (11, .putfield 15, 3, 14, []), (14, .aload_n 0, 1, 15, []), (15, .iconst 0, 1, 16, []), (16, .putfield 18, 3, 19, []), (19, .aload_n 0, 1, 20, []), (20, .iconst 0, 1, 21, []), (21, .putfield 21, 3, 24, []), (24, .aload_n 0, 1, 25, []), (25, .bipush 10, 2, 27, []), (27, .newarray .int, 2, 29, []), (29, .putfield 24, 3, 32, []), (32, .aload_n 0, 1, 33, []), (33, .bipush 24, 2, 35, []), (35, .newarray .int, 2, 37, []), (37, .putfield 28, 3, 40, []), (40, .aload_n 0, 1, 41, []), (41, .iconst 5, 1, 42, []), (42, .newarray .int, 2, 44, []), (44, .putfield 31, 3, 47, []), (47, .aload_n 0, 1, 48, []), (48, .bipush 6, 2, 50, []), (50, .newarray .int, 2, 52, []), (52, .putfield 34, 3, 55, []), (55, .aload_n 0, 1, 56, []), (56, .bipush 6, 2, 58, [])]
def k_X7_init_1 : List (Nat × Instr × Nat × Nat × List Nat) := [(58, .newarray .int, 2, 60, []), (60, .putfield 37, 3, 63, []), (63, .aload_n 0, 1, 64, []), (64, .bipush 6, 2, 66, []), (66, .newarray .int, 2, 68, []), (68, .putfield 40, 3, 71, []), (71, .aload_n 0, 1, 72, []), (72, .bipush 30, 2, 74, []), (74, .newarray .int, 2, 76, []), (76, .putfield 43, 3, 79, []), (79, .aload_n 0, 1, 80, []), (80, .bipush 30, 2, 82, []), (82, .newarray .int, 2, 84, []), (84, .putfield 46, 3, 87, []), (87, .aload_n 0, 1, 88, []), (88, .bipush 60, 2, 90, []), (90, .newarray .int, 2, 92, []), (92, .putfield 49, 3, 95, []), (95, .aload_n 0, 1, 96, []), (96, .bipush 60, 2, 98, []), (98, .newarray .int, 2, 100, []), (100, .putfield 52, 3, 103, []), (103, .aload_n 0, 1, 104, []), (104, .bipush 60, 2, 106, []), (106, .newarray .int, 2, 108, []), (108, .putfield 55, 3, 111, []), (111, .aload_n 0, 1, 112, []), (112, .bipush 60, 2, 114, []), (114, .newarray .int, 2, 116, []), (116, .putfield 58, 3, 119, []), (119, .aload_n 0, 1, 120, []), (120, .bipush 60, 2, 122, [])]
def k_X7_init_2 : List (Nat × Instr × Nat × Nat × List Nat) := [(122, .newarray .int, 2, 124, []), (124, .putfield 61, 3, 127, []), (127, .return_, 1, 128, [])]
def k_X7_init : List (Nat × List (Nat × Instr × Nat × Nat × List Nat)) := [(58, k_X7_init_0), (122, k_X7_init_1), (128, k_X7_init_2)]
def m_X7_init : am_M := (yX7_init, cX7_init, 1, none, 7, am_a2 k_X7_init)
theorem ok_X7_init_0 : ∀ q ∈ k_X7_init_0, am_ck cX7_init q := by unfold am_ck; decide +kernel
theorem ok_X7_init_1 : ∀ q ∈ k_X7_init_1, am_ck cX7_init q := by unfold am_ck; decide +kernel
theorem ok_X7_init_2 : ∀ q ∈ k_X7_init_2, am_ck cX7_init q := by unfold am_ck; decide +kernel
theorem ok_X7_init : am_ok m_X7_init := am_ok_a2 (List.forall_mem_cons.mpr ⟨ok_X7_init_0, List.forall_mem_cons.mpr ⟨ok_X7_init_1, List.forall_mem_cons.mpr ⟨ok_X7_init_2, fun _ h => absurd h List.not_mem_nil⟩⟩⟩)
def k_X7_clear : List (Nat × Instr × Nat × Nat × List Nat) := [(0, .aload_n 0, 1, 1, []), (1, .iconst 0, 1, 2, []), (2, .putfield 15, 3, 5, []), (5, .aload_n 0, 1, 6, []), (6, .iconst 0, 1, 7, []), (7, .putfield 18, 3, 10, []), (10, .aload_n 0, 1, 11, []), (11, .iconst 0, 1, 12, []), (12, .putfield 21, 3, 15, []), (15, .aload_n 0, 1, 16, []), (16, .getfield 28, 3, 19, []), (19, .iconst 0, 1, 20, []), (20, .invokestatic 64, 3, 23, []), (23, .aload_n 0, 1, 24, []), (24, .getfield 31, 3, 27, []), (27, .iconst 0, 1, 28, []), (28, .invokestatic 64, 3, 31, []), (31, .return_, 1, 32, [])]
def m_X7_clear : am_M := (yX7_clear, cX7_clear, 1, none, 7, am_at k_X7_clear)
theorem ok_X7_clear : am_ok m_X7_clear := am_ok_at (by unfold am_ck; decide +kernel)
def k_X7_hasIn : List (Nat × Instr × Nat × Nat × List Nat) := [(0, .aload_n 0, 1, 1, []), (1, .getfield 28, 3, 4, []), (4, .iload_n 1, 1, 5, []), (5, .iaload, 1, 6, []), (6, .ifCond .eq 7, 3, 9, [13]), (9, .iconst 1, 1, 10, []), (10, .goto 4, 3, 13, [14]), (13, .iconst 0, 1, 14, []), (14, .ireturn, 1, 15, [])]
def m_X7_hasIn : am_M := (yX7_hasIn, cX7_hasIn, 2, (some .boolean), 7, am_at k_X7_hasIn)
theorem ok_X7_hasIn : am_ok m_X7_hasIn := am_ok_at (by unfold am_ck; decide +kernel)
def k_X7_letIn : List (Nat × Instr × Nat × Nat × List Nat) := [(0, .aload_n 0, 1, 1, []), (1, .getfield 28, 3, 4, []), (4, .iload_n 1, 1, 5, []), (5, .iconst 1, 1, 6, []), (6, .iastore, 1, 7, []), (7, .aload_n 0, 1, 8, []), (8, .getfield 24, 3, 11, []), (11, .aload_n 0, 1, 12, []), (12, .getfield 15, 3, 15, []), (15, .iload_n 1, 1, 16, []), (16, .iastore, 1, 17, []), (17, .aload_n 0, 1, 18, []), (18, .dup, 1, 19, []), (19, .getfield 15, 3, 22, []), (22, .iconst 1, 1, 23, []), (23, .iadd, 1, 24, []), (24, .putfield 15, 3, 27, []), (27, .aload_n 0, 1, 28, []), (28, .getfield 15, 3, 31, []), (31, .ireturn, 1, 32, [])]
def m_X7_letIn : am_M := (yX7_letIn, cX7_letIn, 2, (some .int), 7, am_at k_X7_letIn)
theorem ok_X7_letIn : am_ok m_X7_letIn := am_ok_at (by unfold am_ck; decide +kernel)
def k_X7_latestDay : List (Nat × Instr × Nat × Nat × List Nat) := [(0, .aload_n 0, 1, 1, []), (1, .getfield 18, 3, 4, []), (4, .ifCond .ne 7, 3, 7, [11]), (7, .iconst 0, 1, 8, []), (8, .goto 14, 3, 11, [22]), (11, .aload_n 0, 1, 12, []), (12, .getfield 34, 3, 15, []), (15, .aload_n 0, 1, 16, []), (16, .getfield 18, 3, 19, []), (19, .iconst 1, 1, 20, []), (20, .isub, 1, 21, []), (21, .iaload, 1, 22, []), (22, .ireturn, 1, 23, [])]
def m_X7_latestDay : am_M := (yX7_latestDay, cX7_latestDay, 1, (some .int), 7, am_at k_X7_latestDay)
theorem ok_X7_latestDay : am_ok m_X7_latestDay := am_ok_at (by unfold am_ck; decide +kernel)
def k_X7_roundOf : List (Nat × Instr × Nat × Nat × List Nat) := [(0, .iload_n 1, 1, 1, []), (1, .ifCond .lt 9, 3, 4, [10]), (4, .iload_n 1, 1, 5, []), (5, .bipush 6, 2, 7, []), (7, .if_icmp .lt 9, 3, 10, [16]), (10, .aload_n 2, 1, 11, []), (11, .iconst 2, 1, 12, []), (12, .invokevirtual 70, 3, 15, []), (15, .ireturn, 1, 16, []), (16, .iload_n 1, 1, 17, []), (17, .aload_n 0, 1, 18, []), (18, .getfield 18, 3, 21, []), (21, .if_icmp .lt 11, 3, 24, [32]), (24, .aload_n 2, 1, 25, []), (25, .iconst 1, 1, 26, []), (26, .invokevirtual 70, 3, 29, []), (29, .goto 4, 3, 32, [33]), (32, .iload_n 1, 1, 33, []), (33, .ireturn, 1, 34, [])]
def m_X7_roundOf : am_M := (yX7_roundOf, cX7_roundOf, 3, (some .int), 7, am_at k_X7_roundOf)
theorem ok_X7_roundOf : am_ok m_X7_roundOf := am_ok_at (by unfold am_ck; decide +kernel)
def k_X7_cellOf : List (Nat × Instr × Nat × Nat × List Nat) := [(0, .aload_n 0, 1, 1, []), (1, .iload_n 1, 1, 2, []), (2, .aload_n 3, 1, 3, []), (3, .invokevirtual 76, 3, 6, []), (6, .istore 4, 2, 8, []), (8, .iload 4, 2, 10, []), (10, .ifCond .ge 6, 3, 13, [16]), (13, .iload 4, 2, 15, []), (15, .ireturn, 1, 16, []), (16, .iload_n 2, 1, 17, []), (17, .ifCond .lt 14, 3, 20, [31]), (20, .iload_n 2, 1, 21, []), (21, .aload_n 0, 1, 22, []), (22, .getfield 37, 3, 25, []), (25, .iload 4, 2, 27, []), (27, .iaload, 1, 28, []), (28, .if_icmp .lt 9, 3, 31, [37]), (31, .aload_n 3, 1, 32, []), (32, .iconst 2, 1, 33, []), (33, .invokevirtual 70, 3, 36, []), (36, .ireturn, 1, 37, []), (37, .iload 4, 2, 39, []), (39, .iconst 5, 1, 40, []), (40, .imul, 1, 41, []), (41, .iload_n 2, 1, 42, []), (42, .iadd, 1, 43, []), (43, .ireturn, 1, 44, [])]
def m_X7_cellOf : am_M := (yX7_cellOf, cX7_cellOf, 5, (some .int), 7, am_at k_X7_cellOf)
theorem ok_X7_cellOf : am_ok m_X7_cellOf := am_ok_at (by unfold am_ck; decide +kernel)
def k_X7_addEntry : List (Nat × Instr × Nat × Nat × List Nat) := [(0, .aload_n 0, 1, 1, []), (1, .getfield 21, 3, 4, []), (4, .bipush 60, 2, 6, []), (6, .if_icmp .lt 6, 3, 9, [12]), (9, .bipush (-4), 2, 11, []), (11, .ireturn, 1, 12, []), (12, .aload_n 0, 1, 13, []), (13, .getfield 49, 3, 16, []), (16, .aload_n 0, 1, 17, []), (17, .getfield 21, 3, 20, []), (20, .iload_n 1, 1, 21, []), (21, .iastore, 1, 22, []), (22, .aload_n 0, 1, 23, []), (23, .getfield 52, 3, 26, []), (26, .aload_n 0, 1, 27, []), (27, .getfield 21, 3, 30, []), (30, .iload_n 2, 1, 31, []), (31, .iastore, 1, 32, []), (32, .aload_n 0, 1, 33, []), (33, .getfield 55, 3, 36, []), (36, .aload_n 0, 1, 37, []), (37, .getfield 21, 3, 40, []), (40, .iload_n 3, 1, 41, []), (41, .iastore, 1, 42, []), (42, .aload_n 0, 1, 43, []), (43, .getfield 58, 3, 46, []), (46, .aload_n 0, 1, 47, []), (47, .getfield 21, 3, 50, []), (50, .iload 4, 2, 52, []), (52, .iastore, 1, 53, []), (53, .aload_n 0, 1, 54, []), (54, .getfield 61, 3, 57, []), (57, .aload_n 0, 1, 58, []), (58, .getfield 21, 3, 61, []), (61, .iconst (-1), 1, 62, []), (62, .iastore, 1, 63, []), (63, .aload_n 0, 1, 64, []), (64, .dup, 1, 65, []), (65, .getfield 21, 3, 68, []), (68, .iconst 1, 1, 69, []), (69, .iadd, 1, 70, []), (70, .putfield 21, 3, 73, []), (73, .aload_n 0, 1, 74, []), (74, .getfield 21, 3, 77, []), (77, .iconst 1, 1, 78, []), (78, .isub, 1, 79, []), (79, .ireturn, 1, 80, [])]
def m_X7_addEntry : am_M := (yX7_addEntry, cX7_addEntry, 5, (some .int), 7, am_at k_X7_addEntry)
theorem ok_X7_addEntry : am_ok m_X7_addEntry := am_ok_at (by unfold am_ck; decide +kernel)
def k_X7_isKnown : List (Nat × Instr × Nat × Nat × List Nat) := [(0, .aload_n 0, 1, 1, []), (1, .getfield 61, 3, 4, []), (4, .iload_n 1, 1, 5, []), (5, .iaload, 1, 6, []), (6, .iconst (-1), 1, 7, []), (7, .if_icmp .eq 17, 3, 10, [24]), (10, .aload_n 0, 1, 11, []), (11, .getfield 61, 3, 14, []), (14, .iload_n 1, 1, 15, []), (15, .iaload, 1, 16, []), (16, .iload_n 2, 1, 17, []), (17, .if_icmp .gt 7, 3, 20, [24]), (20, .iconst 1, 1, 21, []), (21, .goto 4, 3, 24, [25]), (24, .iconst 0, 1, 25, []), (25, .istore_n 3, 1, 26, []), (26, .aload_n 0, 1, 27, []), (27, .getfield 58, 3, 30, []), (30, .iload_n 1, 1, 31, []), (31, .iaload, 1, 32, []), (32, .iload_n 2, 1, 33, []), (33, .if_icmp .gt 11, 3, 36, [44]), (36, .iload_n 3, 1, 37, []), (37, .ifCond .ne 7, 3, 40, [44]), (40, .iconst 1, 1, 41, []), (41, .goto 4, 3, 44, [45]), (44, .iconst 0, 1, 45, []), (45, .ireturn, 1, 46, [])]
def m_X7_isKnown : am_M := (yX7_isKnown, cX7_isKnown, 4, (some .boolean), 7, am_at k_X7_isKnown)
theorem ok_X7_isKnown : am_ok m_X7_isKnown := am_ok_at (by unfold am_ck; decide +kernel)
def k_X7_takeOver_0 : List (Nat × Instr × Nat × Nat × List Nat) := [(0, .aload_n 0, 1, 1, []), (1, .aload_n 1, 1, 2, []), (2, .getfield 15, 3, 5, []), (5, .putfield 15, 3, 8, []), (8, .aload_n 0, 1, 9, []), (9, .aload_n 1, 1, 10, []), (10, .getfield 18, 3, 13, []), (13, .putfield 18, 3, 16, []), (16, .aload_n 0, 1, 17, []), (17, .aload_n 1, 1, 18, []), (18, .getfield 21, 3, 21, []), (21, .putfield 21, 3, 24, []), (24, .aload_n 0, 1, 25, []), (25, .getfield 18, 3, 28, []), (28, .iconst 5, 1, 29, []), (29, .imul, 1, 30, []), (30, .istore_n 2, 1, 31, []), (31, .aload_n 1, 1, 32, []), (32, .getfield 24, 3, 35, []), (35, .iconst 0, 1, 36, []), (36, .aload_n 0, 1, 37, []), (37, .getfield 24, 3, 40, []), (40, .iconst 0, 1, 41, []), (41, .aload_n 0, 1, 42, []), (42, .getfield 15, 3, 45, []), (45, .invokestatic 80, 3, 48, []), (48, .aload_n 1, 1, 49, []), (49, .getfield 28, 3, 52, []), (52, .iconst 0, 1, 53, []), (53, .aload_n 0, 1, 54, []), (54, .getfield 28, 3, 57, []), (57, .iconst 0, 1, 58, [])]
def k_X7_takeOver_1 : List (Nat × Instr × Nat × Nat × List Nat) := [(58, .bipush 24, 2, 60, []), (60, .invokestatic 80, 3, 63, []), (63, .aload_n 1, 1, 64, []), (64, .getfield 31, 3, 67, []), (67, .iconst 0, 1, 68, []), (68, .aload_n 0, 1, 69, []), (69, .getfield 31, 3, 72, []), (72, .iconst 0, 1, 73, []), (73, .iconst 5, 1, 74, []), (74, .invokestatic 80, 3, 77, []), (77, .aload_n 1, 1, 78, []), (78, .getfield 34, 3, 81, []), (81, .iconst 0, 1, 82, []), (82, .aload_n 0, 1, 83, []), (83, .getfield 34, 3, 86, []), (86, .iconst 0, 1, 87, []), (87, .aload_n 0, 1, 88, []), (88, .getfield 18, 3, 91, []), (91, .invokestatic 80, 3, 94, []), (94, .aload_n 1, 1, 95, []), (95, .getfield 37, 3, 98, []), (98, .iconst 0, 1, 99, []), (99, .aload_n 0, 1, 100, []), (100, .getfield 37, 3, 103, []), (103, .iconst 0, 1, 104, []), (104, .aload_n 0, 1, 105, []), (105, .getfield 18, 3, 108, []), (108, .invokestatic 80, 3, 111, []), (111, .aload_n 1, 1, 112, []), (112, .getfield 40, 3, 115, []), (115, .iconst 0, 1, 116, []), (116, .aload_n 0, 1, 117, [])]
def k_X7_takeOver_2 : List (Nat × Instr × Nat × Nat × List Nat) := [(117, .getfield 40, 3, 120, []), (120, .iconst 0, 1, 121, []), (121, .aload_n 0, 1, 122, []), (122, .getfield 18, 3, 125, []), (125, .invokestatic 80, 3, 128, []), (128, .aload_n 1, 1, 129, []), (129, .getfield 43, 3, 132, []), (132, .iconst 0, 1, 133, []), (133, .aload_n 0, 1, 134, []), (134, .getfield 43, 3, 137, []), (137, .iconst 0, 1, 138, []), (138, .iload_n 2, 1, 139, []), (139, .invokestatic 80, 3, 142, []), (142, .aload_n 1, 1, 143, []), (143, .getfield 46, 3, 146, []), (146, .iconst 0, 1, 147, []), (147, .aload_n 0, 1, 148, []), (148, .getfield 46, 3, 151, []), (151, .iconst 0, 1, 152, []), (152, .iload_n 2, 1, 153, []), (153, .invokestatic 80, 3, 156, []), (156, .aload_n 1, 1, 157, []), (157, .getfield 49, 3, 160, []), (160, .iconst 0, 1, 161, []), (161, .aload_n 0, 1, 162, []), (162, .getfield 49, 3, 165, []), (165, .iconst 0, 1, 166, []), (166, .aload_n 0, 1, 167, []), (167, .getfield 21, 3, 170, []), (170, .invokestatic 80, 3, 173, []), (173, .aload_n 1, 1, 174, []), (174, .getfield 52, 3, 177, [])]
def k_X7_takeOver_3 : List (Nat × Instr × Nat × Nat × List Nat) := [(177, .iconst 0, 1, 178, []), (178, .aload_n 0, 1, 179, []), (179, .getfield 52, 3, 182, []), (182, .iconst 0, 1, 183, []), (183, .aload_n 0, 1, 184, []), (184, .getfield 21, 3, 187, []), (187, .invokestatic 80, 3, 190, []), (190, .aload_n 1, 1, 191, []), (191, .getfield 55, 3, 194, []), (194, .iconst 0, 1, 195, []), (195, .aload_n 0, 1, 196, []), (196, .getfield 55, 3, 199, []), (199, .iconst 0, 1, 200, []), (200, .aload_n 0, 1, 201, []), (201, .getfield 21, 3, 204, []), (204, .invokestatic 80, 3, 207, []), (207, .aload_n 1, 1, 208, []), (208, .getfield 58, 3, 211, []), (211, .iconst 0, 1, 212, []), (212, .aload_n 0, 1, 213, []), (213, .getfield 58, 3, 216, []), (216, .iconst 0, 1, 217, []), (217, .aload_n 0, 1, 218, []), (218, .getfield 21, 3, 221, []), (221, .invokestatic 80, 3, 224, []), (224, .aload_n 1, 1, 225, []), (225, .getfield 61, 3, 228, []), (228, .iconst 0, 1, 229, []), (229, .aload_n 0, 1, 230, []), (230, .getfield 61, 3, 233, []), (233, .iconst 0, 1, 234, []), (234, .aload_n 0, 1, 235, [])]
def k_X7_takeOver_4 : List (Nat × Instr × Nat × Nat × List Nat) := [(235, .getfield 21, 3, 238, []), (238, .invokestatic 80, 3, 241, []), (241, .return_, 1, 242, [])]
def k_X7_takeOver : List (Nat × List (Nat × Instr × Nat × Nat × List Nat)) := [(58, k_X7_takeOver_0), (117, k_X7_takeOver_1), (177, k_X7_takeOver_2), (235, k_X7_takeOver_3), (242, k_X7_takeOver_4)]
def m_X7_takeOver : am_M := (yX7_takeOver, cX7_takeOver, 3, none, 7, am_a2 k_X7_takeOver)
theorem ok_X7_takeOver_0 : ∀ q ∈ k_X7_takeOver_0, am_ck cX7_takeOver q := by unfold am_ck; decide +kernel
theorem ok_X7_takeOver_1 : ∀ q ∈ k_X7_takeOver_1, am_ck cX7_takeOver q := by unfold am_ck; decide +kernel
theorem ok_X7_takeOver_2 : ∀ q ∈ k_X7_takeOver_2, am_ck cX7_takeOver q := by unfold am_ck; decide +kernel
theorem ok_X7_takeOver_3 : ∀ q ∈ k_X7_takeOver_3, am_ck cX7_takeOver q := by unfold am_ck; decide +kernel
theorem ok_X7_takeOver_4 : ∀ q ∈ k_X7_takeOver_4, am_ck cX7_takeOver q := by unfold am_ck; decide +kernel
theorem ok_X7_takeOver : am_ok m_X7_takeOver := am_ok_a2 (List.forall_mem_cons.mpr ⟨ok_X7_takeOver_0, List.forall_mem_cons.mpr ⟨ok_X7_takeOver_1, List.forall_mem_cons.mpr ⟨ok_X7_takeOver_2, List.forall_mem_cons.mpr ⟨ok_X7_takeOver_3, List.forall_mem_cons.mpr ⟨ok_X7_takeOver_4, fun _ h => absurd h List.not_mem_nil⟩⟩⟩⟩⟩)
def k_X7_isLike_0 : List (Nat × Instr × Nat × Nat × List Nat) := [(0, .aload_n 0, 1, 1, []), (1, .getfield 15, 3, 4, []), (4, .aload_n 1, 1, 5, []), (5, .getfield 15, 3, 8, []), (8, .if_icmp .ne 97, 3, 11, [105]), (11, .aload_n 0, 1, 12, []), (12, .getfield 18, 3, 15, []), (15, .aload_n 1, 1, 16, []), (16, .getfield 18, 3, 19, []), (19, .if_icmp .ne 86, 3, 22, [105]), (22, .aload_n 0, 1, 23, []), (23, .getfield 21, 3, 26, []), (26, .aload_n 1, 1, 27, []), (27, .getfield 21, 3, 30, []), (30, .if_icmp .ne 75, 3, 33, [105]), (33, .aload_n 0, 1, 34, []), (34, .getfield 24, 3, 37, []), (37, .aload_n 1, 1, 38, []), (38, .getfield 24, 3, 41, []), (41, .iconst 0, 1, 42, []), (42, .aload_n 0, 1, 43, []), (43, .getfield 15, 3, 46, []), (46, .invokestatic 86, 3, 49, []), (49, .ifCond .eq 56, 3, 52, [105]), (52, .aload_n 0, 1, 53, []), (53, .getfield 28, 3, 56, []), (56, .aload_n 1, 1, 57, []), (57, .getfield 28, 3, 60, []), (60, .iconst 0, 1, 61, []), (61, .bipush 24, 2, 63, []), (63, .invokestatic 86, 3, 66, []), (66, .ifCond .eq 39, 3, 69, [105])]
def k_X7_isLike_1 : List (Nat × Instr × Nat × Nat × List Nat) := [(69, .aload_n 0, 1, 70, []), (70, .getfield 31, 3, 73, []), (73, .aload_n 1, 1, 74, []), (74, .getfield 31, 3, 77, []), (77, .iconst 0, 1, 78, []), (78, .iconst 5, 1, 79, []), (79, .invokestatic 86, 3, 82, []), (82, .ifCond .eq 23, 3, 85, [105]), (85, .aload_n 0, 1, 86, []), (86, .aload_n 1, 1, 87, []), (87, .invokevirtual 90, 3, 90, []), (90, .ifCond .eq 15, 3, 93, [105]), (93, .aload_n 0, 1, 94, []), (94, .aload_n 1, 1, 95, []), (95, .invokevirtual 94, 3, 98, []), (98, .ifCond .eq 7, 3, 101, [105]), (101, .iconst 1, 1, 102, []), (102, .goto 4, 3, 105, [106]), (105, .iconst 0, 1, 106, []), (106, .ireturn, 1, 107, [])]
def k_X7_isLike : List (Nat × List (Nat × Instr × Nat × Nat × List Nat)) := [(69, k_X7_isLike_0), (107, k_X7_isLike_1)]
def m_X7_isLike : am_M := (yX7_isLike, cX7_isLike, 2, (some .boolean), 7, am_a2 k_X7_isLike)
theorem ok_X7_isLike_0 : ∀ q ∈ k_X7_isLike_0, am_ck cX7_isLike q := by unfold am_ck; decide +kernel
theorem ok_X7_isLike_1 : ∀ q ∈ k_X7_isLike_1, am_ck cX7_isLike q := by unfold am_ck; decide +kernel
theorem ok_X7_isLike : am_ok m_X7_isLike := am_ok_a2 (List.forall_mem_cons.mpr ⟨ok_X7_isLike_0, List.forall_mem_cons.mpr ⟨ok_X7_isLike_1, fun _ h => absurd h List.not_mem_nil⟩⟩)
def k_X7_hasLikeRounds_0 : List (Nat × Instr × Nat × Nat × List Nat) := [(0, .aload_n 0, 1, 1, []), (1, .getfield 34, 3, 4, []), (4, .aload_n 1, 1, 5, []), (5, .getfield 34, 3, 8, []), (8, .iconst 0, 1, 9, []), (9, .aload_n 0, 1, 10, []), (10, .getfield 18, 3, 13, []), (13, .invokestatic 86, 3, 16, []), (16, .ifCond .eq 41, 3, 19, [57]), (19, .aload_n 0, 1, 20, []), (20, .getfield 37, 3, 23, []), (23, .aload_n 1, 1, 24, []), (24, .getfield 37, 3, 27, []), (27, .iconst 0, 1, 28, []), (28, .aload_n 0, 1, 29, []), (29, .getfield 18, 3, 32, []), (32, .invokestatic 86, 3, 35, []), (35, .ifCond .eq 22, 3, 38, [57]), (38, .aload_n 0, 1, 39, []), (39, .getfield 40, 3, 42, []), (42, .aload_n 1, 1, 43, []), (43, .getfield 40, 3, 46, []), (46, .iconst 0, 1, 47, []), (47, .aload_n 0, 1, 48, []), (48, .getfield 18, 3, 51, []), (51, .invokestatic 86, 3, 54, []), (54, .ifCond .ne 5, 3, 57, [59]), (57, .iconst 0, 1, 58, []), (58, .ireturn, 1, 59, []), (59, .iconst 0, 1, 60, []), (60, .istore_n 2, 1, 61, []), (61, .iload_n 2, 1, 62, [])]
def k_X7_hasLikeRounds_1 : List (Nat × Instr × Nat × Nat × List Nat) := [(62, .aload_n 0, 1, 63, []), (63, .getfield 18, 3, 66, []), (66, .if_icmp .ge 59, 3, 69, [125]), (69, .iload_n 2, 1, 70, []), (70, .iconst 5, 1, 71, []), (71, .imul, 1, 72, []), (72, .istore_n 3, 1, 73, []), (73, .iload_n 3, 1, 74, []), (74, .aload_n 0, 1, 75, []), (75, .getfield 37, 3, 78, []), (78, .iload_n 2, 1, 79, []), (79, .iaload, 1, 80, []), (80, .iadd, 1, 81, []), (81, .istore 4, 2, 83, []), (83, .aload_n 0, 1, 84, []), (84, .getfield 43, 3, 87, []), (87, .aload_n 1, 1, 88, []), (88, .getfield 43, 3, 91, []), (91, .iload_n 3, 1, 92, []), (92, .iload 4, 2, 94, []), (94, .invokestatic 86, 3, 97, []), (97, .ifCond .eq 20, 3, 100, [117]), (100, .aload_n 0, 1, 101, []), (101, .getfield 46, 3, 104, []), (104, .aload_n 1, 1, 105, []), (105, .getfield 46, 3, 108, []), (108, .iload_n 3, 1, 109, []), (109, .iload 4, 2, 111, []), (111, .invokestatic 86, 3, 114, []), (114, .ifCond .ne 5, 3, 117, [119]), (117, .iconst 0, 1, 118, []), (118, .ireturn, 1, 119, [])]
def k_X7_hasLikeRounds_2 : List (Nat × Instr × Nat × Nat × List Nat) := [(119, .iinc 2 1, 3, 122, []), (122, .goto (-61), 3, 125, [61]), (125, .iconst 1, 1, 126, []), (126, .ireturn, 1, 127, [])]
def k_X7_hasLikeRounds : List (Nat × List (Nat × Instr × Nat × Nat × List Nat)) := [(62, k_X7_hasLikeRounds_0), (119, k_X7_hasLikeRounds_1), (127, k_X7_hasLikeRounds_2)]
def m_X7_hasLikeRounds : am_M := (yX7_hasLikeRounds, cX7_hasLikeRounds, 5, (some .boolean), 7, am_a2 k_X7_hasLikeRounds)
theorem ok_X7_hasLikeRounds_0 : ∀ q ∈ k_X7_hasLikeRounds_0, am_ck cX7_hasLikeRounds q := by unfold am_ck; decide +kernel
theorem ok_X7_hasLikeRounds_1 : ∀ q ∈ k_X7_hasLikeRounds_1, am_ck cX7_hasLikeRounds q := by unfold am_ck; decide +kernel
theorem ok_X7_hasLikeRounds_2 : ∀ q ∈ k_X7_hasLikeRounds_2, am_ck cX7_hasLikeRounds q := by unfold am_ck; decide +kernel
theorem ok_X7_hasLikeRounds : am_ok m_X7_hasLikeRounds := am_ok_a2 (List.forall_mem_cons.mpr ⟨ok_X7_hasLikeRounds_0, List.forall_mem_cons.mpr ⟨ok_X7_hasLikeRounds_1, List.forall_mem_cons.mpr ⟨ok_X7_hasLikeRounds_2, fun _ h => absurd h List.not_mem_nil⟩⟩⟩)
def k_X7_hasLikeEntries_0 : List (Nat × Instr × Nat × Nat × List Nat) := [(0, .aload_n 0, 1, 1, []), (1, .getfield 49, 3, 4, []), (4, .aload_n 1, 1, 5, []), (5, .getfield 49, 3, 8, []), (8, .iconst 0, 1, 9, []), (9, .aload_n 0, 1, 10, []), (10, .getfield 21, 3, 13, []), (13, .invokestatic 86, 3, 16, []), (16, .ifCond .eq 83, 3, 19, [99]), (19, .aload_n 0, 1, 20, []), (20, .getfield 52, 3, 23, []), (23, .aload_n 1, 1, 24, []), (24, .getfield 52, 3, 27, []), (27, .iconst 0, 1, 28, []), (28, .aload_n 0, 1, 29, []), (29, .getfield 21, 3, 32, []), (32, .invokestatic 86, 3, 35, []), (35, .ifCond .eq 64, 3, 38, [99]), (38, .aload_n 0, 1, 39, []), (39, .getfield 55, 3, 42, []), (42, .aload_n 1, 1, 43, []), (43, .getfield 55, 3, 46, []), (46, .iconst 0, 1, 47, []), (47, .aload_n 0, 1, 48, []), (48, .getfield 21, 3, 51, []), (51, .invokestatic 86, 3, 54, []), (54, .ifCond .eq 45, 3, 57, [99]), (57, .aload_n 0, 1, 58, []), (58, .getfield 58, 3, 61, []), (61, .aload_n 1, 1, 62, []), (62, .getfield 58, 3, 65, []), (65, .iconst 0, 1, 66, [])]
def k_X7_hasLikeEntries_1 : List (Nat × Instr × Nat × Nat × List Nat) := [(66, .aload_n 0, 1, 67, []), (67, .getfield 21, 3, 70, []), (70, .invokestatic 86, 3, 73, []), (73, .ifCond .eq 26, 3, 76, [99]), (76, .aload_n 0, 1, 77, []), (77, .getfield 61, 3, 80, []), (80, .aload_n 1, 1, 81, []), (81, .getfield 61, 3, 84, []), (84, .iconst 0, 1, 85, []), (85, .aload_n 0, 1, 86, []), (86, .getfield 21, 3, 89, []), (89, .invokestatic 86, 3, 92, []), (92, .ifCond .eq 7, 3, 95, [99]), (95, .iconst 1, 1, 96, []), (96, .goto 4, 3, 99, [100]), (99, .iconst 0, 1, 100, []), (100, .ireturn, 1, 101, [])]
def k_X7_hasLikeEntries : List (Nat × List (Nat × Instr × Nat × Nat × List Nat)) := [(66, k_X7_hasLikeEntries_0), (101, k_X7_hasLikeEntries_1)]
def m_X7_hasLikeEntries : am_M := (yX7_hasLikeEntries, cX7_hasLikeEntries, 2, (some .boolean), 7, am_a2 k_X7_hasLikeEntries)
theorem ok_X7_hasLikeEntries_0 : ∀ q ∈ k_X7_hasLikeEntries_0, am_ck cX7_hasLikeEntries q := by unfold am_ck; decide +kernel
theorem ok_X7_hasLikeEntries_1 : ∀ q ∈ k_X7_hasLikeEntries_1, am_ck cX7_hasLikeEntries q := by unfold am_ck; decide +kernel
theorem ok_X7_hasLikeEntries : am_ok m_X7_hasLikeEntries := am_ok_a2 (List.forall_mem_cons.mpr ⟨ok_X7_hasLikeEntries_0, List.forall_mem_cons.mpr ⟨ok_X7_hasLikeEntries_1, fun _ h => absurd h List.not_mem_nil⟩⟩)
def k_X7_isSame : List (Nat × Instr × Nat × Nat × List Nat) := [(0, .iload_n 2, 1, 1, []), (1, .istore 4, 2, 3, []), (3, .iload 4, 2, 5, []), (5, .iload_n 3, 1, 6, []), (6, .if_icmp .ge 22, 3, 9, [28]), (9, .aload_n 0, 1, 10, []), (10, .iload 4, 2, 12, []), (12, .iaload, 1, 13, []), (13, .aload_n 1, 1, 14, []), (14, .iload 4, 2, 16, []), (16, .iaload, 1, 17, []), (17, .if_icmp .eq 5, 3, 20, [22]), (20, .iconst 0, 1, 21, []), (21, .ireturn, 1, 22, []), (22, .iinc 4 1, 3, 25, []), (25, .goto (-22), 3, 28, [3]), (28, .iconst 1, 1, 29, []), (29, .ireturn, 1, 30, [])]
def m_X7_isSame : am_M := (yX7_isSame, cX7_isSame, 5, (some .boolean), 7, am_at k_X7_isSame)
theorem ok_X7_isSame : am_ok m_X7_isSame := am_ok_at (by unfold am_ck; decide +kernel)
def k_J9_abs_0f7a4 : List (Nat × Instr × Nat × Nat × List Nat) := [(0, .iload_n 0, 1, 1, []), (1, .ifCond .ge 8, 3, 4, [9]), (4, .iload_n 0, 1, 5, []), (5, .ineg, 1, 6, []), (6, .goto 4, 3, 9, [10]), (9, .iload_n 0, 1, 10, []), (10, .ireturn, 1, 11, [])]
def m_J9_abs_0f7a4 : am_M := (yJ9_abs_0f7a4, cJ9_abs_0f7a4, 1, (some .int), 11, am_at k_J9_abs_0f7a4)
theorem ok_J9_abs_0f7a4 : am_ok m_J9_abs_0f7a4 := am_ok_at (by unfold am_ck; decide +kernel)
def k_J9_floorDiv_7cf53 : List (Nat × Instr × Nat × Nat × List Nat) := [(0, .iload_n 0, 1, 1, []), (1, .iload_n 1, 1, 2, []), (2, .idiv, 1, 3, []), (3, .istore_n 2, 1, 4, []), (4, .iload_n 0, 1, 5, []), (5, .iload_n 1, 1, 6, []), (6, .ixor, 1, 7, []), (7, .ifCond .ge 14, 3, 10, [21]), (10, .iload_n 2, 1, 11, []), (11, .iload_n 1, 1, 12, []), (12, .imul, 1, 13, []), (13, .iload_n 0, 1, 14, []), (14, .if_icmp .eq 7, 3, 17, [21]), (17, .iload_n 2, 1, 18, []), (18, .iconst 1, 1, 19, []), (19, .isub, 1, 20, []), (20, .ireturn, 1, 21, []), (21, .iload_n 2, 1, 22, []), (22, .ireturn, 1, 23, [])]
def m_J9_floorDiv_7cf53 : am_M := (yJ9_floorDiv_7cf53, cJ9_floorDiv_7cf53, 3, (some .int), 11, am_at k_J9_floorDiv_7cf53)
theorem ok_J9_floorDiv_7cf53 : am_ok m_J9_floorDiv_7cf53 := am_ok_at (by unfold am_ck; decide +kernel)
def k_J9_floorMod_7cf53 : List (Nat × Instr × Nat × Nat × List Nat) := [(0, .iload_n 0, 1, 1, []), (1, .iload_n 1, 1, 2, []), (2, .irem, 1, 3, []), (3, .istore_n 2, 1, 4, []), (4, .iload_n 0, 1, 5, []), (5, .iload_n 1, 1, 6, []), (6, .ixor, 1, 7, []), (7, .ifCond .ge 11, 3, 10, [18]), (10, .iload_n 2, 1, 11, []), (11, .ifCond .eq 7, 3, 14, [18]), (14, .iload_n 2, 1, 15, []), (15, .iload_n 1, 1, 16, []), (16, .iadd, 1, 17, []), (17, .ireturn, 1, 18, []), (18, .iload_n 2, 1, 19, []), (19, .ireturn, 1, 20, [])]
def m_J9_floorMod_7cf53 : am_M := (yJ9_floorMod_7cf53, cJ9_floorMod_7cf53, 3, (some .int), 11, am_at k_J9_floorMod_7cf53)
theorem ok_J9_floorMod_7cf53 : am_ok m_J9_floorMod_7cf53 := am_ok_at (by unfold am_ck; decide +kernel)
def k_J9_max_7cf53 : List (Nat × Instr × Nat × Nat × List Nat) := [(0, .iload_n 0, 1, 1, []), (1, .iload_n 1, 1, 2, []), (2, .if_icmp .lt 7, 3, 5, [9]), (5, .iload_n 0, 1, 6, []), (6, .goto 4, 3, 9, [10]), (9, .iload_n 1, 1, 10, []), (10, .ireturn, 1, 11, [])]
def m_J9_max_7cf53 : am_M := (yJ9_max_7cf53, cJ9_max_7cf53, 2, (some .int), 11, am_at k_J9_max_7cf53)
theorem ok_J9_max_7cf53 : am_ok m_J9_max_7cf53 := am_ok_at (by unfold am_ck; decide +kernel)
def k_J9_min_7cf53 : List (Nat × Instr × Nat × Nat × List Nat) := [(0, .iload_n 0, 1, 1, []), (1, .iload_n 1, 1, 2, []), (2, .if_icmp .gt 7, 3, 5, [9]), (5, .iload_n 0, 1, 6, []), (6, .goto 4, 3, 9, [10]), (9, .iload_n 1, 1, 10, []), (10, .ireturn, 1, 11, [])]
def m_J9_min_7cf53 : am_M := (yJ9_min_7cf53, cJ9_min_7cf53, 2, (some .int), 11, am_at k_J9_min_7cf53)
theorem ok_J9_min_7cf53 : am_ok m_J9_min_7cf53 := am_ok_at (by unfold am_ck; decide +kernel)
def k_J7_fill_53178 : List (Nat × Instr × Nat × Nat × List Nat) := [(0, .iconst 0, 1, 1, []), (1, .istore_n 2, 1, 2, []), (2, .aload_n 0, 1, 3, []), (3, .arraylength, 1, 4, []), (4, .istore_n 3, 1, 5, []), (5, .iload_n 2, 1, 6, []), (6, .iload_n 3, 1, 7, []), (7, .if_icmp .ge 13, 3, 10, [20]), (10, .aload_n 0, 1, 11, []), (11, .iload_n 2, 1, 12, []), (12, .iload_n 1, 1, 13, []), (13, .iastore, 1, 14, []), (14, .iinc 2 1, 3, 17, []), (17, .goto (-12), 3, 20, [5]), (20, .return_, 1, 21, [])]
def m_J7_fill_53178 : am_M := (yJ7_fill_53178, cJ7_fill_53178, 4, none, 12, am_at k_J7_fill_53178)
theorem ok_J7_fill_53178 : am_ok m_J7_fill_53178 := am_ok_at (by unfold am_ck; decide +kernel)
end
section
/-! Links: which field, which method a pool number means. Written by gen/p08.py. -/
theorem f_0_9 : am_lF 0 9 0 0 := ⟨_, _, _, rfl, by decide, am_mem 186 (by decide +kernel) (by decide +kernel)⟩
theorem f_0_15 : am_lF 0 15 0 1 := ⟨_, _, _, rfl, by decide, am_mem 187 (by decide +kernel) (by decide +kernel)⟩
theorem f_0_18 : am_lF 0 18 0 2 := ⟨_, _, _, rfl, by decide, am_mem 188 (by decide +kernel) (by decide +kernel)⟩
theorem f_0_21 : am_lF 0 21 0 3 := ⟨_, _, _, rfl, by decide, am_mem 189 (by decide +kernel) (by decide +kernel)⟩
theorem f_0_24 : am_lF 0 24 0 4 := ⟨_, _, _, rfl, by decide, am_mem 190 (by decide +kernel) (by decide +kernel)⟩
theorem f_0_27 : am_lF 0 27 0 5 := ⟨_, _, _, rfl, by decide, am_mem 191 (by decide +kernel) (by decide +kernel)⟩
theorem f_0_30 : am_lF 0 30 0 6 := ⟨_, _, _, rfl, by decide, am_mem 192 (by decide +kernel) (by decide +kernel)⟩
theorem f_0_34 : am_lF 0 34 0 7 := ⟨_, _, _, rfl, by decide, am_mem 193 (by decide +kernel) (by decide +kernel)⟩
theorem f_0_37 : am_lF 0 37 0 8 := ⟨_, _, _, rfl, by decide, am_mem 194 (by decide +kernel) (by decide +kernel)⟩
theorem f_0_40 : am_lF 0 40 0 9 := ⟨_, _, _, rfl, by decide, am_mem 195 (by decide +kernel) (by decide +kernel)⟩
theorem f_0_43 : am_lF 0 43 0 10 := ⟨_, _, _, rfl, by decide, am_mem 196 (by decide +kernel) (by decide +kernel)⟩
theorem f_0_46 : am_lF 0 46 0 11 := ⟨_, _, _, rfl, by decide, am_mem 197 (by decide +kernel) (by decide +kernel)⟩
theorem f_0_50 : am_lF 0 50 0 12 := ⟨_, _, _, rfl, by decide, am_mem 198 (by decide +kernel) (by decide +kernel)⟩
theorem f_0_54 : am_lF 0 54 7 5 := ⟨_, _, _, rfl, by decide, am_mem 302 (by decide +kernel) (by decide +kernel)⟩
theorem f_0_71 : am_lF 0 71 7 2 := ⟨_, _, _, rfl, by decide, am_mem 293 (by decide +kernel) (by decide +kernel)⟩
theorem f_0_74 : am_lF 0 74 7 8 := ⟨_, _, _, rfl, by decide, am_mem 314 (by decide +kernel) (by decide +kernel)⟩
theorem f_0_77 : am_lF 0 77 7 10 := ⟨_, _, _, rfl, by decide, am_mem 322 (by decide +kernel) (by decide +kernel)⟩
theorem f_0_80 : am_lF 0 80 7 11 := ⟨_, _, _, rfl, by decide, am_mem 327 (by decide +kernel) (by decide +kernel)⟩
theorem f_0_129 : am_lF 0 129 7 7 := ⟨_, _, _, rfl, by decide, am_mem 310 (by decide +kernel) (by decide +kernel)⟩
theorem f_0_132 : am_lF 0 132 7 9 := ⟨_, _, _, rfl, by decide, am_mem 318 (by decide +kernel) (by decide +kernel)⟩
theorem f_1_9 : am_lF 1 9 1 0 := ⟨_, _, _, rfl, by decide, am_mem 96 (by decide +kernel) (by decide +kernel)⟩
theorem f_1_15 : am_lF 1 15 1 1 := ⟨_, _, _, rfl, by decide, am_mem 98 (by decide +kernel) (by decide +kernel)⟩
theorem f_1_19 : am_lF 1 19 1 2 := ⟨_, _, _, rfl, by decide, am_mem 100 (by decide +kernel) (by decide +kernel)⟩
theorem f_2_9 : am_lF 2 9 2 0 := ⟨_, _, _, rfl, by decide, am_mem 244 (by decide +kernel) (by decide +kernel)⟩
theorem f_2_15 : am_lF 2 15 2 1 := ⟨_, _, _, rfl, by decide, am_mem 246 (by decide +kernel) (by decide +kernel)⟩
theorem f_2_18 : am_lF 2 18 2 2 := ⟨_, _, _, rfl, by decide, am_mem 248 (by decide +kernel) (by decide +kernel)⟩
theorem f_3_9 : am_lF 3 9 3 0 := ⟨_, _, _, rfl, by decide, am_mem 233 (by decide +kernel) (by decide +kernel)⟩
theorem f_3_27 : am_lF 3 27 7 1 := ⟨_, _, _, rfl, by decide, am_mem 288 (by decide +kernel) (by decide +kernel)⟩
theorem f_3_31 : am_lF 3 31 7 4 := ⟨_, _, _, rfl, by decide, am_mem 299 (by decide +kernel) (by decide +kernel)⟩
theorem f_3_34 : am_lF 3 34 7 8 := ⟨_, _, _, rfl, by decide, am_mem 313 (by decide +kernel) (by decide +kernel)⟩
theorem f_3_37 : am_lF 3 37 7 10 := ⟨_, _, _, rfl, by decide, am_mem 321 (by decide +kernel) (by decide +kernel)⟩
theorem f_3_40 : am_lF 3 40 7 11 := ⟨_, _, _, rfl, by decide, am_mem 326 (by decide +kernel) (by decide +kernel)⟩
theorem f_4_9 : am_lF 4 9 4 0 := ⟨_, _, _, rfl, by decide, am_mem 263 (by decide +kernel) (by decide +kernel)⟩
theorem f_4_15 : am_lF 4 15 4 1 := ⟨_, _, _, rfl, by decide, am_mem 265 (by decide +kernel) (by decide +kernel)⟩
theorem f_4_18 : am_lF 4 18 4 2 := ⟨_, _, _, rfl, by decide, am_mem 267 (by decide +kernel) (by decide +kernel)⟩
theorem f_4_21 : am_lF 4 21 4 3 := ⟨_, _, _, rfl, by decide, am_mem 269 (by decide +kernel) (by decide +kernel)⟩
theorem f_5_9 : am_lF 5 9 5 0 := ⟨_, _, _, rfl, by decide, am_mem 116 (by decide +kernel) (by decide +kernel)⟩
theorem f_5_15 : am_lF 5 15 5 1 := ⟨_, _, _, rfl, by decide, am_mem 117 (by decide +kernel) (by decide +kernel)⟩
theorem f_5_18 : am_lF 5 18 5 2 := ⟨_, _, _, rfl, by decide, am_mem 118 (by decide +kernel) (by decide +kernel)⟩
theorem f_5_21 : am_lF 5 21 5 3 := ⟨_, _, _, rfl, by decide, am_mem 119 (by decide +kernel) (by decide +kernel)⟩
theorem f_5_24 : am_lF 5 24 5 4 := ⟨_, _, _, rfl, by decide, am_mem 121 (by decide +kernel) (by decide +kernel)⟩
theorem f_6_9 : am_lF 6 9 6 0 := ⟨_, _, _, rfl, by decide, am_mem 142 (by decide +kernel) (by decide +kernel)⟩
theorem f_6_15 : am_lF 6 15 6 1 := ⟨_, _, _, rfl, by decide, am_mem 144 (by decide +kernel) (by decide +kernel)⟩
theorem f_6_18 : am_lF 6 18 6 2 := ⟨_, _, _, rfl, by decide, am_mem 146 (by decide +kernel) (by decide +kernel)⟩
theorem f_6_21 : am_lF 6 21 6 3 := ⟨_, _, _, rfl, by decide, am_mem 148 (by decide +kernel) (by decide +kernel)⟩
theorem f_6_24 : am_lF 6 24 6 4 := ⟨_, _, _, rfl, by decide, am_mem 150 (by decide +kernel) (by decide +kernel)⟩
theorem f_6_27 : am_lF 6 27 6 5 := ⟨_, _, _, rfl, by decide, am_mem 151 (by decide +kernel) (by decide +kernel)⟩
theorem f_6_30 : am_lF 6 30 6 6 := ⟨_, _, _, rfl, by decide, am_mem 152 (by decide +kernel) (by decide +kernel)⟩
theorem f_6_33 : am_lF 6 33 6 7 := ⟨_, _, _, rfl, by decide, am_mem 153 (by decide +kernel) (by decide +kernel)⟩
theorem f_6_36 : am_lF 6 36 6 8 := ⟨_, _, _, rfl, by decide, am_mem 154 (by decide +kernel) (by decide +kernel)⟩
theorem f_6_39 : am_lF 6 39 6 9 := ⟨_, _, _, rfl, by decide, am_mem 155 (by decide +kernel) (by decide +kernel)⟩
theorem f_6_42 : am_lF 6 42 6 10 := ⟨_, _, _, rfl, by decide, am_mem 156 (by decide +kernel) (by decide +kernel)⟩
theorem f_6_51 : am_lF 6 51 7 3 := ⟨_, _, _, rfl, by decide, am_mem 296 (by decide +kernel) (by decide +kernel)⟩
theorem f_6_57 : am_lF 6 57 7 12 := ⟨_, _, _, rfl, by decide, am_mem 330 (by decide +kernel) (by decide +kernel)⟩
theorem f_6_64 : am_lF 6 64 7 15 := ⟨_, _, _, rfl, by decide, am_mem 336 (by decide +kernel) (by decide +kernel)⟩
theorem f_6_67 : am_lF 6 67 7 14 := ⟨_, _, _, rfl, by decide, am_mem 334 (by decide +kernel) (by decide +kernel)⟩
theorem f_6_70 : am_lF 6 70 7 13 := ⟨_, _, _, rfl, by decide, am_mem 332 (by decide +kernel) (by decide +kernel)⟩
theorem f_6_73 : am_lF 6 73 7 2 := ⟨_, _, _, rfl, by decide, am_mem 292 (by decide +kernel) (by decide +kernel)⟩
theorem f_6_76 : am_lF 6 76 7 8 := ⟨_, _, _, rfl, by decide, am_mem 312 (by decide +kernel) (by decide +kernel)⟩
theorem f_6_79 : am_lF 6 79 7 11 := ⟨_, _, _, rfl, by decide, am_mem 325 (by decide +kernel) (by decide +kernel)⟩
theorem f_6_82 : am_lF 6 82 7 10 := ⟨_, _, _, rfl, by decide, am_mem 320 (by decide +kernel) (by decide +kernel)⟩
theorem f_6_92 : am_lF 6 92 7 7 := ⟨_, _, _, rfl, by decide, am_mem 308 (by decide +kernel) (by decide +kernel)⟩
theorem f_6_116 : am_lF 6 116 7 6 := ⟨_, _, _, rfl, by decide, am_mem 305 (by decide +kernel) (by decide +kernel)⟩
theorem f_6_122 : am_lF 6 122 7 1 := ⟨_, _, _, rfl, by decide, am_mem 290 (by decide +kernel) (by decide +kernel)⟩
theorem f_6_125 : am_lF 6 125 7 4 := ⟨_, _, _, rfl, by decide, am_mem 300 (by decide +kernel) (by decide +kernel)⟩
theorem f_7_9 : am_lF 7 9 7 0 := ⟨_, _, _, rfl, by decide, am_mem 285 (by decide +kernel) (by decide +kernel)⟩
theorem f_7_15 : am_lF 7 15 7 1 := ⟨_, _, _, rfl, by decide, am_mem 287 (by decide +kernel) (by decide +kernel)⟩
theorem f_7_18 : am_lF 7 18 7 2 := ⟨_, _, _, rfl, by decide, am_mem 291 (by decide +kernel) (by decide +kernel)⟩
theorem f_7_21 : am_lF 7 21 7 3 := ⟨_, _, _, rfl, by decide, am_mem 295 (by decide +kernel) (by decide +kernel)⟩
theorem f_7_24 : am_lF 7 24 7 4 := ⟨_, _, _, rfl, by decide, am_mem 298 (by decide +kernel) (by decide +kernel)⟩
theorem f_7_28 : am_lF 7 28 7 5 := ⟨_, _, _, rfl, by decide, am_mem 301 (by decide +kernel) (by decide +kernel)⟩
theorem f_7_31 : am_lF 7 31 7 6 := ⟨_, _, _, rfl, by decide, am_mem 304 (by decide +kernel) (by decide +kernel)⟩
theorem f_7_34 : am_lF 7 34 7 7 := ⟨_, _, _, rfl, by decide, am_mem 307 (by decide +kernel) (by decide +kernel)⟩
theorem f_7_37 : am_lF 7 37 7 8 := ⟨_, _, _, rfl, by decide, am_mem 311 (by decide +kernel) (by decide +kernel)⟩
theorem f_7_40 : am_lF 7 40 7 9 := ⟨_, _, _, rfl, by decide, am_mem 316 (by decide +kernel) (by decide +kernel)⟩
theorem f_7_43 : am_lF 7 43 7 10 := ⟨_, _, _, rfl, by decide, am_mem 319 (by decide +kernel) (by decide +kernel)⟩
theorem f_7_46 : am_lF 7 46 7 11 := ⟨_, _, _, rfl, by decide, am_mem 324 (by decide +kernel) (by decide +kernel)⟩
theorem f_7_49 : am_lF 7 49 7 12 := ⟨_, _, _, rfl, by decide, am_mem 329 (by decide +kernel) (by decide +kernel)⟩
theorem f_7_52 : am_lF 7 52 7 13 := ⟨_, _, _, rfl, by decide, am_mem 331 (by decide +kernel) (by decide +kernel)⟩
theorem f_7_55 : am_lF 7 55 7 14 := ⟨_, _, _, rfl, by decide, am_mem 333 (by decide +kernel) (by decide +kernel)⟩
theorem f_7_58 : am_lF 7 58 7 15 := ⟨_, _, _, rfl, by decide, am_mem 335 (by decide +kernel) (by decide +kernel)⟩
theorem f_7_61 : am_lF 7 61 7 16 := ⟨_, _, _, rfl, by decide, am_mem 338 (by decide +kernel) (by decide +kernel)⟩
theorem f_8_10 : am_lF 8 10 8 0 := ⟨_, _, _, rfl, by decide, am_mem 375 (by decide +kernel) (by decide +kernel)⟩
theorem f_8_19 : am_lF 8 19 8 1 := ⟨_, _, _, rfl, by decide, am_mem 376 (by decide +kernel) (by decide +kernel)⟩
theorem f_8_23 : am_lF 8 23 8 2 := ⟨_, _, _, rfl, by decide, am_mem 377 (by decide +kernel) (by decide +kernel)⟩
theorem f_8_28 : am_lF 8 28 8 3 := ⟨_, _, _, rfl, by decide, am_mem 378 (by decide +kernel) (by decide +kernel)⟩
theorem f_8_32 : am_lF 8 32 8 4 := ⟨_, _, _, rfl, by decide, am_mem 379 (by decide +kernel) (by decide +kernel)⟩
theorem f_8_38 : am_lF 8 38 8 5 := ⟨_, _, _, rfl, by decide, am_mem 380 (by decide +kernel) (by decide +kernel)⟩
theorem f_8_45 : am_lF 8 45 8 6 := ⟨_, _, _, rfl, by decide, am_mem 381 (by decide +kernel) (by decide +kernel)⟩
theorem f_8_52 : am_lF 8 52 8 7 := ⟨_, _, _, rfl, by decide, am_mem 382 (by decide +kernel) (by decide +kernel)⟩
theorem f_8_59 : am_lF 8 59 8 8 := ⟨_, _, _, rfl, by decide, am_mem 383 (by decide +kernel) (by decide +kernel)⟩
theorem f_8_66 : am_lF 8 66 8 9 := ⟨_, _, _, rfl, by decide, am_mem 384 (by decide +kernel) (by decide +kernel)⟩
theorem f_8_70 : am_lF 8 70 8 10 := ⟨_, _, _, rfl, by decide, am_mem 385 (by decide +kernel) (by decide +kernel)⟩
theorem f_8_74 : am_lF 8 74 8 11 := ⟨_, _, _, rfl, by decide, am_mem 386 (by decide +kernel) (by decide +kernel)⟩
theorem f_8_78 : am_lF 8 78 8 12 := ⟨_, _, _, rfl, by decide, am_mem 387 (by decide +kernel) (by decide +kernel)⟩
theorem f_8_81 : am_lF 8 81 8 13 := ⟨_, _, _, rfl, by decide, am_mem 388 (by decide +kernel) (by decide +kernel)⟩
theorem f_8_84 : am_lF 8 84 8 14 := ⟨_, _, _, rfl, by decide, am_mem 389 (by decide +kernel) (by decide +kernel)⟩
theorem f_8_111 : am_lF 8 111 5 3 := ⟨_, _, _, rfl, by decide, am_mem 120 (by decide +kernel) (by decide +kernel)⟩
theorem f_8_124 : am_lF 8 124 1 1 := ⟨_, _, _, rfl, by decide, am_mem 99 (by decide +kernel) (by decide +kernel)⟩
theorem f_8_127 : am_lF 8 127 1 0 := ⟨_, _, _, rfl, by decide, am_mem 97 (by decide +kernel) (by decide +kernel)⟩
theorem f_8_144 : am_lF 8 144 7 2 := ⟨_, _, _, rfl, by decide, am_mem 294 (by decide +kernel) (by decide +kernel)⟩
theorem f_8_147 : am_lF 8 147 7 1 := ⟨_, _, _, rfl, by decide, am_mem 289 (by decide +kernel) (by decide +kernel)⟩
theorem f_8_156 : am_lF 8 156 7 5 := ⟨_, _, _, rfl, by decide, am_mem 303 (by decide +kernel) (by decide +kernel)⟩
theorem f_8_159 : am_lF 8 159 7 6 := ⟨_, _, _, rfl, by decide, am_mem 306 (by decide +kernel) (by decide +kernel)⟩
theorem f_8_168 : am_lF 8 168 7 10 := ⟨_, _, _, rfl, by decide, am_mem 323 (by decide +kernel) (by decide +kernel)⟩
theorem f_8_171 : am_lF 8 171 7 11 := ⟨_, _, _, rfl, by decide, am_mem 328 (by decide +kernel) (by decide +kernel)⟩
theorem f_8_177 : am_lF 8 177 7 7 := ⟨_, _, _, rfl, by decide, am_mem 309 (by decide +kernel) (by decide +kernel)⟩
theorem f_8_180 : am_lF 8 180 7 8 := ⟨_, _, _, rfl, by decide, am_mem 315 (by decide +kernel) (by decide +kernel)⟩
theorem f_8_183 : am_lF 8 183 7 9 := ⟨_, _, _, rfl, by decide, am_mem 317 (by decide +kernel) (by decide +kernel)⟩
theorem f_8_197 : am_lF 8 197 7 0 := ⟨_, _, _, rfl, by decide, am_mem 286 (by decide +kernel) (by decide +kernel)⟩
theorem f_8_222 : am_lF 8 222 6 3 := ⟨_, _, _, rfl, by decide, am_mem 149 (by decide +kernel) (by decide +kernel)⟩
theorem f_8_240 : am_lF 8 240 7 3 := ⟨_, _, _, rfl, by decide, am_mem 297 (by decide +kernel) (by decide +kernel)⟩
theorem f_8_243 : am_lF 8 243 7 15 := ⟨_, _, _, rfl, by decide, am_mem 337 (by decide +kernel) (by decide +kernel)⟩
theorem f_8_246 : am_lF 8 246 7 16 := ⟨_, _, _, rfl, by decide, am_mem 339 (by decide +kernel) (by decide +kernel)⟩
theorem f_8_250 : am_lF 8 250 6 0 := ⟨_, _, _, rfl, by decide, am_mem 143 (by decide +kernel) (by decide +kernel)⟩
theorem f_8_280 : am_lF 8 280 6 1 := ⟨_, _, _, rfl, by decide, am_mem 145 (by decide +kernel) (by decide +kernel)⟩
theorem f_8_287 : am_lF 8 287 3 0 := ⟨_, _, _, rfl, by decide, am_mem 234 (by decide +kernel) (by decide +kernel)⟩
theorem f_8_307 : am_lF 8 307 6 2 := ⟨_, _, _, rfl, by decide, am_mem 147 (by decide +kernel) (by decide +kernel)⟩
theorem f_8_316 : am_lF 8 316 2 2 := ⟨_, _, _, rfl, by decide, am_mem 249 (by decide +kernel) (by decide +kernel)⟩
theorem f_8_319 : am_lF 8 319 2 0 := ⟨_, _, _, rfl, by decide, am_mem 245 (by decide +kernel) (by decide +kernel)⟩
theorem f_8_333 : am_lF 8 333 4 0 := ⟨_, _, _, rfl, by decide, am_mem 264 (by decide +kernel) (by decide +kernel)⟩
theorem f_8_336 : am_lF 8 336 4 1 := ⟨_, _, _, rfl, by decide, am_mem 266 (by decide +kernel) (by decide +kernel)⟩
theorem f_8_339 : am_lF 8 339 4 2 := ⟨_, _, _, rfl, by decide, am_mem 268 (by decide +kernel) (by decide +kernel)⟩
theorem f_8_342 : am_lF 8 342 4 3 := ⟨_, _, _, rfl, by decide, am_mem 270 (by decide +kernel) (by decide +kernel)⟩
theorem f_8_348 : am_lF 8 348 2 1 := ⟨_, _, _, rfl, by decide, am_mem 247 (by decide +kernel) (by decide +kernel)⟩
theorem f_8_395 : am_lF 8 395 1 2 := ⟨_, _, _, rfl, by decide, am_mem 101 (by decide +kernel) (by decide +kernel)⟩
theorem f_8_398 : am_lF 8 398 5 4 := ⟨_, _, _, rfl, by decide, am_mem 122 (by decide +kernel) (by decide +kernel)⟩
theorem f_9_7 : am_lF 9 7 9 1 := ⟨_, _, _, rfl, by decide, am_mem 942 (by decide +kernel) (by decide +kernel)⟩
theorem f_9_13 : am_lF 9 13 9 4 := ⟨_, _, _, rfl, by decide, am_mem 945 (by decide +kernel) (by decide +kernel)⟩
theorem f_9_16 : am_lF 9 16 9 5 := ⟨_, _, _, rfl, by decide, am_mem 946 (by decide +kernel) (by decide +kernel)⟩
theorem f_9_19 : am_lF 9 19 9 6 := ⟨_, _, _, rfl, by decide, am_mem 947 (by decide +kernel) (by decide +kernel)⟩
theorem f_9_22 : am_lF 9 22 9 7 := ⟨_, _, _, rfl, by decide, am_mem 948 (by decide +kernel) (by decide +kernel)⟩
theorem f_9_25 : am_lF 9 25 9 9 := ⟨_, _, _, rfl, by decide, am_mem 950 (by decide +kernel) (by decide +kernel)⟩
theorem f_9_28 : am_lF 9 28 9 12 := ⟨_, _, _, rfl, by decide, am_mem 953 (by decide +kernel) (by decide +kernel)⟩
theorem f_9_31 : am_lF 9 31 9 13 := ⟨_, _, _, rfl, by decide, am_mem 954 (by decide +kernel) (by decide +kernel)⟩
theorem f_9_34 : am_lF 9 34 9 14 := ⟨_, _, _, rfl, by decide, am_mem 955 (by decide +kernel) (by decide +kernel)⟩
theorem f_9_37 : am_lF 9 37 9 15 := ⟨_, _, _, rfl, by decide, am_mem 956 (by decide +kernel) (by decide +kernel)⟩
theorem f_9_40 : am_lF 9 40 9 17 := ⟨_, _, _, rfl, by decide, am_mem 958 (by decide +kernel) (by decide +kernel)⟩
theorem f_9_43 : am_lF 9 43 9 18 := ⟨_, _, _, rfl, by decide, am_mem 959 (by decide +kernel) (by decide +kernel)⟩
theorem f_9_46 : am_lF 9 46 9 19 := ⟨_, _, _, rfl, by decide, am_mem 960 (by decide +kernel) (by decide +kernel)⟩
theorem f_9_49 : am_lF 9 49 9 20 := ⟨_, _, _, rfl, by decide, am_mem 961 (by decide +kernel) (by decide +kernel)⟩
theorem f_9_52 : am_lF 9 52 9 22 := ⟨_, _, _, rfl, by decide, am_mem 963 (by decide +kernel) (by decide +kernel)⟩
theorem f_9_56 : am_lF 9 56 9 23 := ⟨_, _, _, rfl, by decide, am_mem 964 (by decide +kernel) (by decide +kernel)⟩
theorem f_9_59 : am_lF 9 59 9 26 := ⟨_, _, _, rfl, by decide, am_mem 967 (by decide +kernel) (by decide +kernel)⟩
theorem f_9_62 : am_lF 9 62 9 27 := ⟨_, _, _, rfl, by decide, am_mem 968 (by decide +kernel) (by decide +kernel)⟩
theorem f_9_65 : am_lF 9 65 9 28 := ⟨_, _, _, rfl, by decide, am_mem 969 (by decide +kernel) (by decide +kernel)⟩
theorem f_9_68 : am_lF 9 68 9 29 := ⟨_, _, _, rfl, by decide, am_mem 970 (by decide +kernel) (by decide +kernel)⟩
theorem f_9_71 : am_lF 9 71 9 35 := ⟨_, _, _, rfl, by decide, am_mem 976 (by decide +kernel) (by decide +kernel)⟩
theorem f_9_74 : am_lF 9 74 9 36 := ⟨_, _, _, rfl, by decide, am_mem 977 (by decide +kernel) (by decide +kernel)⟩
theorem f_9_77 : am_lF 9 77 9 37 := ⟨_, _, _, rfl, by decide, am_mem 978 (by decide +kernel) (by decide +kernel)⟩
theorem f_9_80 : am_lF 9 80 9 38 := ⟨_, _, _, rfl, by decide, am_mem 979 (by decide +kernel) (by decide +kernel)⟩
theorem f_9_83 : am_lF 9 83 9 39 := ⟨_, _, _, rfl, by decide, am_mem 980 (by decide +kernel) (by decide +kernel)⟩
theorem f_9_86 : am_lF 9 86 9 40 := ⟨_, _, _, rfl, by decide, am_mem 981 (by decide +kernel) (by decide +kernel)⟩
theorem f_9_89 : am_lF 9 89 9 41 := ⟨_, _, _, rfl, by decide, am_mem 982 (by decide +kernel) (by decide +kernel)⟩
theorem f_9_92 : am_lF 9 92 9 0 := ⟨_, _, _, rfl, by decide, am_mem 941 (by decide +kernel) (by decide +kernel)⟩
theorem f_9_95 : am_lF 9 95 9 2 := ⟨_, _, _, rfl, by decide, am_mem 943 (by decide +kernel) (by decide +kernel)⟩
theorem f_9_98 : am_lF 9 98 9 3 := ⟨_, _, _, rfl, by decide, am_mem 944 (by decide +kernel) (by decide +kernel)⟩
theorem f_9_105 : am_lF 9 105 9 8 := ⟨_, _, _, rfl, by decide, am_mem 949 (by decide +kernel) (by decide +kernel)⟩
theorem f_9_133 : am_lF 9 133 9 10 := ⟨_, _, _, rfl, by decide, am_mem 951 (by decide +kernel) (by decide +kernel)⟩
theorem f_9_150 : am_lF 9 150 9 25 := ⟨_, _, _, rfl, by decide, am_mem 966 (by decide +kernel) (by decide +kernel)⟩
theorem f_9_183 : am_lF 9 183 9 32 := ⟨_, _, _, rfl, by decide, am_mem 973 (by decide +kernel) (by decide +kernel)⟩
theorem f_9_186 : am_lF 9 186 9 33 := ⟨_, _, _, rfl, by decide, am_mem 974 (by decide +kernel) (by decide +kernel)⟩
theorem f_9_189 : am_lF 9 189 9 34 := ⟨_, _, _, rfl, by decide, am_mem 975 (by decide +kernel) (by decide +kernel)⟩
theorem f_9_197 : am_lF 9 197 9 30 := ⟨_, _, _, rfl, by decide, am_mem 971 (by decide +kernel) (by decide +kernel)⟩
theorem f_9_215 : am_lF 9 215 9 31 := ⟨_, _, _, rfl, by decide, am_mem 972 (by decide +kernel) (by decide +kernel)⟩
theorem f_9_261 : am_lF 9 261 9 42 := ⟨_, _, _, rfl, by decide, am_mem 983 (by decide +kernel) (by decide +kernel)⟩
theorem f_9_293 : am_lF 9 293 9 21 := ⟨_, _, _, rfl, by decide, am_mem 962 (by decide +kernel) (by decide +kernel)⟩
theorem f_9_302 : am_lF 9 302 9 24 := ⟨_, _, _, rfl, by decide, am_mem 965 (by decide +kernel) (by decide +kernel)⟩
theorem f_9_308 : am_lF 9 308 9 11 := ⟨_, _, _, rfl, by decide, am_mem 952 (by decide +kernel) (by decide +kernel)⟩
theorem f_9_311 : am_lF 9 311 9 16 := ⟨_, _, _, rfl, by decide, am_mem 957 (by decide +kernel) (by decide +kernel)⟩
theorem lm_X8_init : am_lM m_X8_init 0 := ⟨am_mem 69 (by decide +kernel) (by decide +kernel), am_mem 86 (by decide +kernel) (by decide +kernel), rfl, ⟨by decide +kernel, by decide +kernel, by decide +kernel⟩, by decide⟩
theorem lm_X8_player : am_lM m_X8_player 2 := ⟨am_mem 69 (by decide +kernel) (by decide +kernel), am_mem 424 (by decide +kernel) (by decide +kernel), rfl, ⟨by decide +kernel, by decide +kernel, by decide +kernel⟩, by decide⟩
theorem lm_X8_places : am_lM m_X8_places 2 := ⟨am_mem 69 (by decide +kernel) (by decide +kernel), am_mem 432 (by decide +kernel) (by decide +kernel), rfl, ⟨by decide +kernel, by decide +kernel, by decide +kernel⟩, by decide⟩
theorem lm_X8_seat : am_lM m_X8_seat 3 := ⟨am_mem 69 (by decide +kernel) (by decide +kernel), am_mem 452 (by decide +kernel) (by decide +kernel), rfl, ⟨by decide +kernel, by decide +kernel, by decide +kernel⟩, by decide⟩
theorem lm_X8_held : am_lM m_X8_held 2 := ⟨am_mem 69 (by decide +kernel) (by decide +kernel), am_mem 461 (by decide +kernel) (by decide +kernel), rfl, ⟨by decide +kernel, by decide +kernel, by decide +kernel⟩, by decide⟩
theorem lm_X8_worth : am_lM m_X8_worth 1 := ⟨am_mem 69 (by decide +kernel) (by decide +kernel), am_mem 465 (by decide +kernel) (by decide +kernel), rfl, ⟨by decide +kernel, by decide +kernel, by decide +kernel⟩, by decide⟩
theorem lm_X8_stepOf : am_lM m_X8_stepOf 1 := ⟨am_mem 69 (by decide +kernel) (by decide +kernel), am_mem 493 (by decide +kernel) (by decide +kernel), rfl, ⟨by decide +kernel, by decide +kernel, by decide +kernel⟩, by decide⟩
theorem lm_X8_trace : am_lM m_X8_trace 1 := ⟨am_mem 69 (by decide +kernel) (by decide +kernel), am_mem 501 (by decide +kernel) (by decide +kernel), rfl, ⟨by decide +kernel, by decide +kernel, by decide +kernel⟩, by decide⟩
theorem lm_X8_askWorth : am_lM m_X8_askWorth 1 := ⟨am_mem 69 (by decide +kernel) (by decide +kernel), am_mem 473 (by decide +kernel) (by decide +kernel), rfl, ⟨by decide +kernel, by decide +kernel, by decide +kernel⟩, by decide⟩
theorem lm_X8_tournament : am_lM m_X8_tournament 0 := ⟨am_mem 69 (by decide +kernel) (by decide +kernel), am_mem 505 (by decide +kernel) (by decide +kernel), rfl, ⟨by decide +kernel, by decide +kernel, by decide +kernel⟩, by decide⟩
theorem lm_X8_enter : am_lM m_X8_enter 2 := ⟨am_mem 69 (by decide +kernel) (by decide +kernel), am_mem 520 (by decide +kernel) (by decide +kernel), rfl, ⟨by decide +kernel, by decide +kernel, by decide +kernel⟩, by decide⟩
theorem lm_X8_withdraw : am_lM m_X8_withdraw 2 := ⟨am_mem 69 (by decide +kernel) (by decide +kernel), am_mem 540 (by decide +kernel) (by decide +kernel), rfl, ⟨by decide +kernel, by decide +kernel, by decide +kernel⟩, by decide⟩
theorem lm_X8_rule : am_lM m_X8_rule 3 := ⟨am_mem 69 (by decide +kernel) (by decide +kernel), am_mem 544 (by decide +kernel) (by decide +kernel), rfl, ⟨by decide +kernel, by decide +kernel, by decide +kernel⟩, by decide⟩
theorem lm_X8_draw : am_lM m_X8_draw 2 := ⟨am_mem 69 (by decide +kernel) (by decide +kernel), am_mem 548 (by decide +kernel) (by decide +kernel), rfl, ⟨by decide +kernel, by decide +kernel, by decide +kernel⟩, by decide⟩
theorem lm_X8_pair : am_lM m_X8_pair 4 := ⟨am_mem 69 (by decide +kernel) (by decide +kernel), am_mem 646 (by decide +kernel) (by decide +kernel), rfl, ⟨by decide +kernel, by decide +kernel, by decide +kernel⟩, by decide⟩
theorem lm_X8_round : am_lM m_X8_round 3 := ⟨am_mem 69 (by decide +kernel) (by decide +kernel), am_mem 659 (by decide +kernel) (by decide +kernel), rfl, ⟨by decide +kernel, by decide +kernel, by decide +kernel⟩, by decide⟩
theorem lm_X8_copy : am_lM m_X8_copy 1 := ⟨am_mem 69 (by decide +kernel) (by decide +kernel), am_mem 667 (by decide +kernel) (by decide +kernel), rfl, ⟨by decide +kernel, by decide +kernel, by decide +kernel⟩, by decide⟩
theorem lm_X8_alike : am_lM m_X8_alike 2 := ⟨am_mem 69 (by decide +kernel) (by decide +kernel), am_mem 676 (by decide +kernel) (by decide +kernel), rfl, ⟨by decide +kernel, by decide +kernel, by decide +kernel⟩, by decide⟩
theorem lm_X8_isTournament : am_lM m_X8_isTournament 1 := ⟨am_mem 69 (by decide +kernel) (by decide +kernel), am_mem 524 (by decide +kernel) (by decide +kernel), rfl, ⟨by decide +kernel, by decide +kernel, by decide +kernel⟩, by decide⟩
theorem lm_X8_openNext : am_lM m_X8_openNext 0 := ⟨am_mem 69 (by decide +kernel) (by decide +kernel), am_mem 516 (by decide +kernel) (by decide +kernel), rfl, ⟨by decide +kernel, by decide +kernel, by decide +kernel⟩, by decide⟩
theorem lm_X8_drawRound : am_lM m_X8_drawRound 2 := ⟨am_mem 69 (by decide +kernel) (by decide +kernel), am_mem 552 (by decide +kernel) (by decide +kernel), rfl, ⟨by decide +kernel, by decide +kernel, by decide +kernel⟩, by decide⟩
theorem lm_X8_tell : am_lM m_X8_tell 6 := ⟨am_mem 69 (by decide +kernel) (by decide +kernel), am_mem 695 (by decide +kernel) (by decide +kernel), rfl, ⟨by decide +kernel, by decide +kernel, by decide +kernel⟩, by decide⟩
theorem lm_X8_takeBack : am_lM m_X8_takeBack 3 := ⟨am_mem 69 (by decide +kernel) (by decide +kernel), am_mem 703 (by decide +kernel) (by decide +kernel), rfl, ⟨by decide +kernel, by decide +kernel, by decide +kernel⟩, by decide⟩
theorem lm_X8_counts : am_lM m_X8_counts 4 := ⟨am_mem 69 (by decide +kernel) (by decide +kernel), am_mem 707 (by decide +kernel) (by decide +kernel), rfl, ⟨by decide +kernel, by decide +kernel, by decide +kernel⟩, by decide⟩
theorem lm_X8_points : am_lM m_X8_points 4 := ⟨am_mem 69 (by decide +kernel) (by decide +kernel), am_mem 712 (by decide +kernel) (by decide +kernel), rfl, ⟨by decide +kernel, by decide +kernel, by decide +kernel⟩, by decide⟩
theorem lm_X8_sum : am_lM m_X8_sum 5 := ⟨am_mem 69 (by decide +kernel) (by decide +kernel), am_mem 720 (by decide +kernel) (by decide +kernel), rfl, ⟨by decide +kernel, by decide +kernel, by decide +kernel⟩, by decide⟩
theorem lm_X8_place : am_lM m_X8_place 4 := ⟨am_mem 69 (by decide +kernel) (by decide +kernel), am_mem 751 (by decide +kernel) (by decide +kernel), rfl, ⟨by decide +kernel, by decide +kernel, by decide +kernel⟩, by decide⟩
theorem lm_X8_standing : am_lM m_X8_standing 4 := ⟨am_mem 69 (by decide +kernel) (by decide +kernel), am_mem 764 (by decide +kernel) (by decide +kernel), rfl, ⟨by decide +kernel, by decide +kernel, by decide +kernel⟩, by decide⟩
theorem lm_X8_why : am_lM m_X8_why 5 := ⟨am_mem 69 (by decide +kernel) (by decide +kernel), am_mem 777 (by decide +kernel) (by decide +kernel), rfl, ⟨by decide +kernel, by decide +kernel, by decide +kernel⟩, by decide⟩
theorem lm_X8_refuseAsking : am_lM m_X8_refuseAsking 4 := ⟨am_mem 69 (by decide +kernel) (by decide +kernel), am_mem 716 (by decide +kernel) (by decide +kernel), rfl, ⟨by decide +kernel, by decide +kernel, by decide +kernel⟩, by decide⟩
theorem lm_X8_makeTable : am_lM m_X8_makeTable 3 := ⟨am_mem 69 (by decide +kernel) (by decide +kernel), am_mem 724 (by decide +kernel) (by decide +kernel), rfl, ⟨by decide +kernel, by decide +kernel, by decide +kernel⟩, by decide⟩
theorem lm_X8_rated : am_lM m_X8_rated 4 := ⟨am_mem 69 (by decide +kernel) (by decide +kernel), am_mem 782 (by decide +kernel) (by decide +kernel), rfl, ⟨by decide +kernel, by decide +kernel, by decide +kernel⟩, by decide⟩
theorem lm_X8_mean : am_lM m_X8_mean 1 := ⟨am_mem 69 (by decide +kernel) (by decide +kernel), am_mem 814 (by decide +kernel) (by decide +kernel), rfl, ⟨by decide +kernel, by decide +kernel, by decide +kernel⟩, by decide⟩
theorem lm_X8_could : am_lM m_X8_could 4 := ⟨am_mem 69 (by decide +kernel) (by decide +kernel), am_mem 822 (by decide +kernel) (by decide +kernel), rfl, ⟨by decide +kernel, by decide +kernel, by decide +kernel⟩, by decide⟩
theorem lm_X8_found : am_lM m_X8_found 1 := ⟨am_mem 69 (by decide +kernel) (by decide +kernel), am_mem 849 (by decide +kernel) (by decide +kernel), rfl, ⟨by decide +kernel, by decide +kernel, by decide +kernel⟩, by decide⟩
theorem lm_X8_keepFound : am_lM m_X8_keepFound 1 := ⟨am_mem 69 (by decide +kernel) (by decide +kernel), am_mem 845 (by decide +kernel) (by decide +kernel), rfl, ⟨by decide +kernel, by decide +kernel, by decide +kernel⟩, by decide⟩
theorem lm_X8_step : am_lM m_X8_step 6 := ⟨am_mem 69 (by decide +kernel) (by decide +kernel), am_mem 853 (by decide +kernel) (by decide +kernel), rfl, ⟨by decide +kernel, by decide +kernel, by decide +kernel⟩, by decide⟩
theorem lm_X8_empty : am_lM m_X8_empty 1 := ⟨am_mem 69 (by decide +kernel) (by decide +kernel), am_mem 868 (by decide +kernel) (by decide +kernel), rfl, ⟨by decide +kernel, by decide +kernel, by decide +kernel⟩, by decide⟩
theorem lm_X8_run : am_lM m_X8_run 1 := ⟨am_mem 69 (by decide +kernel) (by decide +kernel), am_mem 872 (by decide +kernel) (by decide +kernel), rfl, ⟨by decide +kernel, by decide +kernel, by decide +kernel⟩, by decide⟩
theorem lm_X8_ran : am_lM m_X8_ran 1 := ⟨am_mem 69 (by decide +kernel) (by decide +kernel), am_mem 922 (by decide +kernel) (by decide +kernel), rfl, ⟨by decide +kernel, by decide +kernel, by decide +kernel⟩, by decide⟩
theorem lm_X8_isPlan : am_lM m_X8_isPlan 1 := ⟨am_mem 69 (by decide +kernel) (by decide +kernel), am_mem 856 (by decide +kernel) (by decide +kernel), rfl, ⟨by decide +kernel, by decide +kernel, by decide +kernel⟩, by decide⟩
theorem lm_X8_fails : am_lM m_X8_fails 1 := ⟨am_mem 69 (by decide +kernel) (by decide +kernel), am_mem 910 (by decide +kernel) (by decide +kernel), rfl, ⟨by decide +kernel, by decide +kernel, by decide +kernel⟩, by decide⟩
theorem lm_X8_save : am_lM m_X8_save 0 := ⟨am_mem 69 (by decide +kernel) (by decide +kernel), am_mem 876 (by decide +kernel) (by decide +kernel), rfl, ⟨by decide +kernel, by decide +kernel, by decide +kernel⟩, by decide⟩
theorem lm_X8_restore : am_lM m_X8_restore 0 := ⟨am_mem 69 (by decide +kernel) (by decide +kernel), am_mem 918 (by decide +kernel) (by decide +kernel), rfl, ⟨by decide +kernel, by decide +kernel, by decide +kernel⟩, by decide⟩
theorem lm_X8_runSteps : am_lM m_X8_runSteps 1 := ⟨am_mem 69 (by decide +kernel) (by decide +kernel), am_mem 889 (by decide +kernel) (by decide +kernel), rfl, ⟨by decide +kernel, by decide +kernel, by decide +kernel⟩, by decide⟩
theorem lm_X8_perform : am_lM m_X8_perform 1 := ⟨am_mem 69 (by decide +kernel) (by decide +kernel), am_mem 894 (by decide +kernel) (by decide +kernel), rfl, ⟨by decide +kernel, by decide +kernel, by decide +kernel⟩, by decide⟩
theorem lm_X8_need : am_lM m_X8_need 4 := ⟨am_mem 69 (by decide +kernel) (by decide +kernel), am_mem 906 (by decide +kernel) (by decide +kernel), rfl, ⟨by decide +kernel, by decide +kernel, by decide +kernel⟩, by decide⟩
theorem lm_X8_finding : am_lM m_X8_finding 0 := ⟨am_mem 69 (by decide +kernel) (by decide +kernel), am_mem 926 (by decide +kernel) (by decide +kernel), rfl, ⟨by decide +kernel, by decide +kernel, by decide +kernel⟩, by decide⟩
theorem lm_X8_told : am_lM m_X8_told 1 := ⟨am_mem 69 (by decide +kernel) (by decide +kernel), am_mem 930 (by decide +kernel) (by decide +kernel), rfl, ⟨by decide +kernel, by decide +kernel, by decide +kernel⟩, by decide⟩
theorem lm_X8_tellOf : am_lM m_X8_tellOf 2 := ⟨am_mem 69 (by decide +kernel) (by decide +kernel), am_mem 934 (by decide +kernel) (by decide +kernel), rfl, ⟨by decide +kernel, by decide +kernel, by decide +kernel⟩, by decide⟩
theorem lm_X9_init : am_lM m_X9_init 0 := ⟨am_mem 78 (by decide +kernel) (by decide +kernel), am_mem 939 (by decide +kernel) (by decide +kernel), rfl, ⟨by decide +kernel, by decide +kernel, by decide +kernel⟩, by decide⟩
theorem lm_X9_in : am_lM m_X9_in 3 := ⟨am_mem 78 (by decide +kernel) (by decide +kernel), am_mem 1077 (by decide +kernel) (by decide +kernel), rfl, ⟨by decide +kernel, by decide +kernel, by decide +kernel⟩, by decide⟩
theorem lm_X9_meets : am_lM m_X9_meets 1 := ⟨am_mem 78 (by decide +kernel) (by decide +kernel), am_mem 1089 (by decide +kernel) (by decide +kernel), rfl, ⟨by decide +kernel, by decide +kernel, by decide +kernel⟩, by decide⟩
theorem lm_X9_began : am_lM m_X9_began 1 := ⟨am_mem 78 (by decide +kernel) (by decide +kernel), am_mem 1113 (by decide +kernel) (by decide +kernel), rfl, ⟨by decide +kernel, by decide +kernel, by decide +kernel⟩, by decide⟩
theorem lm_X9_isPlayer : am_lM m_X9_isPlayer 1 := ⟨am_mem 78 (by decide +kernel) (by decide +kernel), am_mem 1085 (by decide +kernel) (by decide +kernel), rfl, ⟨by decide +kernel, by decide +kernel, by decide +kernel⟩, by decide⟩
theorem lm_X9_isTournament : am_lM m_X9_isTournament 1 := ⟨am_mem 78 (by decide +kernel) (by decide +kernel), am_mem 1145 (by decide +kernel) (by decide +kernel), rfl, ⟨by decide +kernel, by decide +kernel, by decide +kernel⟩, by decide⟩
theorem lm_X9_cell : am_lM m_X9_cell 2 := ⟨am_mem 78 (by decide +kernel) (by decide +kernel), am_mem 1153 (by decide +kernel) (by decide +kernel), rfl, ⟨by decide +kernel, by decide +kernel, by decide +kernel⟩, by decide⟩
theorem lm_X9_lay : am_lM m_X9_lay 3 := ⟨am_mem 78 (by decide +kernel) (by decide +kernel), am_mem 1137 (by decide +kernel) (by decide +kernel), rfl, ⟨by decide +kernel, by decide +kernel, by decide +kernel⟩, by decide⟩
theorem lm_X9_player : am_lM m_X9_player 2 := ⟨am_mem 78 (by decide +kernel) (by decide +kernel), am_mem 1074 (by decide +kernel) (by decide +kernel), rfl, ⟨by decide +kernel, by decide +kernel, by decide +kernel⟩, by decide⟩
theorem lm_X9_places : am_lM m_X9_places 2 := ⟨am_mem 78 (by decide +kernel) (by decide +kernel), am_mem 1081 (by decide +kernel) (by decide +kernel), rfl, ⟨by decide +kernel, by decide +kernel, by decide +kernel⟩, by decide⟩
theorem lm_X9_seat : am_lM m_X9_seat 3 := ⟨am_mem 78 (by decide +kernel) (by decide +kernel), am_mem 1093 (by decide +kernel) (by decide +kernel), rfl, ⟨by decide +kernel, by decide +kernel, by decide +kernel⟩, by decide⟩
theorem lm_X9_held : am_lM m_X9_held 2 := ⟨am_mem 78 (by decide +kernel) (by decide +kernel), am_mem 1097 (by decide +kernel) (by decide +kernel), rfl, ⟨by decide +kernel, by decide +kernel, by decide +kernel⟩, by decide⟩
theorem lm_X9_soloWorth : am_lM m_X9_soloWorth 1 := ⟨am_mem 78 (by decide +kernel) (by decide +kernel), am_mem 1109 (by decide +kernel) (by decide +kernel), rfl, ⟨by decide +kernel, by decide +kernel, by decide +kernel⟩, by decide⟩
theorem lm_X9_worthOf : am_lM m_X9_worthOf 1 := ⟨am_mem 78 (by decide +kernel) (by decide +kernel), am_mem 1105 (by decide +kernel) (by decide +kernel), rfl, ⟨by decide +kernel, by decide +kernel, by decide +kernel⟩, by decide⟩
theorem lm_X9_worth : am_lM m_X9_worth 1 := ⟨am_mem 78 (by decide +kernel) (by decide +kernel), am_mem 1101 (by decide +kernel) (by decide +kernel), rfl, ⟨by decide +kernel, by decide +kernel, by decide +kernel⟩, by decide⟩
theorem lm_X9_stepFor : am_lM m_X9_stepFor 1 := ⟨am_mem 78 (by decide +kernel) (by decide +kernel), am_mem 1121 (by decide +kernel) (by decide +kernel), rfl, ⟨by decide +kernel, by decide +kernel, by decide +kernel⟩, by decide⟩
theorem lm_X9_stepOf : am_lM m_X9_stepOf 1 := ⟨am_mem 78 (by decide +kernel) (by decide +kernel), am_mem 1117 (by decide +kernel) (by decide +kernel), rfl, ⟨by decide +kernel, by decide +kernel, by decide +kernel⟩, by decide⟩
theorem lm_X9_trace : am_lM m_X9_trace 1 := ⟨am_mem 78 (by decide +kernel) (by decide +kernel), am_mem 1125 (by decide +kernel) (by decide +kernel), rfl, ⟨by decide +kernel, by decide +kernel, by decide +kernel⟩, by decide⟩
theorem lm_X9_another : am_lM m_X9_another 0 := ⟨am_mem 78 (by decide +kernel) (by decide +kernel), am_mem 1133 (by decide +kernel) (by decide +kernel), rfl, ⟨by decide +kernel, by decide +kernel, by decide +kernel⟩, by decide⟩
theorem lm_X9_tournament : am_lM m_X9_tournament 0 := ⟨am_mem 78 (by decide +kernel) (by decide +kernel), am_mem 1129 (by decide +kernel) (by decide +kernel), rfl, ⟨by decide +kernel, by decide +kernel, by decide +kernel⟩, by decide⟩
theorem lm_X9_placeOf : am_lM m_X9_placeOf 2 := ⟨am_mem 78 (by decide +kernel) (by decide +kernel), am_mem 1149 (by decide +kernel) (by decide +kernel), rfl, ⟨by decide +kernel, by decide +kernel, by decide +kernel⟩, by decide⟩
theorem lm_X9_enter : am_lM m_X9_enter 2 := ⟨am_mem 78 (by decide +kernel) (by decide +kernel), am_mem 1141 (by decide +kernel) (by decide +kernel), rfl, ⟨by decide +kernel, by decide +kernel, by decide +kernel⟩, by decide⟩
theorem lm_X9_withdraw : am_lM m_X9_withdraw 2 := ⟨am_mem 78 (by decide +kernel) (by decide +kernel), am_mem 1157 (by decide +kernel) (by decide +kernel), rfl, ⟨by decide +kernel, by decide +kernel, by decide +kernel⟩, by decide⟩
theorem lm_X9_rule : am_lM m_X9_rule 3 := ⟨am_mem 78 (by decide +kernel) (by decide +kernel), am_mem 1161 (by decide +kernel) (by decide +kernel), rfl, ⟨by decide +kernel, by decide +kernel, by decide +kernel⟩, by decide⟩
theorem lm_X9_entryOf : am_lM m_X9_entryOf 3 := ⟨am_mem 78 (by decide +kernel) (by decide +kernel), am_mem 1197 (by decide +kernel) (by decide +kernel), rfl, ⟨by decide +kernel, by decide +kernel, by decide +kernel⟩, by decide⟩
theorem lm_X9_outcomeOf : am_lM m_X9_outcomeOf 4 := ⟨am_mem 78 (by decide +kernel) (by decide +kernel), am_mem 1193 (by decide +kernel) (by decide +kernel), rfl, ⟨by decide +kernel, by decide +kernel, by decide +kernel⟩, by decide⟩
theorem lm_X9_halves : am_lM m_X9_halves 2 := ⟨am_mem 78 (by decide +kernel) (by decide +kernel), am_mem 1200 (by decide +kernel) (by decide +kernel), rfl, ⟨by decide +kernel, by decide +kernel, by decide +kernel⟩, by decide⟩
theorem lm_X9_pairOf : am_lM m_X9_pairOf 3 := ⟨am_mem 78 (by decide +kernel) (by decide +kernel), am_mem 1185 (by decide +kernel) (by decide +kernel), rfl, ⟨by decide +kernel, by decide +kernel, by decide +kernel⟩, by decide⟩
theorem lm_X9_isWithNobody : am_lM m_X9_isWithNobody 2 := ⟨am_mem 78 (by decide +kernel) (by decide +kernel), am_mem 1189 (by decide +kernel) (by decide +kernel), rfl, ⟨by decide +kernel, by decide +kernel, by decide +kernel⟩, by decide⟩
theorem lm_X9_otherOf : am_lM m_X9_otherOf 3 := ⟨am_mem 78 (by decide +kernel) (by decide +kernel), am_mem 1216 (by decide +kernel) (by decide +kernel), rfl, ⟨by decide +kernel, by decide +kernel, by decide +kernel⟩, by decide⟩
theorem lm_X9_pointsOf : am_lM m_X9_pointsOf 4 := ⟨am_mem 78 (by decide +kernel) (by decide +kernel), am_mem 1181 (by decide +kernel) (by decide +kernel), rfl, ⟨by decide +kernel, by decide +kernel, by decide +kernel⟩, by decide⟩
theorem lm_X9_sumOf : am_lM m_X9_sumOf 5 := ⟨am_mem 78 (by decide +kernel) (by decide +kernel), am_mem 1274 (by decide +kernel) (by decide +kernel), rfl, ⟨by decide +kernel, by decide +kernel, by decide +kernel⟩, by decide⟩
theorem lm_X9_parting : am_lM m_X9_parting 5 := ⟨am_mem 78 (by decide +kernel) (by decide +kernel), am_mem 1286 (by decide +kernel) (by decide +kernel), rfl, ⟨by decide +kernel, by decide +kernel, by decide +kernel⟩, by decide⟩
theorem lm_X9_colours : am_lM m_X9_colours 2 := ⟨am_mem 78 (by decide +kernel) (by decide +kernel), am_mem 1225 (by decide +kernel) (by decide +kernel), rfl, ⟨by decide +kernel, by decide +kernel, by decide +kernel⟩, by decide⟩
theorem lm_X9_colourCost : am_lM m_X9_colourCost 3 := ⟨am_mem 78 (by decide +kernel) (by decide +kernel), am_mem 1221 (by decide +kernel) (by decide +kernel), rfl, ⟨by decide +kernel, by decide +kernel, by decide +kernel⟩, by decide⟩
theorem lm_X9_wasWith : am_lM m_X9_wasWith 3 := ⟨am_mem 78 (by decide +kernel) (by decide +kernel), am_mem 1212 (by decide +kernel) (by decide +kernel), rfl, ⟨by decide +kernel, by decide +kernel, by decide +kernel⟩, by decide⟩
theorem lm_X9_costAlone : am_lM m_X9_costAlone 2 := ⟨am_mem 78 (by decide +kernel) (by decide +kernel), am_mem 1229 (by decide +kernel) (by decide +kernel), rfl, ⟨by decide +kernel, by decide +kernel, by decide +kernel⟩, by decide⟩
theorem lm_X9_costOf : am_lM m_X9_costOf 4 := ⟨am_mem 78 (by decide +kernel) (by decide +kernel), am_mem 1208 (by decide +kernel) (by decide +kernel), rfl, ⟨by decide +kernel, by decide +kernel, by decide +kernel⟩, by decide⟩
theorem lm_X9_search : am_lM m_X9_search 1 := ⟨am_mem 78 (by decide +kernel) (by decide +kernel), am_mem 1204 (by decide +kernel) (by decide +kernel), rfl, ⟨by decide +kernel, by decide +kernel, by decide +kernel⟩, by decide⟩
theorem lm_X9_pairUp : am_lM m_X9_pairUp 2 := ⟨am_mem 78 (by decide +kernel) (by decide +kernel), am_mem 1234 (by decide +kernel) (by decide +kernel), rfl, ⟨by decide +kernel, by decide +kernel, by decide +kernel⟩, by decide⟩
theorem lm_X9_gather : am_lM m_X9_gather 2 := ⟨am_mem 78 (by decide +kernel) (by decide +kernel), am_mem 1173 (by decide +kernel) (by decide +kernel), rfl, ⟨by decide +kernel, by decide +kernel, by decide +kernel⟩, by decide⟩
theorem lm_X9_askWorths : am_lM m_X9_askWorths 0 := ⟨am_mem 78 (by decide +kernel) (by decide +kernel), am_mem 1177 (by decide +kernel) (by decide +kernel), rfl, ⟨by decide +kernel, by decide +kernel, by decide +kernel⟩, by decide⟩
theorem lm_X9_drawOf : am_lM m_X9_drawOf 2 := ⟨am_mem 78 (by decide +kernel) (by decide +kernel), am_mem 1169 (by decide +kernel) (by decide +kernel), rfl, ⟨by decide +kernel, by decide +kernel, by decide +kernel⟩, by decide⟩
theorem lm_X9_draw : am_lM m_X9_draw 2 := ⟨am_mem 78 (by decide +kernel) (by decide +kernel), am_mem 1165 (by decide +kernel) (by decide +kernel), rfl, ⟨by decide +kernel, by decide +kernel, by decide +kernel⟩, by decide⟩
theorem lm_X9_against : am_lM m_X9_against 3 := ⟨am_mem 78 (by decide +kernel) (by decide +kernel), am_mem 1242 (by decide +kernel) (by decide +kernel), rfl, ⟨by decide +kernel, by decide +kernel, by decide +kernel⟩, by decide⟩
theorem lm_X9_pair : am_lM m_X9_pair 4 := ⟨am_mem 78 (by decide +kernel) (by decide +kernel), am_mem 1238 (by decide +kernel) (by decide +kernel), rfl, ⟨by decide +kernel, by decide +kernel, by decide +kernel⟩, by decide⟩
theorem lm_X9_round : am_lM m_X9_round 3 := ⟨am_mem 78 (by decide +kernel) (by decide +kernel), am_mem 1246 (by decide +kernel) (by decide +kernel), rfl, ⟨by decide +kernel, by decide +kernel, by decide +kernel⟩, by decide⟩
theorem lm_X9_tell : am_lM m_X9_tell 6 := ⟨am_mem 78 (by decide +kernel) (by decide +kernel), am_mem 1250 (by decide +kernel) (by decide +kernel), rfl, ⟨by decide +kernel, by decide +kernel, by decide +kernel⟩, by decide⟩
theorem lm_X9_takeBack : am_lM m_X9_takeBack 3 := ⟨am_mem 78 (by decide +kernel) (by decide +kernel), am_mem 1254 (by decide +kernel) (by decide +kernel), rfl, ⟨by decide +kernel, by decide +kernel, by decide +kernel⟩, by decide⟩
theorem lm_X9_counts : am_lM m_X9_counts 4 := ⟨am_mem 78 (by decide +kernel) (by decide +kernel), am_mem 1258 (by decide +kernel) (by decide +kernel), rfl, ⟨by decide +kernel, by decide +kernel, by decide +kernel⟩, by decide⟩
theorem lm_X9_refused : am_lM m_X9_refused 4 := ⟨am_mem 78 (by decide +kernel) (by decide +kernel), am_mem 1266 (by decide +kernel) (by decide +kernel), rfl, ⟨by decide +kernel, by decide +kernel, by decide +kernel⟩, by decide⟩
theorem lm_X9_points : am_lM m_X9_points 4 := ⟨am_mem 78 (by decide +kernel) (by decide +kernel), am_mem 1262 (by decide +kernel) (by decide +kernel), rfl, ⟨by decide +kernel, by decide +kernel, by decide +kernel⟩, by decide⟩
theorem lm_X9_sum : am_lM m_X9_sum 5 := ⟨am_mem 78 (by decide +kernel) (by decide +kernel), am_mem 1270 (by decide +kernel) (by decide +kernel), rfl, ⟨by decide +kernel, by decide +kernel, by decide +kernel⟩, by decide⟩
theorem lm_X9_ahead : am_lM m_X9_ahead 4 := ⟨am_mem 78 (by decide +kernel) (by decide +kernel), am_mem 1282 (by decide +kernel) (by decide +kernel), rfl, ⟨by decide +kernel, by decide +kernel, by decide +kernel⟩, by decide⟩
theorem lm_X9_place : am_lM m_X9_place 4 := ⟨am_mem 78 (by decide +kernel) (by decide +kernel), am_mem 1278 (by decide +kernel) (by decide +kernel), rfl, ⟨by decide +kernel, by decide +kernel, by decide +kernel⟩, by decide⟩
theorem lm_X9_standing : am_lM m_X9_standing 4 := ⟨am_mem 78 (by decide +kernel) (by decide +kernel), am_mem 1290 (by decide +kernel) (by decide +kernel), rfl, ⟨by decide +kernel, by decide +kernel, by decide +kernel⟩, by decide⟩
theorem lm_X9_why : am_lM m_X9_why 5 := ⟨am_mem 78 (by decide +kernel) (by decide +kernel), am_mem 1294 (by decide +kernel) (by decide +kernel), rfl, ⟨by decide +kernel, by decide +kernel, by decide +kernel⟩, by decide⟩
theorem lm_X9_rounded : am_lM m_X9_rounded 1 := ⟨am_mem 78 (by decide +kernel) (by decide +kernel), am_mem 1305 (by decide +kernel) (by decide +kernel), rfl, ⟨by decide +kernel, by decide +kernel, by decide +kernel⟩, by decide⟩
theorem lm_X9_rate : am_lM m_X9_rate 4 := ⟨am_mem 78 (by decide +kernel) (by decide +kernel), am_mem 1302 (by decide +kernel) (by decide +kernel), rfl, ⟨by decide +kernel, by decide +kernel, by decide +kernel⟩, by decide⟩
theorem lm_X9_rated : am_lM m_X9_rated 4 := ⟨am_mem 78 (by decide +kernel) (by decide +kernel), am_mem 1298 (by decide +kernel) (by decide +kernel), rfl, ⟨by decide +kernel, by decide +kernel, by decide +kernel⟩, by decide⟩
theorem lm_X9_mean : am_lM m_X9_mean 1 := ⟨am_mem 78 (by decide +kernel) (by decide +kernel), am_mem 1310 (by decide +kernel) (by decide +kernel), rfl, ⟨by decide +kernel, by decide +kernel, by decide +kernel⟩, by decide⟩
theorem lm_X9_isFirst : am_lM m_X9_isFirst 4 := ⟨am_mem 78 (by decide +kernel) (by decide +kernel), am_mem 1318 (by decide +kernel) (by decide +kernel), rfl, ⟨by decide +kernel, by decide +kernel, by decide +kernel⟩, by decide⟩
theorem lm_X9_could : am_lM m_X9_could 4 := ⟨am_mem 78 (by decide +kernel) (by decide +kernel), am_mem 1314 (by decide +kernel) (by decide +kernel), rfl, ⟨by decide +kernel, by decide +kernel, by decide +kernel⟩, by decide⟩
theorem lm_X9_found : am_lM m_X9_found 1 := ⟨am_mem 78 (by decide +kernel) (by decide +kernel), am_mem 1322 (by decide +kernel) (by decide +kernel), rfl, ⟨by decide +kernel, by decide +kernel, by decide +kernel⟩, by decide⟩
theorem lm_X9_step : am_lM m_X9_step 6 := ⟨am_mem 78 (by decide +kernel) (by decide +kernel), am_mem 1326 (by decide +kernel) (by decide +kernel), rfl, ⟨by decide +kernel, by decide +kernel, by decide +kernel⟩, by decide⟩
theorem lm_X9_empty : am_lM m_X9_empty 1 := ⟨am_mem 78 (by decide +kernel) (by decide +kernel), am_mem 1330 (by decide +kernel) (by decide +kernel), rfl, ⟨by decide +kernel, by decide +kernel, by decide +kernel⟩, by decide⟩
theorem lm_X9_need : am_lM m_X9_need 4 := ⟨am_mem 78 (by decide +kernel) (by decide +kernel), am_mem 1362 (by decide +kernel) (by decide +kernel), rfl, ⟨by decide +kernel, by decide +kernel, by decide +kernel⟩, by decide⟩
theorem lm_X9_answer : am_lM m_X9_answer 1 := ⟨am_mem 78 (by decide +kernel) (by decide +kernel), am_mem 1350 (by decide +kernel) (by decide +kernel), rfl, ⟨by decide +kernel, by decide +kernel, by decide +kernel⟩, by decide⟩
theorem lm_X9_fails : am_lM m_X9_fails 3 := ⟨am_mem 78 (by decide +kernel) (by decide +kernel), am_mem 1342 (by decide +kernel) (by decide +kernel), rfl, ⟨by decide +kernel, by decide +kernel, by decide +kernel⟩, by decide⟩
theorem lm_X9_goes : am_lM m_X9_goes 1 := ⟨am_mem 78 (by decide +kernel) (by decide +kernel), am_mem 1346 (by decide +kernel) (by decide +kernel), rfl, ⟨by decide +kernel, by decide +kernel, by decide +kernel⟩, by decide⟩
theorem lm_X9_keep : am_lM m_X9_keep 0 := ⟨am_mem 78 (by decide +kernel) (by decide +kernel), am_mem 1338 (by decide +kernel) (by decide +kernel), rfl, ⟨by decide +kernel, by decide +kernel, by decide +kernel⟩, by decide⟩
theorem lm_X9_back : am_lM m_X9_back 0 := ⟨am_mem 78 (by decide +kernel) (by decide +kernel), am_mem 1367 (by decide +kernel) (by decide +kernel), rfl, ⟨by decide +kernel, by decide +kernel, by decide +kernel⟩, by decide⟩
theorem lm_X9_run : am_lM m_X9_run 1 := ⟨am_mem 78 (by decide +kernel) (by decide +kernel), am_mem 1334 (by decide +kernel) (by decide +kernel), rfl, ⟨by decide +kernel, by decide +kernel, by decide +kernel⟩, by decide⟩
theorem lm_X9_ran : am_lM m_X9_ran 1 := ⟨am_mem 78 (by decide +kernel) (by decide +kernel), am_mem 1371 (by decide +kernel) (by decide +kernel), rfl, ⟨by decide +kernel, by decide +kernel, by decide +kernel⟩, by decide⟩
theorem lm_X9_copy : am_lM m_X9_copy 1 := ⟨am_mem 78 (by decide +kernel) (by decide +kernel), am_mem 1375 (by decide +kernel) (by decide +kernel), rfl, ⟨by decide +kernel, by decide +kernel, by decide +kernel⟩, by decide⟩
theorem lm_X9_alike : am_lM m_X9_alike 2 := ⟨am_mem 78 (by decide +kernel) (by decide +kernel), am_mem 1379 (by decide +kernel) (by decide +kernel), rfl, ⟨by decide +kernel, by decide +kernel, by decide +kernel⟩, by decide⟩
theorem lm_X9_finding : am_lM m_X9_finding 0 := ⟨am_mem 78 (by decide +kernel) (by decide +kernel), am_mem 1383 (by decide +kernel) (by decide +kernel), rfl, ⟨by decide +kernel, by decide +kernel, by decide +kernel⟩, by decide⟩
theorem lm_X9_told : am_lM m_X9_told 1 := ⟨am_mem 78 (by decide +kernel) (by decide +kernel), am_mem 1387 (by decide +kernel) (by decide +kernel), rfl, ⟨by decide +kernel, by decide +kernel, by decide +kernel⟩, by decide⟩
theorem lm_X0_init : am_lM m_X0_init 0 := ⟨am_mem 73 (by decide +kernel) (by decide +kernel), am_mem 184 (by decide +kernel) (by decide +kernel), rfl, ⟨by decide +kernel, by decide +kernel, by decide +kernel⟩, by decide⟩
theorem lm_X0_brokenIn : am_lM m_X0_brokenIn 1 := ⟨am_mem 73 (by decide +kernel) (by decide +kernel), am_mem 663 (by decide +kernel) (by decide +kernel), rfl, ⟨by decide +kernel, by decide +kernel, by decide +kernel⟩, by decide⟩
theorem lm_X0_gather : am_lM m_X0_gather 1 := ⟨am_mem 73 (by decide +kernel) (by decide +kernel), am_mem 560 (by decide +kernel) (by decide +kernel), rfl, ⟨by decide +kernel, by decide +kernel, by decide +kernel⟩, by decide⟩
theorem lm_X0_askWorths : am_lM m_X0_askWorths 2 := ⟨am_mem 73 (by decide +kernel) (by decide +kernel), am_mem 564 (by decide +kernel) (by decide +kernel), rfl, ⟨by decide +kernel, by decide +kernel, by decide +kernel⟩, by decide⟩
theorem lm_X0_recall : am_lM m_X0_recall 1 := ⟨am_mem 73 (by decide +kernel) (by decide +kernel), am_mem 588 (by decide +kernel) (by decide +kernel), rfl, ⟨by decide +kernel, by decide +kernel, by decide +kernel⟩, by decide⟩
theorem lm_X0_recallPair : am_lM m_X0_recallPair 2 := ⟨am_mem 73 (by decide +kernel) (by decide +kernel), am_mem 593 (by decide +kernel) (by decide +kernel), rfl, ⟨by decide +kernel, by decide +kernel, by decide +kernel⟩, by decide⟩
theorem lm_X0_recallSpot : am_lM m_X0_recallSpot 2 := ⟨am_mem 73 (by decide +kernel) (by decide +kernel), am_mem 597 (by decide +kernel) (by decide +kernel), rfl, ⟨by decide +kernel, by decide +kernel, by decide +kernel⟩, by decide⟩
theorem lm_X0_recallColour : am_lM m_X0_recallColour 2 := ⟨am_mem 73 (by decide +kernel) (by decide +kernel), am_mem 601 (by decide +kernel) (by decide +kernel), rfl, ⟨by decide +kernel, by decide +kernel, by decide +kernel⟩, by decide⟩
theorem lm_X0_priceAll : am_lM m_X0_priceAll 1 := ⟨am_mem 73 (by decide +kernel) (by decide +kernel), am_mem 605 (by decide +kernel) (by decide +kernel), rfl, ⟨by decide +kernel, by decide +kernel, by decide +kernel⟩, by decide⟩
theorem lm_X0_basePrice : am_lM m_X0_basePrice 3 := ⟨am_mem 73 (by decide +kernel) (by decide +kernel), am_mem 611 (by decide +kernel) (by decide +kernel), rfl, ⟨by decide +kernel, by decide +kernel, by decide +kernel⟩, by decide⟩
theorem lm_X0_priceTwo : am_lM m_X0_priceTwo 3 := ⟨am_mem 73 (by decide +kernel) (by decide +kernel), am_mem 616 (by decide +kernel) (by decide +kernel), rfl, ⟨by decide +kernel, by decide +kernel, by decide +kernel⟩, by decide⟩
theorem lm_X0_colourPrice : am_lM m_X0_colourPrice 2 := ⟨am_mem 73 (by decide +kernel) (by decide +kernel), am_mem 620 (by decide +kernel) (by decide +kernel), rfl, ⟨by decide +kernel, by decide +kernel, by decide +kernel⟩, by decide⟩
theorem lm_X0_findWay : am_lM m_X0_findWay 0 := ⟨am_mem 73 (by decide +kernel) (by decide +kernel), am_mem 627 (by decide +kernel) (by decide +kernel), rfl, ⟨by decide +kernel, by decide +kernel, by decide +kernel⟩, by decide⟩
theorem lm_X0_search : am_lM m_X0_search 3 := ⟨am_mem 73 (by decide +kernel) (by decide +kernel), am_mem 631 (by decide +kernel) (by decide +kernel), rfl, ⟨by decide +kernel, by decide +kernel, by decide +kernel⟩, by decide⟩
theorem lm_X0_firstFree : am_lM m_X0_firstFree 0 := ⟨am_mem 73 (by decide +kernel) (by decide +kernel), am_mem 635 (by decide +kernel) (by decide +kernel), rfl, ⟨by decide +kernel, by decide +kernel, by decide +kernel⟩, by decide⟩
theorem lm_X0_writeRound : am_lM m_X0_writeRound 2 := ⟨am_mem 73 (by decide +kernel) (by decide +kernel), am_mem 642 (by decide +kernel) (by decide +kernel), rfl, ⟨by decide +kernel, by decide +kernel, by decide +kernel⟩, by decide⟩
theorem lm_X1_init : am_lM m_X1_init 0 := ⟨am_mem 70 (by decide +kernel) (by decide +kernel), am_mem 94 (by decide +kernel) (by decide +kernel), rfl, ⟨by decide +kernel, by decide +kernel, by decide +kernel⟩, by decide⟩
theorem lm_X1_clear : am_lM m_X1_clear 0 := ⟨am_mem 70 (by decide +kernel) (by decide +kernel), am_mem 469 (by decide +kernel) (by decide +kernel), rfl, ⟨by decide +kernel, by decide +kernel, by decide +kernel⟩, by decide⟩
theorem lm_X1_write : am_lM m_X1_write 1 := ⟨am_mem 70 (by decide +kernel) (by decide +kernel), am_mem 486 (by decide +kernel) (by decide +kernel), rfl, ⟨by decide +kernel, by decide +kernel, by decide +kernel⟩, by decide⟩
theorem lm_X1_met : am_lM m_X1_met 1 := ⟨am_mem 70 (by decide +kernel) (by decide +kernel), am_mem 444 (by decide +kernel) (by decide +kernel), rfl, ⟨by decide +kernel, by decide +kernel, by decide +kernel⟩, by decide⟩
theorem lm_X2_init : am_lM m_X2_init 0 := ⟨am_mem 75 (by decide +kernel) (by decide +kernel), am_mem 242 (by decide +kernel) (by decide +kernel), rfl, ⟨by decide +kernel, by decide +kernel, by decide +kernel⟩, by decide⟩
theorem lm_X2_rowOf : am_lM m_X2_rowOf 2 := ⟨am_mem 75 (by decide +kernel) (by decide +kernel), am_mem 864 (by decide +kernel) (by decide +kernel), rfl, ⟨by decide +kernel, by decide +kernel, by decide +kernel⟩, by decide⟩
theorem lm_X2_openRow : am_lM m_X2_openRow 1 := ⟨am_mem 75 (by decide +kernel) (by decide +kernel), am_mem 860 (by decide +kernel) (by decide +kernel), rfl, ⟨by decide +kernel, by decide +kernel, by decide +kernel⟩, by decide⟩
theorem lm_X3_init : am_lM m_X3_init 0 := ⟨am_mem 74 (by decide +kernel) (by decide +kernel), am_mem 231 (by decide +kernel) (by decide +kernel), rfl, ⟨by decide +kernel, by decide +kernel, by decide +kernel⟩, by decide⟩
theorem lm_X3_begin : am_lM m_X3_begin 3 := ⟨am_mem 74 (by decide +kernel) (by decide +kernel), am_mem 786 (by decide +kernel) (by decide +kernel), rfl, ⟨by decide +kernel, by decide +kernel, by decide +kernel⟩, by decide⟩
theorem lm_X3_total : am_lM m_X3_total 1 := ⟨am_mem 74 (by decide +kernel) (by decide +kernel), am_mem 818 (by decide +kernel) (by decide +kernel), rfl, ⟨by decide +kernel, by decide +kernel, by decide +kernel⟩, by decide⟩
theorem lm_X3_goThrough : am_lM m_X3_goThrough 5 := ⟨am_mem 74 (by decide +kernel) (by decide +kernel), am_mem 792 (by decide +kernel) (by decide +kernel), rfl, ⟨by decide +kernel, by decide +kernel, by decide +kernel⟩, by decide⟩
theorem lm_X3_gain : am_lM m_X3_gain 3 := ⟨am_mem 74 (by decide +kernel) (by decide +kernel), am_mem 798 (by decide +kernel) (by decide +kernel), rfl, ⟨by decide +kernel, by decide +kernel, by decide +kernel⟩, by decide⟩
theorem lm_X3_roundThousandths : am_lM m_X3_roundThousandths 1 := ⟨am_mem 74 (by decide +kernel) (by decide +kernel), am_mem 803 (by decide +kernel) (by decide +kernel), rfl, ⟨by decide +kernel, by decide +kernel, by decide +kernel⟩, by decide⟩
theorem lm_X4_init : am_lM m_X4_init 0 := ⟨am_mem 76 (by decide +kernel) (by decide +kernel), am_mem 261 (by decide +kernel) (by decide +kernel), rfl, ⟨by decide +kernel, by decide +kernel, by decide +kernel⟩, by decide⟩
theorem lm_X4_begin : am_lM m_X4_begin 0 := ⟨am_mem 76 (by decide +kernel) (by decide +kernel), am_mem 885 (by decide +kernel) (by decide +kernel), rfl, ⟨by decide +kernel, by decide +kernel, by decide +kernel⟩, by decide⟩
theorem lm_X4_tellFailure : am_lM m_X4_tellFailure 3 := ⟨am_mem 76 (by decide +kernel) (by decide +kernel), am_mem 914 (by decide +kernel) (by decide +kernel), rfl, ⟨by decide +kernel, by decide +kernel, by decide +kernel⟩, by decide⟩
theorem lm_X5_init : am_lM m_X5_init 0 := ⟨am_mem 71 (by decide +kernel) (by decide +kernel), am_mem 114 (by decide +kernel) (by decide +kernel), rfl, ⟨by decide +kernel, by decide +kernel, by decide +kernel⟩, by decide⟩
theorem lm_X5_has : am_lM m_X5_has 1 := ⟨am_mem 71 (by decide +kernel) (by decide +kernel), am_mem 436 (by decide +kernel) (by decide +kernel), rfl, ⟨by decide +kernel, by decide +kernel, by decide +kernel⟩, by decide⟩
theorem lm_X5_isTeam : am_lM m_X5_isTeam 1 := ⟨am_mem 71 (by decide +kernel) (by decide +kernel), am_mem 440 (by decide +kernel) (by decide +kernel), rfl, ⟨by decide +kernel, by decide +kernel, by decide +kernel⟩, by decide⟩
theorem lm_X5_isRated : am_lM m_X5_isRated 1 := ⟨am_mem 71 (by decide +kernel) (by decide +kernel), am_mem 532 (by decide +kernel) (by decide +kernel), rfl, ⟨by decide +kernel, by decide +kernel, by decide +kernel⟩, by decide⟩
theorem lm_X5_add : am_lM m_X5_add 2 := ⟨am_mem 71 (by decide +kernel) (by decide +kernel), am_mem 428 (by decide +kernel) (by decide +kernel), rfl, ⟨by decide +kernel, by decide +kernel, by decide +kernel⟩, by decide⟩
theorem lm_X5_setPlaces : am_lM m_X5_setPlaces 2 := ⟨am_mem 71 (by decide +kernel) (by decide +kernel), am_mem 448 (by decide +kernel) (by decide +kernel), rfl, ⟨by decide +kernel, by decide +kernel, by decide +kernel⟩, by decide⟩
theorem lm_X5_chairOf : am_lM m_X5_chairOf 3 := ⟨am_mem 71 (by decide +kernel) (by decide +kernel), am_mem 456 (by decide +kernel) (by decide +kernel), rfl, ⟨by decide +kernel, by decide +kernel, by decide +kernel⟩, by decide⟩
theorem lm_X5_worthFor : am_lM m_X5_worthFor 2 := ⟨am_mem 71 (by decide +kernel) (by decide +kernel), am_mem 477 (by decide +kernel) (by decide +kernel), rfl, ⟨by decide +kernel, by decide +kernel, by decide +kernel⟩, by decide⟩
theorem lm_X5_soloWorth : am_lM m_X5_soloWorth 2 := ⟨am_mem 71 (by decide +kernel) (by decide +kernel), am_mem 482 (by decide +kernel) (by decide +kernel), rfl, ⟨by decide +kernel, by decide +kernel, by decide +kernel⟩, by decide⟩
theorem lm_X5_stepFor : am_lM m_X5_stepFor 2 := ⟨am_mem 71 (by decide +kernel) (by decide +kernel), am_mem 497 (by decide +kernel) (by decide +kernel), rfl, ⟨by decide +kernel, by decide +kernel, by decide +kernel⟩, by decide⟩
theorem lm_X5_takeOver : am_lM m_X5_takeOver 1 := ⟨am_mem 71 (by decide +kernel) (by decide +kernel), am_mem 880 (by decide +kernel) (by decide +kernel), rfl, ⟨by decide +kernel, by decide +kernel, by decide +kernel⟩, by decide⟩
theorem lm_X6_init : am_lM m_X6_init 0 := ⟨am_mem 72 (by decide +kernel) (by decide +kernel), am_mem 140 (by decide +kernel) (by decide +kernel), rfl, ⟨by decide +kernel, by decide +kernel, by decide +kernel⟩, by decide⟩
theorem lm_X6_read : am_lM m_X6_read 3 := ⟨am_mem 72 (by decide +kernel) (by decide +kernel), am_mem 569 (by decide +kernel) (by decide +kernel), rfl, ⟨by decide +kernel, by decide +kernel, by decide +kernel⟩, by decide⟩
theorem lm_X6_score : am_lM m_X6_score 2 := ⟨am_mem 72 (by decide +kernel) (by decide +kernel), am_mem 578 (by decide +kernel) (by decide +kernel), rfl, ⟨by decide +kernel, by decide +kernel, by decide +kernel⟩, by decide⟩
theorem lm_X6_whiteHalves : am_lM m_X6_whiteHalves 1 := ⟨am_mem 72 (by decide +kernel) (by decide +kernel), am_mem 581 (by decide +kernel) (by decide +kernel), rfl, ⟨by decide +kernel, by decide +kernel, by decide +kernel⟩, by decide⟩
theorem lm_X6_blackHalves : am_lM m_X6_blackHalves 1 := ⟨am_mem 72 (by decide +kernel) (by decide +kernel), am_mem 584 (by decide +kernel) (by decide +kernel), rfl, ⟨by decide +kernel, by decide +kernel, by decide +kernel⟩, by decide⟩
theorem lm_X6_isPlayed : am_lM m_X6_isPlayed 1 := ⟨am_mem 72 (by decide +kernel) (by decide +kernel), am_mem 743 (by decide +kernel) (by decide +kernel), rfl, ⟨by decide +kernel, by decide +kernel, by decide +kernel⟩, by decide⟩
theorem lm_X6_tally : am_lM m_X6_tally 1 := ⟨am_mem 72 (by decide +kernel) (by decide +kernel), am_mem 728 (by decide +kernel) (by decide +kernel), rfl, ⟨by decide +kernel, by decide +kernel, by decide +kernel⟩, by decide⟩
theorem lm_X6_tallyPair : am_lM m_X6_tallyPair 3 := ⟨am_mem 72 (by decide +kernel) (by decide +kernel), am_mem 732 (by decide +kernel) (by decide +kernel), rfl, ⟨by decide +kernel, by decide +kernel, by decide +kernel⟩, by decide⟩
theorem lm_X6_addFoe : am_lM m_X6_addFoe 2 := ⟨am_mem 72 (by decide +kernel) (by decide +kernel), am_mem 736 (by decide +kernel) (by decide +kernel), rfl, ⟨by decide +kernel, by decide +kernel, by decide +kernel⟩, by decide⟩
theorem lm_X6_amountOf : am_lM m_X6_amountOf 2 := ⟨am_mem 72 (by decide +kernel) (by decide +kernel), am_mem 747 (by decide +kernel) (by decide +kernel), rfl, ⟨by decide +kernel, by decide +kernel, by decide +kernel⟩, by decide⟩
theorem lm_X6_parting : am_lM m_X6_parting 3 := ⟨am_mem 72 (by decide +kernel) (by decide +kernel), am_mem 759 (by decide +kernel) (by decide +kernel), rfl, ⟨by decide +kernel, by decide +kernel, by decide +kernel⟩, by decide⟩
theorem lm_X6_aheadOf : am_lM m_X6_aheadOf 2 := ⟨am_mem 72 (by decide +kernel) (by decide +kernel), am_mem 755 (by decide +kernel) (by decide +kernel), rfl, ⟨by decide +kernel, by decide +kernel, by decide +kernel⟩, by decide⟩
theorem lm_X6_whoIs : am_lM m_X6_whoIs 2 := ⟨am_mem 72 (by decide +kernel) (by decide +kernel), am_mem 768 (by decide +kernel) (by decide +kernel), rfl, ⟨by decide +kernel, by decide +kernel, by decide +kernel⟩, by decide⟩
theorem lm_X6_lesserAlike : am_lM m_X6_lesserAlike 2 := ⟨am_mem 72 (by decide +kernel) (by decide +kernel), am_mem 773 (by decide +kernel) (by decide +kernel), rfl, ⟨by decide +kernel, by decide +kernel, by decide +kernel⟩, by decide⟩
theorem lm_X6_listOpen : am_lM m_X6_listOpen 1 := ⟨am_mem 72 (by decide +kernel) (by decide +kernel), am_mem 826 (by decide +kernel) (by decide +kernel), rfl, ⟨by decide +kernel, by decide +kernel, by decide +kernel⟩, by decide⟩
theorem lm_X6_suppose : am_lM m_X6_suppose 2 := ⟨am_mem 72 (by decide +kernel) (by decide +kernel), am_mem 830 (by decide +kernel) (by decide +kernel), rfl, ⟨by decide +kernel, by decide +kernel, by decide +kernel⟩, by decide⟩
theorem lm_X6_isOutscored : am_lM m_X6_isOutscored 2 := ⟨am_mem 72 (by decide +kernel) (by decide +kernel), am_mem 840 (by decide +kernel) (by decide +kernel), rfl, ⟨by decide +kernel, by decide +kernel, by decide +kernel⟩, by decide⟩
theorem lm_X6_isFirst : am_lM m_X6_isFirst 3 := ⟨am_mem 72 (by decide +kernel) (by decide +kernel), am_mem 834 (by decide +kernel) (by decide +kernel), rfl, ⟨by decide +kernel, by decide +kernel, by decide +kernel⟩, by decide⟩
theorem lm_X7_init : am_lM m_X7_init 0 := ⟨am_mem 77 (by decide +kernel) (by decide +kernel), am_mem 283 (by decide +kernel) (by decide +kernel), rfl, ⟨by decide +kernel, by decide +kernel, by decide +kernel⟩, by decide⟩
theorem lm_X7_clear : am_lM m_X7_clear 0 := ⟨am_mem 77 (by decide +kernel) (by decide +kernel), am_mem 509 (by decide +kernel) (by decide +kernel), rfl, ⟨by decide +kernel, by decide +kernel, by decide +kernel⟩, by decide⟩
theorem lm_X7_hasIn : am_lM m_X7_hasIn 1 := ⟨am_mem 77 (by decide +kernel) (by decide +kernel), am_mem 528 (by decide +kernel) (by decide +kernel), rfl, ⟨by decide +kernel, by decide +kernel, by decide +kernel⟩, by decide⟩
theorem lm_X7_letIn : am_lM m_X7_letIn 1 := ⟨am_mem 77 (by decide +kernel) (by decide +kernel), am_mem 536 (by decide +kernel) (by decide +kernel), rfl, ⟨by decide +kernel, by decide +kernel, by decide +kernel⟩, by decide⟩
theorem lm_X7_latestDay : am_lM m_X7_latestDay 0 := ⟨am_mem 77 (by decide +kernel) (by decide +kernel), am_mem 556 (by decide +kernel) (by decide +kernel), rfl, ⟨by decide +kernel, by decide +kernel, by decide +kernel⟩, by decide⟩
theorem lm_X7_roundOf : am_lM m_X7_roundOf 2 := ⟨am_mem 77 (by decide +kernel) (by decide +kernel), am_mem 654 (by decide +kernel) (by decide +kernel), rfl, ⟨by decide +kernel, by decide +kernel, by decide +kernel⟩, by decide⟩
theorem lm_X7_cellOf : am_lM m_X7_cellOf 3 := ⟨am_mem 77 (by decide +kernel) (by decide +kernel), am_mem 650 (by decide +kernel) (by decide +kernel), rfl, ⟨by decide +kernel, by decide +kernel, by decide +kernel⟩, by decide⟩
theorem lm_X7_addEntry : am_lM m_X7_addEntry 4 := ⟨am_mem 77 (by decide +kernel) (by decide +kernel), am_mem 699 (by decide +kernel) (by decide +kernel), rfl, ⟨by decide +kernel, by decide +kernel, by decide +kernel⟩, by decide⟩
theorem lm_X7_isKnown : am_lM m_X7_isKnown 2 := ⟨am_mem 77 (by decide +kernel) (by decide +kernel), am_mem 574 (by decide +kernel) (by decide +kernel), rfl, ⟨by decide +kernel, by decide +kernel, by decide +kernel⟩, by decide⟩
theorem lm_X7_takeOver : am_lM m_X7_takeOver 1 := ⟨am_mem 77 (by decide +kernel) (by decide +kernel), am_mem 671 (by decide +kernel) (by decide +kernel), rfl, ⟨by decide +kernel, by decide +kernel, by decide +kernel⟩, by decide⟩
theorem lm_X7_isLike : am_lM m_X7_isLike 1 := ⟨am_mem 77 (by decide +kernel) (by decide +kernel), am_mem 680 (by decide +kernel) (by decide +kernel), rfl, ⟨by decide +kernel, by decide +kernel, by decide +kernel⟩, by decide⟩
theorem lm_X7_hasLikeRounds : am_lM m_X7_hasLikeRounds 1 := ⟨am_mem 77 (by decide +kernel) (by decide +kernel), am_mem 687 (by decide +kernel) (by decide +kernel), rfl, ⟨by decide +kernel, by decide +kernel, by decide +kernel⟩, by decide⟩
theorem lm_X7_hasLikeEntries : am_lM m_X7_hasLikeEntries 1 := ⟨am_mem 77 (by decide +kernel) (by decide +kernel), am_mem 691 (by decide +kernel) (by decide +kernel), rfl, ⟨by decide +kernel, by decide +kernel, by decide +kernel⟩, by decide⟩
theorem lm_X7_isSame : am_lM m_X7_isSame 4 := ⟨am_mem 77 (by decide +kernel) (by decide +kernel), am_mem 683 (by decide +kernel) (by decide +kernel), rfl, ⟨by decide +kernel, by decide +kernel, by decide +kernel⟩, by decide⟩
theorem lm_J9_abs_0f7a4 : am_lM m_J9_abs_0f7a4 1 := ⟨am_mem 79 (by decide +kernel) (by decide +kernel), am_mem 623 (by decide +kernel) (by decide +kernel), rfl, ⟨by decide +kernel, by decide +kernel, by decide +kernel⟩, by decide⟩
theorem lm_J9_floorDiv_7cf53 : am_lM m_J9_floorDiv_7cf53 2 := ⟨am_mem 79 (by decide +kernel) (by decide +kernel), am_mem 806 (by decide +kernel) (by decide +kernel), rfl, ⟨by decide +kernel, by decide +kernel, by decide +kernel⟩, by decide⟩
theorem lm_J9_floorMod_7cf53 : am_lM m_J9_floorMod_7cf53 2 := ⟨am_mem 79 (by decide +kernel) (by decide +kernel), am_mem 809 (by decide +kernel) (by decide +kernel), rfl, ⟨by decide +kernel, by decide +kernel, by decide +kernel⟩, by decide⟩
theorem lm_J9_max_7cf53 : am_lM m_J9_max_7cf53 2 := ⟨am_mem 79 (by decide +kernel) (by decide +kernel), am_mem 740 (by decide +kernel) (by decide +kernel), rfl, ⟨by decide +kernel, by decide +kernel, by decide +kernel⟩, by decide⟩
theorem lm_J9_min_7cf53 : am_lM m_J9_min_7cf53 2 := ⟨am_mem 79 (by decide +kernel) (by decide +kernel), am_mem 489 (by decide +kernel) (by decide +kernel), rfl, ⟨by decide +kernel, by decide +kernel, by decide +kernel⟩, by decide⟩
theorem lm_J7_fill_53178 : am_lM m_J7_fill_53178 2 := ⟨am_mem 80 (by decide +kernel) (by decide +kernel), am_mem 512 (by decide +kernel) (by decide +kernel), rfl, ⟨by decide +kernel, by decide +kernel, by decide +kernel⟩, by decide⟩
theorem j_0_3 : Cond.methodLink (am_R 0) 3 objectInit ∈ am_tb := am_mem 185 (by decide +kernel) (by decide +kernel)
theorem v_0_59 : am_lV 0 59 m_X5_worthFor 2 := ⟨lm_X5_worthFor, am_mem 565 (by decide +kernel) (by decide +kernel), am_mem 475 (by decide +kernel) (by decide +kernel), am_mem 476 (by decide +kernel) (by decide +kernel), _, _, rfl⟩
theorem s_0_65 : am_lS 0 65 m_J7_fill_53178 2 := ⟨lm_J7_fill_53178, am_mem 589 (by decide +kernel) (by decide +kernel), am_mem 511 (by decide +kernel) (by decide +kernel)⟩
theorem v_0_83 : am_lV 0 83 m_X0_recallPair 2 := ⟨lm_X0_recallPair, am_mem 590 (by decide +kernel) (by decide +kernel), am_mem 592 (by decide +kernel) (by decide +kernel), am_mem 5 (by decide +kernel) (by decide +kernel), _, _, rfl⟩
theorem v_0_87 : am_lV 0 87 m_X0_recallSpot 2 := ⟨lm_X0_recallSpot, am_mem 594 (by decide +kernel) (by decide +kernel), am_mem 596 (by decide +kernel) (by decide +kernel), am_mem 6 (by decide +kernel) (by decide +kernel), _, _, rfl⟩
theorem v_0_90 : am_lV 0 90 m_X0_recallColour 2 := ⟨lm_X0_recallColour, am_mem 598 (by decide +kernel) (by decide +kernel), am_mem 600 (by decide +kernel) (by decide +kernel), am_mem 7 (by decide +kernel) (by decide +kernel), _, _, rfl⟩
theorem s_0_94 : am_lS 0 94 m_J9_min_7cf53 2 := ⟨lm_J9_min_7cf53, am_mem 607 (by decide +kernel) (by decide +kernel), am_mem 488 (by decide +kernel) (by decide +kernel)⟩
theorem v_0_100 : am_lV 0 100 m_X0_basePrice 3 := ⟨lm_X0_basePrice, am_mem 608 (by decide +kernel) (by decide +kernel), am_mem 610 (by decide +kernel) (by decide +kernel), am_mem 8 (by decide +kernel) (by decide +kernel), _, _, rfl⟩
theorem v_0_104 : am_lV 0 104 m_X0_priceTwo 3 := ⟨lm_X0_priceTwo, am_mem 613 (by decide +kernel) (by decide +kernel), am_mem 615 (by decide +kernel) (by decide +kernel), am_mem 9 (by decide +kernel) (by decide +kernel), _, _, rfl⟩
theorem v_0_108 : am_lV 0 108 m_X0_colourPrice 2 := ⟨lm_X0_colourPrice, am_mem 617 (by decide +kernel) (by decide +kernel), am_mem 619 (by decide +kernel) (by decide +kernel), am_mem 10 (by decide +kernel) (by decide +kernel), _, _, rfl⟩
theorem s_0_111 : am_lS 0 111 m_J9_abs_0f7a4 1 := ⟨lm_J9_abs_0f7a4, am_mem 621 (by decide +kernel) (by decide +kernel), am_mem 622 (by decide +kernel) (by decide +kernel)⟩
theorem v_0_115 : am_lV 0 115 m_X0_search 3 := ⟨lm_X0_search, am_mem 628 (by decide +kernel) (by decide +kernel), am_mem 630 (by decide +kernel) (by decide +kernel), am_mem 11 (by decide +kernel) (by decide +kernel), _, _, rfl⟩
theorem v_0_119 : am_lV 0 119 m_X0_firstFree 0 := ⟨lm_X0_firstFree, am_mem 632 (by decide +kernel) (by decide +kernel), am_mem 634 (by decide +kernel) (by decide +kernel), am_mem 12 (by decide +kernel) (by decide +kernel), _, _, rfl⟩
theorem a_0_123 : Cond.methodLink (am_R 0) 123 arraycopyName ∈ am_tb := am_mem 636 (by decide +kernel) (by decide +kernel)
theorem j_1_3 : Cond.methodLink (am_R 1) 3 objectInit ∈ am_tb := am_mem 95 (by decide +kernel) (by decide +kernel)
theorem j_2_3 : Cond.methodLink (am_R 2) 3 objectInit ∈ am_tb := am_mem 243 (by decide +kernel) (by decide +kernel)
theorem v_2_21 : am_lV 2 21 m_X2_rowOf 2 := ⟨lm_X2_rowOf, am_mem 861 (by decide +kernel) (by decide +kernel), am_mem 862 (by decide +kernel) (by decide +kernel), am_mem 863 (by decide +kernel) (by decide +kernel), _, _, rfl⟩
theorem j_3_3 : Cond.methodLink (am_R 3) 3 objectInit ∈ am_tb := am_mem 232 (by decide +kernel) (by decide +kernel)
theorem v_3_15 : am_lV 3 15 m_X7_hasIn 1 := ⟨lm_X7_hasIn, am_mem 787 (by decide +kernel) (by decide +kernel), am_mem 526 (by decide +kernel) (by decide +kernel), am_mem 527 (by decide +kernel) (by decide +kernel), _, _, rfl⟩
theorem v_3_21 : am_lV 3 21 m_X5_worthFor 2 := ⟨lm_X5_worthFor, am_mem 788 (by decide +kernel) (by decide +kernel), am_mem 475 (by decide +kernel) (by decide +kernel), am_mem 476 (by decide +kernel) (by decide +kernel), _, _, rfl⟩
theorem s_3_43 : am_lS 3 43 m_X6_isPlayed 1 := ⟨lm_X6_isPlayed, am_mem 793 (by decide +kernel) (by decide +kernel), am_mem 742 (by decide +kernel) (by decide +kernel)⟩
theorem v_3_48 : am_lV 3 48 m_X5_stepFor 2 := ⟨lm_X5_stepFor, am_mem 794 (by decide +kernel) (by decide +kernel), am_mem 495 (by decide +kernel) (by decide +kernel), am_mem 496 (by decide +kernel) (by decide +kernel), _, _, rfl⟩
theorem s_3_51 : am_lS 3 51 m_X6_whiteHalves 1 := ⟨lm_X6_whiteHalves, am_mem 795 (by decide +kernel) (by decide +kernel), am_mem 580 (by decide +kernel) (by decide +kernel)⟩
theorem s_3_55 : am_lS 3 55 m_X3_gain 3 := ⟨lm_X3_gain, am_mem 796 (by decide +kernel) (by decide +kernel), am_mem 797 (by decide +kernel) (by decide +kernel)⟩
theorem s_3_59 : am_lS 3 59 m_X6_blackHalves 1 := ⟨lm_X6_blackHalves, am_mem 810 (by decide +kernel) (by decide +kernel), am_mem 583 (by decide +kernel) (by decide +kernel)⟩
theorem s_3_62 : am_lS 3 62 m_J9_min_7cf53 2 := ⟨lm_J9_min_7cf53, am_mem 799 (by decide +kernel) (by decide +kernel), am_mem 488 (by decide +kernel) (by decide +kernel)⟩
theorem s_3_68 : am_lS 3 68 m_J9_max_7cf53 2 := ⟨lm_J9_max_7cf53, am_mem 800 (by decide +kernel) (by decide +kernel), am_mem 739 (by decide +kernel) (by decide +kernel)⟩
theorem s_3_71 : am_lS 3 71 m_X3_roundThousandths 1 := ⟨lm_X3_roundThousandths, am_mem 801 (by decide +kernel) (by decide +kernel), am_mem 802 (by decide +kernel) (by decide +kernel)⟩
theorem s_3_74 : am_lS 3 74 m_J9_floorDiv_7cf53 2 := ⟨lm_J9_floorDiv_7cf53, am_mem 804 (by decide +kernel) (by decide +kernel), am_mem 805 (by decide +kernel) (by decide +kernel)⟩
theorem s_3_77 : am_lS 3 77 m_J9_floorMod_7cf53 2 := ⟨lm_J9_floorMod_7cf53, am_mem 807 (by decide +kernel) (by decide +kernel), am_mem 808 (by decide +kernel) (by decide +kernel)⟩
theorem j_4_3 : Cond.methodLink (am_R 4) 3 objectInit ∈ am_tb := am_mem 262 (by decide +kernel) (by decide +kernel)
theorem j_5_3 : Cond.methodLink (am_R 5) 3 objectInit ∈ am_tb := am_mem 115 (by decide +kernel) (by decide +kernel)
theorem v_5_28 : am_lV 5 28 m_X1_met 1 := ⟨lm_X1_met, am_mem 457 (by decide +kernel) (by decide +kernel), am_mem 442 (by decide +kernel) (by decide +kernel), am_mem 443 (by decide +kernel) (by decide +kernel), _, _, rfl⟩
theorem v_5_34 : am_lV 5 34 m_X5_isTeam 1 := ⟨lm_X5_isTeam, am_mem 478 (by decide +kernel) (by decide +kernel), am_mem 438 (by decide +kernel) (by decide +kernel), am_mem 439 (by decide +kernel) (by decide +kernel), _, _, rfl⟩
theorem v_5_38 : am_lV 5 38 m_X5_soloWorth 2 := ⟨lm_X5_soloWorth, am_mem 479 (by decide +kernel) (by decide +kernel), am_mem 481 (by decide +kernel) (by decide +kernel), am_mem 1 (by decide +kernel) (by decide +kernel), _, _, rfl⟩
theorem v_5_42 : am_lV 5 42 m_X1_write 1 := ⟨lm_X1_write, am_mem 483 (by decide +kernel) (by decide +kernel), am_mem 484 (by decide +kernel) (by decide +kernel), am_mem 485 (by decide +kernel) (by decide +kernel), _, _, rfl⟩
theorem s_5_46 : am_lS 5 46 m_J9_min_7cf53 2 := ⟨lm_J9_min_7cf53, am_mem 487 (by decide +kernel) (by decide +kernel), am_mem 488 (by decide +kernel) (by decide +kernel)⟩
theorem a_5_52 : Cond.methodLink (am_R 5) 52 arraycopyName ∈ am_tb := am_mem 881 (by decide +kernel) (by decide +kernel)
theorem j_6_3 : Cond.methodLink (am_R 6) 3 objectInit ∈ am_tb := am_mem 141 (by decide +kernel) (by decide +kernel)
theorem s_6_45 : am_lS 6 45 m_J7_fill_53178 2 := ⟨lm_J7_fill_53178, am_mem 570 (by decide +kernel) (by decide +kernel), am_mem 511 (by decide +kernel) (by decide +kernel)⟩
theorem v_6_60 : am_lV 6 60 m_X7_isKnown 2 := ⟨lm_X7_isKnown, am_mem 571 (by decide +kernel) (by decide +kernel), am_mem 572 (by decide +kernel) (by decide +kernel), am_mem 573 (by decide +kernel) (by decide +kernel), _, _, rfl⟩
theorem s_6_85 : am_lS 6 85 m_X6_whiteHalves 1 := ⟨lm_X6_whiteHalves, am_mem 579 (by decide +kernel) (by decide +kernel), am_mem 580 (by decide +kernel) (by decide +kernel)⟩
theorem s_6_89 : am_lS 6 89 m_X6_blackHalves 1 := ⟨lm_X6_blackHalves, am_mem 582 (by decide +kernel) (by decide +kernel), am_mem 583 (by decide +kernel) (by decide +kernel)⟩
theorem v_6_95 : am_lV 6 95 m_X6_tallyPair 3 := ⟨lm_X6_tallyPair, am_mem 729 (by decide +kernel) (by decide +kernel), am_mem 731 (by decide +kernel) (by decide +kernel), am_mem 17 (by decide +kernel) (by decide +kernel), _, _, rfl⟩
theorem v_6_99 : am_lV 6 99 m_X6_addFoe 2 := ⟨lm_X6_addFoe, am_mem 733 (by decide +kernel) (by decide +kernel), am_mem 735 (by decide +kernel) (by decide +kernel), am_mem 18 (by decide +kernel) (by decide +kernel), _, _, rfl⟩
theorem s_6_103 : am_lS 6 103 m_X6_isPlayed 1 := ⟨lm_X6_isPlayed, am_mem 741 (by decide +kernel) (by decide +kernel), am_mem 742 (by decide +kernel) (by decide +kernel)⟩
theorem s_6_107 : am_lS 6 107 m_J9_min_7cf53 2 := ⟨lm_J9_min_7cf53, am_mem 737 (by decide +kernel) (by decide +kernel), am_mem 488 (by decide +kernel) (by decide +kernel)⟩
theorem s_6_113 : am_lS 6 113 m_J9_max_7cf53 2 := ⟨lm_J9_max_7cf53, am_mem 738 (by decide +kernel) (by decide +kernel), am_mem 739 (by decide +kernel) (by decide +kernel)⟩
theorem v_6_119 : am_lV 6 119 m_X6_amountOf 2 := ⟨lm_X6_amountOf, am_mem 760 (by decide +kernel) (by decide +kernel), am_mem 745 (by decide +kernel) (by decide +kernel), am_mem 746 (by decide +kernel) (by decide +kernel), _, _, rfl⟩
theorem v_6_128 : am_lV 6 128 m_X6_parting 3 := ⟨lm_X6_parting, am_mem 756 (by decide +kernel) (by decide +kernel), am_mem 757 (by decide +kernel) (by decide +kernel), am_mem 758 (by decide +kernel) (by decide +kernel), _, _, rfl⟩
theorem v_6_132 : am_lV 6 132 m_X6_aheadOf 2 := ⟨lm_X6_aheadOf, am_mem 769 (by decide +kernel) (by decide +kernel), am_mem 753 (by decide +kernel) (by decide +kernel), am_mem 754 (by decide +kernel) (by decide +kernel), _, _, rfl⟩
theorem v_6_136 : am_lV 6 136 m_X6_lesserAlike 2 := ⟨lm_X6_lesserAlike, am_mem 770 (by decide +kernel) (by decide +kernel), am_mem 772 (by decide +kernel) (by decide +kernel), am_mem 19 (by decide +kernel) (by decide +kernel), _, _, rfl⟩
theorem v_6_140 : am_lV 6 140 m_X6_score 2 := ⟨lm_X6_score, am_mem 836 (by decide +kernel) (by decide +kernel), am_mem 576 (by decide +kernel) (by decide +kernel), am_mem 577 (by decide +kernel) (by decide +kernel), _, _, rfl⟩
theorem v_6_144 : am_lV 6 144 m_X6_isOutscored 2 := ⟨lm_X6_isOutscored, am_mem 837 (by decide +kernel) (by decide +kernel), am_mem 839 (by decide +kernel) (by decide +kernel), am_mem 20 (by decide +kernel) (by decide +kernel), _, _, rfl⟩
theorem v_6_148 : am_lV 6 148 m_X6_tally 1 := ⟨lm_X6_tally, am_mem 841 (by decide +kernel) (by decide +kernel), am_mem 726 (by decide +kernel) (by decide +kernel), am_mem 727 (by decide +kernel) (by decide +kernel), _, _, rfl⟩
theorem j_7_3 : Cond.methodLink (am_R 7) 3 objectInit ∈ am_tb := am_mem 284 (by decide +kernel) (by decide +kernel)
theorem s_7_64 : am_lS 7 64 m_J7_fill_53178 2 := ⟨lm_J7_fill_53178, am_mem 510 (by decide +kernel) (by decide +kernel), am_mem 511 (by decide +kernel) (by decide +kernel)⟩
theorem v_7_70 : am_lV 7 70 m_X1_met 1 := ⟨lm_X1_met, am_mem 655 (by decide +kernel) (by decide +kernel), am_mem 442 (by decide +kernel) (by decide +kernel), am_mem 443 (by decide +kernel) (by decide +kernel), _, _, rfl⟩
theorem v_7_76 : am_lV 7 76 m_X7_roundOf 2 := ⟨lm_X7_roundOf, am_mem 651 (by decide +kernel) (by decide +kernel), am_mem 652 (by decide +kernel) (by decide +kernel), am_mem 653 (by decide +kernel) (by decide +kernel), _, _, rfl⟩
theorem a_7_80 : Cond.methodLink (am_R 7) 80 arraycopyName ∈ am_tb := am_mem 672 (by decide +kernel) (by decide +kernel)
theorem s_7_86 : am_lS 7 86 m_X7_isSame 4 := ⟨lm_X7_isSame, am_mem 681 (by decide +kernel) (by decide +kernel), am_mem 682 (by decide +kernel) (by decide +kernel)⟩
theorem v_7_90 : am_lV 7 90 m_X7_hasLikeRounds 1 := ⟨lm_X7_hasLikeRounds, am_mem 684 (by decide +kernel) (by decide +kernel), am_mem 686 (by decide +kernel) (by decide +kernel), am_mem 13 (by decide +kernel) (by decide +kernel), _, _, rfl⟩
theorem v_7_94 : am_lV 7 94 m_X7_hasLikeEntries 1 := ⟨lm_X7_hasLikeEntries, am_mem 688 (by decide +kernel) (by decide +kernel), am_mem 690 (by decide +kernel) (by decide +kernel), am_mem 14 (by decide +kernel) (by decide +kernel), _, _, rfl⟩
theorem j_8_1 : Cond.methodLink (am_R 8) 1 objectInit ∈ am_tb := am_mem 87 (by decide +kernel) (by decide +kernel)
theorem n_8_9 : am_lN 8 9 m_X1_init 0 := ⟨lm_X1_init, by decide +kernel, am_mem 93 (by decide +kernel) (by decide +kernel), rfl⟩
theorem n_8_18 : am_lN 8 18 m_X5_init 0 := ⟨lm_X5_init, by decide +kernel, am_mem 113 (by decide +kernel) (by decide +kernel), rfl⟩
theorem n_8_37 : am_lN 8 37 m_X6_init 0 := ⟨lm_X6_init, by decide +kernel, am_mem 139 (by decide +kernel) (by decide +kernel), rfl⟩
theorem n_8_44 : am_lN 8 44 m_X0_init 0 := ⟨lm_X0_init, by decide +kernel, am_mem 183 (by decide +kernel) (by decide +kernel), rfl⟩
theorem n_8_51 : am_lN 8 51 m_X3_init 0 := ⟨lm_X3_init, by decide +kernel, am_mem 230 (by decide +kernel) (by decide +kernel), rfl⟩
theorem n_8_58 : am_lN 8 58 m_X2_init 0 := ⟨lm_X2_init, by decide +kernel, am_mem 241 (by decide +kernel) (by decide +kernel), rfl⟩
theorem n_8_65 : am_lN 8 65 m_X4_init 0 := ⟨lm_X4_init, by decide +kernel, am_mem 260 (by decide +kernel) (by decide +kernel), rfl⟩
theorem n_8_87 : am_lN 8 87 m_X7_init 0 := ⟨lm_X7_init, by decide +kernel, am_mem 282 (by decide +kernel) (by decide +kernel), rfl⟩
theorem v_8_88 : am_lV 8 88 m_X5_add 2 := ⟨lm_X5_add, am_mem 425 (by decide +kernel) (by decide +kernel), am_mem 426 (by decide +kernel) (by decide +kernel), am_mem 427 (by decide +kernel) (by decide +kernel), _, _, rfl⟩
theorem v_8_92 : am_lV 8 92 m_X5_has 1 := ⟨lm_X5_has, am_mem 433 (by decide +kernel) (by decide +kernel), am_mem 434 (by decide +kernel) (by decide +kernel), am_mem 435 (by decide +kernel) (by decide +kernel), _, _, rfl⟩
theorem v_8_96 : am_lV 8 96 m_X5_isTeam 1 := ⟨lm_X5_isTeam, am_mem 437 (by decide +kernel) (by decide +kernel), am_mem 438 (by decide +kernel) (by decide +kernel), am_mem 439 (by decide +kernel) (by decide +kernel), _, _, rfl⟩
theorem v_8_99 : am_lV 8 99 m_X1_met 1 := ⟨lm_X1_met, am_mem 441 (by decide +kernel) (by decide +kernel), am_mem 442 (by decide +kernel) (by decide +kernel), am_mem 443 (by decide +kernel) (by decide +kernel), _, _, rfl⟩
theorem v_8_103 : am_lV 8 103 m_X5_setPlaces 2 := ⟨lm_X5_setPlaces, am_mem 445 (by decide +kernel) (by decide +kernel), am_mem 446 (by decide +kernel) (by decide +kernel), am_mem 447 (by decide +kernel) (by decide +kernel), _, _, rfl⟩
theorem v_8_107 : am_lV 8 107 m_X5_chairOf 3 := ⟨lm_X5_chairOf, am_mem 453 (by decide +kernel) (by decide +kernel), am_mem 454 (by decide +kernel) (by decide +kernel), am_mem 455 (by decide +kernel) (by decide +kernel), _, _, rfl⟩
theorem v_8_114 : am_lV 8 114 m_X1_clear 0 := ⟨lm_X1_clear, am_mem 466 (by decide +kernel) (by decide +kernel), am_mem 467 (by decide +kernel) (by decide +kernel), am_mem 468 (by decide +kernel) (by decide +kernel), _, _, rfl⟩
theorem v_8_117 : am_lV 8 117 m_X8_askWorth 1 := ⟨lm_X8_askWorth, am_mem 470 (by decide +kernel) (by decide +kernel), am_mem 472 (by decide +kernel) (by decide +kernel), am_mem 0 (by decide +kernel) (by decide +kernel), _, _, rfl⟩
theorem v_8_120 : am_lV 8 120 m_X5_stepFor 2 := ⟨lm_X5_stepFor, am_mem 494 (by decide +kernel) (by decide +kernel), am_mem 495 (by decide +kernel) (by decide +kernel), am_mem 496 (by decide +kernel) (by decide +kernel), _, _, rfl⟩
theorem v_8_130 : am_lV 8 130 m_X5_worthFor 2 := ⟨lm_X5_worthFor, am_mem 474 (by decide +kernel) (by decide +kernel), am_mem 475 (by decide +kernel) (by decide +kernel), am_mem 476 (by decide +kernel) (by decide +kernel), _, _, rfl⟩
theorem v_8_133 : am_lV 8 133 m_X7_clear 0 := ⟨lm_X7_clear, am_mem 506 (by decide +kernel) (by decide +kernel), am_mem 507 (by decide +kernel) (by decide +kernel), am_mem 508 (by decide +kernel) (by decide +kernel), _, _, rfl⟩
theorem v_8_134 : am_lV 8 134 m_X8_openNext 0 := ⟨lm_X8_openNext, am_mem 513 (by decide +kernel) (by decide +kernel), am_mem 515 (by decide +kernel) (by decide +kernel), am_mem 2 (by decide +kernel) (by decide +kernel), _, _, rfl⟩
theorem v_8_138 : am_lV 8 138 m_X8_isTournament 1 := ⟨lm_X8_isTournament, am_mem 521 (by decide +kernel) (by decide +kernel), am_mem 523 (by decide +kernel) (by decide +kernel), am_mem 3 (by decide +kernel) (by decide +kernel), _, _, rfl⟩
theorem v_8_141 : am_lV 8 141 m_X7_hasIn 1 := ⟨lm_X7_hasIn, am_mem 525 (by decide +kernel) (by decide +kernel), am_mem 526 (by decide +kernel) (by decide +kernel), am_mem 527 (by decide +kernel) (by decide +kernel), _, _, rfl⟩
theorem v_8_150 : am_lV 8 150 m_X5_isRated 1 := ⟨lm_X5_isRated, am_mem 529 (by decide +kernel) (by decide +kernel), am_mem 530 (by decide +kernel) (by decide +kernel), am_mem 531 (by decide +kernel) (by decide +kernel), _, _, rfl⟩
theorem v_8_153 : am_lV 8 153 m_X7_letIn 1 := ⟨lm_X7_letIn, am_mem 533 (by decide +kernel) (by decide +kernel), am_mem 534 (by decide +kernel) (by decide +kernel), am_mem 535 (by decide +kernel) (by decide +kernel), _, _, rfl⟩
theorem v_8_162 : am_lV 8 162 m_X8_drawRound 2 := ⟨lm_X8_drawRound, am_mem 549 (by decide +kernel) (by decide +kernel), am_mem 551 (by decide +kernel) (by decide +kernel), am_mem 4 (by decide +kernel) (by decide +kernel), _, _, rfl⟩
theorem v_8_165 : am_lV 8 165 m_X7_cellOf 3 := ⟨lm_X7_cellOf, am_mem 647 (by decide +kernel) (by decide +kernel), am_mem 648 (by decide +kernel) (by decide +kernel), am_mem 649 (by decide +kernel) (by decide +kernel), _, _, rfl⟩
theorem v_8_174 : am_lV 8 174 m_X7_roundOf 2 := ⟨lm_X7_roundOf, am_mem 660 (by decide +kernel) (by decide +kernel), am_mem 652 (by decide +kernel) (by decide +kernel), am_mem 653 (by decide +kernel) (by decide +kernel), _, _, rfl⟩
theorem s_8_186 : am_lS 8 186 m_X0_brokenIn 1 := ⟨lm_X0_brokenIn, am_mem 661 (by decide +kernel) (by decide +kernel), am_mem 662 (by decide +kernel) (by decide +kernel)⟩
theorem v_8_189 : am_lV 8 189 m_X7_takeOver 1 := ⟨lm_X7_takeOver, am_mem 668 (by decide +kernel) (by decide +kernel), am_mem 669 (by decide +kernel) (by decide +kernel), am_mem 670 (by decide +kernel) (by decide +kernel), _, _, rfl⟩
theorem v_8_193 : am_lV 8 193 m_X7_isLike 1 := ⟨lm_X7_isLike, am_mem 677 (by decide +kernel) (by decide +kernel), am_mem 678 (by decide +kernel) (by decide +kernel), am_mem 679 (by decide +kernel) (by decide +kernel), _, _, rfl⟩
theorem v_8_200 : am_lV 8 200 m_X7_latestDay 0 := ⟨lm_X7_latestDay, am_mem 553 (by decide +kernel) (by decide +kernel), am_mem 554 (by decide +kernel) (by decide +kernel), am_mem 555 (by decide +kernel) (by decide +kernel), _, _, rfl⟩
theorem v_8_203 : am_lV 8 203 m_X0_gather 1 := ⟨lm_X0_gather, am_mem 557 (by decide +kernel) (by decide +kernel), am_mem 558 (by decide +kernel) (by decide +kernel), am_mem 559 (by decide +kernel) (by decide +kernel), _, _, rfl⟩
theorem v_8_207 : am_lV 8 207 m_X0_askWorths 2 := ⟨lm_X0_askWorths, am_mem 561 (by decide +kernel) (by decide +kernel), am_mem 562 (by decide +kernel) (by decide +kernel), am_mem 563 (by decide +kernel) (by decide +kernel), _, _, rfl⟩
theorem v_8_211 : am_lV 8 211 m_X6_read 3 := ⟨lm_X6_read, am_mem 566 (by decide +kernel) (by decide +kernel), am_mem 567 (by decide +kernel) (by decide +kernel), am_mem 568 (by decide +kernel) (by decide +kernel), _, _, rfl⟩
theorem v_8_215 : am_lV 8 215 m_X6_score 2 := ⟨lm_X6_score, am_mem 575 (by decide +kernel) (by decide +kernel), am_mem 576 (by decide +kernel) (by decide +kernel), am_mem 577 (by decide +kernel) (by decide +kernel), _, _, rfl⟩
theorem v_8_219 : am_lV 8 219 m_X0_recall 1 := ⟨lm_X0_recall, am_mem 585 (by decide +kernel) (by decide +kernel), am_mem 586 (by decide +kernel) (by decide +kernel), am_mem 587 (by decide +kernel) (by decide +kernel), _, _, rfl⟩
theorem v_8_225 : am_lV 8 225 m_X0_priceAll 1 := ⟨lm_X0_priceAll, am_mem 602 (by decide +kernel) (by decide +kernel), am_mem 603 (by decide +kernel) (by decide +kernel), am_mem 604 (by decide +kernel) (by decide +kernel), _, _, rfl⟩
theorem v_8_229 : am_lV 8 229 m_X0_findWay 0 := ⟨lm_X0_findWay, am_mem 624 (by decide +kernel) (by decide +kernel), am_mem 625 (by decide +kernel) (by decide +kernel), am_mem 626 (by decide +kernel) (by decide +kernel), _, _, rfl⟩
theorem v_8_232 : am_lV 8 232 m_X0_writeRound 2 := ⟨lm_X0_writeRound, am_mem 639 (by decide +kernel) (by decide +kernel), am_mem 640 (by decide +kernel) (by decide +kernel), am_mem 641 (by decide +kernel) (by decide +kernel), _, _, rfl⟩
theorem v_8_236 : am_lV 8 236 m_X7_addEntry 4 := ⟨lm_X7_addEntry, am_mem 696 (by decide +kernel) (by decide +kernel), am_mem 697 (by decide +kernel) (by decide +kernel), am_mem 698 (by decide +kernel) (by decide +kernel), _, _, rfl⟩
theorem v_8_253 : am_lV 8 253 m_X8_refuseAsking 4 := ⟨lm_X8_refuseAsking, am_mem 713 (by decide +kernel) (by decide +kernel), am_mem 715 (by decide +kernel) (by decide +kernel), am_mem 15 (by decide +kernel) (by decide +kernel), _, _, rfl⟩
theorem v_8_256 : am_lV 8 256 m_X8_makeTable 3 := ⟨lm_X8_makeTable, am_mem 721 (by decide +kernel) (by decide +kernel), am_mem 723 (by decide +kernel) (by decide +kernel), am_mem 16 (by decide +kernel) (by decide +kernel), _, _, rfl⟩
theorem v_8_260 : am_lV 8 260 m_X6_amountOf 2 := ⟨lm_X6_amountOf, am_mem 744 (by decide +kernel) (by decide +kernel), am_mem 745 (by decide +kernel) (by decide +kernel), am_mem 746 (by decide +kernel) (by decide +kernel), _, _, rfl⟩
theorem v_8_263 : am_lV 8 263 m_X6_aheadOf 2 := ⟨lm_X6_aheadOf, am_mem 752 (by decide +kernel) (by decide +kernel), am_mem 753 (by decide +kernel) (by decide +kernel), am_mem 754 (by decide +kernel) (by decide +kernel), _, _, rfl⟩
theorem v_8_266 : am_lV 8 266 m_X6_whoIs 2 := ⟨lm_X6_whoIs, am_mem 765 (by decide +kernel) (by decide +kernel), am_mem 766 (by decide +kernel) (by decide +kernel), am_mem 767 (by decide +kernel) (by decide +kernel), _, _, rfl⟩
theorem v_8_269 : am_lV 8 269 m_X6_parting 3 := ⟨lm_X6_parting, am_mem 778 (by decide +kernel) (by decide +kernel), am_mem 757 (by decide +kernel) (by decide +kernel), am_mem 758 (by decide +kernel) (by decide +kernel), _, _, rfl⟩
theorem v_8_273 : am_lV 8 273 m_X6_tally 1 := ⟨lm_X6_tally, am_mem 725 (by decide +kernel) (by decide +kernel), am_mem 726 (by decide +kernel) (by decide +kernel), am_mem 727 (by decide +kernel) (by decide +kernel), _, _, rfl⟩
theorem v_8_276 : am_lV 8 276 m_X3_begin 3 := ⟨lm_X3_begin, am_mem 783 (by decide +kernel) (by decide +kernel), am_mem 784 (by decide +kernel) (by decide +kernel), am_mem 785 (by decide +kernel) (by decide +kernel), _, _, rfl⟩
theorem v_8_283 : am_lV 8 283 m_X3_goThrough 5 := ⟨lm_X3_goThrough, am_mem 789 (by decide +kernel) (by decide +kernel), am_mem 790 (by decide +kernel) (by decide +kernel), am_mem 791 (by decide +kernel) (by decide +kernel), _, _, rfl⟩
theorem v_8_290 : am_lV 8 290 m_X3_total 1 := ⟨lm_X3_total, am_mem 815 (by decide +kernel) (by decide +kernel), am_mem 816 (by decide +kernel) (by decide +kernel), am_mem 817 (by decide +kernel) (by decide +kernel), _, _, rfl⟩
theorem v_8_293 : am_lV 8 293 m_X6_listOpen 1 := ⟨lm_X6_listOpen, am_mem 823 (by decide +kernel) (by decide +kernel), am_mem 824 (by decide +kernel) (by decide +kernel), am_mem 825 (by decide +kernel) (by decide +kernel), _, _, rfl⟩
theorem v_8_296 : am_lV 8 296 m_X6_suppose 2 := ⟨lm_X6_suppose, am_mem 827 (by decide +kernel) (by decide +kernel), am_mem 828 (by decide +kernel) (by decide +kernel), am_mem 829 (by decide +kernel) (by decide +kernel), _, _, rfl⟩
theorem v_8_299 : am_lV 8 299 m_X6_isFirst 3 := ⟨lm_X6_isFirst, am_mem 831 (by decide +kernel) (by decide +kernel), am_mem 832 (by decide +kernel) (by decide +kernel), am_mem 833 (by decide +kernel) (by decide +kernel), _, _, rfl⟩
theorem v_8_303 : am_lV 8 303 m_X8_keepFound 1 := ⟨lm_X8_keepFound, am_mem 842 (by decide +kernel) (by decide +kernel), am_mem 844 (by decide +kernel) (by decide +kernel), am_mem 21 (by decide +kernel) (by decide +kernel), _, _, rfl⟩
theorem s_8_310 : am_lS 8 310 m_X8_isPlan 1 := ⟨lm_X8_isPlan, am_mem 854 (by decide +kernel) (by decide +kernel), am_mem 855 (by decide +kernel) (by decide +kernel)⟩
theorem v_8_313 : am_lV 8 313 m_X2_openRow 1 := ⟨lm_X2_openRow, am_mem 857 (by decide +kernel) (by decide +kernel), am_mem 858 (by decide +kernel) (by decide +kernel), am_mem 859 (by decide +kernel) (by decide +kernel), _, _, rfl⟩
theorem v_8_322 : am_lV 8 322 m_X8_save 0 := ⟨lm_X8_save, am_mem 873 (by decide +kernel) (by decide +kernel), am_mem 875 (by decide +kernel) (by decide +kernel), am_mem 22 (by decide +kernel) (by decide +kernel), _, _, rfl⟩
theorem v_8_325 : am_lV 8 325 m_X4_begin 0 := ⟨lm_X4_begin, am_mem 882 (by decide +kernel) (by decide +kernel), am_mem 883 (by decide +kernel) (by decide +kernel), am_mem 884 (by decide +kernel) (by decide +kernel), _, _, rfl⟩
theorem v_8_327 : am_lV 8 327 m_X8_runSteps 1 := ⟨lm_X8_runSteps, am_mem 886 (by decide +kernel) (by decide +kernel), am_mem 888 (by decide +kernel) (by decide +kernel), am_mem 23 (by decide +kernel) (by decide +kernel), _, _, rfl⟩
theorem v_8_330 : am_lV 8 330 m_X8_restore 0 := ⟨lm_X8_restore, am_mem 915 (by decide +kernel) (by decide +kernel), am_mem 917 (by decide +kernel) (by decide +kernel), am_mem 26 (by decide +kernel) (by decide +kernel), _, _, rfl⟩
theorem v_8_345 : am_lV 8 345 m_X5_takeOver 1 := ⟨lm_X5_takeOver, am_mem 877 (by decide +kernel) (by decide +kernel), am_mem 878 (by decide +kernel) (by decide +kernel), am_mem 879 (by decide +kernel) (by decide +kernel), _, _, rfl⟩
theorem v_8_351 : am_lV 8 351 m_X2_rowOf 2 := ⟨lm_X2_rowOf, am_mem 890 (by decide +kernel) (by decide +kernel), am_mem 862 (by decide +kernel) (by decide +kernel), am_mem 863 (by decide +kernel) (by decide +kernel), _, _, rfl⟩
theorem v_8_354 : am_lV 8 354 m_X8_perform 1 := ⟨lm_X8_perform, am_mem 891 (by decide +kernel) (by decide +kernel), am_mem 893 (by decide +kernel) (by decide +kernel), am_mem 24 (by decide +kernel) (by decide +kernel), _, _, rfl⟩
theorem s_8_357 : am_lS 8 357 m_X8_fails 1 := ⟨lm_X8_fails, am_mem 908 (by decide +kernel) (by decide +kernel), am_mem 909 (by decide +kernel) (by decide +kernel)⟩
theorem v_8_360 : am_lV 8 360 m_X4_tellFailure 3 := ⟨lm_X4_tellFailure, am_mem 911 (by decide +kernel) (by decide +kernel), am_mem 912 (by decide +kernel) (by decide +kernel), am_mem 913 (by decide +kernel) (by decide +kernel), _, _, rfl⟩
theorem v_8_363 : am_lV 8 363 m_X8_player 2 := ⟨lm_X8_player, am_mem 895 (by decide +kernel) (by decide +kernel), am_mem 422 (by decide +kernel) (by decide +kernel), am_mem 423 (by decide +kernel) (by decide +kernel), _, _, rfl⟩
theorem v_8_366 : am_lV 8 366 m_X8_places 2 := ⟨lm_X8_places, am_mem 896 (by decide +kernel) (by decide +kernel), am_mem 430 (by decide +kernel) (by decide +kernel), am_mem 431 (by decide +kernel) (by decide +kernel), _, _, rfl⟩
theorem v_8_369 : am_lV 8 369 m_X8_seat 3 := ⟨lm_X8_seat, am_mem 897 (by decide +kernel) (by decide +kernel), am_mem 450 (by decide +kernel) (by decide +kernel), am_mem 451 (by decide +kernel) (by decide +kernel), _, _, rfl⟩
theorem v_8_373 : am_lV 8 373 m_X8_tournament 0 := ⟨lm_X8_tournament, am_mem 898 (by decide +kernel) (by decide +kernel), am_mem 503 (by decide +kernel) (by decide +kernel), am_mem 504 (by decide +kernel) (by decide +kernel), _, _, rfl⟩
theorem v_8_376 : am_lV 8 376 m_X8_enter 2 := ⟨lm_X8_enter, am_mem 899 (by decide +kernel) (by decide +kernel), am_mem 518 (by decide +kernel) (by decide +kernel), am_mem 519 (by decide +kernel) (by decide +kernel), _, _, rfl⟩
theorem v_8_379 : am_lV 8 379 m_X8_withdraw 2 := ⟨lm_X8_withdraw, am_mem 900 (by decide +kernel) (by decide +kernel), am_mem 538 (by decide +kernel) (by decide +kernel), am_mem 539 (by decide +kernel) (by decide +kernel), _, _, rfl⟩
theorem v_8_382 : am_lV 8 382 m_X8_tell 6 := ⟨lm_X8_tell, am_mem 901 (by decide +kernel) (by decide +kernel), am_mem 693 (by decide +kernel) (by decide +kernel), am_mem 694 (by decide +kernel) (by decide +kernel), _, _, rfl⟩
theorem v_8_386 : am_lV 8 386 m_X8_takeBack 3 := ⟨lm_X8_takeBack, am_mem 902 (by decide +kernel) (by decide +kernel), am_mem 701 (by decide +kernel) (by decide +kernel), am_mem 702 (by decide +kernel) (by decide +kernel), _, _, rfl⟩
theorem v_8_389 : am_lV 8 389 m_X8_need 4 := ⟨lm_X8_need, am_mem 903 (by decide +kernel) (by decide +kernel), am_mem 905 (by decide +kernel) (by decide +kernel), am_mem 25 (by decide +kernel) (by decide +kernel), _, _, rfl⟩
theorem v_8_392 : am_lV 8 392 m_X8_points 4 := ⟨lm_X8_points, am_mem 907 (by decide +kernel) (by decide +kernel), am_mem 710 (by decide +kernel) (by decide +kernel), am_mem 711 (by decide +kernel) (by decide +kernel), _, _, rfl⟩
theorem v_8_401 : am_lV 8 401 m_X8_tellOf 2 := ⟨lm_X8_tellOf, am_mem 931 (by decide +kernel) (by decide +kernel), am_mem 933 (by decide +kernel) (by decide +kernel), am_mem 27 (by decide +kernel) (by decide +kernel), _, _, rfl⟩
theorem j_9_1 : Cond.methodLink (am_R 9) 1 objectInit ∈ am_tb := am_mem 940 (by decide +kernel) (by decide +kernel)
theorem s_9_101 : am_lS 9 101 m_X9_in 3 := ⟨lm_X9_in, am_mem 1075 (by decide +kernel) (by decide +kernel), am_mem 1076 (by decide +kernel) (by decide +kernel)⟩
theorem v_9_108 : am_lV 9 108 m_X9_isPlayer 1 := ⟨lm_X9_isPlayer, am_mem 1082 (by decide +kernel) (by decide +kernel), am_mem 1084 (by decide +kernel) (by decide +kernel), am_mem 28 (by decide +kernel) (by decide +kernel), _, _, rfl⟩
theorem v_9_112 : am_lV 9 112 m_X9_meets 1 := ⟨lm_X9_meets, am_mem 1086 (by decide +kernel) (by decide +kernel), am_mem 1088 (by decide +kernel) (by decide +kernel), am_mem 29 (by decide +kernel) (by decide +kernel), _, _, rfl⟩
theorem v_9_116 : am_lV 9 116 m_X9_began 1 := ⟨lm_X9_began, am_mem 1110 (by decide +kernel) (by decide +kernel), am_mem 1112 (by decide +kernel) (by decide +kernel), am_mem 32 (by decide +kernel) (by decide +kernel), _, _, rfl⟩
theorem v_9_120 : am_lV 9 120 m_X9_soloWorth 1 := ⟨lm_X9_soloWorth, am_mem 1106 (by decide +kernel) (by decide +kernel), am_mem 1108 (by decide +kernel) (by decide +kernel), am_mem 31 (by decide +kernel) (by decide +kernel), _, _, rfl⟩
theorem v_9_123 : am_lV 9 123 m_X9_worthOf 1 := ⟨lm_X9_worthOf, am_mem 1102 (by decide +kernel) (by decide +kernel), am_mem 1104 (by decide +kernel) (by decide +kernel), am_mem 30 (by decide +kernel) (by decide +kernel), _, _, rfl⟩
theorem v_9_126 : am_lV 9 126 m_X9_stepFor 1 := ⟨lm_X9_stepFor, am_mem 1118 (by decide +kernel) (by decide +kernel), am_mem 1120 (by decide +kernel) (by decide +kernel), am_mem 33 (by decide +kernel) (by decide +kernel), _, _, rfl⟩
theorem v_9_129 : am_lV 9 129 m_X9_lay 3 := ⟨lm_X9_lay, am_mem 1134 (by decide +kernel) (by decide +kernel), am_mem 1136 (by decide +kernel) (by decide +kernel), am_mem 35 (by decide +kernel) (by decide +kernel), _, _, rfl⟩
theorem v_9_136 : am_lV 9 136 m_X9_another 0 := ⟨lm_X9_another, am_mem 1130 (by decide +kernel) (by decide +kernel), am_mem 1132 (by decide +kernel) (by decide +kernel), am_mem 34 (by decide +kernel) (by decide +kernel), _, _, rfl⟩
theorem v_9_140 : am_lV 9 140 m_X9_cell 2 := ⟨lm_X9_cell, am_mem 1150 (by decide +kernel) (by decide +kernel), am_mem 1152 (by decide +kernel) (by decide +kernel), am_mem 38 (by decide +kernel) (by decide +kernel), _, _, rfl⟩
theorem v_9_144 : am_lV 9 144 m_X9_isTournament 1 := ⟨lm_X9_isTournament, am_mem 1142 (by decide +kernel) (by decide +kernel), am_mem 1144 (by decide +kernel) (by decide +kernel), am_mem 36 (by decide +kernel) (by decide +kernel), _, _, rfl⟩
theorem v_9_147 : am_lV 9 147 m_X9_placeOf 2 := ⟨lm_X9_placeOf, am_mem 1146 (by decide +kernel) (by decide +kernel), am_mem 1148 (by decide +kernel) (by decide +kernel), am_mem 37 (by decide +kernel) (by decide +kernel), _, _, rfl⟩
theorem v_9_154 : am_lV 9 154 m_X9_entryOf 3 := ⟨lm_X9_entryOf, am_mem 1194 (by decide +kernel) (by decide +kernel), am_mem 1196 (by decide +kernel) (by decide +kernel), am_mem 46 (by decide +kernel) (by decide +kernel), _, _, rfl⟩
theorem v_9_158 : am_lV 9 158 m_X9_pairOf 3 := ⟨lm_X9_pairOf, am_mem 1182 (by decide +kernel) (by decide +kernel), am_mem 1184 (by decide +kernel) (by decide +kernel), am_mem 43 (by decide +kernel) (by decide +kernel), _, _, rfl⟩
theorem v_9_161 : am_lV 9 161 m_X9_isWithNobody 2 := ⟨lm_X9_isWithNobody, am_mem 1186 (by decide +kernel) (by decide +kernel), am_mem 1188 (by decide +kernel) (by decide +kernel), am_mem 44 (by decide +kernel) (by decide +kernel), _, _, rfl⟩
theorem v_9_165 : am_lV 9 165 m_X9_outcomeOf 4 := ⟨lm_X9_outcomeOf, am_mem 1190 (by decide +kernel) (by decide +kernel), am_mem 1192 (by decide +kernel) (by decide +kernel), am_mem 45 (by decide +kernel) (by decide +kernel), _, _, rfl⟩
theorem s_9_169 : am_lS 9 169 m_X9_halves 2 := ⟨lm_X9_halves, am_mem 1198 (by decide +kernel) (by decide +kernel), am_mem 1199 (by decide +kernel) (by decide +kernel)⟩
theorem v_9_173 : am_lV 9 173 m_X9_pointsOf 4 := ⟨lm_X9_pointsOf, am_mem 1178 (by decide +kernel) (by decide +kernel), am_mem 1180 (by decide +kernel) (by decide +kernel), am_mem 42 (by decide +kernel) (by decide +kernel), _, _, rfl⟩
theorem v_9_176 : am_lV 9 176 m_X9_otherOf 3 := ⟨lm_X9_otherOf, am_mem 1213 (by decide +kernel) (by decide +kernel), am_mem 1215 (by decide +kernel) (by decide +kernel), am_mem 50 (by decide +kernel) (by decide +kernel), _, _, rfl⟩
theorem v_9_179 : am_lV 9 179 m_X9_sumOf 5 := ⟨lm_X9_sumOf, am_mem 1271 (by decide +kernel) (by decide +kernel), am_mem 1273 (by decide +kernel) (by decide +kernel), am_mem 57 (by decide +kernel) (by decide +kernel), _, _, rfl⟩
theorem v_9_192 : am_lV 9 192 m_X9_colours 2 := ⟨lm_X9_colours, am_mem 1222 (by decide +kernel) (by decide +kernel), am_mem 1224 (by decide +kernel) (by decide +kernel), am_mem 52 (by decide +kernel) (by decide +kernel), _, _, rfl⟩
theorem v_9_200 : am_lV 9 200 m_X9_wasWith 3 := ⟨lm_X9_wasWith, am_mem 1209 (by decide +kernel) (by decide +kernel), am_mem 1211 (by decide +kernel) (by decide +kernel), am_mem 49 (by decide +kernel) (by decide +kernel), _, _, rfl⟩
theorem v_9_203 : am_lV 9 203 m_X9_colourCost 3 := ⟨lm_X9_colourCost, am_mem 1218 (by decide +kernel) (by decide +kernel), am_mem 1220 (by decide +kernel) (by decide +kernel), am_mem 51 (by decide +kernel) (by decide +kernel), _, _, rfl⟩
theorem v_9_207 : am_lV 9 207 m_X9_costOf 4 := ⟨lm_X9_costOf, am_mem 1205 (by decide +kernel) (by decide +kernel), am_mem 1207 (by decide +kernel) (by decide +kernel), am_mem 48 (by decide +kernel) (by decide +kernel), _, _, rfl⟩
theorem v_9_211 : am_lV 9 211 m_X9_costAlone 2 := ⟨lm_X9_costAlone, am_mem 1226 (by decide +kernel) (by decide +kernel), am_mem 1228 (by decide +kernel) (by decide +kernel), am_mem 53 (by decide +kernel) (by decide +kernel), _, _, rfl⟩
theorem v_9_218 : am_lV 9 218 m_X9_gather 2 := ⟨lm_X9_gather, am_mem 1170 (by decide +kernel) (by decide +kernel), am_mem 1172 (by decide +kernel) (by decide +kernel), am_mem 40 (by decide +kernel) (by decide +kernel), _, _, rfl⟩
theorem v_9_222 : am_lV 9 222 m_X9_askWorths 0 := ⟨lm_X9_askWorths, am_mem 1174 (by decide +kernel) (by decide +kernel), am_mem 1176 (by decide +kernel) (by decide +kernel), am_mem 41 (by decide +kernel) (by decide +kernel), _, _, rfl⟩
theorem v_9_225 : am_lV 9 225 m_X9_search 1 := ⟨lm_X9_search, am_mem 1201 (by decide +kernel) (by decide +kernel), am_mem 1203 (by decide +kernel) (by decide +kernel), am_mem 47 (by decide +kernel) (by decide +kernel), _, _, rfl⟩
theorem v_9_228 : am_lV 9 228 m_X9_pairUp 2 := ⟨lm_X9_pairUp, am_mem 1231 (by decide +kernel) (by decide +kernel), am_mem 1233 (by decide +kernel) (by decide +kernel), am_mem 54 (by decide +kernel) (by decide +kernel), _, _, rfl⟩
theorem v_9_231 : am_lV 9 231 m_X9_drawOf 2 := ⟨lm_X9_drawOf, am_mem 1166 (by decide +kernel) (by decide +kernel), am_mem 1168 (by decide +kernel) (by decide +kernel), am_mem 39 (by decide +kernel) (by decide +kernel), _, _, rfl⟩
theorem v_9_234 : am_lV 9 234 m_X9_against 3 := ⟨lm_X9_against, am_mem 1239 (by decide +kernel) (by decide +kernel), am_mem 1241 (by decide +kernel) (by decide +kernel), am_mem 55 (by decide +kernel) (by decide +kernel), _, _, rfl⟩
theorem v_9_237 : am_lV 9 237 m_X9_refused 4 := ⟨lm_X9_refused, am_mem 1263 (by decide +kernel) (by decide +kernel), am_mem 1265 (by decide +kernel) (by decide +kernel), am_mem 56 (by decide +kernel) (by decide +kernel), _, _, rfl⟩
theorem v_9_240 : am_lV 9 240 m_X9_parting 5 := ⟨lm_X9_parting, am_mem 1283 (by decide +kernel) (by decide +kernel), am_mem 1285 (by decide +kernel) (by decide +kernel), am_mem 59 (by decide +kernel) (by decide +kernel), _, _, rfl⟩
theorem v_9_243 : am_lV 9 243 m_X9_ahead 4 := ⟨lm_X9_ahead, am_mem 1279 (by decide +kernel) (by decide +kernel), am_mem 1281 (by decide +kernel) (by decide +kernel), am_mem 58 (by decide +kernel) (by decide +kernel), _, _, rfl⟩
theorem s_9_245 : am_lS 9 245 m_J9_floorDiv_7cf53 2 := ⟨lm_J9_floorDiv_7cf53, am_mem 1306 (by decide +kernel) (by decide +kernel), am_mem 805 (by decide +kernel) (by decide +kernel)⟩
theorem s_9_250 : am_lS 9 250 m_X9_rounded 1 := ⟨lm_X9_rounded, am_mem 1303 (by decide +kernel) (by decide +kernel), am_mem 1304 (by decide +kernel) (by decide +kernel)⟩
theorem v_9_253 : am_lV 9 253 m_X9_rate 4 := ⟨lm_X9_rate, am_mem 1299 (by decide +kernel) (by decide +kernel), am_mem 1301 (by decide +kernel) (by decide +kernel), am_mem 60 (by decide +kernel) (by decide +kernel), _, _, rfl⟩
theorem v_9_257 : am_lV 9 257 m_X9_isFirst 4 := ⟨lm_X9_isFirst, am_mem 1315 (by decide +kernel) (by decide +kernel), am_mem 1317 (by decide +kernel) (by decide +kernel), am_mem 61 (by decide +kernel) (by decide +kernel), _, _, rfl⟩
theorem v_9_264 : am_lV 9 264 m_X9_points 4 := ⟨lm_X9_points, am_mem 1363 (by decide +kernel) (by decide +kernel), am_mem 1260 (by decide +kernel) (by decide +kernel), am_mem 1261 (by decide +kernel) (by decide +kernel), _, _, rfl⟩
theorem v_9_266 : am_lV 9 266 m_X9_player 2 := ⟨lm_X9_player, am_mem 1351 (by decide +kernel) (by decide +kernel), am_mem 1072 (by decide +kernel) (by decide +kernel), am_mem 1073 (by decide +kernel) (by decide +kernel), _, _, rfl⟩
theorem v_9_269 : am_lV 9 269 m_X9_places 2 := ⟨lm_X9_places, am_mem 1352 (by decide +kernel) (by decide +kernel), am_mem 1079 (by decide +kernel) (by decide +kernel), am_mem 1080 (by decide +kernel) (by decide +kernel), _, _, rfl⟩
theorem v_9_271 : am_lV 9 271 m_X9_seat 3 := ⟨lm_X9_seat, am_mem 1353 (by decide +kernel) (by decide +kernel), am_mem 1091 (by decide +kernel) (by decide +kernel), am_mem 1092 (by decide +kernel) (by decide +kernel), _, _, rfl⟩
theorem v_9_274 : am_lV 9 274 m_X9_tournament 0 := ⟨lm_X9_tournament, am_mem 1354 (by decide +kernel) (by decide +kernel), am_mem 1127 (by decide +kernel) (by decide +kernel), am_mem 1128 (by decide +kernel) (by decide +kernel), _, _, rfl⟩
theorem v_9_277 : am_lV 9 277 m_X9_enter 2 := ⟨lm_X9_enter, am_mem 1355 (by decide +kernel) (by decide +kernel), am_mem 1139 (by decide +kernel) (by decide +kernel), am_mem 1140 (by decide +kernel) (by decide +kernel), _, _, rfl⟩
theorem v_9_280 : am_lV 9 280 m_X9_withdraw 2 := ⟨lm_X9_withdraw, am_mem 1356 (by decide +kernel) (by decide +kernel), am_mem 1155 (by decide +kernel) (by decide +kernel), am_mem 1156 (by decide +kernel) (by decide +kernel), _, _, rfl⟩
theorem v_9_283 : am_lV 9 283 m_X9_tell 6 := ⟨lm_X9_tell, am_mem 1357 (by decide +kernel) (by decide +kernel), am_mem 1248 (by decide +kernel) (by decide +kernel), am_mem 1249 (by decide +kernel) (by decide +kernel), _, _, rfl⟩
theorem v_9_287 : am_lV 9 287 m_X9_takeBack 3 := ⟨lm_X9_takeBack, am_mem 1358 (by decide +kernel) (by decide +kernel), am_mem 1252 (by decide +kernel) (by decide +kernel), am_mem 1253 (by decide +kernel) (by decide +kernel), _, _, rfl⟩
theorem v_9_290 : am_lV 9 290 m_X9_need 4 := ⟨lm_X9_need, am_mem 1359 (by decide +kernel) (by decide +kernel), am_mem 1361 (by decide +kernel) (by decide +kernel), am_mem 66 (by decide +kernel) (by decide +kernel), _, _, rfl⟩
theorem v_9_296 : am_lV 9 296 m_X9_fails 3 := ⟨lm_X9_fails, am_mem 1339 (by decide +kernel) (by decide +kernel), am_mem 1341 (by decide +kernel) (by decide +kernel), am_mem 63 (by decide +kernel) (by decide +kernel), _, _, rfl⟩
theorem v_9_299 : am_lV 9 299 m_X9_goes 1 := ⟨lm_X9_goes, am_mem 1343 (by decide +kernel) (by decide +kernel), am_mem 1345 (by decide +kernel) (by decide +kernel), am_mem 64 (by decide +kernel) (by decide +kernel), _, _, rfl⟩
theorem v_9_305 : am_lV 9 305 m_X9_answer 1 := ⟨lm_X9_answer, am_mem 1347 (by decide +kernel) (by decide +kernel), am_mem 1349 (by decide +kernel) (by decide +kernel), am_mem 65 (by decide +kernel) (by decide +kernel), _, _, rfl⟩
theorem v_9_314 : am_lV 9 314 m_X9_keep 0 := ⟨lm_X9_keep, am_mem 1335 (by decide +kernel) (by decide +kernel), am_mem 1337 (by decide +kernel) (by decide +kernel), am_mem 62 (by decide +kernel) (by decide +kernel), _, _, rfl⟩
theorem v_9_317 : am_lV 9 317 m_X9_back 0 := ⟨lm_X9_back, am_mem 1364 (by decide +kernel) (by decide +kernel), am_mem 1366 (by decide +kernel) (by decide +kernel), am_mem 67 (by decide +kernel) (by decide +kernel), _, _, rfl⟩
theorem i_10_9 : am_lI 10 9 m_X8_init 0 := ⟨lm_X8_init, am_mem 84 (by decide +kernel) (by decide +kernel), am_mem 85 (by decide +kernel) (by decide +kernel), rfl⟩
theorem i_10_12 : am_lI 10 12 m_X9_init 0 := ⟨lm_X9_init, am_mem 937 (by decide +kernel) (by decide +kernel), am_mem 938 (by decide +kernel) (by decide +kernel), rfl⟩
theorem v_10_13 : am_lV 10 13 m_X8_player 2 := ⟨lm_X8_player, am_mem 421 (by decide +kernel) (by decide +kernel), am_mem 422 (by decide +kernel) (by decide +kernel), am_mem 423 (by decide +kernel) (by decide +kernel), _, _, rfl⟩
theorem v_10_17 : am_lV 10 17 m_X9_player 2 := ⟨lm_X9_player, am_mem 1071 (by decide +kernel) (by decide +kernel), am_mem 1072 (by decide +kernel) (by decide +kernel), am_mem 1073 (by decide +kernel) (by decide +kernel), _, _, rfl⟩
theorem v_10_18 : am_lV 10 18 m_X8_places 2 := ⟨lm_X8_places, am_mem 429 (by decide +kernel) (by decide +kernel), am_mem 430 (by decide +kernel) (by decide +kernel), am_mem 431 (by decide +kernel) (by decide +kernel), _, _, rfl⟩
theorem v_10_21 : am_lV 10 21 m_X9_places 2 := ⟨lm_X9_places, am_mem 1078 (by decide +kernel) (by decide +kernel), am_mem 1079 (by decide +kernel) (by decide +kernel), am_mem 1080 (by decide +kernel) (by decide +kernel), _, _, rfl⟩
theorem v_10_22 : am_lV 10 22 m_X8_seat 3 := ⟨lm_X8_seat, am_mem 449 (by decide +kernel) (by decide +kernel), am_mem 450 (by decide +kernel) (by decide +kernel), am_mem 451 (by decide +kernel) (by decide +kernel), _, _, rfl⟩
theorem v_10_26 : am_lV 10 26 m_X9_seat 3 := ⟨lm_X9_seat, am_mem 1090 (by decide +kernel) (by decide +kernel), am_mem 1091 (by decide +kernel) (by decide +kernel), am_mem 1092 (by decide +kernel) (by decide +kernel), _, _, rfl⟩
theorem v_10_27 : am_lV 10 27 m_X8_held 2 := ⟨lm_X8_held, am_mem 458 (by decide +kernel) (by decide +kernel), am_mem 459 (by decide +kernel) (by decide +kernel), am_mem 460 (by decide +kernel) (by decide +kernel), _, _, rfl⟩
theorem v_10_30 : am_lV 10 30 m_X9_held 2 := ⟨lm_X9_held, am_mem 1094 (by decide +kernel) (by decide +kernel), am_mem 1095 (by decide +kernel) (by decide +kernel), am_mem 1096 (by decide +kernel) (by decide +kernel), _, _, rfl⟩
theorem v_10_31 : am_lV 10 31 m_X8_worth 1 := ⟨lm_X8_worth, am_mem 462 (by decide +kernel) (by decide +kernel), am_mem 463 (by decide +kernel) (by decide +kernel), am_mem 464 (by decide +kernel) (by decide +kernel), _, _, rfl⟩
theorem v_10_35 : am_lV 10 35 m_X9_worth 1 := ⟨lm_X9_worth, am_mem 1098 (by decide +kernel) (by decide +kernel), am_mem 1099 (by decide +kernel) (by decide +kernel), am_mem 1100 (by decide +kernel) (by decide +kernel), _, _, rfl⟩
theorem v_10_36 : am_lV 10 36 m_X8_stepOf 1 := ⟨lm_X8_stepOf, am_mem 490 (by decide +kernel) (by decide +kernel), am_mem 491 (by decide +kernel) (by decide +kernel), am_mem 492 (by decide +kernel) (by decide +kernel), _, _, rfl⟩
theorem v_10_39 : am_lV 10 39 m_X9_stepOf 1 := ⟨lm_X9_stepOf, am_mem 1114 (by decide +kernel) (by decide +kernel), am_mem 1115 (by decide +kernel) (by decide +kernel), am_mem 1116 (by decide +kernel) (by decide +kernel), _, _, rfl⟩
theorem v_10_40 : am_lV 10 40 m_X8_trace 1 := ⟨lm_X8_trace, am_mem 498 (by decide +kernel) (by decide +kernel), am_mem 499 (by decide +kernel) (by decide +kernel), am_mem 500 (by decide +kernel) (by decide +kernel), _, _, rfl⟩
theorem v_10_43 : am_lV 10 43 m_X9_trace 1 := ⟨lm_X9_trace, am_mem 1122 (by decide +kernel) (by decide +kernel), am_mem 1123 (by decide +kernel) (by decide +kernel), am_mem 1124 (by decide +kernel) (by decide +kernel), _, _, rfl⟩
theorem v_10_44 : am_lV 10 44 m_X8_tournament 0 := ⟨lm_X8_tournament, am_mem 502 (by decide +kernel) (by decide +kernel), am_mem 503 (by decide +kernel) (by decide +kernel), am_mem 504 (by decide +kernel) (by decide +kernel), _, _, rfl⟩
theorem v_10_48 : am_lV 10 48 m_X9_tournament 0 := ⟨lm_X9_tournament, am_mem 1126 (by decide +kernel) (by decide +kernel), am_mem 1127 (by decide +kernel) (by decide +kernel), am_mem 1128 (by decide +kernel) (by decide +kernel), _, _, rfl⟩
theorem v_10_49 : am_lV 10 49 m_X8_enter 2 := ⟨lm_X8_enter, am_mem 517 (by decide +kernel) (by decide +kernel), am_mem 518 (by decide +kernel) (by decide +kernel), am_mem 519 (by decide +kernel) (by decide +kernel), _, _, rfl⟩
theorem v_10_52 : am_lV 10 52 m_X9_enter 2 := ⟨lm_X9_enter, am_mem 1138 (by decide +kernel) (by decide +kernel), am_mem 1139 (by decide +kernel) (by decide +kernel), am_mem 1140 (by decide +kernel) (by decide +kernel), _, _, rfl⟩
theorem v_10_53 : am_lV 10 53 m_X8_withdraw 2 := ⟨lm_X8_withdraw, am_mem 537 (by decide +kernel) (by decide +kernel), am_mem 538 (by decide +kernel) (by decide +kernel), am_mem 539 (by decide +kernel) (by decide +kernel), _, _, rfl⟩
theorem v_10_56 : am_lV 10 56 m_X9_withdraw 2 := ⟨lm_X9_withdraw, am_mem 1154 (by decide +kernel) (by decide +kernel), am_mem 1155 (by decide +kernel) (by decide +kernel), am_mem 1156 (by decide +kernel) (by decide +kernel), _, _, rfl⟩
theorem v_10_57 : am_lV 10 57 m_X8_rule 3 := ⟨lm_X8_rule, am_mem 541 (by decide +kernel) (by decide +kernel), am_mem 542 (by decide +kernel) (by decide +kernel), am_mem 543 (by decide +kernel) (by decide +kernel), _, _, rfl⟩
theorem v_10_60 : am_lV 10 60 m_X9_rule 3 := ⟨lm_X9_rule, am_mem 1158 (by decide +kernel) (by decide +kernel), am_mem 1159 (by decide +kernel) (by decide +kernel), am_mem 1160 (by decide +kernel) (by decide +kernel), _, _, rfl⟩
theorem v_10_61 : am_lV 10 61 m_X8_draw 2 := ⟨lm_X8_draw, am_mem 545 (by decide +kernel) (by decide +kernel), am_mem 546 (by decide +kernel) (by decide +kernel), am_mem 547 (by decide +kernel) (by decide +kernel), _, _, rfl⟩
theorem v_10_64 : am_lV 10 64 m_X9_draw 2 := ⟨lm_X9_draw, am_mem 1162 (by decide +kernel) (by decide +kernel), am_mem 1163 (by decide +kernel) (by decide +kernel), am_mem 1164 (by decide +kernel) (by decide +kernel), _, _, rfl⟩
theorem v_10_65 : am_lV 10 65 m_X8_pair 4 := ⟨lm_X8_pair, am_mem 643 (by decide +kernel) (by decide +kernel), am_mem 644 (by decide +kernel) (by decide +kernel), am_mem 645 (by decide +kernel) (by decide +kernel), _, _, rfl⟩
theorem v_10_69 : am_lV 10 69 m_X9_pair 4 := ⟨lm_X9_pair, am_mem 1235 (by decide +kernel) (by decide +kernel), am_mem 1236 (by decide +kernel) (by decide +kernel), am_mem 1237 (by decide +kernel) (by decide +kernel), _, _, rfl⟩
theorem v_10_70 : am_lV 10 70 m_X8_round 3 := ⟨lm_X8_round, am_mem 656 (by decide +kernel) (by decide +kernel), am_mem 657 (by decide +kernel) (by decide +kernel), am_mem 658 (by decide +kernel) (by decide +kernel), _, _, rfl⟩
theorem v_10_73 : am_lV 10 73 m_X9_round 3 := ⟨lm_X9_round, am_mem 1243 (by decide +kernel) (by decide +kernel), am_mem 1244 (by decide +kernel) (by decide +kernel), am_mem 1245 (by decide +kernel) (by decide +kernel), _, _, rfl⟩
theorem v_10_74 : am_lV 10 74 m_X8_tell 6 := ⟨lm_X8_tell, am_mem 692 (by decide +kernel) (by decide +kernel), am_mem 693 (by decide +kernel) (by decide +kernel), am_mem 694 (by decide +kernel) (by decide +kernel), _, _, rfl⟩
theorem v_10_78 : am_lV 10 78 m_X9_tell 6 := ⟨lm_X9_tell, am_mem 1247 (by decide +kernel) (by decide +kernel), am_mem 1248 (by decide +kernel) (by decide +kernel), am_mem 1249 (by decide +kernel) (by decide +kernel), _, _, rfl⟩
theorem v_10_79 : am_lV 10 79 m_X8_takeBack 3 := ⟨lm_X8_takeBack, am_mem 700 (by decide +kernel) (by decide +kernel), am_mem 701 (by decide +kernel) (by decide +kernel), am_mem 702 (by decide +kernel) (by decide +kernel), _, _, rfl⟩
theorem v_10_82 : am_lV 10 82 m_X9_takeBack 3 := ⟨lm_X9_takeBack, am_mem 1251 (by decide +kernel) (by decide +kernel), am_mem 1252 (by decide +kernel) (by decide +kernel), am_mem 1253 (by decide +kernel) (by decide +kernel), _, _, rfl⟩
theorem v_10_83 : am_lV 10 83 m_X8_counts 4 := ⟨lm_X8_counts, am_mem 704 (by decide +kernel) (by decide +kernel), am_mem 705 (by decide +kernel) (by decide +kernel), am_mem 706 (by decide +kernel) (by decide +kernel), _, _, rfl⟩
theorem v_10_86 : am_lV 10 86 m_X9_counts 4 := ⟨lm_X9_counts, am_mem 1255 (by decide +kernel) (by decide +kernel), am_mem 1256 (by decide +kernel) (by decide +kernel), am_mem 1257 (by decide +kernel) (by decide +kernel), _, _, rfl⟩
theorem v_10_87 : am_lV 10 87 m_X8_points 4 := ⟨lm_X8_points, am_mem 709 (by decide +kernel) (by decide +kernel), am_mem 710 (by decide +kernel) (by decide +kernel), am_mem 711 (by decide +kernel) (by decide +kernel), _, _, rfl⟩
theorem v_10_90 : am_lV 10 90 m_X9_points 4 := ⟨lm_X9_points, am_mem 1259 (by decide +kernel) (by decide +kernel), am_mem 1260 (by decide +kernel) (by decide +kernel), am_mem 1261 (by decide +kernel) (by decide +kernel), _, _, rfl⟩
theorem v_10_91 : am_lV 10 91 m_X8_sum 5 := ⟨lm_X8_sum, am_mem 717 (by decide +kernel) (by decide +kernel), am_mem 718 (by decide +kernel) (by decide +kernel), am_mem 719 (by decide +kernel) (by decide +kernel), _, _, rfl⟩
theorem v_10_95 : am_lV 10 95 m_X9_sum 5 := ⟨lm_X9_sum, am_mem 1267 (by decide +kernel) (by decide +kernel), am_mem 1268 (by decide +kernel) (by decide +kernel), am_mem 1269 (by decide +kernel) (by decide +kernel), _, _, rfl⟩
theorem v_10_96 : am_lV 10 96 m_X8_place 4 := ⟨lm_X8_place, am_mem 748 (by decide +kernel) (by decide +kernel), am_mem 749 (by decide +kernel) (by decide +kernel), am_mem 750 (by decide +kernel) (by decide +kernel), _, _, rfl⟩
theorem v_10_99 : am_lV 10 99 m_X9_place 4 := ⟨lm_X9_place, am_mem 1275 (by decide +kernel) (by decide +kernel), am_mem 1276 (by decide +kernel) (by decide +kernel), am_mem 1277 (by decide +kernel) (by decide +kernel), _, _, rfl⟩
theorem v_10_100 : am_lV 10 100 m_X8_standing 4 := ⟨lm_X8_standing, am_mem 761 (by decide +kernel) (by decide +kernel), am_mem 762 (by decide +kernel) (by decide +kernel), am_mem 763 (by decide +kernel) (by decide +kernel), _, _, rfl⟩
theorem v_10_103 : am_lV 10 103 m_X9_standing 4 := ⟨lm_X9_standing, am_mem 1287 (by decide +kernel) (by decide +kernel), am_mem 1288 (by decide +kernel) (by decide +kernel), am_mem 1289 (by decide +kernel) (by decide +kernel), _, _, rfl⟩
theorem v_10_104 : am_lV 10 104 m_X8_why 5 := ⟨lm_X8_why, am_mem 774 (by decide +kernel) (by decide +kernel), am_mem 775 (by decide +kernel) (by decide +kernel), am_mem 776 (by decide +kernel) (by decide +kernel), _, _, rfl⟩
theorem v_10_107 : am_lV 10 107 m_X9_why 5 := ⟨lm_X9_why, am_mem 1291 (by decide +kernel) (by decide +kernel), am_mem 1292 (by decide +kernel) (by decide +kernel), am_mem 1293 (by decide +kernel) (by decide +kernel), _, _, rfl⟩
theorem v_10_108 : am_lV 10 108 m_X8_rated 4 := ⟨lm_X8_rated, am_mem 779 (by decide +kernel) (by decide +kernel), am_mem 780 (by decide +kernel) (by decide +kernel), am_mem 781 (by decide +kernel) (by decide +kernel), _, _, rfl⟩
theorem v_10_111 : am_lV 10 111 m_X9_rated 4 := ⟨lm_X9_rated, am_mem 1295 (by decide +kernel) (by decide +kernel), am_mem 1296 (by decide +kernel) (by decide +kernel), am_mem 1297 (by decide +kernel) (by decide +kernel), _, _, rfl⟩
theorem v_10_112 : am_lV 10 112 m_X8_mean 1 := ⟨lm_X8_mean, am_mem 811 (by decide +kernel) (by decide +kernel), am_mem 812 (by decide +kernel) (by decide +kernel), am_mem 813 (by decide +kernel) (by decide +kernel), _, _, rfl⟩
theorem v_10_115 : am_lV 10 115 m_X9_mean 1 := ⟨lm_X9_mean, am_mem 1307 (by decide +kernel) (by decide +kernel), am_mem 1308 (by decide +kernel) (by decide +kernel), am_mem 1309 (by decide +kernel) (by decide +kernel), _, _, rfl⟩
theorem v_10_116 : am_lV 10 116 m_X8_could 4 := ⟨lm_X8_could, am_mem 819 (by decide +kernel) (by decide +kernel), am_mem 820 (by decide +kernel) (by decide +kernel), am_mem 821 (by decide +kernel) (by decide +kernel), _, _, rfl⟩
theorem v_10_119 : am_lV 10 119 m_X9_could 4 := ⟨lm_X9_could, am_mem 1311 (by decide +kernel) (by decide +kernel), am_mem 1312 (by decide +kernel) (by decide +kernel), am_mem 1313 (by decide +kernel) (by decide +kernel), _, _, rfl⟩
theorem v_10_120 : am_lV 10 120 m_X8_found 1 := ⟨lm_X8_found, am_mem 846 (by decide +kernel) (by decide +kernel), am_mem 847 (by decide +kernel) (by decide +kernel), am_mem 848 (by decide +kernel) (by decide +kernel), _, _, rfl⟩
theorem v_10_123 : am_lV 10 123 m_X9_found 1 := ⟨lm_X9_found, am_mem 1319 (by decide +kernel) (by decide +kernel), am_mem 1320 (by decide +kernel) (by decide +kernel), am_mem 1321 (by decide +kernel) (by decide +kernel), _, _, rfl⟩
theorem v_10_124 : am_lV 10 124 m_X8_step 6 := ⟨lm_X8_step, am_mem 850 (by decide +kernel) (by decide +kernel), am_mem 851 (by decide +kernel) (by decide +kernel), am_mem 852 (by decide +kernel) (by decide +kernel), _, _, rfl⟩
theorem v_10_127 : am_lV 10 127 m_X9_step 6 := ⟨lm_X9_step, am_mem 1323 (by decide +kernel) (by decide +kernel), am_mem 1324 (by decide +kernel) (by decide +kernel), am_mem 1325 (by decide +kernel) (by decide +kernel), _, _, rfl⟩
theorem v_10_128 : am_lV 10 128 m_X8_empty 1 := ⟨lm_X8_empty, am_mem 865 (by decide +kernel) (by decide +kernel), am_mem 866 (by decide +kernel) (by decide +kernel), am_mem 867 (by decide +kernel) (by decide +kernel), _, _, rfl⟩
theorem v_10_131 : am_lV 10 131 m_X9_empty 1 := ⟨lm_X9_empty, am_mem 1327 (by decide +kernel) (by decide +kernel), am_mem 1328 (by decide +kernel) (by decide +kernel), am_mem 1329 (by decide +kernel) (by decide +kernel), _, _, rfl⟩
theorem v_10_132 : am_lV 10 132 m_X8_run 1 := ⟨lm_X8_run, am_mem 869 (by decide +kernel) (by decide +kernel), am_mem 870 (by decide +kernel) (by decide +kernel), am_mem 871 (by decide +kernel) (by decide +kernel), _, _, rfl⟩
theorem v_10_135 : am_lV 10 135 m_X9_run 1 := ⟨lm_X9_run, am_mem 1331 (by decide +kernel) (by decide +kernel), am_mem 1332 (by decide +kernel) (by decide +kernel), am_mem 1333 (by decide +kernel) (by decide +kernel), _, _, rfl⟩
theorem v_10_136 : am_lV 10 136 m_X8_ran 1 := ⟨lm_X8_ran, am_mem 919 (by decide +kernel) (by decide +kernel), am_mem 920 (by decide +kernel) (by decide +kernel), am_mem 921 (by decide +kernel) (by decide +kernel), _, _, rfl⟩
theorem v_10_139 : am_lV 10 139 m_X9_ran 1 := ⟨lm_X9_ran, am_mem 1368 (by decide +kernel) (by decide +kernel), am_mem 1369 (by decide +kernel) (by decide +kernel), am_mem 1370 (by decide +kernel) (by decide +kernel), _, _, rfl⟩
theorem v_10_140 : am_lV 10 140 m_X8_copy 1 := ⟨lm_X8_copy, am_mem 664 (by decide +kernel) (by decide +kernel), am_mem 665 (by decide +kernel) (by decide +kernel), am_mem 666 (by decide +kernel) (by decide +kernel), _, _, rfl⟩
theorem v_10_143 : am_lV 10 143 m_X9_copy 1 := ⟨lm_X9_copy, am_mem 1372 (by decide +kernel) (by decide +kernel), am_mem 1373 (by decide +kernel) (by decide +kernel), am_mem 1374 (by decide +kernel) (by decide +kernel), _, _, rfl⟩
theorem v_10_144 : am_lV 10 144 m_X8_alike 2 := ⟨lm_X8_alike, am_mem 673 (by decide +kernel) (by decide +kernel), am_mem 674 (by decide +kernel) (by decide +kernel), am_mem 675 (by decide +kernel) (by decide +kernel), _, _, rfl⟩
theorem v_10_147 : am_lV 10 147 m_X9_alike 2 := ⟨lm_X9_alike, am_mem 1376 (by decide +kernel) (by decide +kernel), am_mem 1377 (by decide +kernel) (by decide +kernel), am_mem 1378 (by decide +kernel) (by decide +kernel), _, _, rfl⟩
theorem v_10_148 : am_lV 10 148 m_X8_finding 0 := ⟨lm_X8_finding, am_mem 923 (by decide +kernel) (by decide +kernel), am_mem 924 (by decide +kernel) (by decide +kernel), am_mem 925 (by decide +kernel) (by decide +kernel), _, _, rfl⟩
theorem v_10_151 : am_lV 10 151 m_X9_finding 0 := ⟨lm_X9_finding, am_mem 1380 (by decide +kernel) (by decide +kernel), am_mem 1381 (by decide +kernel) (by decide +kernel), am_mem 1382 (by decide +kernel) (by decide +kernel), _, _, rfl⟩
theorem v_10_152 : am_lV 10 152 m_X8_told 1 := ⟨lm_X8_told, am_mem 927 (by decide +kernel) (by decide +kernel), am_mem 928 (by decide +kernel) (by decide +kernel), am_mem 929 (by decide +kernel) (by decide +kernel), _, _, rfl⟩
theorem v_10_155 : am_lV 10 155 m_X9_told 1 := ⟨lm_X9_told, am_mem 1384 (by decide +kernel) (by decide +kernel), am_mem 1385 (by decide +kernel) (by decide +kernel), am_mem 1386 (by decide +kernel) (by decide +kernel), _, _, rfl⟩
theorem ini_10 : Cond.initialized RL ∈ am_tb := am_mem 68 (by decide +kernel) (by decide +kernel)
theorem ini_8 : Cond.initialized RX8 ∈ am_tb := am_mem 69 (by decide +kernel) (by decide +kernel)
theorem ini_1 : Cond.initialized RX1 ∈ am_tb := am_mem 70 (by decide +kernel) (by decide +kernel)
theorem ini_5 : Cond.initialized RX5 ∈ am_tb := am_mem 71 (by decide +kernel) (by decide +kernel)
theorem ini_6 : Cond.initialized RX6 ∈ am_tb := am_mem 72 (by decide +kernel) (by decide +kernel)
theorem ini_0 : Cond.initialized RX0 ∈ am_tb := am_mem 73 (by decide +kernel) (by decide +kernel)
theorem ini_3 : Cond.initialized RX3 ∈ am_tb := am_mem 74 (by decide +kernel) (by decide +kernel)
theorem ini_2 : Cond.initialized RX2 ∈ am_tb := am_mem 75 (by decide +kernel) (by decide +kernel)
theorem ini_4 : Cond.initialized RX4 ∈ am_tb := am_mem 76 (by decide +kernel) (by decide +kernel)
theorem ini_7 : Cond.initialized RX7 ∈ am_tb := am_mem 77 (by decide +kernel) (by decide +kernel)
theorem ini_9 : Cond.initialized RX9 ∈ am_tb := am_mem 78 (by decide +kernel) (by decide +kernel)
theorem ini_11 : Cond.initialized RJ9 ∈ am_tb := am_mem 79 (by decide +kernel) (by decide +kernel)
theorem ini_12 : Cond.initialized RJ7 ∈ am_tb := am_mem 80 (by decide +kernel) (by decide +kernel)
theorem q_10_7 : Cond.classLink (am_R 10) 7 RX8 ∈ am_tb := am_mem 82 (by decide +kernel) (by decide +kernel)
theorem in_8 : Cond.instantiable RX8 15 ∈ am_tb := am_mem 83 (by decide +kernel) (by decide +kernel)
theorem q_8_7 : Cond.classLink (am_R 8) 7 RX1 ∈ am_tb := am_mem 90 (by decide +kernel) (by decide +kernel)
theorem in_1 : Cond.instantiable RX1 3 ∈ am_tb := am_mem 91 (by decide +kernel) (by decide +kernel)
theorem q_8_16 : Cond.classLink (am_R 8) 16 RX5 ∈ am_tb := am_mem 110 (by decide +kernel) (by decide +kernel)
theorem in_5 : Cond.instantiable RX5 5 ∈ am_tb := am_mem 111 (by decide +kernel) (by decide +kernel)
theorem q_8_26 : Cond.classLink (am_R 8) 26 RX7 ∈ am_tb := am_mem 134 (by decide +kernel) (by decide +kernel)
theorem q_8_35 : Cond.classLink (am_R 8) 35 RX6 ∈ am_tb := am_mem 136 (by decide +kernel) (by decide +kernel)
theorem in_6 : Cond.instantiable RX6 11 ∈ am_tb := am_mem 137 (by decide +kernel) (by decide +kernel)
theorem q_8_42 : Cond.classLink (am_R 8) 42 RX0 ∈ am_tb := am_mem 180 (by decide +kernel) (by decide +kernel)
theorem in_0 : Cond.instantiable RX0 13 ∈ am_tb := am_mem 181 (by decide +kernel) (by decide +kernel)
theorem q_8_49 : Cond.classLink (am_R 8) 49 RX3 ∈ am_tb := am_mem 227 (by decide +kernel) (by decide +kernel)
theorem in_3 : Cond.instantiable RX3 1 ∈ am_tb := am_mem 228 (by decide +kernel) (by decide +kernel)
theorem q_8_56 : Cond.classLink (am_R 8) 56 RX2 ∈ am_tb := am_mem 238 (by decide +kernel) (by decide +kernel)
theorem in_2 : Cond.instantiable RX2 3 ∈ am_tb := am_mem 239 (by decide +kernel) (by decide +kernel)
theorem q_8_63 : Cond.classLink (am_R 8) 63 RX4 ∈ am_tb := am_mem 257 (by decide +kernel) (by decide +kernel)
theorem in_4 : Cond.instantiable RX4 4 ∈ am_tb := am_mem 258 (by decide +kernel) (by decide +kernel)
theorem in_7 : Cond.instantiable RX7 17 ∈ am_tb := am_mem 280 (by decide +kernel) (by decide +kernel)
theorem c_0_93 : Cond.constant (am_R 0) 93 (2147483647 : Int32) ∈ am_tb := am_mem 606 (by decide +kernel) (by decide +kernel)
theorem c_0_53 : Cond.constant (am_R 0) 53 (1000000 : Int32) ∈ am_tb := am_mem 612 (by decide +kernel) (by decide +kernel)
theorem c_8_249 : Cond.constant (am_R 8) 249 (2147483647 : Int32) ∈ am_tb := am_mem 708 (by decide +kernel) (by decide +kernel)
theorem c_6_139 : Cond.constant (am_R 6) 139 (2147483647 : Int32) ∈ am_tb := am_mem 835 (by decide +kernel) (by decide +kernel)
theorem q_10_10 : Cond.classLink (am_R 10) 10 RX9 ∈ am_tb := am_mem 935 (by decide +kernel) (by decide +kernel)
theorem in_9 : Cond.instantiable RX9 43 ∈ am_tb := am_mem 936 (by decide +kernel) (by decide +kernel)
theorem c_9_196 : Cond.constant (am_R 9) 196 (1000000 : Int32) ∈ am_tb := am_mem 1217 (by decide +kernel) (by decide +kernel)
theorem c_9_214 : Cond.constant (am_R 9) 214 (2147483647 : Int32) ∈ am_tb := am_mem 1230 (by decide +kernel) (by decide +kernel)
theorem ac_nat : Cond.native arraycopyName ∈ am_tb := am_mem 638 (by decide +kernel) (by decide +kernel)
theorem ac_sta : Cond.static arraycopyName ∈ am_tb := am_mem 637 (by decide +kernel) (by decide +kernel)
theorem ac_ini : Cond.initialized "java/lang/System" ∈ am_tb := am_mem 81 (by decide +kernel) (by decide +kernel)
theorem ob_ins : Cond.instanceMethod objectInit ∈ am_tb := am_mem 88 (by decide +kernel) (by decide +kernel)
theorem ob_cod : Cond.code objectInit ⟨#[0xb1]⟩ 1 none ∈ am_tb := am_mem 89 (by decide +kernel) (by decide +kernel)
theorem ar_int : Cond.arrayClass .int ∈ am_tb := am_mem 109 (by decide +kernel) (by decide +kernel)
theorem ar_boolean : Cond.arrayClass .boolean ∈ am_tb := am_mem 226 (by decide +kernel) (by decide +kernel)
end
section
/-! The heap as a memory of ints, g: cell, place; over a skeleton that never changes (which cell is which object or array). Written by gen/p09.py. -/
abbrev G : Type := Nat → Nat → Int32
def sk_0 : List ((Nat × Nat) ⊕ (Nat × (Nat → Option Nat)) ⊕ (Nat × List (Option Nat))) := [.inr (.inr (8, [some 1, some 3, some 8, some 13, some 14, some 15, some 27, some 39, some 41, some 45, some 46, none, none, none, none])), .inr (.inr (1, [some 2, none, none])), .inl (0, 200), .inr (.inr (5, [some 4, some 5, some 6, some 7, none])), .inl (0, 24), .inl (0, 24), .inl (0, 24), .inl (0, 96), .inr (.inr (5, [some 9, some 10, some 11, some 12, none])), .inl (0, 24), .inl (0, 24), .inl (0, 24), .inl (0, 96), .inr (.inl (4, fun j => if j < 4 then some (47 + 28 * j) else none)), .inr (.inl (4, fun j => if j < 4 then some (61 + 28 * j) else none)), .inr (.inr (6, [some 16, some 17, some 18, some 19, some 20, some 21, some 22, some 23, some 24, some 25, some 26])), .inl (0, 30), .inl (0, 30), .inl (0, 4), .inl (0, 24), .inl (0, 24), .inl (0, 24), .inl (0, 24), .inl (0, 24), .inl (0, 24), .inl (0, 24), .inl (0, 24), .inr (.inr (0, [some 28, some 29, some 30, some 31, some 32, some 33, some 34, some 35, some 36, some 37, some 38, none, none])), .inl (0, 10), .inl (0, 24), .inl (0, 10), .inl (0, 10), .inl (0, 10), .inl (0, 10), .inl (1, 110), .inl (1, 110), .inl (0, 110), .inl (0, 10), .inl (0, 10), .inr (.inr (3, [some 40])), .inl (0, 24), .inr (.inr (2, [some 42, some 43, some 44])), .inl (0, 4), .inl (0, 4), .inl (0, 200), .inr (.inr (4, [none, none, none, none])), .inl (0, 4)]
def sk_9 : List ((Nat × Nat) ⊕ (Nat × (Nat → Option Nat)) ⊕ (Nat × List (Option Nat))) := [.inr (.inr (9, [none, some 160, none, none, some 161, some 162, some 163, some 164, none, some 165, none, none, some 166, some 167, some 168, some 169, none, some 170, some 171, some 172, some 173, none, none, none, none, none, some 174, some 175, some 176, some 177, none, none, none, none, none, some 178, some 179, some 180, some 181, some 182, some 183, some 184, none])), .inl (0, 200), .inl (0, 24), .inl (0, 24), .inl (0, 24), .inl (0, 96), .inl (0, 1648), .inl (0, 24), .inl (0, 24), .inl (0, 24), .inl (0, 96), .inl (0, 1648), .inl (0, 200), .inl (0, 4), .inl (0, 4), .inl (0, 30), .inl (0, 10), .inl (0, 10), .inl (0, 10), .inl (0, 1024), .inl (0, 1024), .inl (0, 100), .inl (0, 24), .inl (0, 24), .inl (0, 4), .inl (0, 4)]
/-- a tournament at a -/
def sk_t (a : Nat) : List (Option Nat) := [none, none, none, none, some (a + 1), some (a + 2), some (a + 3), some (a + 4), some (a + 5), some (a + 6), some (a + 7), some (a + 8), some (a + 9), some (a + 10), some (a + 11), some (a + 12), some (a + 13)]
def sk_n : List Nat := [0, 10, 24, 5, 6, 6, 6, 30, 30, 60, 60, 60, 60, 60]
def sk (a : Nat) : (Nat × Nat) ⊕ (Nat × (Nat → Option Nat)) ⊕ (Nat × List (Option Nat)) := bif Nat.blt a 47 then sk_0.getD a (.inl (9, 0)) else bif Nat.blt a 159 then (bif Nat.beq ((a - 47) % 14) 0 then .inr (.inr (7, sk_t a)) else .inl (0, sk_n.getD ((a - 47) % 14) 0)) else sk_9.getD (a - 159) (.inl (9, 0))
/-- a is the place of a tournament -/
def isT (a : Nat) : Prop := ∃ q, q < 8 ∧ a = 47 + 14 * q
theorem sk_T {a : Nat} (h : isT a) : sk a = .inr (.inr (7, sk_t a)) := by
  obtain ⟨q, h1, rfl⟩ := h
  have e1 : Nat.blt (47 + 14 * q) 47 = false := Bool.eq_false_iff.mpr (fun e => by rw [Nat.blt_eq] at e; omega)
  have e2 : Nat.blt (47 + 14 * q) 159 = true := by rw [Nat.blt_eq] <;> omega
  have e3 : (47 + 14 * q - 47) % 14 = 0 := by omega
  simp [sk, e1, e2, e3]
theorem sk_A {a j : Nat} (h : isT a) (h0 : 0 < j) (hj : j < 14) : sk (a + j) = .inl (0, sk_n.getD j 0) := by
  obtain ⟨q, h1, rfl⟩ := h
  have e1 : Nat.blt (47 + 14 * q + j) 47 = false := Bool.eq_false_iff.mpr (fun e => by rw [Nat.blt_eq] at e; omega)
  have e2 : Nat.blt (47 + 14 * q + j) 159 = true := by rw [Nat.blt_eq] <;> omega
  have e3 : (47 + 14 * q + j - 47) % 14 = j := by omega
  have e4 : Nat.beq j 0 = false := Bool.eq_false_iff.mpr (fun e => by have := Nat.eq_of_beq_eq_true e; omega)
  simp [sk, e1, e2, e3, e4]
theorem isT_lt {a j : Nat} (h : isT a) (hj : j < 14) : a + j < 185 := by
  obtain ⟨q, h1, rfl⟩ := h
  omega
def am_fl (f : Nat → Int32) : Nat → List (Option Nat) → List Value
  | _, [] => []
  | k, none :: l => .int (f k) :: am_fl f (k + 1) l
  | k, some r :: l => .ref r :: am_fl f (k + 1) l
theorem am_fl_I {f : Nat → Int32} : ∀ (l : List (Option Nat)) (j k : Nat), l[k]? = some none → (am_fl f j l)[k]? = some (.int (f (j + k)))
  | [], _, _, h => by simp at h
  | none :: l, j, 0, _ => rfl
  | some r :: l, j, 0, h => by simp at h
  | none :: l, j, k + 1, h => by
    show (am_fl f (j + 1) l)[k]? = _
    rw [am_fl_I l (j + 1) k (by simpa using h), show j + 1 + k = j + (k + 1) by omega]
  | some r :: l, j, k + 1, h => by
    show (am_fl f (j + 1) l)[k]? = _
    rw [am_fl_I l (j + 1) k (by simpa using h), show j + 1 + k = j + (k + 1) by omega]
theorem am_fl_R {f : Nat → Int32} : ∀ (l : List (Option Nat)) (j k r : Nat), l[k]? = some (some r) → (am_fl f j l)[k]? = some (.ref r)
  | [], _, _, _, h => by simp at h
  | none :: l, j, 0, r, h => by simp at h
  | some q :: l, j, 0, r, h => by
    simp at h
    subst h
    rfl
  | none :: l, j, k + 1, r, h => am_fl_R l (j + 1) k r (by simpa using h)
  | some q :: l, j, k + 1, r, h => am_fl_R l (j + 1) k r (by simpa using h)
theorem am_fl_len {f : Nat → Int32} : ∀ (l : List (Option Nat)) (j : Nat), (am_fl f j l).length = l.length
  | [], _ => rfl
  | none :: l, j => congrArg (· + 1) (am_fl_len l (j + 1))
  | some r :: l, j => congrArg (· + 1) (am_fl_len l (j + 1))
theorem am_fl_congr {f f' : Nat → Int32} : ∀ (l : List (Option Nat)) (j : Nat), (∀ k, j ≤ k → f k = f' k) → am_fl f j l = am_fl f' j l
  | [], _, _ => rfl
  | none :: l, j, h => by
    show Value.int (f j) :: am_fl f (j + 1) l = Value.int (f' j) :: am_fl f' (j + 1) l
    rw [h j (Nat.le_refl j), am_fl_congr l (j + 1) (fun k hk => h k (by omega))]
  | some r :: l, j, h => by
    show Value.ref r :: am_fl f (j + 1) l = Value.ref r :: am_fl f' (j + 1) l
    rw [am_fl_congr l (j + 1) (fun k hk => h k (by omega))]
theorem am_fl_set {f : Nat → Int32} {v : Int32} : ∀ (l : List (Option Nat)) (j k : Nat), l[k]? = some none → (am_fl f j l).set k (.int v) = am_fl (upd f (j + k) v) j l
  | [], _, _, h => by simp at h
  | some r :: l, j, 0, h => by simp at h
  | none :: l, j, 0, _ => by
    show Value.int v :: am_fl f (j + 1) l = Value.int (upd f (j + 0) v j) :: am_fl (upd f (j + 0) v) (j + 1) l
    rw [am_fl_congr (f := f) (f' := upd f (j + 0) v) l (j + 1) (fun k hk => by simp [upd]; intro e; omega)]
    simp [upd]
  | none :: l, j, k + 1, h => by
    show Value.int (f j) :: (am_fl f (j + 1) l).set k (.int v) = Value.int (upd f (j + (k + 1)) v j) :: am_fl (upd f (j + (k + 1)) v) (j + 1) l
    rw [am_fl_set l (j + 1) k (by simpa using h), show j + 1 + k = j + (k + 1) by omega]
    congr 1
    simp [upd]
  | some r :: l, j, k + 1, h => by
    show Value.ref r :: (am_fl f (j + 1) l).set k (.int v) = Value.ref r :: am_fl (upd f (j + (k + 1)) v) (j + 1) l
    rw [am_fl_set l (j + 1) k (by simpa using h), show j + 1 + k = j + (k + 1) by omega]
def hp (g : G) (a : Nat) : va_E := match sk a with
  | .inl q => .inl (q.1, q.2, .inl (g a))
  | .inr (.inl q) => .inl (2, q.1, .inr (.inr (.inr (.inr q.2))))
  | .inr (.inr q) => .inr (q.1, am_fl (g a) 0 q.2)
def up1 (g : G) (a : Nat) (f : Nat → Int32) : G := fun b => if b = a then f else g b
def up2 (g : G) (a k : Nat) (v : Int32) : G := up1 g a (upd (g a) k v)
abbrev hw (g : G) : am_H := (hp g, 185, 11339)
theorem hp_i {g : G} {a t n : Nat} (h : sk a = .inl (t, n)) : hp g a = .inl (t, n, .inl (g a)) := by rw [hp, h]
theorem hp_q {g : G} {a n : Nat} {f : Nat → Option Nat} (h : sk a = .inr (.inl (n, f))) : hp g a = .inl (2, n, .inr (.inr (.inr (.inr f)))) := by rw [hp, h]
theorem hp_o {g : G} {a ci : Nat} {fs : List (Option Nat)} (h : sk a = .inr (.inr (ci, fs))) : hp g a = .inr (ci, am_fl (g a) 0 fs) := by rw [hp, h]
theorem hw_u {g : G} {a : Nat} {f : Nat → Int32} {e : va_E} (h : ∀ g' : G, g' a = f → hp g' a = e) : am_u (hw g) a e = hw (up1 g a f) := by
  refine Prod.ext (funext fun j => ?_) rfl
  show (if j = a then e else hp g j) = hp (up1 g a f) j
  by_cases hj : j = a
  · subst hj
    rw [if_pos rfl, h (up1 g j f) (by simp [up1])]
  · rw [if_neg hj]
    have : up1 g a f j = g j := by simp [up1, hj]
    unfold hp
    rw [this]
/-- a walk over the memory; a contract over it -/
abbrev u_V (M : am_M) (d : Nat) (post : Int32 → G → Prop) (pc : Nat) (L : List (Option Value)) (st : List Value) (g : G) : Prop := am_V M (0, fun _ => 0) d 0 0 185 11339 (fun r h => ∃ g' : G, h = hw g' ∧ post r g') pc L st (hw g)
def Y (M : am_M) (d : Nat) (As : List Value) (g : G) (post : Int32 → G → Prop) : Prop := am_X M d 0 0 As (hw g) (fun r h => ∃ g' : G, h = hw g' ∧ post r g')
theorem Y.mono {M : am_M} {d d2 : Nat} {As : List Value} {g : G} {post : Int32 → G → Prop} (h : Y M d As g post) (hd : d ≤ d2) : Y M d2 As g post := am_X.mono h hd
theorem Y.imp {M : am_M} {d : Nat} {As : List Value} {g : G} {P P' : Int32 → G → Prop} (h : Y M d As g P) (hi : ∀ r g', P r g' → P' r g') : Y M d As g P' := am_X.imp h (fun r _ q => by
  obtain ⟨g', e, q⟩ := q
  exact ⟨g', e, hi r g' q⟩)
theorem Y_of {M : am_M} {d : Nat} {g : G} {post : Int32 → G → Prop} (ok : am_ok M) (hy : plainName M.1.cls = true) (hcl : M.1.cls = am_R M.2.2.2.2.1) (hno : M.2.2.2.2.1 ≠ 10) (hret : M.2.2.2.1 = none ∨ M.2.2.2.1 = some .int ∨ M.2.2.2.1 = some .boolean) {As : List Value} (hA : ∀ v ∈ As, v.category = 1) (hn : As.length ≤ M.2.2.1)
    (hV : u_V M d post 0 (As.map some ++ List.replicate (M.2.2.1 - As.length) none) [] g) : Y M d As g post := am_X_of ok hy hcl hno hret hA hn hV
section UV
variable {M : am_M} {d : Nat} {post : Int32 → G → Prop} {pc nx : Nat} {L : List (Option Value)} {st : List Value} {g : G}
theorem u_getI {ci k a i : Nat} {fs : List (Option Nat)} (hf : am_lF M.2.2.2.2.1 i ci k) (hc : M.2.2.2.2.2 pc = some (.getfield i, 3, nx, [])) (ha : a < 185) (hs : sk a = .inr (.inr (ci, fs))) (hk : fs[k]? = some none) (kk : u_V M d post nx L (.int (g a k) :: st) g) : u_V M d post pc L (.ref a :: st) g :=
  am_get hf hc ha (hp_o hs) (am_fl_I fs 0 k hk) (by rw [Nat.zero_add]; exact kk)
theorem u_getR {ci k a i r : Nat} {fs : List (Option Nat)} (hf : am_lF M.2.2.2.2.1 i ci k) (hc : M.2.2.2.2.2 pc = some (.getfield i, 3, nx, [])) (ha : a < 185) (hs : sk a = .inr (.inr (ci, fs))) (hk : fs[k]? = some (some r)) (kk : u_V M d post nx L (.ref r :: st) g) : u_V M d post pc L (.ref a :: st) g :=
  am_get hf hc ha (hp_o hs) (am_fl_R fs 0 k r hk) kk
theorem u_putI {ci k a i : Nat} {fs : List (Option Nat)} {v : Int32} (hf : am_lF M.2.2.2.2.1 i ci k) (hfin : am_fin ci k = false) (hc : M.2.2.2.2.2 pc = some (.putfield i, 3, nx, [])) (ha : a < 185) (hs : sk a = .inr (.inr (ci, fs))) (hk : fs[k]? = some none) (hv : am_fit (am_ty ci k) (.int v)) (kk : u_V M d post nx L st (up2 g a k v)) : u_V M d post pc L (.int v :: .ref a :: st) g := by
  refine am_put hf hfin hc ha (hp_o hs) (by rw [am_fl_len]; exact (List.getElem?_eq_some_iff.mp hk).1) hv ?_
  rw [am_fl_set fs 0 k hk, Nat.zero_add, hw_u (f := upd (g a) k v) (fun g' e => by rw [hp_o hs, e])]
  exact kk
theorem u_iald {a n : Nat} {i : Int32} (hc : M.2.2.2.2.2 pc = some (.iaload, 1, nx, [])) (ha : a < 185) (hs : sk a = .inl (0, n)) (hi : vp_in i n) (kk : u_V M d post nx L (.int (g a i.toNatClampNeg) :: st) g) : u_V M d post pc L (.int i :: .ref a :: st) g := am_iald hc ha (hp_i hs) hi kk
theorem u_zald {a n : Nat} {i : Int32} (hc : M.2.2.2.2.2 pc = some (.baload, 1, nx, [])) (ha : a < 185) (hs : sk a = .inl (1, n)) (hi : vp_in i n) (kk : u_V M d post nx L (.int (g a i.toNatClampNeg) :: st) g) : u_V M d post pc L (.int i :: .ref a :: st) g := am_zald hc ha (hp_i hs) hi kk
theorem u_aald {a n r : Nat} {f : Nat → Option Nat} {i : Int32} (hc : M.2.2.2.2.2 pc = some (.aaload, 1, nx, [])) (ha : a < 185) (hs : sk a = .inr (.inl (n, f))) (hi : vp_in i n) (hr : f i.toNatClampNeg = some r) (kk : u_V M d post nx L (.ref r :: st) g) : u_V M d post pc L (.int i :: .ref a :: st) g := am_aald hc ha (hp_q hs) hi hr kk
theorem u_alen {a n : Nat} (hc : M.2.2.2.2.2 pc = some (.arraylength, 1, nx, [])) (ha : a < 185) (hs : sk a = .inl (0, n)) (kk : u_V M d post nx L (.int (nI n) :: st) g) : u_V M d post pc L (.ref a :: st) g := am_alen hc ha (hp_i hs) kk
theorem u_iast {a n : Nat} {i x : Int32} (hc : M.2.2.2.2.2 pc = some (.iastore, 1, nx, [])) (ha : a < 185) (hs : sk a = .inl (0, n)) (hi : vp_in i n) (kk : u_V M d post nx L st (up2 g a i.toNatClampNeg x)) : u_V M d post pc L (.int x :: .int i :: .ref a :: st) g := by
  refine am_iast hc ha (hp_i hs) hi ?_
  rw [hw_u (f := upd (g a) i.toNatClampNeg x) (fun g' e => by rw [hp_i hs, e])]
  exact kk
theorem u_zast {a n : Nat} {i x : Int32} (hc : M.2.2.2.2.2 pc = some (.bastore, 1, nx, [])) (ha : a < 185) (hs : sk a = .inl (1, n)) (hi : vp_in i n) (hx : x = 0 ∨ x = 1) (kk : u_V M d post nx L st (up2 g a i.toNatClampNeg x)) : u_V M d post pc L (.int x :: .int i :: .ref a :: st) g := by
  refine am_zast hc ha (hp_i hs) hi hx ?_
  rw [hw_u (f := upd (g a) i.toNatClampNeg x) (fun g' e => by rw [hp_i hs, e])]
  exact kk
theorem u_copy {a0 a n0' n1 i : Nat} {sp dp n : Int32} (hlk : Cond.methodLink (am_R M.2.2.2.2.1) i arraycopyName ∈ am_tb) (hc : M.2.2.2.2.2 pc = some (.invokestatic i, 3, nx, [])) (ha0 : a0 < 185) (hs0 : sk a0 = .inl (0, n0')) (ha : a < 185) (hs : sk a = .inl (0, n1))
    (g1 : ¬ sp < 0) (g2 : ¬ dp < 0) (g3 : ¬ n < 0) (g4 : sp.toNatClampNeg + n.toNatClampNeg ≤ n0') (g5 : dp.toNatClampNeg + n.toNatClampNeg ≤ n1) (hd : 1 ≤ d) (hst : ∀ b bs, ((st.map (am_v b bs)).map (fun v => v.category)).sum ≤ 8) (kk : u_V M d post nx L st (up1 g a (va_cpy (g a0) (g a) sp.toNatClampNeg dp.toNatClampNeg n.toNatClampNeg))) : u_V M d post pc L (.int n :: .int dp :: .ref a :: .int sp :: .ref a0 :: st) g := by
  refine am_copy hlk ac_nat ac_sta ac_ini hc ha0 (hp_i hs0) ha (hp_i hs) g1 g2 g3 g4 g5 hd hst ?_
  rw [hw_u (f := va_cpy (g a0) (g a) sp.toNatClampNeg dp.toNatClampNeg n.toNatClampNeg) (fun g' e => by rw [hp_i hs, e])]
  exact kk
theorem u_iret {r : Int32} (hc : M.2.2.2.2.2 pc = some (.ireturn, 1, nx, [])) (hret : M.2.2.2.1 = some .int) (hp : post r g) : u_V M d post pc L [.int r] g := am_iret hc hret rfl rfl ⟨g, rfl, hp⟩
theorem u_zret {r : Int32} (hc : M.2.2.2.2.2 pc = some (.ireturn, 1, nx, [])) (hret : M.2.2.2.1 = some .boolean) (hr : r = 0 ∨ r = 1) (hp : post r g) : u_V M d post pc L [.int r] g := am_zret hc hret hr rfl rfl ⟨g, rfl, hp⟩
theorem u_vret (hc : M.2.2.2.2.2 pc = some (.return_, 1, nx, [])) (hret : M.2.2.2.1 = none) (hp : post 0 g) : u_V M d post pc L [] g := am_vret hc hret rfl rfl ⟨g, rfl, hp⟩
theorem u_callV {N : am_M} {i n a : Nat} {fs : List (Option Nat)} {As : List Value} {d' : Nat} (hl : am_lV M.2.2.2.2.1 i N n) (hc : M.2.2.2.2.2 pc = some (.invokevirtual i, 3, nx, [])) (hn : As.length = n) (ha : a < 185) (hs : sk a = .inr (.inr (N.2.2.2.2.1, fs))) (hd : d' + 1 ≤ d) (hst : ∀ b bs, ((st.map (am_v b bs)).map (fun v => v.category)).sum ≤ 8)
    (hX : Y N d' (.ref a :: As) g (fun r g' => u_V M d post nx L (am_ps N.2.2.2.1 r st) g')) : u_V M d post pc L (As.reverse ++ .ref a :: st) g :=
  am_callV hl hc hn ha (hp_o hs) hd hst ⟨Nat.le_refl _, Nat.le_refl _⟩ (am_X.imp hX (fun r h q => by
    obtain ⟨g', rfl, q⟩ := q
    exact q))
theorem u_callS {N : am_M} {i n : Nat} {As : List Value} {d' : Nat} (hl : am_lS M.2.2.2.2.1 i N n) (hc : M.2.2.2.2.2 pc = some (.invokestatic i, 3, nx, [])) (hn : As.length = n) (hd : d' + 1 ≤ d) (hst : ∀ b bs, ((st.map (am_v b bs)).map (fun v => v.category)).sum ≤ 8)
    (hX : Y N d' As g (fun r g' => u_V M d post nx L (am_ps N.2.2.2.1 r st) g')) : u_V M d post pc L (As.reverse ++ st) g :=
  am_callS hl hc hn hd hst ⟨Nat.le_refl _, Nat.le_refl _⟩ (am_X.imp hX (fun r h q => by
    obtain ⟨g', rfl, q⟩ := q
    exact q))
end UV
end
