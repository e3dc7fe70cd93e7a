section
-- ===== PART A: goes FIRST, ahead of the names: the tables' words, and 'selects' of the private methods out of them =====
/-- a private method of a class that the tables say can be made, by its rows of tables_1 -/
def lw_okq (q : MethodName × Nat) : Prop := (q.1.cls ≠ "java/lang/invoke/MethodHandle" ∧ q.1.cls ≠ "java/lang/invoke/VarHandle") ∧ Cond.instantiable q.1.cls q.2 ∈ tables_1 ∧ Cond.privateMethod q.1 ∈ tables_1 ∧ Cond.instanceMethod q.1 ∈ tables_1
theorem lw_p0 : lw_okq (⟨"CheapProofs$History", "dropOldest", "()V"⟩, 2) := ⟨⟨by decide +kernel, by decide +kernel⟩, List.mem_of_getElem? (i := 149) (by decide +kernel), List.mem_of_getElem? (i := 264) (by decide +kernel), List.mem_of_getElem? (i := 265) (by decide +kernel)⟩
theorem lw_p1 : lw_okq (⟨"CheapProofs$History", "stateAt", "(I)LCheapProofs$State;"⟩, 2) := ⟨⟨by decide +kernel, by decide +kernel⟩, List.mem_of_getElem? (i := 149) (by decide +kernel), List.mem_of_getElem? (i := 268) (by decide +kernel), List.mem_of_getElem? (i := 269) (by decide +kernel)⟩
theorem lw_p2 : lw_okq (⟨"CheapProofs$Reader", "readEntry", "()Z"⟩, 3) := ⟨⟨by decide +kernel, by decide +kernel⟩, List.mem_of_getElem? (i := 181) (by decide +kernel), List.mem_of_getElem? (i := 355) (by decide +kernel), List.mem_of_getElem? (i := 356) (by decide +kernel)⟩
theorem lw_p3 : lw_okq (⟨"CheapProofs$Reader", "readPosition", "()I"⟩, 3) := ⟨⟨by decide +kernel, by decide +kernel⟩, List.mem_of_getElem? (i := 181) (by decide +kernel), List.mem_of_getElem? (i := 359) (by decide +kernel), List.mem_of_getElem? (i := 360) (by decide +kernel)⟩
theorem lw_p4 : lw_okq (⟨"CheapProofs$Reader", "digit", "()I"⟩, 3) := ⟨⟨by decide +kernel, by decide +kernel⟩, List.mem_of_getElem? (i := 181) (by decide +kernel), List.mem_of_getElem? (i := 363) (by decide +kernel), List.mem_of_getElem? (i := 364) (by decide +kernel)⟩
theorem lw_p5 : lw_okq (⟨"CheapProofs$Reader", "skip", "(C)Z"⟩, 3) := ⟨⟨by decide +kernel, by decide +kernel⟩, List.mem_of_getElem? (i := 181) (by decide +kernel), List.mem_of_getElem? (i := 371) (by decide +kernel), List.mem_of_getElem? (i := 372) (by decide +kernel)⟩
theorem lw_p6 : lw_okq (⟨"CheapProofs$Reader", "readTargets", "(I)Z"⟩, 3) := ⟨⟨by decide +kernel, by decide +kernel⟩, List.mem_of_getElem? (i := 181) (by decide +kernel), List.mem_of_getElem? (i := 376) (by decide +kernel), List.mem_of_getElem? (i := 377) (by decide +kernel)⟩
theorem lw_p7 : lw_okq (⟨"CheapProofs$Tree", "addLeaf", "(II)V"⟩, 10) := ⟨⟨by decide +kernel, by decide +kernel⟩, List.mem_of_getElem? (i := 89) (by decide +kernel), List.mem_of_getElem? (i := 392) (by decide +kernel), List.mem_of_getElem? (i := 393) (by decide +kernel)⟩
theorem lw_p8 : lw_okq (⟨"CheapProofs$Tree", "setLeafCosts", "(III)V"⟩, 10) := ⟨⟨by decide +kernel, by decide +kernel⟩, List.mem_of_getElem? (i := 89) (by decide +kernel), List.mem_of_getElem? (i := 402) (by decide +kernel), List.mem_of_getElem? (i := 403) (by decide +kernel)⟩
theorem lw_p9 : lw_okq (⟨"CheapProofs$Tree", "setCosts", "(III)V"⟩, 10) := ⟨⟨by decide +kernel, by decide +kernel⟩, List.mem_of_getElem? (i := 89) (by decide +kernel), List.mem_of_getElem? (i := 414) (by decide +kernel), List.mem_of_getElem? (i := 415) (by decide +kernel)⟩
theorem lw_p10 : lw_okq (⟨"CheapProofs$Tree", "isOnWayTo", "(II)Z"⟩, 10) := ⟨⟨by decide +kernel, by decide +kernel⟩, List.mem_of_getElem? (i := 89) (by decide +kernel), List.mem_of_getElem? (i := 418) (by decide +kernel), List.mem_of_getElem? (i := 419) (by decide +kernel)⟩
theorem lw_p11 : lw_okq (⟨"CheapProofs$Tree", "leafOnWay", "()I"⟩, 10) := ⟨⟨by decide +kernel, by decide +kernel⟩, List.mem_of_getElem? (i := 89) (by decide +kernel), List.mem_of_getElem? (i := 439) (by decide +kernel), List.mem_of_getElem? (i := 440) (by decide +kernel)⟩
theorem lw_p12 : lw_okq (⟨"CheapProofs$Tree", "workOutFrom", "(I)V"⟩, 10) := ⟨⟨by decide +kernel, by decide +kernel⟩, List.mem_of_getElem? (i := 89) (by decide +kernel), List.mem_of_getElem? (i := 464) (by decide +kernel), List.mem_of_getElem? (i := 465) (by decide +kernel)⟩
theorem lw_p13 : lw_okq (⟨"CheapProofs$Tree", "workOut", "(I)V"⟩, 10) := ⟨⟨by decide +kernel, by decide +kernel⟩, List.mem_of_getElem? (i := 89) (by decide +kernel), List.mem_of_getElem? (i := 468) (by decide +kernel), List.mem_of_getElem? (i := 469) (by decide +kernel)⟩
theorem lw_p14 : lw_okq (⟨"CheapProofs$Tree", "leastOfChildren", "(ILCheapProofs$Row;)I"⟩, 10) := ⟨⟨by decide +kernel, by decide +kernel⟩, List.mem_of_getElem? (i := 89) (by decide +kernel), List.mem_of_getElem? (i := 472) (by decide +kernel), List.mem_of_getElem? (i := 473) (by decide +kernel)⟩
theorem lw_p15 : lw_okq (⟨"CheapProofs$Tree", "sumOfChildren", "(ILCheapProofs$Row;)I"⟩, 10) := ⟨⟨by decide +kernel, by decide +kernel⟩, List.mem_of_getElem? (i := 89) (by decide +kernel), List.mem_of_getElem? (i := 477) (by decide +kernel), List.mem_of_getElem? (i := 478) (by decide +kernel)⟩
def lw_privs_1 : List (MethodName × Nat) := [(⟨"CheapProofs$History", "dropOldest", "()V"⟩, 2), (⟨"CheapProofs$History", "stateAt", "(I)LCheapProofs$State;"⟩, 2), (⟨"CheapProofs$Reader", "readEntry", "()Z"⟩, 3), (⟨"CheapProofs$Reader", "readPosition", "()I"⟩, 3), (⟨"CheapProofs$Reader", "digit", "()I"⟩, 3), (⟨"CheapProofs$Reader", "skip", "(C)Z"⟩, 3), (⟨"CheapProofs$Reader", "readTargets", "(I)Z"⟩, 3), (⟨"CheapProofs$Tree", "addLeaf", "(II)V"⟩, 10), (⟨"CheapProofs$Tree", "setLeafCosts", "(III)V"⟩, 10), (⟨"CheapProofs$Tree", "setCosts", "(III)V"⟩, 10), (⟨"CheapProofs$Tree", "isOnWayTo", "(II)Z"⟩, 10), (⟨"CheapProofs$Tree", "leafOnWay", "()I"⟩, 10), (⟨"CheapProofs$Tree", "workOutFrom", "(I)V"⟩, 10), (⟨"CheapProofs$Tree", "workOut", "(I)V"⟩, 10), (⟨"CheapProofs$Tree", "leastOfChildren", "(ILCheapProofs$Row;)I"⟩, 10), (⟨"CheapProofs$Tree", "sumOfChildren", "(ILCheapProofs$Row;)I"⟩, 10)]
theorem lw_r1 : ∀ q ∈ lw_privs_1, lw_okq q := List.forall_mem_cons.mpr ⟨lw_p0, List.forall_mem_cons.mpr ⟨lw_p1, List.forall_mem_cons.mpr ⟨lw_p2, List.forall_mem_cons.mpr ⟨lw_p3, List.forall_mem_cons.mpr ⟨lw_p4, List.forall_mem_cons.mpr ⟨lw_p5, List.forall_mem_cons.mpr ⟨lw_p6, List.forall_mem_cons.mpr ⟨lw_p7, List.forall_mem_cons.mpr ⟨lw_p8, List.forall_mem_cons.mpr ⟨lw_p9, List.forall_mem_cons.mpr ⟨lw_p10, List.forall_mem_cons.mpr ⟨lw_p11, List.forall_mem_cons.mpr ⟨lw_p12, List.forall_mem_cons.mpr ⟨lw_p13, List.forall_mem_cons.mpr ⟨lw_p14, List.forall_mem_cons.mpr ⟨lw_p15, fun _ h => absurd h List.not_mem_nil⟩⟩⟩⟩⟩⟩⟩⟩⟩⟩⟩⟩⟩⟩⟩⟩
theorem lw_p16 : lw_okq (⟨"CheapProofs$Rounds", "playRound", "(LCheapProofs$Game;I)V"⟩, 1) := ⟨⟨by decide +kernel, by decide +kernel⟩, List.mem_of_getElem? (i := 200) (by decide +kernel), List.mem_of_getElem? (i := 530) (by decide +kernel), List.mem_of_getElem? (i := 531) (by decide +kernel)⟩
theorem lw_p17 : lw_okq (⟨"CheapProofs$Rounds", "isWonBy", "(LCheapProofs$Game;II)Z"⟩, 1) := ⟨⟨by decide +kernel, by decide +kernel⟩, List.mem_of_getElem? (i := 200) (by decide +kernel), List.mem_of_getElem? (i := 540) (by decide +kernel), List.mem_of_getElem? (i := 541) (by decide +kernel)⟩
theorem lw_p18 : lw_okq (⟨"CheapProofs$Proof", "takeChildren", "(LCheapProofs$Tree;II)V"⟩, 1) := ⟨⟨by decide +kernel, by decide +kernel⟩, List.mem_of_getElem? (i := 212) (by decide +kernel), List.mem_of_getElem? (i := 595) (by decide +kernel), List.mem_of_getElem? (i := 596) (by decide +kernel)⟩
theorem lw_p19 : lw_okq (⟨"CheapProofsModel", "of", "(II)I"⟩, 14) := ⟨⟨by decide +kernel, by decide +kernel⟩, List.mem_of_getElem? (i := 625) (by decide +kernel), List.mem_of_getElem? (i := 685) (by decide +kernel), List.mem_of_getElem? (i := 686) (by decide +kernel)⟩
theorem lw_p20 : lw_okq (⟨"CheapProofsModel", "records", "()V"⟩, 14) := ⟨⟨by decide +kernel, by decide +kernel⟩, List.mem_of_getElem? (i := 625) (by decide +kernel), List.mem_of_getElem? (i := 689) (by decide +kernel), List.mem_of_getElem? (i := 690) (by decide +kernel)⟩
theorem lw_p21 : lw_okq (⟨"CheapProofsModel", "noTree", "()V"⟩, 14) := ⟨⟨by decide +kernel, by decide +kernel⟩, List.mem_of_getElem? (i := 625) (by decide +kernel), List.mem_of_getElem? (i := 693) (by decide +kernel), List.mem_of_getElem? (i := 694) (by decide +kernel)⟩
theorem lw_p22 : lw_okq (⟨"CheapProofsModel", "placeOf", "(II)I"⟩, 14) := ⟨⟨by decide +kernel, by decide +kernel⟩, List.mem_of_getElem? (i := 625) (by decide +kernel), List.mem_of_getElem? (i := 705) (by decide +kernel), List.mem_of_getElem? (i := 706) (by decide +kernel)⟩
theorem lw_p23 : lw_okq (⟨"CheapProofsModel", "comes", "(II)V"⟩, 14) := ⟨⟨by decide +kernel, by decide +kernel⟩, List.mem_of_getElem? (i := 625) (by decide +kernel), List.mem_of_getElem? (i := 709) (by decide +kernel), List.mem_of_getElem? (i := 710) (by decide +kernel)⟩
theorem lw_p24 : lw_okq (⟨"CheapProofsModel", "movesOf", "(I)I"⟩, 14) := ⟨⟨by decide +kernel, by decide +kernel⟩, List.mem_of_getElem? (i := 625) (by decide +kernel), List.mem_of_getElem? (i := 713) (by decide +kernel), List.mem_of_getElem? (i := 714) (by decide +kernel)⟩
theorem lw_p25 : lw_okq (⟨"CheapProofsModel", "makes", "(II)V"⟩, 14) := ⟨⟨by decide +kernel, by decide +kernel⟩, List.mem_of_getElem? (i := 625) (by decide +kernel), List.mem_of_getElem? (i := 725) (by decide +kernel), List.mem_of_getElem? (i := 726) (by decide +kernel)⟩
theorem lw_p26 : lw_okq (⟨"CheapProofsModel", "isEnd", "(I)Z"⟩, 14) := ⟨⟨by decide +kernel, by decide +kernel⟩, List.mem_of_getElem? (i := 625) (by decide +kernel), List.mem_of_getElem? (i := 729) (by decide +kernel), List.mem_of_getElem? (i := 730) (by decide +kernel)⟩
theorem lw_p27 : lw_okq (⟨"CheapProofsModel", "isOnWay", "(II)Z"⟩, 14) := ⟨⟨by decide +kernel, by decide +kernel⟩, List.mem_of_getElem? (i := 625) (by decide +kernel), List.mem_of_getElem? (i := 733) (by decide +kernel), List.mem_of_getElem? (i := 734) (by decide +kernel)⟩
theorem lw_p28 : lw_okq (⟨"CheapProofsModel", "get", "(II)I"⟩, 14) := ⟨⟨by decide +kernel, by decide +kernel⟩, List.mem_of_getElem? (i := 625) (by decide +kernel), List.mem_of_getElem? (i := 737) (by decide +kernel), List.mem_of_getElem? (i := 738) (by decide +kernel)⟩
theorem lw_p29 : lw_okq (⟨"CheapProofsModel", "lay", "(III)V"⟩, 14) := ⟨⟨by decide +kernel, by decide +kernel⟩, List.mem_of_getElem? (i := 625) (by decide +kernel), List.mem_of_getElem? (i := 741) (by decide +kernel), List.mem_of_getElem? (i := 742) (by decide +kernel)⟩
theorem lw_p30 : lw_okq (⟨"CheapProofsModel", "canOpen", "()Z"⟩, 14) := ⟨⟨by decide +kernel, by decide +kernel⟩, List.mem_of_getElem? (i := 625) (by decide +kernel), List.mem_of_getElem? (i := 749) (by decide +kernel), List.mem_of_getElem? (i := 750) (by decide +kernel)⟩
theorem lw_p31 : lw_okq (⟨"CheapProofsModel", "isDecided", "()Z"⟩, 14) := ⟨⟨by decide +kernel, by decide +kernel⟩, List.mem_of_getElem? (i := 625) (by decide +kernel), List.mem_of_getElem? (i := 753) (by decide +kernel), List.mem_of_getElem? (i := 754) (by decide +kernel)⟩
def lw_privs_2 : List (MethodName × Nat) := [(⟨"CheapProofs$Rounds", "playRound", "(LCheapProofs$Game;I)V"⟩, 1), (⟨"CheapProofs$Rounds", "isWonBy", "(LCheapProofs$Game;II)Z"⟩, 1), (⟨"CheapProofs$Proof", "takeChildren", "(LCheapProofs$Tree;II)V"⟩, 1), (⟨"CheapProofsModel", "of", "(II)I"⟩, 14), (⟨"CheapProofsModel", "records", "()V"⟩, 14), (⟨"CheapProofsModel", "noTree", "()V"⟩, 14), (⟨"CheapProofsModel", "placeOf", "(II)I"⟩, 14), (⟨"CheapProofsModel", "comes", "(II)V"⟩, 14), (⟨"CheapProofsModel", "movesOf", "(I)I"⟩, 14), (⟨"CheapProofsModel", "makes", "(II)V"⟩, 14), (⟨"CheapProofsModel", "isEnd", "(I)Z"⟩, 14), (⟨"CheapProofsModel", "isOnWay", "(II)Z"⟩, 14), (⟨"CheapProofsModel", "get", "(II)I"⟩, 14), (⟨"CheapProofsModel", "lay", "(III)V"⟩, 14), (⟨"CheapProofsModel", "canOpen", "()Z"⟩, 14), (⟨"CheapProofsModel", "isDecided", "()Z"⟩, 14)]
theorem lw_r2 : ∀ q ∈ lw_privs_2, lw_okq q := List.forall_mem_cons.mpr ⟨lw_p16, List.forall_mem_cons.mpr ⟨lw_p17, List.forall_mem_cons.mpr ⟨lw_p18, List.forall_mem_cons.mpr ⟨lw_p19, List.forall_mem_cons.mpr ⟨lw_p20, List.forall_mem_cons.mpr ⟨lw_p21, List.forall_mem_cons.mpr ⟨lw_p22, List.forall_mem_cons.mpr ⟨lw_p23, List.forall_mem_cons.mpr ⟨lw_p24, List.forall_mem_cons.mpr ⟨lw_p25, List.forall_mem_cons.mpr ⟨lw_p26, List.forall_mem_cons.mpr ⟨lw_p27, List.forall_mem_cons.mpr ⟨lw_p28, List.forall_mem_cons.mpr ⟨lw_p29, List.forall_mem_cons.mpr ⟨lw_p30, List.forall_mem_cons.mpr ⟨lw_p31, fun _ h => absurd h List.not_mem_nil⟩⟩⟩⟩⟩⟩⟩⟩⟩⟩⟩⟩⟩⟩⟩⟩
theorem lw_p32 : lw_okq (⟨"CheapProofsModel", "leaf", "()I"⟩, 14) := ⟨⟨by decide +kernel, by decide +kernel⟩, List.mem_of_getElem? (i := 625) (by decide +kernel), List.mem_of_getElem? (i := 757) (by decide +kernel), List.mem_of_getElem? (i := 758) (by decide +kernel)⟩
theorem lw_p33 : lw_okq (⟨"CheapProofsModel", "nextOf", "(I)I"⟩, 14) := ⟨⟨by decide +kernel, by decide +kernel⟩, List.mem_of_getElem? (i := 625) (by decide +kernel), List.mem_of_getElem? (i := 761) (by decide +kernel), List.mem_of_getElem? (i := 762) (by decide +kernel)⟩
theorem lw_p34 : lw_okq (⟨"CheapProofsModel", "turnOf", "(I)I"⟩, 14) := ⟨⟨by decide +kernel, by decide +kernel⟩, List.mem_of_getElem? (i := 625) (by decide +kernel), List.mem_of_getElem? (i := 765) (by decide +kernel), List.mem_of_getElem? (i := 766) (by decide +kernel)⟩
theorem lw_p35 : lw_okq (⟨"CheapProofsModel", "cheapest", "(II)I"⟩, 14) := ⟨⟨by decide +kernel, by decide +kernel⟩, List.mem_of_getElem? (i := 625) (by decide +kernel), List.mem_of_getElem? (i := 769) (by decide +kernel), List.mem_of_getElem? (i := 770) (by decide +kernel)⟩
theorem lw_p36 : lw_okq (⟨"CheapProofsModel", "opens", "()Z"⟩, 14) := ⟨⟨by decide +kernel, by decide +kernel⟩, List.mem_of_getElem? (i := 625) (by decide +kernel), List.mem_of_getElem? (i := 773) (by decide +kernel), List.mem_of_getElem? (i := 774) (by decide +kernel)⟩
theorem lw_p37 : lw_okq (⟨"CheapProofsModel", "moveAt", "(II)I"⟩, 14) := ⟨⟨by decide +kernel, by decide +kernel⟩, List.mem_of_getElem? (i := 625) (by decide +kernel), List.mem_of_getElem? (i := 777) (by decide +kernel), List.mem_of_getElem? (i := 778) (by decide +kernel)⟩
theorem lw_p38 : lw_okq (⟨"CheapProofsModel", "works", "(I)V"⟩, 14) := ⟨⟨by decide +kernel, by decide +kernel⟩, List.mem_of_getElem? (i := 625) (by decide +kernel), List.mem_of_getElem? (i := 781) (by decide +kernel), List.mem_of_getElem? (i := 782) (by decide +kernel)⟩
theorem lw_p39 : lw_okq (⟨"CheapProofsModel", "sumOver", "(II)I"⟩, 14) := ⟨⟨by decide +kernel, by decide +kernel⟩, List.mem_of_getElem? (i := 625) (by decide +kernel), List.mem_of_getElem? (i := 785) (by decide +kernel), List.mem_of_getElem? (i := 786) (by decide +kernel)⟩
theorem lw_p40 : lw_okq (⟨"CheapProofsModel", "reads", "()I"⟩, 14) := ⟨⟨by decide +kernel, by decide +kernel⟩, List.mem_of_getElem? (i := 625) (by decide +kernel), List.mem_of_getElem? (i := 801) (by decide +kernel), List.mem_of_getElem? (i := 802) (by decide +kernel)⟩
theorem lw_p41 : lw_okq (⟨"CheapProofsModel", "readsEntry", "()V"⟩, 14) := ⟨⟨by decide +kernel, by decide +kernel⟩, List.mem_of_getElem? (i := 625) (by decide +kernel), List.mem_of_getElem? (i := 805) (by decide +kernel), List.mem_of_getElem? (i := 806) (by decide +kernel)⟩
theorem lw_p42 : lw_okq (⟨"CheapProofsModel", "readsPosition", "()I"⟩, 14) := ⟨⟨by decide +kernel, by decide +kernel⟩, List.mem_of_getElem? (i := 625) (by decide +kernel), List.mem_of_getElem? (i := 809) (by decide +kernel), List.mem_of_getElem? (i := 810) (by decide +kernel)⟩
theorem lw_p43 : lw_okq (⟨"CheapProofsModel", "sign", "()I"⟩, 14) := ⟨⟨by decide +kernel, by decide +kernel⟩, List.mem_of_getElem? (i := 625) (by decide +kernel), List.mem_of_getElem? (i := 813) (by decide +kernel), List.mem_of_getElem? (i := 814) (by decide +kernel)⟩
theorem lw_p44 : lw_okq (⟨"CheapProofsModel", "tells", "(III)V"⟩, 14) := ⟨⟨by decide +kernel, by decide +kernel⟩, List.mem_of_getElem? (i := 625) (by decide +kernel), List.mem_of_getElem? (i := 817) (by decide +kernel), List.mem_of_getElem? (i := 818) (by decide +kernel)⟩
theorem lw_p45 : lw_okq (⟨"CheapProofsModel", "movesTold", "()I"⟩, 14) := ⟨⟨by decide +kernel, by decide +kernel⟩, List.mem_of_getElem? (i := 625) (by decide +kernel), List.mem_of_getElem? (i := 821) (by decide +kernel), List.mem_of_getElem? (i := 822) (by decide +kernel)⟩
theorem lw_p46 : lw_okq (⟨"CheapProofsModel", "does", "(III)V"⟩, 14) := ⟨⟨by decide +kernel, by decide +kernel⟩, List.mem_of_getElem? (i := 625) (by decide +kernel), List.mem_of_getElem? (i := 825) (by decide +kernel), List.mem_of_getElem? (i := 826) (by decide +kernel)⟩
theorem lw_p47 : lw_okq (⟨"CheapProofsModel", "laysRounds", "()V"⟩, 14) := ⟨⟨by decide +kernel, by decide +kernel⟩, List.mem_of_getElem? (i := 625) (by decide +kernel), List.mem_of_getElem? (i := 845) (by decide +kernel), List.mem_of_getElem? (i := 846) (by decide +kernel)⟩
def lw_privs_3 : List (MethodName × Nat) := [(⟨"CheapProofsModel", "leaf", "()I"⟩, 14), (⟨"CheapProofsModel", "nextOf", "(I)I"⟩, 14), (⟨"CheapProofsModel", "turnOf", "(I)I"⟩, 14), (⟨"CheapProofsModel", "cheapest", "(II)I"⟩, 14), (⟨"CheapProofsModel", "opens", "()Z"⟩, 14), (⟨"CheapProofsModel", "moveAt", "(II)I"⟩, 14), (⟨"CheapProofsModel", "works", "(I)V"⟩, 14), (⟨"CheapProofsModel", "sumOver", "(II)I"⟩, 14), (⟨"CheapProofsModel", "reads", "()I"⟩, 14), (⟨"CheapProofsModel", "readsEntry", "()V"⟩, 14), (⟨"CheapProofsModel", "readsPosition", "()I"⟩, 14), (⟨"CheapProofsModel", "sign", "()I"⟩, 14), (⟨"CheapProofsModel", "tells", "(III)V"⟩, 14), (⟨"CheapProofsModel", "movesTold", "()I"⟩, 14), (⟨"CheapProofsModel", "does", "(III)V"⟩, 14), (⟨"CheapProofsModel", "laysRounds", "()V"⟩, 14)]
theorem lw_r3 : ∀ q ∈ lw_privs_3, lw_okq q := List.forall_mem_cons.mpr ⟨lw_p32, List.forall_mem_cons.mpr ⟨lw_p33, List.forall_mem_cons.mpr ⟨lw_p34, List.forall_mem_cons.mpr ⟨lw_p35, List.forall_mem_cons.mpr ⟨lw_p36, List.forall_mem_cons.mpr ⟨lw_p37, List.forall_mem_cons.mpr ⟨lw_p38, List.forall_mem_cons.mpr ⟨lw_p39, List.forall_mem_cons.mpr ⟨lw_p40, List.forall_mem_cons.mpr ⟨lw_p41, List.forall_mem_cons.mpr ⟨lw_p42, List.forall_mem_cons.mpr ⟨lw_p43, List.forall_mem_cons.mpr ⟨lw_p44, List.forall_mem_cons.mpr ⟨lw_p45, List.forall_mem_cons.mpr ⟨lw_p46, List.forall_mem_cons.mpr ⟨lw_p47, fun _ h => absurd h List.not_mem_nil⟩⟩⟩⟩⟩⟩⟩⟩⟩⟩⟩⟩⟩⟩⟩⟩
theorem lw_p48 : lw_okq (⟨"CheapProofsModel", "isWonNow", "(I)Z"⟩, 14) := ⟨⟨by decide +kernel, by decide +kernel⟩, List.mem_of_getElem? (i := 625) (by decide +kernel), List.mem_of_getElem? (i := 849) (by decide +kernel), List.mem_of_getElem? (i := 850) (by decide +kernel)⟩
theorem lw_p49 : lw_okq (⟨"CheapProofsModel", "depthOf", "(I)I"⟩, 14) := ⟨⟨by decide +kernel, by decide +kernel⟩, List.mem_of_getElem? (i := 625) (by decide +kernel), List.mem_of_getElem? (i := 861) (by decide +kernel), List.mem_of_getElem? (i := 862) (by decide +kernel)⟩
theorem lw_p50 : lw_okq (⟨"CheapProofsModel", "owner", "()I"⟩, 14) := ⟨⟨by decide +kernel, by decide +kernel⟩, List.mem_of_getElem? (i := 625) (by decide +kernel), List.mem_of_getElem? (i := 873) (by decide +kernel), List.mem_of_getElem? (i := 874) (by decide +kernel)⟩
theorem lw_p51 : lw_okq (⟨"CheapProofsModel", "wonMany", "()I"⟩, 14) := ⟨⟨by decide +kernel, by decide +kernel⟩, List.mem_of_getElem? (i := 625) (by decide +kernel), List.mem_of_getElem? (i := 885) (by decide +kernel), List.mem_of_getElem? (i := 886) (by decide +kernel)⟩
theorem lw_p52 : lw_okq (⟨"CheapProofsModel", "ofTree", "(I)I"⟩, 14) := ⟨⟨by decide +kernel, by decide +kernel⟩, List.mem_of_getElem? (i := 625) (by decide +kernel), List.mem_of_getElem? (i := 889) (by decide +kernel), List.mem_of_getElem? (i := 890) (by decide +kernel)⟩
theorem lw_p53 : lw_okq (⟨"CheapProofsModel", "loops", "()I"⟩, 14) := ⟨⟨by decide +kernel, by decide +kernel⟩, List.mem_of_getElem? (i := 625) (by decide +kernel), List.mem_of_getElem? (i := 893) (by decide +kernel), List.mem_of_getElem? (i := 894) (by decide +kernel)⟩
theorem lw_p54 : lw_okq (⟨"CheapProofsModel", "deepest", "()I"⟩, 14) := ⟨⟨by decide +kernel, by decide +kernel⟩, List.mem_of_getElem? (i := 625) (by decide +kernel), List.mem_of_getElem? (i := 897) (by decide +kernel), List.mem_of_getElem? (i := 898) (by decide +kernel)⟩
def lw_privs_4 : List (MethodName × Nat) := [(⟨"CheapProofsModel", "isWonNow", "(I)Z"⟩, 14), (⟨"CheapProofsModel", "depthOf", "(I)I"⟩, 14), (⟨"CheapProofsModel", "owner", "()I"⟩, 14), (⟨"CheapProofsModel", "wonMany", "()I"⟩, 14), (⟨"CheapProofsModel", "ofTree", "(I)I"⟩, 14), (⟨"CheapProofsModel", "loops", "()I"⟩, 14), (⟨"CheapProofsModel", "deepest", "()I"⟩, 14)]
theorem lw_r4 : ∀ q ∈ lw_privs_4, lw_okq q := List.forall_mem_cons.mpr ⟨lw_p48, List.forall_mem_cons.mpr ⟨lw_p49, List.forall_mem_cons.mpr ⟨lw_p50, List.forall_mem_cons.mpr ⟨lw_p51, List.forall_mem_cons.mpr ⟨lw_p52, List.forall_mem_cons.mpr ⟨lw_p53, List.forall_mem_cons.mpr ⟨lw_p54, fun _ h => absurd h List.not_mem_nil⟩⟩⟩⟩⟩⟩⟩
def lw_privs : List (MethodName × Nat) := lw_privs_1 ++ (lw_privs_2 ++ (lw_privs_3 ++ (lw_privs_4)))
def lw_tbl : List Cond := k2_sels lw_privs ++ tables_1
theorem lw_privs_ok : ∀ q ∈ lw_privs, lw_okq q := by
  show ∀ q ∈ lw_privs_1 ++ (lw_privs_2 ++ (lw_privs_3 ++ (lw_privs_4))), lw_okq q
  exact List.forall_mem_append.mpr ⟨lw_r1, List.forall_mem_append.mpr ⟨lw_r2, List.forall_mem_append.mpr ⟨lw_r3, lw_r4⟩⟩⟩
-- ===== end of PART A; then your names; then what follows =====
end
section
def RX0 : String := "CheapProofs$Game"
def TX0 : u_T := fun k => match k with
  | 0 => ("CheapProofs$Game", "turns", "LCheapProofs$Row;", true)
  | 1 => ("CheapProofs$Game", "marks", "LCheapProofs$Row;", true)
  | 2 => ("CheapProofs$Game", "proveGuesses", "LCheapProofs$Row;", true)
  | 3 => ("CheapProofs$Game", "disproveGuesses", "LCheapProofs$Row;", true)
  | 4 => ("CheapProofs$Game", "moveCounts", "LCheapProofs$Row;", true)
  | 5 => ("CheapProofs$Game", "targets", "LCheapProofs$Row;", true)
  | _ => ("CheapProofs$Game", "moves", "I", false)
def tyX0 : Nat → FieldType := fun k => match k with
  | 0 => .object "CheapProofs$Row"
  | 1 => .object "CheapProofs$Row"
  | 2 => .object "CheapProofs$Row"
  | 3 => .object "CheapProofs$Row"
  | 4 => .object "CheapProofs$Row"
  | 5 => .object "CheapProofs$Row"
  | _ => .int
abbrev wsX00 : List Cond := u_ws RX0 TX0 7
theorem nmX0 : ∀ a, a < 7 → ∀ b, b < 7 → a ≠ b → (TX0 a).2.1 ≠ (TX0 b).2.1 := by decide +kernel
theorem tyX0_ok : ∀ k, k < 7 → parseFieldDescriptor (TX0 k).2.2.1 = some (tyX0 k) := by decide +kernel
abbrev cX0_init : ByteArray := prog_2_method_1_code
def yX0_init : MethodName := ⟨RX0, "<init>", "()V"⟩
abbrev cX0_copyFrom : ByteArray := prog_2_method_2_code
def yX0_copyFrom : MethodName := ⟨RX0, "copyFrom", "(LCheapProofs$Game;)V"⟩
abbrev cX0_copyAllButGuesses : ByteArray := prog_2_method_3_code
def yX0_copyAllButGuesses : MethodName := ⟨RX0, "copyAllButGuesses", "(LCheapProofs$Game;)V"⟩
abbrev cX0_clearAllButGuesses : ByteArray := prog_2_method_4_code
def yX0_clearAllButGuesses : MethodName := ⟨RX0, "clearAllButGuesses", "()V"⟩
abbrev cX0_isEnd : ByteArray := prog_2_method_5_code
def yX0_isEnd : MethodName := ⟨RX0, "isEnd", "(I)Z"⟩
abbrev cX0_isWonEnd : ByteArray := prog_2_method_6_code
def yX0_isWonEnd : MethodName := ⟨RX0, "isWonEnd", "(I)Z"⟩
abbrev cX0_targetOf : ByteArray := prog_2_method_7_code
def yX0_targetOf : MethodName := ⟨RX0, "targetOf", "(II)I"⟩
abbrev cX0_rankOf : ByteArray := prog_2_method_8_code
def yX0_rankOf : MethodName := ⟨RX0, "rankOf", "(II)I"⟩
abbrev cX0_append : ByteArray := prog_2_method_9_code
def yX0_append : MethodName := ⟨RX0, "append", "(II)V"⟩
abbrev cX0_removeAt : ByteArray := prog_2_method_10_code
def yX0_removeAt : MethodName := ⟨RX0, "removeAt", "(II)V"⟩
def RX1 : String := "CheapProofs$History"
def TX1 : u_T := fun k => match k with
  | 0 => ("CheapProofs$History", "states", "[LCheapProofs$State;", true)
  | _ => ("CheapProofs$History", "size", "I", false)
def tyX1 : Nat → FieldType := fun k => match k with
  | 0 => .array (.object "CheapProofs$State")
  | _ => .int
abbrev wsX10 : List Cond := u_ws RX1 TX1 2
theorem nmX1 : ∀ a, a < 2 → ∀ b, b < 2 → a ≠ b → (TX1 a).2.1 ≠ (TX1 b).2.1 := by decide +kernel
theorem tyX1_ok : ∀ k, k < 2 → parseFieldDescriptor (TX1 k).2.2.1 = some (tyX1 k) := by decide +kernel
abbrev cX1_init : ByteArray := prog_3_method_1_code
def yX1_init : MethodName := ⟨RX1, "<init>", "()V"⟩
abbrev cX1_remember : ByteArray := prog_3_method_2_code
def yX1_remember : MethodName := ⟨RX1, "remember", "(LCheapProofs$State;)V"⟩
abbrev cX1_takeLatest : ByteArray := prog_3_method_3_code
def yX1_takeLatest : MethodName := ⟨RX1, "takeLatest", "(LCheapProofs$State;)V"⟩
abbrev cX1_stateAt : ByteArray := prog_3_method_4_code
def yX1_stateAt : MethodName := ⟨RX1, "stateAt", "(I)LCheapProofs$State;"⟩
abbrev cX1_copy : ByteArray := prog_3_method_5_code
def yX1_copy : MethodName := ⟨RX1, "copy", "(LCheapProofs$State;LCheapProofs$State;)V"⟩
abbrev cX1_dropOldest : ByteArray := prog_3_method_6_code
def yX1_dropOldest : MethodName := ⟨RX1, "dropOldest", "()V"⟩
def RX2 : String := "CheapProofs$Proof"
def TX2 : u_T := fun k => match k with
  | _ => ("CheapProofs$Proof", "members", "LCheapProofs$Row;", true)
def tyX2 : Nat → FieldType := fun k => match k with
  | _ => .object "CheapProofs$Row"
abbrev wsX20 : List Cond := u_ws RX2 TX2 1
theorem nmX2 : ∀ a, a < 1 → ∀ b, b < 1 → a ≠ b → (TX2 a).2.1 ≠ (TX2 b).2.1 := by decide +kernel
theorem tyX2_ok : ∀ k, k < 1 → parseFieldDescriptor (TX2 k).2.2.1 = some (tyX2 k) := by decide +kernel
abbrev cX2_init : ByteArray := prog_4_method_1_code
def yX2_init : MethodName := ⟨RX2, "<init>", "()V"⟩
abbrev cX2_winnerOf : ByteArray := prog_4_method_2_code
def yX2_winnerOf : MethodName := ⟨RX2, "winnerOf", "(LCheapProofs$Tree;)I"⟩
abbrev cX2_endOf : ByteArray := prog_4_method_3_code
def yX2_endOf : MethodName := ⟨RX2, "endOf", "(LCheapProofs$Tree;I)I"⟩
abbrev cX2_sizeOf : ByteArray := prog_4_method_4_code
def yX2_sizeOf : MethodName := ⟨RX2, "sizeOf", "(LCheapProofs$Tree;)I"⟩
abbrev cX2_takeChildren : ByteArray := prog_4_method_5_code
def yX2_takeChildren : MethodName := ⟨RX2, "takeChildren", "(LCheapProofs$Tree;II)V"⟩
def RX3 : String := "CheapProofs$Reader"
def TX3 : u_T := fun k => match k with
  | 0 => ("CheapProofs$Reader", "text", "LCheapProofs$Text;", true)
  | 1 => ("CheapProofs$Reader", "draft", "LCheapProofs$Game;", true)
  | _ => ("CheapProofs$Reader", "at", "I", false)
def tyX3 : Nat → FieldType := fun k => match k with
  | 0 => .object "CheapProofs$Text"
  | 1 => .object "CheapProofs$Game"
  | _ => .int
abbrev wsX30 : List Cond := u_ws RX3 TX3 3
theorem nmX3 : ∀ a, a < 3 → ∀ b, b < 3 → a ≠ b → (TX3 a).2.1 ≠ (TX3 b).2.1 := by decide +kernel
theorem tyX3_ok : ∀ k, k < 3 → parseFieldDescriptor (TX3 k).2.2.1 = some (tyX3 k) := by decide +kernel
abbrev cX3_init : ByteArray := prog_5_method_1_code
def yX3_init : MethodName := ⟨RX3, "<init>", "(LCheapProofs$Text;)V"⟩
abbrev cX3_readText : ByteArray := prog_5_method_2_code
def yX3_readText : MethodName := ⟨RX3, "readText", "()I"⟩
abbrev cX3_readEntry : ByteArray := prog_5_method_3_code
def yX3_readEntry : MethodName := ⟨RX3, "readEntry", "()Z"⟩
abbrev cX3_readTargets : ByteArray := prog_5_method_4_code
def yX3_readTargets : MethodName := ⟨RX3, "readTargets", "(I)Z"⟩
abbrev cX3_readPosition : ByteArray := prog_5_method_5_code
def yX3_readPosition : MethodName := ⟨RX3, "readPosition", "()I"⟩
abbrev cX3_digit : ByteArray := prog_5_method_6_code
def yX3_digit : MethodName := ⟨RX3, "digit", "()I"⟩
abbrev cX3_skip : ByteArray := prog_5_method_7_code
def yX3_skip : MethodName := ⟨RX3, "skip", "(C)Z"⟩
def RX4 : String := "CheapProofs$Rounds"
def TX4 : u_T := fun k => match k with
  | _ => ("CheapProofs$Rounds", "wonIn", "LCheapProofs$Row;", true)
def tyX4 : Nat → FieldType := fun k => match k with
  | _ => .object "CheapProofs$Row"
abbrev wsX40 : List Cond := u_ws RX4 TX4 1
theorem nmX4 : ∀ a, a < 1 → ∀ b, b < 1 → a ≠ b → (TX4 a).2.1 ≠ (TX4 b).2.1 := by decide +kernel
theorem tyX4_ok : ∀ k, k < 1 → parseFieldDescriptor (TX4 k).2.2.1 = some (tyX4 k) := by decide +kernel
abbrev cX4_init : ByteArray := prog_6_method_1_code
def yX4_init : MethodName := ⟨RX4, "<init>", "()V"⟩
abbrev cX4_workOut : ByteArray := prog_6_method_2_code
def yX4_workOut : MethodName := ⟨RX4, "workOut", "(LCheapProofs$Game;)V"⟩
abbrev cX4_playRound : ByteArray := prog_6_method_3_code
def yX4_playRound : MethodName := ⟨RX4, "playRound", "(LCheapProofs$Game;I)V"⟩
abbrev cX4_isWonBy : ByteArray := prog_6_method_4_code
def yX4_isWonBy : MethodName := ⟨RX4, "isWonBy", "(LCheapProofs$Game;II)Z"⟩
abbrev cX4_isWon : ByteArray := prog_6_method_5_code
def yX4_isWon : MethodName := ⟨RX4, "isWon", "(I)Z"⟩
abbrev cX4_roundOf : ByteArray := prog_6_method_6_code
def yX4_roundOf : MethodName := ⟨RX4, "roundOf", "(I)I"⟩
abbrev cX4_wonPositions : ByteArray := prog_6_method_7_code
def yX4_wonPositions : MethodName := ⟨RX4, "wonPositions", "()I"⟩
def RX5 : String := "CheapProofs$Row"
def TX5 : u_T := fun k => match k with
  | _ => ("CheapProofs$Row", "cells", "[I", true)
def tyX5 : Nat → FieldType := fun k => match k with
  | _ => .array .int
abbrev wsX50 : List Cond := u_ws RX5 TX5 1
theorem nmX5 : ∀ a, a < 1 → ∀ b, b < 1 → a ≠ b → (TX5 a).2.1 ≠ (TX5 b).2.1 := by decide +kernel
theorem tyX5_ok : ∀ k, k < 1 → parseFieldDescriptor (TX5 k).2.2.1 = some (tyX5 k) := by decide +kernel
abbrev cX5_init : ByteArray := prog_7_method_1_code
def yX5_init : MethodName := ⟨RX5, "<init>", "(I)V"⟩
abbrev cX5_get : ByteArray := prog_7_method_2_code
def yX5_get : MethodName := ⟨RX5, "get", "(I)I"⟩
abbrev cX5_set : ByteArray := prog_7_method_3_code
def yX5_set : MethodName := ⟨RX5, "set", "(II)V"⟩
abbrev cX5_fill : ByteArray := prog_7_method_4_code
def yX5_fill : MethodName := ⟨RX5, "fill", "(I)V"⟩
abbrev cX5_copyFrom : ByteArray := prog_7_method_5_code
def yX5_copyFrom : MethodName := ⟨RX5, "copyFrom", "(LCheapProofs$Row;)V"⟩
def RX6 : String := "CheapProofs$State"
def TX6 : u_T := fun k => match k with
  | 0 => ("CheapProofs$State", "game", "LCheapProofs$Game;", true)
  | _ => ("CheapProofs$State", "tree", "LCheapProofs$Tree;", true)
def tyX6 : Nat → FieldType := fun k => match k with
  | 0 => .object "CheapProofs$Game"
  | _ => .object "CheapProofs$Tree"
abbrev wsX60 : List Cond := u_ws RX6 TX6 2
theorem nmX6 : ∀ a, a < 2 → ∀ b, b < 2 → a ≠ b → (TX6 a).2.1 ≠ (TX6 b).2.1 := by decide +kernel
theorem tyX6_ok : ∀ k, k < 2 → parseFieldDescriptor (TX6 k).2.2.1 = some (tyX6 k) := by decide +kernel
abbrev cX6_init : ByteArray := prog_8_method_1_code
def yX6_init : MethodName := ⟨RX6, "<init>", "()V"⟩
abbrev cX6_copyFrom : ByteArray := prog_8_method_2_code
def yX6_copyFrom : MethodName := ⟨RX6, "copyFrom", "(LCheapProofs$State;)V"⟩
def RX7 : String := "CheapProofs$Text"
def TX7 : u_T := fun k => match k with
  | 0 => ("CheapProofs$Text", "signs", "[C", true)
  | _ => ("CheapProofs$Text", "length", "I", false)
def tyX7 : Nat → FieldType := fun k => match k with
  | 0 => .array .char
  | _ => .int
abbrev wsX70 : List Cond := u_ws RX7 TX7 2
theorem nmX7 : ∀ a, a < 2 → ∀ b, b < 2 → a ≠ b → (TX7 a).2.1 ≠ (TX7 b).2.1 := by decide +kernel
theorem tyX7_ok : ∀ k, k < 2 → parseFieldDescriptor (TX7 k).2.2.1 = some (tyX7 k) := by decide +kernel
abbrev cX7_init : ByteArray := prog_9_method_1_code
def yX7_init : MethodName := ⟨RX7, "<init>", "()V"⟩
abbrev cX7_isFull : ByteArray := prog_9_method_2_code
def yX7_isFull : MethodName := ⟨RX7, "isFull", "()Z"⟩
abbrev cX7_append : ByteArray := prog_9_method_3_code
def yX7_append : MethodName := ⟨RX7, "append", "(C)V"⟩
abbrev cX7_clear : ByteArray := prog_9_method_4_code
def yX7_clear : MethodName := ⟨RX7, "clear", "()V"⟩
abbrev cX7_signAt : ByteArray := prog_9_method_5_code
def yX7_signAt : MethodName := ⟨RX7, "signAt", "(I)I"⟩
def RX8 : String := "CheapProofs$Tree"
def TX8 : u_T := fun k => match k with
  | 0 => ("CheapProofs$Tree", "game", "LCheapProofs$Game;", true)
  | 1 => ("CheapProofs$Tree", "positions", "LCheapProofs$Row;", true)
  | 2 => ("CheapProofs$Tree", "parents", "LCheapProofs$Row;", true)
  | 3 => ("CheapProofs$Tree", "depths", "LCheapProofs$Row;", true)
  | 4 => ("CheapProofs$Tree", "proves", "LCheapProofs$Row;", true)
  | 5 => ("CheapProofs$Tree", "disproves", "LCheapProofs$Row;", true)
  | 6 => ("CheapProofs$Tree", "childCounts", "LCheapProofs$Row;", true)
  | 7 => ("CheapProofs$Tree", "firstChildren", "LCheapProofs$Row;", true)
  | 8 => ("CheapProofs$Tree", "loops", "LCheapProofs$Row;", true)
  | _ => ("CheapProofs$Tree", "size", "I", false)
def tyX8 : Nat → FieldType := fun k => match k with
  | 0 => .object "CheapProofs$Game"
  | 1 => .object "CheapProofs$Row"
  | 2 => .object "CheapProofs$Row"
  | 3 => .object "CheapProofs$Row"
  | 4 => .object "CheapProofs$Row"
  | 5 => .object "CheapProofs$Row"
  | 6 => .object "CheapProofs$Row"
  | 7 => .object "CheapProofs$Row"
  | 8 => .object "CheapProofs$Row"
  | _ => .int
abbrev wsX80 : List Cond := u_ws RX8 TX8 10
theorem nmX8 : ∀ a, a < 10 → ∀ b, b < 10 → a ≠ b → (TX8 a).2.1 ≠ (TX8 b).2.1 := by decide +kernel
theorem tyX8_ok : ∀ k, k < 10 → parseFieldDescriptor (TX8 k).2.2.1 = some (tyX8 k) := by decide +kernel
abbrev cX8_init : ByteArray := prog_10_method_1_code
def yX8_init : MethodName := ⟨RX8, "<init>", "(LCheapProofs$Game;)V"⟩
abbrev cX8_copyFrom : ByteArray := prog_10_method_2_code
def yX8_copyFrom : MethodName := ⟨RX8, "copyFrom", "(LCheapProofs$Tree;)V"⟩
abbrev cX8_clear : ByteArray := prog_10_method_3_code
def yX8_clear : MethodName := ⟨RX8, "clear", "()V"⟩
abbrev cX8_isEmpty : ByteArray := prog_10_method_4_code
def yX8_isEmpty : MethodName := ⟨RX8, "isEmpty", "()Z"⟩
abbrev cX8_has : ByteArray := prog_10_method_5_code
def yX8_has : MethodName := ⟨RX8, "has", "(I)Z"⟩
abbrev cX8_isLeaf : ByteArray := prog_10_method_6_code
def yX8_isLeaf : MethodName := ⟨RX8, "isLeaf", "(I)Z"⟩
abbrev cX8_endOfChildren : ByteArray := prog_10_method_7_code
def yX8_endOfChildren : MethodName := ⟨RX8, "endOfChildren", "(I)I"⟩
abbrev cX8_turnAt : ByteArray := prog_10_method_8_code
def yX8_turnAt : MethodName := ⟨RX8, "turnAt", "(I)I"⟩
abbrev cX8_outcome : ByteArray := prog_10_method_9_code
def yX8_outcome : MethodName := ⟨RX8, "outcome", "()I"⟩
abbrev cX8_plant : ByteArray := prog_10_method_10_code
def yX8_plant : MethodName := ⟨RX8, "plant", "(I)V"⟩
abbrev cX8_addLeaf : ByteArray := prog_10_method_11_code
def yX8_addLeaf : MethodName := ⟨RX8, "addLeaf", "(II)V"⟩
abbrev cX8_setLeafCosts : ByteArray := prog_10_method_12_code
def yX8_setLeafCosts : MethodName := ⟨RX8, "setLeafCosts", "(III)V"⟩
abbrev cX8_setCosts : ByteArray := prog_10_method_13_code
def yX8_setCosts : MethodName := ⟨RX8, "setCosts", "(III)V"⟩
abbrev cX8_isOnWayTo : ByteArray := prog_10_method_14_code
def yX8_isOnWayTo : MethodName := ⟨RX8, "isOnWayTo", "(II)Z"⟩
abbrev cX8_cheapestChild : ByteArray := prog_10_method_15_code
def yX8_cheapestChild : MethodName := ⟨RX8, "cheapestChild", "(I)I"⟩
abbrev cX8_leafOnWay : ByteArray := prog_10_method_16_code
def yX8_leafOnWay : MethodName := ⟨RX8, "leafOnWay", "()I"⟩
abbrev cX8_nodeOnWay : ByteArray := prog_10_method_17_code
def yX8_nodeOnWay : MethodName := ⟨RX8, "nodeOnWay", "(I)I"⟩
abbrev cX8_canGrow : ByteArray := prog_10_method_18_code
def yX8_canGrow : MethodName := ⟨RX8, "canGrow", "()Z"⟩
abbrev cX8_grow : ByteArray := prog_10_method_19_code
def yX8_grow : MethodName := ⟨RX8, "grow", "()V"⟩
abbrev cX8_workOutFrom : ByteArray := prog_10_method_20_code
def yX8_workOutFrom : MethodName := ⟨RX8, "workOutFrom", "(I)V"⟩
abbrev cX8_workOut : ByteArray := prog_10_method_21_code
def yX8_workOut : MethodName := ⟨RX8, "workOut", "(I)V"⟩
abbrev cX8_leastOfChildren : ByteArray := prog_10_method_22_code
def yX8_leastOfChildren : MethodName := ⟨RX8, "leastOfChildren", "(ILCheapProofs$Row;)I"⟩
abbrev cX8_sumOfChildren : ByteArray := prog_10_method_23_code
def yX8_sumOfChildren : MethodName := ⟨RX8, "sumOfChildren", "(ILCheapProofs$Row;)I"⟩
abbrev cX8_loopCount : ByteArray := prog_10_method_24_code
def yX8_loopCount : MethodName := ⟨RX8, "loopCount", "()I"⟩
abbrev cX8_openedCount : ByteArray := prog_10_method_25_code
def yX8_openedCount : MethodName := ⟨RX8, "openedCount", "()I"⟩
abbrev cX8_greatestDepth : ByteArray := prog_10_method_26_code
def yX8_greatestDepth : MethodName := ⟨RX8, "greatestDepth", "()I"⟩
def RX9 : String := "CheapProofs"
def TX9 : u_T := fun k => match k with
  | 0 => ("CheapProofs", "now", "LCheapProofs$State;", true)
  | 1 => ("CheapProofs", "snapshot", "LCheapProofs$State;", true)
  | 2 => ("CheapProofs", "hasSnapshot", "Z", false)
  | 3 => ("CheapProofs", "history", "LCheapProofs$History;", true)
  | 4 => ("CheapProofs", "text", "LCheapProofs$Text;", true)
  | 5 => ("CheapProofs", "reader", "LCheapProofs$Reader;", true)
  | 6 => ("CheapProofs", "rounds", "LCheapProofs$Rounds;", true)
  | _ => ("CheapProofs", "proof", "LCheapProofs$Proof;", true)
def tyX9 : Nat → FieldType := fun k => match k with
  | 0 => .object "CheapProofs$State"
  | 1 => .object "CheapProofs$State"
  | 2 => .boolean
  | 3 => .object "CheapProofs$History"
  | 4 => .object "CheapProofs$Text"
  | 5 => .object "CheapProofs$Reader"
  | 6 => .object "CheapProofs$Rounds"
  | _ => .object "CheapProofs$Proof"
abbrev wsX90 : List Cond := u_ws RX9 TX9 8
theorem nmX9 : ∀ a, a < 8 → ∀ b, b < 8 → a ≠ b → (TX9 a).2.1 ≠ (TX9 b).2.1 := by decide +kernel
theorem tyX9_ok : ∀ k, k < 8 → parseFieldDescriptor (TX9 k).2.2.1 = some (tyX9 k) := by decide +kernel
abbrev cX9_init : ByteArray := prog_1_method_1_code
def yX9_init : MethodName := ⟨RX9, "<init>", "()V"⟩
abbrev cX9_setPosition : ByteArray := prog_1_method_2_code
def yX9_setPosition : MethodName := ⟨RX9, "setPosition", "(III)I"⟩
abbrev cX9_guess : ByteArray := prog_1_method_3_code
def yX9_guess : MethodName := ⟨RX9, "guess", "(III)I"⟩
abbrev cX9_addMove : ByteArray := prog_1_method_4_code
def yX9_addMove : MethodName := ⟨RX9, "addMove", "(II)I"⟩
abbrev cX9_removeMove : ByteArray := prog_1_method_5_code
def yX9_removeMove : MethodName := ⟨RX9, "removeMove", "(II)I"⟩
abbrev cX9_readGame : ByteArray := prog_1_method_6_code
def yX9_readGame : MethodName := ⟨RX9, "readGame", "()I"⟩
abbrev cX9_begin : ByteArray := prog_1_method_7_code
def yX9_begin : MethodName := ⟨RX9, "begin", "(I)I"⟩
abbrev cX9_open : ByteArray := prog_1_method_8_code
def yX9_open : MethodName := ⟨RX9, "open", "(I)I"⟩
abbrev cX9_type : ByteArray := prog_1_method_9_code
def yX9_type : MethodName := ⟨RX9, "type", "(C)I"⟩
abbrev cX9_clearText : ByteArray := prog_1_method_10_code
def yX9_clearText : MethodName := ⟨RX9, "clearText", "()I"⟩
abbrev cX9_undo : ByteArray := prog_1_method_11_code
def yX9_undo : MethodName := ⟨RX9, "undo", "()I"⟩
abbrev cX9_keep : ByteArray := prog_1_method_12_code
def yX9_keep : MethodName := ⟨RX9, "keep", "()I"⟩
abbrev cX9_restore : ByteArray := prog_1_method_13_code
def yX9_restore : MethodName := ⟨RX9, "restore", "()I"⟩
abbrev cX9_position : ByteArray := prog_1_method_14_code
def yX9_position : MethodName := ⟨RX9, "position", "(II)I"⟩
abbrev cX9_move : ByteArray := prog_1_method_15_code
def yX9_move : MethodName := ⟨RX9, "move", "(II)I"⟩
abbrev cX9_node : ByteArray := prog_1_method_16_code
def yX9_node : MethodName := ⟨RX9, "node", "(II)I"⟩
abbrev cX9_way : ByteArray := prog_1_method_17_code
def yX9_way : MethodName := ⟨RX9, "way", "(I)I"⟩
abbrev cX9_playOut : ByteArray := prog_1_method_18_code
def yX9_playOut : MethodName := ⟨RX9, "playOut", "(II)I"⟩
abbrev cX9_proofSize : ByteArray := prog_1_method_19_code
def yX9_proofSize : MethodName := ⟨RX9, "proofSize", "()I"⟩
abbrev cX9_count : ByteArray := prog_1_method_20_code
def yX9_count : MethodName := ⟨RX9, "count", "(I)I"⟩
abbrev cX9_tellTree : ByteArray := prog_1_method_21_code
def yX9_tellTree : MethodName := ⟨RX9, "tellTree", "(LCheapProofs$Tree;I)I"⟩
abbrev cX9_isPosition : ByteArray := prog_1_method_22_code
def yX9_isPosition : MethodName := ⟨RX9, "isPosition", "(I)Z"⟩
abbrev cX9_isGuess : ByteArray := prog_1_method_23_code
def yX9_isGuess : MethodName := ⟨RX9, "isGuess", "(I)Z"⟩
def RX10 : String := "CheapProofsModel"
def TX10 : u_T := fun k => match k with
  | 0 => ("CheapProofsModel", "thrown", "I", false)
  | 1 => ("CheapProofsModel", "s", "[I", true)
  | 2 => ("CheapProofsModel", "saved", "[I", true)
  | 3 => ("CheapProofsModel", "savedMany", "I", false)
  | 4 => ("CheapProofsModel", "snapshot", "[I", true)
  | 5 => ("CheapProofsModel", "hasSnapshot", "Z", false)
  | 6 => ("CheapProofsModel", "text", "[I", true)
  | 7 => ("CheapProofsModel", "length", "I", false)
  | 8 => ("CheapProofsModel", "rounds", "[I", true)
  | 9 => ("CheapProofsModel", "isIn", "[Z", true)
  | 10 => ("CheapProofsModel", "at", "I", false)
  | 11 => ("CheapProofsModel", "isWell", "Z", false)
  | 12 => ("CheapProofsModel", "entries", "[I", true)
  | _ => ("CheapProofsModel", "entryMany", "I", false)
def tyX10 : Nat → FieldType := fun k => match k with
  | 0 => .int
  | 1 => .array .int
  | 2 => .array .int
  | 3 => .int
  | 4 => .array .int
  | 5 => .boolean
  | 6 => .array .int
  | 7 => .int
  | 8 => .array .int
  | 9 => .array .boolean
  | 10 => .int
  | 11 => .boolean
  | 12 => .array .int
  | _ => .int
abbrev wsX100 : List Cond := u_ws RX10 TX10 14
theorem nmX10 : ∀ a, a < 14 → ∀ b, b < 14 → a ≠ b → (TX10 a).2.1 ≠ (TX10 b).2.1 := by decide +kernel
theorem tyX10_ok : ∀ k, k < 14 → parseFieldDescriptor (TX10 k).2.2.1 = some (tyX10 k) := by decide +kernel
abbrev cX10_init : ByteArray := prog_12_method_1_code
def yX10_init : MethodName := ⟨RX10, "<init>", "()V"⟩
abbrev cX10_in : ByteArray := prog_12_method_3_code
def yX10_in : MethodName := ⟨RX10, "in", "(III)Z"⟩
abbrev cX10_isPosition : ByteArray := prog_12_method_4_code
def yX10_isPosition : MethodName := ⟨RX10, "isPosition", "(I)Z"⟩
abbrev cX10_of : ByteArray := prog_12_method_5_code
def yX10_of : MethodName := ⟨RX10, "of", "(II)I"⟩
abbrev cX10_get : ByteArray := prog_12_method_6_code
def yX10_get : MethodName := ⟨RX10, "get", "(II)I"⟩
abbrev cX10_lay : ByteArray := prog_12_method_7_code
def yX10_lay : MethodName := ⟨RX10, "lay", "(III)V"⟩
abbrev cX10_records : ByteArray := prog_12_method_8_code
def yX10_records : MethodName := ⟨RX10, "records", "()V"⟩
abbrev cX10_movesOf : ByteArray := prog_12_method_9_code
def yX10_movesOf : MethodName := ⟨RX10, "movesOf", "(I)I"⟩
abbrev cX10_moveAt : ByteArray := prog_12_method_10_code
def yX10_moveAt : MethodName := ⟨RX10, "moveAt", "(II)I"⟩
abbrev cX10_placeOf : ByteArray := prog_12_method_11_code
def yX10_placeOf : MethodName := ⟨RX10, "placeOf", "(II)I"⟩
abbrev cX10_isEnd : ByteArray := prog_12_method_12_code
def yX10_isEnd : MethodName := ⟨RX10, "isEnd", "(I)Z"⟩
abbrev cX10_noTree : ByteArray := prog_12_method_13_code
def yX10_noTree : MethodName := ⟨RX10, "noTree", "()V"⟩
abbrev cX10_setPosition : ByteArray := prog_12_method_14_code
def yX10_setPosition : MethodName := ⟨RX10, "setPosition", "(III)I"⟩
abbrev cX10_guess : ByteArray := prog_12_method_15_code
def yX10_guess : MethodName := ⟨RX10, "guess", "(III)I"⟩
abbrev cX10_comes : ByteArray := prog_12_method_16_code
def yX10_comes : MethodName := ⟨RX10, "comes", "(II)V"⟩
abbrev cX10_addMove : ByteArray := prog_12_method_17_code
def yX10_addMove : MethodName := ⟨RX10, "addMove", "(II)I"⟩
abbrev cX10_removeMove : ByteArray := prog_12_method_18_code
def yX10_removeMove : MethodName := ⟨RX10, "removeMove", "(II)I"⟩
abbrev cX10_isWonNow : ByteArray := prog_12_method_19_code
def yX10_isWonNow : MethodName := ⟨RX10, "isWonNow", "(I)Z"⟩
abbrev cX10_laysRounds : ByteArray := prog_12_method_20_code
def yX10_laysRounds : MethodName := ⟨RX10, "laysRounds", "()V"⟩
abbrev cX10_wonMany : ByteArray := prog_12_method_21_code
def yX10_wonMany : MethodName := ⟨RX10, "wonMany", "()I"⟩
abbrev cX10_depthOf : ByteArray := prog_12_method_22_code
def yX10_depthOf : MethodName := ⟨RX10, "depthOf", "(I)I"⟩
abbrev cX10_isOnWay : ByteArray := prog_12_method_23_code
def yX10_isOnWay : MethodName := ⟨RX10, "isOnWay", "(II)Z"⟩
abbrev cX10_makes : ByteArray := prog_12_method_24_code
def yX10_makes : MethodName := ⟨RX10, "makes", "(II)V"⟩
abbrev cX10_isDecided : ByteArray := prog_12_method_25_code
def yX10_isDecided : MethodName := ⟨RX10, "isDecided", "()Z"⟩
abbrev cX10_turnOf : ByteArray := prog_12_method_26_code
def yX10_turnOf : MethodName := ⟨RX10, "turnOf", "(I)I"⟩
abbrev cX10_cheapest : ByteArray := prog_12_method_27_code
def yX10_cheapest : MethodName := ⟨RX10, "cheapest", "(II)I"⟩
abbrev cX10_nextOf : ByteArray := prog_12_method_28_code
def yX10_nextOf : MethodName := ⟨RX10, "nextOf", "(I)I"⟩
abbrev cX10_sumOver : ByteArray := prog_12_method_29_code
def yX10_sumOver : MethodName := ⟨RX10, "sumOver", "(II)I"⟩
abbrev cX10_works : ByteArray := prog_12_method_30_code
def yX10_works : MethodName := ⟨RX10, "works", "(I)V"⟩
abbrev cX10_leaf : ByteArray := prog_12_method_31_code
def yX10_leaf : MethodName := ⟨RX10, "leaf", "()I"⟩
abbrev cX10_opens : ByteArray := prog_12_method_32_code
def yX10_opens : MethodName := ⟨RX10, "opens", "()Z"⟩
abbrev cX10_begin : ByteArray := prog_12_method_33_code
def yX10_begin : MethodName := ⟨RX10, "begin", "(I)I"⟩
abbrev cX10_canOpen : ByteArray := prog_12_method_34_code
def yX10_canOpen : MethodName := ⟨RX10, "canOpen", "()Z"⟩
abbrev cX10_open : ByteArray := prog_12_method_35_code
def yX10_open : MethodName := ⟨RX10, "open", "(I)I"⟩
abbrev cX10_type : ByteArray := prog_12_method_36_code
def yX10_type : MethodName := ⟨RX10, "type", "(C)I"⟩
abbrev cX10_clearText : ByteArray := prog_12_method_37_code
def yX10_clearText : MethodName := ⟨RX10, "clearText", "()I"⟩
abbrev cX10_sign : ByteArray := prog_12_method_38_code
def yX10_sign : MethodName := ⟨RX10, "sign", "()I"⟩
abbrev cX10_readsPosition : ByteArray := prog_12_method_39_code
def yX10_readsPosition : MethodName := ⟨RX10, "readsPosition", "()I"⟩
abbrev cX10_tells : ByteArray := prog_12_method_40_code
def yX10_tells : MethodName := ⟨RX10, "tells", "(III)V"⟩
abbrev cX10_readsEntry : ByteArray := prog_12_method_41_code
def yX10_readsEntry : MethodName := ⟨RX10, "readsEntry", "()V"⟩
abbrev cX10_reads : ByteArray := prog_12_method_42_code
def yX10_reads : MethodName := ⟨RX10, "reads", "()I"⟩
abbrev cX10_movesTold : ByteArray := prog_12_method_43_code
def yX10_movesTold : MethodName := ⟨RX10, "movesTold", "()I"⟩
abbrev cX10_does : ByteArray := prog_12_method_44_code
def yX10_does : MethodName := ⟨RX10, "does", "(III)V"⟩
abbrev cX10_readGame : ByteArray := prog_12_method_45_code
def yX10_readGame : MethodName := ⟨RX10, "readGame", "()I"⟩
abbrev cX10_undo : ByteArray := prog_12_method_46_code
def yX10_undo : MethodName := ⟨RX10, "undo", "()I"⟩
abbrev cX10_keep : ByteArray := prog_12_method_47_code
def yX10_keep : MethodName := ⟨RX10, "keep", "()I"⟩
abbrev cX10_restore : ByteArray := prog_12_method_48_code
def yX10_restore : MethodName := ⟨RX10, "restore", "()I"⟩
abbrev cX10_position : ByteArray := prog_12_method_49_code
def yX10_position : MethodName := ⟨RX10, "position", "(II)I"⟩
abbrev cX10_move : ByteArray := prog_12_method_50_code
def yX10_move : MethodName := ⟨RX10, "move", "(II)I"⟩
abbrev cX10_node : ByteArray := prog_12_method_51_code
def yX10_node : MethodName := ⟨RX10, "node", "(II)I"⟩
abbrev cX10_way : ByteArray := prog_12_method_52_code
def yX10_way : MethodName := ⟨RX10, "way", "(I)I"⟩
abbrev cX10_owner : ByteArray := prog_12_method_53_code
def yX10_owner : MethodName := ⟨RX10, "owner", "()I"⟩
abbrev cX10_playOut : ByteArray := prog_12_method_54_code
def yX10_playOut : MethodName := ⟨RX10, "playOut", "(II)I"⟩
abbrev cX10_proofSize : ByteArray := prog_12_method_55_code
def yX10_proofSize : MethodName := ⟨RX10, "proofSize", "()I"⟩
abbrev cX10_loops : ByteArray := prog_12_method_56_code
def yX10_loops : MethodName := ⟨RX10, "loops", "()I"⟩
abbrev cX10_deepest : ByteArray := prog_12_method_57_code
def yX10_deepest : MethodName := ⟨RX10, "deepest", "()I"⟩
abbrev cX10_ofTree : ByteArray := prog_12_method_58_code
def yX10_ofTree : MethodName := ⟨RX10, "ofTree", "(I)I"⟩
abbrev cX10_count : ByteArray := prog_12_method_59_code
def yX10_count : MethodName := ⟨RX10, "count", "(I)I"⟩
def RJ9 : String := "java/lang/Math"
def TJ9 : u_T := fun k => match k with
  | _ => ("", "", "", false)
def tyJ9 : Nat → FieldType := fun k => match k with
  | _ => .int
abbrev wsJ90 : List Cond := u_ws RJ9 TJ9 0
theorem nmJ9 : ∀ a, a < 0 → ∀ b, b < 0 → a ≠ b → (TJ9 a).2.1 ≠ (TJ9 b).2.1 := by decide +kernel
theorem tyJ9_ok : ∀ k, k < 0 → parseFieldDescriptor (TJ9 k).2.2.1 = some (tyJ9 k) := by decide +kernel
abbrev cJ9_max_7cf53 : ByteArray := prog_13_method_65_code
def yJ9_max_7cf53 : MethodName := ⟨RJ9, "max", "(II)I"⟩
abbrev cJ9_min_7cf53 : ByteArray := prog_13_method_69_code
def yJ9_min_7cf53 : MethodName := ⟨RJ9, "min", "(II)I"⟩
def RJ10 : String := "java/lang/System"
def TJ10 : u_T := fun k => match k with
  | _ => ("", "", "", false)
def tyJ10 : Nat → FieldType := fun k => match k with
  | _ => .int
abbrev wsJ100 : List Cond := u_ws RJ10 TJ10 0
theorem nmJ10 : ∀ a, a < 0 → ∀ b, b < 0 → a ≠ b → (TJ10 a).2.1 ≠ (TJ10 b).2.1 := by decide +kernel
theorem tyJ10_ok : ∀ k, k < 0 → parseFieldDescriptor (TJ10 k).2.2.1 = some (tyJ10 k) := by decide +kernel
def RL : String := "CheapProofsLaw"
abbrev cL_law : ByteArray := code
def yL_law : MethodName := ⟨RL, "law", "([I)Z"⟩
abbrev vwCl : List vw_C := [(RX0, TX0, 7), (RX1, TX1, 2), (RX2, TX2, 1), (RX3, TX3, 3), (RX4, TX4, 1), (RX5, TX5, 1), (RX6, TX6, 2), (RX7, TX7, 2), (RX8, TX8, 10), (RX9, TX9, 8), (RX10, TX10, 14)]
/-! the methods: class, name, bytes, locals, what is returned -/
abbrev MR : Type := String × MethodName × ByteArray × Nat × Option FieldType
def dec (my : MR) (pc : Nat) := decode my.2.2.1 pc
abbrev gw : List Cond := lw_tbl.filter goodWord
theorem gw_of {w : Cond} (i : Nat) (h : lw_tbl[i]? = some w) (hg : goodWord w = true) : w ∈ gw := List.mem_filter.mpr ⟨List.mem_of_getElem? h, hg⟩
def m_Gm_init : MR := (RX0, yX0_init, cX0_init, 1, (Option.none : Option Jvm.ClassFile.FieldType))
def m_Gm_copyFrom : MR := (RX0, yX0_copyFrom, cX0_copyFrom, 2, (Option.none : Option Jvm.ClassFile.FieldType))
def m_Gm_copyAllButGuesses : MR := (RX0, yX0_copyAllButGuesses, cX0_copyAllButGuesses, 2, (Option.none : Option Jvm.ClassFile.FieldType))
def m_Gm_clearAllButGuesses : MR := (RX0, yX0_clearAllButGuesses, cX0_clearAllButGuesses, 1, (Option.none : Option Jvm.ClassFile.FieldType))
def m_Gm_isEnd : MR := (RX0, yX0_isEnd, cX0_isEnd, 2, (Option.some Jvm.ClassFile.FieldType.boolean))
def m_Gm_isWonEnd : MR := (RX0, yX0_isWonEnd, cX0_isWonEnd, 2, (Option.some Jvm.ClassFile.FieldType.boolean))
def m_Gm_targetOf : MR := (RX0, yX0_targetOf, cX0_targetOf, 3, (Option.some Jvm.ClassFile.FieldType.int))
def m_Gm_rankOf : MR := (RX0, yX0_rankOf, cX0_rankOf, 5, (Option.some Jvm.ClassFile.FieldType.int))
def m_Gm_append : MR := (RX0, yX0_append, cX0_append, 4, (Option.none : Option Jvm.ClassFile.FieldType))
def m_Gm_removeAt : MR := (RX0, yX0_removeAt, cX0_removeAt, 5, (Option.none : Option Jvm.ClassFile.FieldType))
def m_Hi_init : MR := (RX1, yX1_init, cX1_init, 2, (Option.none : Option Jvm.ClassFile.FieldType))
def m_Hi_remember : MR := (RX1, yX1_remember, cX1_remember, 2, (Option.none : Option Jvm.ClassFile.FieldType))
def m_Hi_takeLatest : MR := (RX1, yX1_takeLatest, cX1_takeLatest, 2, (Option.none : Option Jvm.ClassFile.FieldType))
def m_Hi_stateAt : MR := (RX1, yX1_stateAt, cX1_stateAt, 2, (Option.some (Jvm.ClassFile.FieldType.object "CheapProofs$State")))
def m_Hi_copy : MR := (RX1, yX1_copy, cX1_copy, 2, (Option.none : Option Jvm.ClassFile.FieldType))
def m_Hi_dropOldest : MR := (RX1, yX1_dropOldest, cX1_dropOldest, 3, (Option.none : Option Jvm.ClassFile.FieldType))
def m_Pf_init : MR := (RX2, yX2_init, cX2_init, 1, (Option.none : Option Jvm.ClassFile.FieldType))
def m_Pf_winnerOf : MR := (RX2, yX2_winnerOf, cX2_winnerOf, 1, (Option.some Jvm.ClassFile.FieldType.int))
def m_Pf_endOf : MR := (RX2, yX2_endOf, cX2_endOf, 8, (Option.some Jvm.ClassFile.FieldType.int))
def m_Pf_sizeOf : MR := (RX2, yX2_sizeOf, cX2_sizeOf, 5, (Option.some Jvm.ClassFile.FieldType.int))
def m_Pf_takeChildren : MR := (RX2, yX2_takeChildren, cX2_takeChildren, 6, (Option.none : Option Jvm.ClassFile.FieldType))
def m_Rd_init : MR := (RX3, yX3_init, cX3_init, 2, (Option.none : Option Jvm.ClassFile.FieldType))
def m_Rd_readText : MR := (RX3, yX3_readText, cX3_readText, 2, (Option.some Jvm.ClassFile.FieldType.int))
def m_Rd_readEntry : MR := (RX3, yX3_readEntry, cX3_readEntry, 2, (Option.some Jvm.ClassFile.FieldType.boolean))
def m_Rd_readTargets : MR := (RX3, yX3_readTargets, cX3_readTargets, 4, (Option.some Jvm.ClassFile.FieldType.boolean))
def m_Rd_readPosition : MR := (RX3, yX3_readPosition, cX3_readPosition, 3, (Option.some Jvm.ClassFile.FieldType.int))
def m_Rd_digit : MR := (RX3, yX3_digit, cX3_digit, 2, (Option.some Jvm.ClassFile.FieldType.int))
def m_Rd_skip : MR := (RX3, yX3_skip, cX3_skip, 2, (Option.some Jvm.ClassFile.FieldType.boolean))
def m_Ro_init : MR := (RX4, yX4_init, cX4_init, 1, (Option.none : Option Jvm.ClassFile.FieldType))
def m_Ro_workOut : MR := (RX4, yX4_workOut, cX4_workOut, 3, (Option.none : Option Jvm.ClassFile.FieldType))
def m_Ro_playRound : MR := (RX4, yX4_playRound, cX4_playRound, 4, (Option.none : Option Jvm.ClassFile.FieldType))
def m_Ro_isWonBy : MR := (RX4, yX4_isWonBy, cX4_isWonBy, 8, (Option.some Jvm.ClassFile.FieldType.boolean))
def m_Ro_isWon : MR := (RX4, yX4_isWon, cX4_isWon, 2, (Option.some Jvm.ClassFile.FieldType.boolean))
def m_Ro_roundOf : MR := (RX4, yX4_roundOf, cX4_roundOf, 2, (Option.some Jvm.ClassFile.FieldType.int))
def m_Ro_wonPositions : MR := (RX4, yX4_wonPositions, cX4_wonPositions, 3, (Option.some Jvm.ClassFile.FieldType.int))
def m_Rw_init : MR := (RX5, yX5_init, cX5_init, 2, (Option.none : Option Jvm.ClassFile.FieldType))
def m_Rw_get : MR := (RX5, yX5_get, cX5_get, 2, (Option.some Jvm.ClassFile.FieldType.int))
def m_Rw_set : MR := (RX5, yX5_set, cX5_set, 3, (Option.none : Option Jvm.ClassFile.FieldType))
def m_Rw_fill : MR := (RX5, yX5_fill, cX5_fill, 3, (Option.none : Option Jvm.ClassFile.FieldType))
def m_Rw_copyFrom : MR := (RX5, yX5_copyFrom, cX5_copyFrom, 2, (Option.none : Option Jvm.ClassFile.FieldType))
def m_St_init : MR := (RX6, yX6_init, cX6_init, 1, (Option.none : Option Jvm.ClassFile.FieldType))
def m_St_copyFrom : MR := (RX6, yX6_copyFrom, cX6_copyFrom, 2, (Option.none : Option Jvm.ClassFile.FieldType))
def m_Tx_init : MR := (RX7, yX7_init, cX7_init, 1, (Option.none : Option Jvm.ClassFile.FieldType))
def m_Tx_isFull : MR := (RX7, yX7_isFull, cX7_isFull, 1, (Option.some Jvm.ClassFile.FieldType.boolean))
def m_Tx_append : MR := (RX7, yX7_append, cX7_append, 2, (Option.none : Option Jvm.ClassFile.FieldType))
def m_Tx_clear : MR := (RX7, yX7_clear, cX7_clear, 1, (Option.none : Option Jvm.ClassFile.FieldType))
def m_Tx_signAt : MR := (RX7, yX7_signAt, cX7_signAt, 2, (Option.some Jvm.ClassFile.FieldType.int))
def m_Tr_init : MR := (RX8, yX8_init, cX8_init, 2, (Option.none : Option Jvm.ClassFile.FieldType))
def m_Tr_copyFrom : MR := (RX8, yX8_copyFrom, cX8_copyFrom, 2, (Option.none : Option Jvm.ClassFile.FieldType))
def m_Tr_clear : MR := (RX8, yX8_clear, cX8_clear, 1, (Option.none : Option Jvm.ClassFile.FieldType))
def m_Tr_isEmpty : MR := (RX8, yX8_isEmpty, cX8_isEmpty, 1, (Option.some Jvm.ClassFile.FieldType.boolean))
def m_Tr_has : MR := (RX8, yX8_has, cX8_has, 2, (Option.some Jvm.ClassFile.FieldType.boolean))
def m_Tr_isLeaf : MR := (RX8, yX8_isLeaf, cX8_isLeaf, 2, (Option.some Jvm.ClassFile.FieldType.boolean))
def m_Tr_endOfChildren : MR := (RX8, yX8_endOfChildren, cX8_endOfChildren, 2, (Option.some Jvm.ClassFile.FieldType.int))
def m_Tr_turnAt : MR := (RX8, yX8_turnAt, cX8_turnAt, 2, (Option.some Jvm.ClassFile.FieldType.int))
def m_Tr_outcome : MR := (RX8, yX8_outcome, cX8_outcome, 1, (Option.some Jvm.ClassFile.FieldType.int))
def m_Tr_plant : MR := (RX8, yX8_plant, cX8_plant, 2, (Option.none : Option Jvm.ClassFile.FieldType))
def m_Tr_addLeaf : MR := (RX8, yX8_addLeaf, cX8_addLeaf, 4, (Option.none : Option Jvm.ClassFile.FieldType))
def m_Tr_setLeafCosts : MR := (RX8, yX8_setLeafCosts, cX8_setLeafCosts, 5, (Option.none : Option Jvm.ClassFile.FieldType))
def m_Tr_setCosts : MR := (RX8, yX8_setCosts, cX8_setCosts, 4, (Option.none : Option Jvm.ClassFile.FieldType))
def m_Tr_isOnWayTo : MR := (RX8, yX8_isOnWayTo, cX8_isOnWayTo, 5, (Option.some Jvm.ClassFile.FieldType.boolean))
def m_Tr_cheapestChild : MR := (RX8, yX8_cheapestChild, cX8_cheapestChild, 6, (Option.some Jvm.ClassFile.FieldType.int))
def m_Tr_leafOnWay : MR := (RX8, yX8_leafOnWay, cX8_leafOnWay, 3, (Option.some Jvm.ClassFile.FieldType.int))
def m_Tr_nodeOnWay : MR := (RX8, yX8_nodeOnWay, cX8_nodeOnWay, 4, (Option.some Jvm.ClassFile.FieldType.int))
def m_Tr_canGrow : MR := (RX8, yX8_canGrow, cX8_canGrow, 1, (Option.some Jvm.ClassFile.FieldType.boolean))
def m_Tr_grow : MR := (RX8, yX8_grow, cX8_grow, 5, (Option.none : Option Jvm.ClassFile.FieldType))
def m_Tr_workOutFrom : MR := (RX8, yX8_workOutFrom, cX8_workOutFrom, 4, (Option.none : Option Jvm.ClassFile.FieldType))
def m_Tr_workOut : MR := (RX8, yX8_workOut, cX8_workOut, 2, (Option.none : Option Jvm.ClassFile.FieldType))
def m_Tr_leastOfChildren : MR := (RX8, yX8_leastOfChildren, cX8_leastOfChildren, 6, (Option.some Jvm.ClassFile.FieldType.int))
def m_Tr_sumOfChildren : MR := (RX8, yX8_sumOfChildren, cX8_sumOfChildren, 6, (Option.some Jvm.ClassFile.FieldType.int))
def m_Tr_loopCount : MR := (RX8, yX8_loopCount, cX8_loopCount, 3, (Option.some Jvm.ClassFile.FieldType.int))
def m_Tr_openedCount : MR := (RX8, yX8_openedCount, cX8_openedCount, 3, (Option.some Jvm.ClassFile.FieldType.int))
def m_Tr_greatestDepth : MR := (RX8, yX8_greatestDepth, cX8_greatestDepth, 3, (Option.some Jvm.ClassFile.FieldType.int))
def m_Cp_init : MR := (RX9, yX9_init, cX9_init, 1, (Option.none : Option Jvm.ClassFile.FieldType))
def m_Cp_setPosition : MR := (RX9, yX9_setPosition, cX9_setPosition, 6, (Option.some Jvm.ClassFile.FieldType.int))
def m_Cp_guess : MR := (RX9, yX9_guess, cX9_guess, 6, (Option.some Jvm.ClassFile.FieldType.int))
def m_Cp_addMove : MR := (RX9, yX9_addMove, cX9_addMove, 4, (Option.some Jvm.ClassFile.FieldType.int))
def m_Cp_removeMove : MR := (RX9, yX9_removeMove, cX9_removeMove, 5, (Option.some Jvm.ClassFile.FieldType.int))
def m_Cp_readGame : MR := (RX9, yX9_readGame, cX9_readGame, 2, (Option.some Jvm.ClassFile.FieldType.int))
def m_Cp_begin : MR := (RX9, yX9_begin, cX9_begin, 2, (Option.some Jvm.ClassFile.FieldType.int))
def m_Cp_open : MR := (RX9, yX9_open, cX9_open, 4, (Option.some Jvm.ClassFile.FieldType.int))
def m_Cp_type : MR := (RX9, yX9_type, cX9_type, 2, (Option.some Jvm.ClassFile.FieldType.int))
def m_Cp_clearText : MR := (RX9, yX9_clearText, cX9_clearText, 2, (Option.some Jvm.ClassFile.FieldType.int))
def m_Cp_undo : MR := (RX9, yX9_undo, cX9_undo, 1, (Option.some Jvm.ClassFile.FieldType.int))
def m_Cp_keep : MR := (RX9, yX9_keep, cX9_keep, 1, (Option.some Jvm.ClassFile.FieldType.int))
def m_Cp_restore : MR := (RX9, yX9_restore, cX9_restore, 1, (Option.some Jvm.ClassFile.FieldType.int))
def m_Cp_position : MR := (RX9, yX9_position, cX9_position, 4, (Option.some Jvm.ClassFile.FieldType.int))
def m_Cp_move : MR := (RX9, yX9_move, cX9_move, 3, (Option.some Jvm.ClassFile.FieldType.int))
def m_Cp_node : MR := (RX9, yX9_node, cX9_node, 4, (Option.some Jvm.ClassFile.FieldType.int))
def m_Cp_way : MR := (RX9, yX9_way, cX9_way, 2, (Option.some Jvm.ClassFile.FieldType.int))
def m_Cp_playOut : MR := (RX9, yX9_playOut, cX9_playOut, 5, (Option.some Jvm.ClassFile.FieldType.int))
def m_Cp_proofSize : MR := (RX9, yX9_proofSize, cX9_proofSize, 1, (Option.some Jvm.ClassFile.FieldType.int))
def m_Cp_count : MR := (RX9, yX9_count, cX9_count, 2, (Option.some Jvm.ClassFile.FieldType.int))
def m_Cp_tellTree : MR := (RX9, yX9_tellTree, cX9_tellTree, 2, (Option.some Jvm.ClassFile.FieldType.int))
def m_Cp_isPosition : MR := (RX9, yX9_isPosition, cX9_isPosition, 1, (Option.some Jvm.ClassFile.FieldType.boolean))
def m_Cp_isGuess : MR := (RX9, yX9_isGuess, cX9_isGuess, 1, (Option.some Jvm.ClassFile.FieldType.boolean))
def m_Md_init : MR := (RX10, yX10_init, cX10_init, 2, (Option.none : Option Jvm.ClassFile.FieldType))
def m_Md_in : MR := (RX10, yX10_in, cX10_in, 3, (Option.some Jvm.ClassFile.FieldType.boolean))
def m_Md_isPosition : MR := (RX10, yX10_isPosition, cX10_isPosition, 1, (Option.some Jvm.ClassFile.FieldType.boolean))
def m_Md_of : MR := (RX10, yX10_of, cX10_of, 3, (Option.some Jvm.ClassFile.FieldType.int))
def m_Md_get : MR := (RX10, yX10_get, cX10_get, 3, (Option.some Jvm.ClassFile.FieldType.int))
def m_Md_lay : MR := (RX10, yX10_lay, cX10_lay, 4, (Option.none : Option Jvm.ClassFile.FieldType))
def m_Md_records : MR := (RX10, yX10_records, cX10_records, 2, (Option.none : Option Jvm.ClassFile.FieldType))
def m_Md_movesOf : MR := (RX10, yX10_movesOf, cX10_movesOf, 4, (Option.some Jvm.ClassFile.FieldType.int))
def m_Md_moveAt : MR := (RX10, yX10_moveAt, cX10_moveAt, 5, (Option.some Jvm.ClassFile.FieldType.int))
def m_Md_placeOf : MR := (RX10, yX10_placeOf, cX10_placeOf, 4, (Option.some Jvm.ClassFile.FieldType.int))
def m_Md_isEnd : MR := (RX10, yX10_isEnd, cX10_isEnd, 2, (Option.some Jvm.ClassFile.FieldType.boolean))
def m_Md_noTree : MR := (RX10, yX10_noTree, cX10_noTree, 2, (Option.none : Option Jvm.ClassFile.FieldType))
def m_Md_setPosition : MR := (RX10, yX10_setPosition, cX10_setPosition, 5, (Option.some Jvm.ClassFile.FieldType.int))
def m_Md_guess : MR := (RX10, yX10_guess, cX10_guess, 5, (Option.some Jvm.ClassFile.FieldType.int))
def m_Md_comes : MR := (RX10, yX10_comes, cX10_comes, 3, (Option.none : Option Jvm.ClassFile.FieldType))
def m_Md_addMove : MR := (RX10, yX10_addMove, cX10_addMove, 3, (Option.some Jvm.ClassFile.FieldType.int))
def m_Md_removeMove : MR := (RX10, yX10_removeMove, cX10_removeMove, 5, (Option.some Jvm.ClassFile.FieldType.int))
def m_Md_isWonNow : MR := (RX10, yX10_isWonNow, cX10_isWonNow, 5, (Option.some Jvm.ClassFile.FieldType.boolean))
def m_Md_laysRounds : MR := (RX10, yX10_laysRounds, cX10_laysRounds, 4, (Option.none : Option Jvm.ClassFile.FieldType))
def m_Md_wonMany : MR := (RX10, yX10_wonMany, cX10_wonMany, 3, (Option.some Jvm.ClassFile.FieldType.int))
def m_Md_depthOf : MR := (RX10, yX10_depthOf, cX10_depthOf, 4, (Option.some Jvm.ClassFile.FieldType.int))
def m_Md_isOnWay : MR := (RX10, yX10_isOnWay, cX10_isOnWay, 5, (Option.some Jvm.ClassFile.FieldType.boolean))
def m_Md_makes : MR := (RX10, yX10_makes, cX10_makes, 7, (Option.none : Option Jvm.ClassFile.FieldType))
def m_Md_isDecided : MR := (RX10, yX10_isDecided, cX10_isDecided, 1, (Option.some Jvm.ClassFile.FieldType.boolean))
def m_Md_turnOf : MR := (RX10, yX10_turnOf, cX10_turnOf, 2, (Option.some Jvm.ClassFile.FieldType.int))
def m_Md_cheapest : MR := (RX10, yX10_cheapest, cX10_cheapest, 6, (Option.some Jvm.ClassFile.FieldType.int))
def m_Md_nextOf : MR := (RX10, yX10_nextOf, cX10_nextOf, 2, (Option.some Jvm.ClassFile.FieldType.int))
def m_Md_sumOver : MR := (RX10, yX10_sumOver, cX10_sumOver, 5, (Option.some Jvm.ClassFile.FieldType.int))
def m_Md_works : MR := (RX10, yX10_works, cX10_works, 4, (Option.none : Option Jvm.ClassFile.FieldType))
def m_Md_leaf : MR := (RX10, yX10_leaf, cX10_leaf, 2, (Option.some Jvm.ClassFile.FieldType.int))
def m_Md_opens : MR := (RX10, yX10_opens, cX10_opens, 5, (Option.some Jvm.ClassFile.FieldType.boolean))
def m_Md_begin : MR := (RX10, yX10_begin, cX10_begin, 2, (Option.some Jvm.ClassFile.FieldType.int))
def m_Md_canOpen : MR := (RX10, yX10_canOpen, cX10_canOpen, 1, (Option.some Jvm.ClassFile.FieldType.boolean))
def m_Md_open : MR := (RX10, yX10_open, cX10_open, 3, (Option.some Jvm.ClassFile.FieldType.int))
def m_Md_type : MR := (RX10, yX10_type, cX10_type, 2, (Option.some Jvm.ClassFile.FieldType.int))
def m_Md_clearText : MR := (RX10, yX10_clearText, cX10_clearText, 2, (Option.some Jvm.ClassFile.FieldType.int))
def m_Md_sign : MR := (RX10, yX10_sign, cX10_sign, 1, (Option.some Jvm.ClassFile.FieldType.int))
def m_Md_readsPosition : MR := (RX10, yX10_readsPosition, cX10_readsPosition, 2, (Option.some Jvm.ClassFile.FieldType.int))
def m_Md_tells : MR := (RX10, yX10_tells, cX10_tells, 4, (Option.none : Option Jvm.ClassFile.FieldType))
def m_Md_readsEntry : MR := (RX10, yX10_readsEntry, cX10_readsEntry, 4, (Option.none : Option Jvm.ClassFile.FieldType))
def m_Md_reads : MR := (RX10, yX10_reads, cX10_reads, 1, (Option.some Jvm.ClassFile.FieldType.int))
def m_Md_movesTold : MR := (RX10, yX10_movesTold, cX10_movesTold, 5, (Option.some Jvm.ClassFile.FieldType.int))
def m_Md_does : MR := (RX10, yX10_does, cX10_does, 4, (Option.none : Option Jvm.ClassFile.FieldType))
def m_Md_readGame : MR := (RX10, yX10_readGame, cX10_readGame, 3, (Option.some Jvm.ClassFile.FieldType.int))
def m_Md_undo : MR := (RX10, yX10_undo, cX10_undo, 2, (Option.some Jvm.ClassFile.FieldType.int))
def m_Md_keep : MR := (RX10, yX10_keep, cX10_keep, 2, (Option.some Jvm.ClassFile.FieldType.int))
def m_Md_restore : MR := (RX10, yX10_restore, cX10_restore, 2, (Option.some Jvm.ClassFile.FieldType.int))
def m_Md_position : MR := (RX10, yX10_position, cX10_position, 3, (Option.some Jvm.ClassFile.FieldType.int))
def m_Md_move : MR := (RX10, yX10_move, cX10_move, 3, (Option.some Jvm.ClassFile.FieldType.int))
def m_Md_node : MR := (RX10, yX10_node, cX10_node, 3, (Option.some Jvm.ClassFile.FieldType.int))
def m_Md_way : MR := (RX10, yX10_way, cX10_way, 4, (Option.some Jvm.ClassFile.FieldType.int))
def m_Md_owner : MR := (RX10, yX10_owner, cX10_owner, 1, (Option.some Jvm.ClassFile.FieldType.int))
def m_Md_playOut : MR := (RX10, yX10_playOut, cX10_playOut, 7, (Option.some Jvm.ClassFile.FieldType.int))
def m_Md_proofSize : MR := (RX10, yX10_proofSize, cX10_proofSize, 4, (Option.some Jvm.ClassFile.FieldType.int))
def m_Md_loops : MR := (RX10, yX10_loops, cX10_loops, 3, (Option.some Jvm.ClassFile.FieldType.int))
def m_Md_deepest : MR := (RX10, yX10_deepest, cX10_deepest, 3, (Option.some Jvm.ClassFile.FieldType.int))
def m_Md_ofTree : MR := (RX10, yX10_ofTree, cX10_ofTree, 2, (Option.some Jvm.ClassFile.FieldType.int))
def m_Md_count : MR := (RX10, yX10_count, cX10_count, 2, (Option.some Jvm.ClassFile.FieldType.int))
def m_Lw_law : MR := (RL, yL_law, cL_law, 4, ret)
end
section
theorem d_Gm_init_0 : dec m_Gm_init 0 = .ok (.aload_n 0, 1) := by decide +kernel
theorem d_Gm_init_1 : dec m_Gm_init 1 = .ok (.invokespecial 3, 3) := by decide +kernel
theorem d_Gm_init_4 : dec m_Gm_init 4 = .ok (.aload_n 0, 1) := by decide +kernel
theorem d_Gm_init_5 : dec m_Gm_init 5 = .ok (.new 9, 3) := by decide +kernel
theorem d_Gm_init_8 : dec m_Gm_init 8 = .ok (.dup, 1) := by decide +kernel
theorem d_Gm_init_9 : dec m_Gm_init 9 = .ok (.bipush 20, 2) := by decide +kernel
theorem d_Gm_init_11 : dec m_Gm_init 11 = .ok (.invokespecial 11, 3) := by decide +kernel
theorem d_Gm_init_14 : dec m_Gm_init 14 = .ok (.putfield 14, 3) := by decide +kernel
theorem d_Gm_init_17 : dec m_Gm_init 17 = .ok (.aload_n 0, 1) := by decide +kernel
theorem d_Gm_init_18 : dec m_Gm_init 18 = .ok (.new 9, 3) := by decide +kernel
theorem d_Gm_init_21 : dec m_Gm_init 21 = .ok (.dup, 1) := by decide +kernel
theorem d_Gm_init_22 : dec m_Gm_init 22 = .ok (.bipush 20, 2) := by decide +kernel
theorem d_Gm_init_24 : dec m_Gm_init 24 = .ok (.invokespecial 11, 3) := by decide +kernel
theorem d_Gm_init_27 : dec m_Gm_init 27 = .ok (.putfield 20, 3) := by decide +kernel
theorem d_Gm_init_30 : dec m_Gm_init 30 = .ok (.aload_n 0, 1) := by decide +kernel
theorem d_Gm_init_31 : dec m_Gm_init 31 = .ok (.new 9, 3) := by decide +kernel
theorem d_Gm_init_34 : dec m_Gm_init 34 = .ok (.dup, 1) := by decide +kernel
theorem d_Gm_init_35 : dec m_Gm_init 35 = .ok (.bipush 20, 2) := by decide +kernel
theorem d_Gm_init_37 : dec m_Gm_init 37 = .ok (.invokespecial 11, 3) := by decide +kernel
theorem d_Gm_init_40 : dec m_Gm_init 40 = .ok (.putfield 23, 3) := by decide +kernel
theorem d_Gm_init_43 : dec m_Gm_init 43 = .ok (.aload_n 0, 1) := by decide +kernel
theorem d_Gm_init_44 : dec m_Gm_init 44 = .ok (.new 9, 3) := by decide +kernel
theorem d_Gm_init_47 : dec m_Gm_init 47 = .ok (.dup, 1) := by decide +kernel
theorem d_Gm_init_48 : dec m_Gm_init 48 = .ok (.bipush 20, 2) := by decide +kernel
theorem d_Gm_init_50 : dec m_Gm_init 50 = .ok (.invokespecial 11, 3) := by decide +kernel
theorem d_Gm_init_53 : dec m_Gm_init 53 = .ok (.putfield 26, 3) := by decide +kernel
theorem d_Gm_init_56 : dec m_Gm_init 56 = .ok (.aload_n 0, 1) := by decide +kernel
theorem d_Gm_init_57 : dec m_Gm_init 57 = .ok (.new 9, 3) := by decide +kernel
theorem d_Gm_init_60 : dec m_Gm_init 60 = .ok (.dup, 1) := by decide +kernel
theorem d_Gm_init_61 : dec m_Gm_init 61 = .ok (.bipush 20, 2) := by decide +kernel
theorem d_Gm_init_63 : dec m_Gm_init 63 = .ok (.invokespecial 11, 3) := by decide +kernel
theorem d_Gm_init_66 : dec m_Gm_init 66 = .ok (.putfield 29, 3) := by decide +kernel
theorem d_Gm_init_69 : dec m_Gm_init 69 = .ok (.aload_n 0, 1) := by decide +kernel
theorem d_Gm_init_70 : dec m_Gm_init 70 = .ok (.new 9, 3) := by decide +kernel
theorem d_Gm_init_73 : dec m_Gm_init 73 = .ok (.dup, 1) := by decide +kernel
theorem d_Gm_init_74 : dec m_Gm_init 74 = .ok (.sipush 400, 3) := by decide +kernel
theorem d_Gm_init_77 : dec m_Gm_init 77 = .ok (.invokespecial 11, 3) := by decide +kernel
theorem d_Gm_init_80 : dec m_Gm_init 80 = .ok (.putfield 32, 3) := by decide +kernel
theorem d_Gm_init_83 : dec m_Gm_init 83 = .ok (.aload_n 0, 1) := by decide +kernel
theorem d_Gm_init_84 : dec m_Gm_init 84 = .ok (.getfield 23, 3) := by decide +kernel
theorem d_Gm_init_87 : dec m_Gm_init 87 = .ok (.iconst 1, 1) := by decide +kernel
theorem d_Gm_init_88 : dec m_Gm_init 88 = .ok (.invokevirtual 35, 3) := by decide +kernel
theorem d_Gm_init_91 : dec m_Gm_init 91 = .ok (.aload_n 0, 1) := by decide +kernel
theorem d_Gm_init_92 : dec m_Gm_init 92 = .ok (.getfield 26, 3) := by decide +kernel
theorem d_Gm_init_95 : dec m_Gm_init 95 = .ok (.iconst 1, 1) := by decide +kernel
theorem d_Gm_init_96 : dec m_Gm_init 96 = .ok (.invokevirtual 35, 3) := by decide +kernel
theorem d_Gm_init_99 : dec m_Gm_init 99 = .ok (.return_, 1) := by decide +kernel
theorem d_Gm_copyFrom_0 : dec m_Gm_copyFrom 0 = .ok (.aload_n 0, 1) := by decide +kernel
theorem d_Gm_copyFrom_1 : dec m_Gm_copyFrom 1 = .ok (.aload_n 1, 1) := by decide +kernel
theorem d_Gm_copyFrom_2 : dec m_Gm_copyFrom 2 = .ok (.invokevirtual 38, 3) := by decide +kernel
theorem d_Gm_copyFrom_5 : dec m_Gm_copyFrom 5 = .ok (.aload_n 0, 1) := by decide +kernel
theorem d_Gm_copyFrom_6 : dec m_Gm_copyFrom 6 = .ok (.getfield 23, 3) := by decide +kernel
theorem d_Gm_copyFrom_9 : dec m_Gm_copyFrom 9 = .ok (.aload_n 1, 1) := by decide +kernel
theorem d_Gm_copyFrom_10 : dec m_Gm_copyFrom 10 = .ok (.getfield 23, 3) := by decide +kernel
theorem d_Gm_copyFrom_13 : dec m_Gm_copyFrom 13 = .ok (.invokevirtual 42, 3) := by decide +kernel
theorem d_Gm_copyFrom_16 : dec m_Gm_copyFrom 16 = .ok (.aload_n 0, 1) := by decide +kernel
theorem d_Gm_copyFrom_17 : dec m_Gm_copyFrom 17 = .ok (.getfield 26, 3) := by decide +kernel
theorem d_Gm_copyFrom_20 : dec m_Gm_copyFrom 20 = .ok (.aload_n 1, 1) := by decide +kernel
theorem d_Gm_copyFrom_21 : dec m_Gm_copyFrom 21 = .ok (.getfield 26, 3) := by decide +kernel
theorem d_Gm_copyFrom_24 : dec m_Gm_copyFrom 24 = .ok (.invokevirtual 42, 3) := by decide +kernel
theorem d_Gm_copyFrom_27 : dec m_Gm_copyFrom 27 = .ok (.return_, 1) := by decide +kernel
theorem d_Gm_copyAllButGuesses_0 : dec m_Gm_copyAllButGuesses 0 = .ok (.aload_n 0, 1) := by decide +kernel
theorem d_Gm_copyAllButGuesses_1 : dec m_Gm_copyAllButGuesses 1 = .ok (.getfield 14, 3) := by decide +kernel
theorem d_Gm_copyAllButGuesses_4 : dec m_Gm_copyAllButGuesses 4 = .ok (.aload_n 1, 1) := by decide +kernel
theorem d_Gm_copyAllButGuesses_5 : dec m_Gm_copyAllButGuesses 5 = .ok (.getfield 14, 3) := by decide +kernel
theorem d_Gm_copyAllButGuesses_8 : dec m_Gm_copyAllButGuesses 8 = .ok (.invokevirtual 42, 3) := by decide +kernel
theorem d_Gm_copyAllButGuesses_11 : dec m_Gm_copyAllButGuesses 11 = .ok (.aload_n 0, 1) := by decide +kernel
theorem d_Gm_copyAllButGuesses_12 : dec m_Gm_copyAllButGuesses 12 = .ok (.getfield 20, 3) := by decide +kernel
theorem d_Gm_copyAllButGuesses_15 : dec m_Gm_copyAllButGuesses 15 = .ok (.aload_n 1, 1) := by decide +kernel
theorem d_Gm_copyAllButGuesses_16 : dec m_Gm_copyAllButGuesses 16 = .ok (.getfield 20, 3) := by decide +kernel
theorem d_Gm_copyAllButGuesses_19 : dec m_Gm_copyAllButGuesses 19 = .ok (.invokevirtual 42, 3) := by decide +kernel
theorem d_Gm_copyAllButGuesses_22 : dec m_Gm_copyAllButGuesses 22 = .ok (.aload_n 0, 1) := by decide +kernel
theorem d_Gm_copyAllButGuesses_23 : dec m_Gm_copyAllButGuesses 23 = .ok (.getfield 29, 3) := by decide +kernel
theorem d_Gm_copyAllButGuesses_26 : dec m_Gm_copyAllButGuesses 26 = .ok (.aload_n 1, 1) := by decide +kernel
theorem d_Gm_copyAllButGuesses_27 : dec m_Gm_copyAllButGuesses 27 = .ok (.getfield 29, 3) := by decide +kernel
theorem d_Gm_copyAllButGuesses_30 : dec m_Gm_copyAllButGuesses 30 = .ok (.invokevirtual 42, 3) := by decide +kernel
theorem d_Gm_copyAllButGuesses_33 : dec m_Gm_copyAllButGuesses 33 = .ok (.aload_n 0, 1) := by decide +kernel
theorem d_Gm_copyAllButGuesses_34 : dec m_Gm_copyAllButGuesses 34 = .ok (.getfield 32, 3) := by decide +kernel
theorem d_Gm_copyAllButGuesses_37 : dec m_Gm_copyAllButGuesses 37 = .ok (.aload_n 1, 1) := by decide +kernel
theorem d_Gm_copyAllButGuesses_38 : dec m_Gm_copyAllButGuesses 38 = .ok (.getfield 32, 3) := by decide +kernel
theorem d_Gm_copyAllButGuesses_41 : dec m_Gm_copyAllButGuesses 41 = .ok (.invokevirtual 42, 3) := by decide +kernel
theorem d_Gm_copyAllButGuesses_44 : dec m_Gm_copyAllButGuesses 44 = .ok (.aload_n 0, 1) := by decide +kernel
theorem d_Gm_copyAllButGuesses_45 : dec m_Gm_copyAllButGuesses 45 = .ok (.aload_n 1, 1) := by decide +kernel
theorem d_Gm_copyAllButGuesses_46 : dec m_Gm_copyAllButGuesses 46 = .ok (.getfield 46, 3) := by decide +kernel
theorem d_Gm_copyAllButGuesses_49 : dec m_Gm_copyAllButGuesses 49 = .ok (.putfield 46, 3) := by decide +kernel
theorem d_Gm_copyAllButGuesses_52 : dec m_Gm_copyAllButGuesses 52 = .ok (.return_, 1) := by decide +kernel
theorem d_Gm_clearAllButGuesses_0 : dec m_Gm_clearAllButGuesses 0 = .ok (.aload_n 0, 1) := by decide +kernel
theorem d_Gm_clearAllButGuesses_1 : dec m_Gm_clearAllButGuesses 1 = .ok (.getfield 14, 3) := by decide +kernel
theorem d_Gm_clearAllButGuesses_4 : dec m_Gm_clearAllButGuesses 4 = .ok (.iconst 0, 1) := by decide +kernel
theorem d_Gm_clearAllButGuesses_5 : dec m_Gm_clearAllButGuesses 5 = .ok (.invokevirtual 35, 3) := by decide +kernel
theorem d_Gm_clearAllButGuesses_8 : dec m_Gm_clearAllButGuesses 8 = .ok (.aload_n 0, 1) := by decide +kernel
theorem d_Gm_clearAllButGuesses_9 : dec m_Gm_clearAllButGuesses 9 = .ok (.getfield 20, 3) := by decide +kernel
theorem d_Gm_clearAllButGuesses_12 : dec m_Gm_clearAllButGuesses 12 = .ok (.iconst 0, 1) := by decide +kernel
theorem d_Gm_clearAllButGuesses_13 : dec m_Gm_clearAllButGuesses 13 = .ok (.invokevirtual 35, 3) := by decide +kernel
theorem d_Gm_clearAllButGuesses_16 : dec m_Gm_clearAllButGuesses 16 = .ok (.aload_n 0, 1) := by decide +kernel
theorem d_Gm_clearAllButGuesses_17 : dec m_Gm_clearAllButGuesses 17 = .ok (.getfield 29, 3) := by decide +kernel
theorem d_Gm_clearAllButGuesses_20 : dec m_Gm_clearAllButGuesses 20 = .ok (.iconst 0, 1) := by decide +kernel
theorem d_Gm_clearAllButGuesses_21 : dec m_Gm_clearAllButGuesses 21 = .ok (.invokevirtual 35, 3) := by decide +kernel
theorem d_Gm_clearAllButGuesses_24 : dec m_Gm_clearAllButGuesses 24 = .ok (.aload_n 0, 1) := by decide +kernel
theorem d_Gm_clearAllButGuesses_25 : dec m_Gm_clearAllButGuesses 25 = .ok (.iconst 0, 1) := by decide +kernel
theorem d_Gm_clearAllButGuesses_26 : dec m_Gm_clearAllButGuesses 26 = .ok (.putfield 46, 3) := by decide +kernel
theorem d_Gm_clearAllButGuesses_29 : dec m_Gm_clearAllButGuesses 29 = .ok (.return_, 1) := by decide +kernel
theorem d_Gm_isEnd_0 : dec m_Gm_isEnd 0 = .ok (.aload_n 0, 1) := by decide +kernel
theorem d_Gm_isEnd_1 : dec m_Gm_isEnd 1 = .ok (.getfield 20, 3) := by decide +kernel
theorem d_Gm_isEnd_4 : dec m_Gm_isEnd 4 = .ok (.iload_n 1, 1) := by decide +kernel
theorem d_Gm_isEnd_5 : dec m_Gm_isEnd 5 = .ok (.invokevirtual 50, 3) := by decide +kernel
theorem d_Gm_isEnd_8 : dec m_Gm_isEnd 8 = .ok (.ifCond .ne 14, 3) := by decide +kernel
theorem d_Gm_isEnd_11 : dec m_Gm_isEnd 11 = .ok (.aload_n 0, 1) := by decide +kernel
theorem d_Gm_isEnd_12 : dec m_Gm_isEnd 12 = .ok (.getfield 29, 3) := by decide +kernel
theorem d_Gm_isEnd_15 : dec m_Gm_isEnd 15 = .ok (.iload_n 1, 1) := by decide +kernel
theorem d_Gm_isEnd_16 : dec m_Gm_isEnd 16 = .ok (.invokevirtual 50, 3) := by decide +kernel
theorem d_Gm_isEnd_19 : dec m_Gm_isEnd 19 = .ok (.ifCond .ne 7, 3) := by decide +kernel
theorem d_Gm_isEnd_22 : dec m_Gm_isEnd 22 = .ok (.iconst 1, 1) := by decide +kernel
theorem d_Gm_isEnd_23 : dec m_Gm_isEnd 23 = .ok (.goto 4, 3) := by decide +kernel
theorem d_Gm_isEnd_26 : dec m_Gm_isEnd 26 = .ok (.iconst 0, 1) := by decide +kernel
theorem d_Gm_isEnd_27 : dec m_Gm_isEnd 27 = .ok (.ireturn, 1) := by decide +kernel
theorem d_Gm_isWonEnd_0 : dec m_Gm_isWonEnd 0 = .ok (.aload_n 0, 1) := by decide +kernel
theorem d_Gm_isWonEnd_1 : dec m_Gm_isWonEnd 1 = .ok (.getfield 20, 3) := by decide +kernel
theorem d_Gm_isWonEnd_4 : dec m_Gm_isWonEnd 4 = .ok (.iload_n 1, 1) := by decide +kernel
theorem d_Gm_isWonEnd_5 : dec m_Gm_isWonEnd 5 = .ok (.invokevirtual 50, 3) := by decide +kernel
theorem d_Gm_isWonEnd_8 : dec m_Gm_isWonEnd 8 = .ok (.iconst 1, 1) := by decide +kernel
theorem d_Gm_isWonEnd_9 : dec m_Gm_isWonEnd 9 = .ok (.if_icmp .ne 7, 3) := by decide +kernel
theorem d_Gm_isWonEnd_12 : dec m_Gm_isWonEnd 12 = .ok (.iconst 1, 1) := by decide +kernel
theorem d_Gm_isWonEnd_13 : dec m_Gm_isWonEnd 13 = .ok (.goto 4, 3) := by decide +kernel
theorem d_Gm_isWonEnd_16 : dec m_Gm_isWonEnd 16 = .ok (.iconst 0, 1) := by decide +kernel
theorem d_Gm_isWonEnd_17 : dec m_Gm_isWonEnd 17 = .ok (.ireturn, 1) := by decide +kernel
theorem d_Gm_targetOf_0 : dec m_Gm_targetOf 0 = .ok (.iload_n 2, 1) := by decide +kernel
theorem d_Gm_targetOf_1 : dec m_Gm_targetOf 1 = .ok (.ifCond .lt 15, 3) := by decide +kernel
theorem d_Gm_targetOf_4 : dec m_Gm_targetOf 4 = .ok (.iload_n 2, 1) := by decide +kernel
theorem d_Gm_targetOf_5 : dec m_Gm_targetOf 5 = .ok (.aload_n 0, 1) := by decide +kernel
theorem d_Gm_targetOf_6 : dec m_Gm_targetOf 6 = .ok (.getfield 29, 3) := by decide +kernel
theorem d_Gm_targetOf_9 : dec m_Gm_targetOf 9 = .ok (.iload_n 1, 1) := by decide +kernel
theorem d_Gm_targetOf_10 : dec m_Gm_targetOf 10 = .ok (.invokevirtual 50, 3) := by decide +kernel
theorem d_Gm_targetOf_13 : dec m_Gm_targetOf 13 = .ok (.if_icmp .lt 6, 3) := by decide +kernel
theorem d_Gm_targetOf_16 : dec m_Gm_targetOf 16 = .ok (.bipush (-5), 2) := by decide +kernel
theorem d_Gm_targetOf_18 : dec m_Gm_targetOf 18 = .ok (.ireturn, 1) := by decide +kernel
theorem d_Gm_targetOf_19 : dec m_Gm_targetOf 19 = .ok (.aload_n 0, 1) := by decide +kernel
theorem d_Gm_targetOf_20 : dec m_Gm_targetOf 20 = .ok (.getfield 32, 3) := by decide +kernel
theorem d_Gm_targetOf_23 : dec m_Gm_targetOf 23 = .ok (.iload_n 1, 1) := by decide +kernel
theorem d_Gm_targetOf_24 : dec m_Gm_targetOf 24 = .ok (.bipush 20, 2) := by decide +kernel
theorem d_Gm_targetOf_26 : dec m_Gm_targetOf 26 = .ok (.imul, 1) := by decide +kernel
theorem d_Gm_targetOf_27 : dec m_Gm_targetOf 27 = .ok (.iload_n 2, 1) := by decide +kernel
theorem d_Gm_targetOf_28 : dec m_Gm_targetOf 28 = .ok (.iadd, 1) := by decide +kernel
theorem d_Gm_targetOf_29 : dec m_Gm_targetOf 29 = .ok (.invokevirtual 50, 3) := by decide +kernel
theorem d_Gm_targetOf_32 : dec m_Gm_targetOf 32 = .ok (.ireturn, 1) := by decide +kernel
theorem d_Gm_rankOf_0 : dec m_Gm_rankOf 0 = .ok (.aload_n 0, 1) := by decide +kernel
theorem d_Gm_rankOf_1 : dec m_Gm_rankOf 1 = .ok (.getfield 29, 3) := by decide +kernel
theorem d_Gm_rankOf_4 : dec m_Gm_rankOf 4 = .ok (.iload_n 1, 1) := by decide +kernel
theorem d_Gm_rankOf_5 : dec m_Gm_rankOf 5 = .ok (.invokevirtual 50, 3) := by decide +kernel
theorem d_Gm_rankOf_8 : dec m_Gm_rankOf 8 = .ok (.istore_n 3, 1) := by decide +kernel
theorem d_Gm_rankOf_9 : dec m_Gm_rankOf 9 = .ok (.iconst 0, 1) := by decide +kernel
theorem d_Gm_rankOf_10 : dec m_Gm_rankOf 10 = .ok (.istore 4, 2) := by decide +kernel
theorem d_Gm_rankOf_12 : dec m_Gm_rankOf 12 = .ok (.iload 4, 2) := by decide +kernel
theorem d_Gm_rankOf_14 : dec m_Gm_rankOf 14 = .ok (.iload_n 3, 1) := by decide +kernel
theorem d_Gm_rankOf_15 : dec m_Gm_rankOf 15 = .ok (.if_icmp .ge 23, 3) := by decide +kernel
theorem d_Gm_rankOf_18 : dec m_Gm_rankOf 18 = .ok (.aload_n 0, 1) := by decide +kernel
theorem d_Gm_rankOf_19 : dec m_Gm_rankOf 19 = .ok (.iload_n 1, 1) := by decide +kernel
theorem d_Gm_rankOf_20 : dec m_Gm_rankOf 20 = .ok (.iload 4, 2) := by decide +kernel
theorem d_Gm_rankOf_22 : dec m_Gm_rankOf 22 = .ok (.invokevirtual 54, 3) := by decide +kernel
theorem d_Gm_rankOf_25 : dec m_Gm_rankOf 25 = .ok (.iload_n 2, 1) := by decide +kernel
theorem d_Gm_rankOf_26 : dec m_Gm_rankOf 26 = .ok (.if_icmp .ne 6, 3) := by decide +kernel
theorem d_Gm_rankOf_29 : dec m_Gm_rankOf 29 = .ok (.iload 4, 2) := by decide +kernel
theorem d_Gm_rankOf_31 : dec m_Gm_rankOf 31 = .ok (.ireturn, 1) := by decide +kernel
theorem d_Gm_rankOf_32 : dec m_Gm_rankOf 32 = .ok (.iinc 4 1, 3) := by decide +kernel
theorem d_Gm_rankOf_35 : dec m_Gm_rankOf 35 = .ok (.goto (-23), 3) := by decide +kernel
theorem d_Gm_rankOf_38 : dec m_Gm_rankOf 38 = .ok (.bipush (-5), 2) := by decide +kernel
theorem d_Gm_rankOf_40 : dec m_Gm_rankOf 40 = .ok (.ireturn, 1) := by decide +kernel
theorem d_Gm_append_0 : dec m_Gm_append 0 = .ok (.aload_n 0, 1) := by decide +kernel
theorem d_Gm_append_1 : dec m_Gm_append 1 = .ok (.getfield 29, 3) := by decide +kernel
theorem d_Gm_append_4 : dec m_Gm_append 4 = .ok (.iload_n 1, 1) := by decide +kernel
theorem d_Gm_append_5 : dec m_Gm_append 5 = .ok (.invokevirtual 50, 3) := by decide +kernel
theorem d_Gm_append_8 : dec m_Gm_append 8 = .ok (.istore_n 3, 1) := by decide +kernel
theorem d_Gm_append_9 : dec m_Gm_append 9 = .ok (.aload_n 0, 1) := by decide +kernel
theorem d_Gm_append_10 : dec m_Gm_append 10 = .ok (.getfield 32, 3) := by decide +kernel
theorem d_Gm_append_13 : dec m_Gm_append 13 = .ok (.iload_n 1, 1) := by decide +kernel
theorem d_Gm_append_14 : dec m_Gm_append 14 = .ok (.bipush 20, 2) := by decide +kernel
theorem d_Gm_append_16 : dec m_Gm_append 16 = .ok (.imul, 1) := by decide +kernel
theorem d_Gm_append_17 : dec m_Gm_append 17 = .ok (.iload_n 3, 1) := by decide +kernel
theorem d_Gm_append_18 : dec m_Gm_append 18 = .ok (.iadd, 1) := by decide +kernel
theorem d_Gm_append_19 : dec m_Gm_append 19 = .ok (.iload_n 2, 1) := by decide +kernel
theorem d_Gm_append_20 : dec m_Gm_append 20 = .ok (.invokevirtual 58, 3) := by decide +kernel
theorem d_Gm_append_23 : dec m_Gm_append 23 = .ok (.aload_n 0, 1) := by decide +kernel
theorem d_Gm_append_24 : dec m_Gm_append 24 = .ok (.getfield 29, 3) := by decide +kernel
theorem d_Gm_append_27 : dec m_Gm_append 27 = .ok (.iload_n 1, 1) := by decide +kernel
theorem d_Gm_append_28 : dec m_Gm_append 28 = .ok (.iload_n 3, 1) := by decide +kernel
theorem d_Gm_append_29 : dec m_Gm_append 29 = .ok (.iconst 1, 1) := by decide +kernel
theorem d_Gm_append_30 : dec m_Gm_append 30 = .ok (.iadd, 1) := by decide +kernel
theorem d_Gm_append_31 : dec m_Gm_append 31 = .ok (.invokevirtual 58, 3) := by decide +kernel
theorem d_Gm_append_34 : dec m_Gm_append 34 = .ok (.aload_n 0, 1) := by decide +kernel
theorem d_Gm_append_35 : dec m_Gm_append 35 = .ok (.dup, 1) := by decide +kernel
theorem d_Gm_append_36 : dec m_Gm_append 36 = .ok (.getfield 46, 3) := by decide +kernel
theorem d_Gm_append_39 : dec m_Gm_append 39 = .ok (.iconst 1, 1) := by decide +kernel
theorem d_Gm_append_40 : dec m_Gm_append 40 = .ok (.iadd, 1) := by decide +kernel
theorem d_Gm_append_41 : dec m_Gm_append 41 = .ok (.putfield 46, 3) := by decide +kernel
theorem d_Gm_append_44 : dec m_Gm_append 44 = .ok (.return_, 1) := by decide +kernel
theorem d_Gm_removeAt_0 : dec m_Gm_removeAt 0 = .ok (.aload_n 0, 1) := by decide +kernel
theorem d_Gm_removeAt_1 : dec m_Gm_removeAt 1 = .ok (.getfield 29, 3) := by decide +kernel
theorem d_Gm_removeAt_4 : dec m_Gm_removeAt 4 = .ok (.iload_n 1, 1) := by decide +kernel
theorem d_Gm_removeAt_5 : dec m_Gm_removeAt 5 = .ok (.invokevirtual 50, 3) := by decide +kernel
theorem d_Gm_removeAt_8 : dec m_Gm_removeAt 8 = .ok (.iconst 1, 1) := by decide +kernel
theorem d_Gm_removeAt_9 : dec m_Gm_removeAt 9 = .ok (.isub, 1) := by decide +kernel
theorem d_Gm_removeAt_10 : dec m_Gm_removeAt 10 = .ok (.istore_n 3, 1) := by decide +kernel
theorem d_Gm_removeAt_11 : dec m_Gm_removeAt 11 = .ok (.iload_n 2, 1) := by decide +kernel
theorem d_Gm_removeAt_12 : dec m_Gm_removeAt 12 = .ok (.istore 4, 2) := by decide +kernel
theorem d_Gm_removeAt_14 : dec m_Gm_removeAt 14 = .ok (.iload 4, 2) := by decide +kernel
theorem d_Gm_removeAt_16 : dec m_Gm_removeAt 16 = .ok (.iload_n 3, 1) := by decide +kernel
theorem d_Gm_removeAt_17 : dec m_Gm_removeAt 17 = .ok (.if_icmp .ge 32, 3) := by decide +kernel
theorem d_Gm_removeAt_20 : dec m_Gm_removeAt 20 = .ok (.aload_n 0, 1) := by decide +kernel
theorem d_Gm_removeAt_21 : dec m_Gm_removeAt 21 = .ok (.getfield 32, 3) := by decide +kernel
theorem d_Gm_removeAt_24 : dec m_Gm_removeAt 24 = .ok (.iload_n 1, 1) := by decide +kernel
theorem d_Gm_removeAt_25 : dec m_Gm_removeAt 25 = .ok (.bipush 20, 2) := by decide +kernel
theorem d_Gm_removeAt_27 : dec m_Gm_removeAt 27 = .ok (.imul, 1) := by decide +kernel
theorem d_Gm_removeAt_28 : dec m_Gm_removeAt 28 = .ok (.iload 4, 2) := by decide +kernel
theorem d_Gm_removeAt_30 : dec m_Gm_removeAt 30 = .ok (.iadd, 1) := by decide +kernel
theorem d_Gm_removeAt_31 : dec m_Gm_removeAt 31 = .ok (.aload_n 0, 1) := by decide +kernel
theorem d_Gm_removeAt_32 : dec m_Gm_removeAt 32 = .ok (.iload_n 1, 1) := by decide +kernel
theorem d_Gm_removeAt_33 : dec m_Gm_removeAt 33 = .ok (.iload 4, 2) := by decide +kernel
theorem d_Gm_removeAt_35 : dec m_Gm_removeAt 35 = .ok (.iconst 1, 1) := by decide +kernel
theorem d_Gm_removeAt_36 : dec m_Gm_removeAt 36 = .ok (.iadd, 1) := by decide +kernel
theorem d_Gm_removeAt_37 : dec m_Gm_removeAt 37 = .ok (.invokevirtual 54, 3) := by decide +kernel
theorem d_Gm_removeAt_40 : dec m_Gm_removeAt 40 = .ok (.invokevirtual 58, 3) := by decide +kernel
theorem d_Gm_removeAt_43 : dec m_Gm_removeAt 43 = .ok (.iinc 4 1, 3) := by decide +kernel
theorem d_Gm_removeAt_46 : dec m_Gm_removeAt 46 = .ok (.goto (-32), 3) := by decide +kernel
theorem d_Gm_removeAt_49 : dec m_Gm_removeAt 49 = .ok (.aload_n 0, 1) := by decide +kernel
theorem d_Gm_removeAt_50 : dec m_Gm_removeAt 50 = .ok (.getfield 29, 3) := by decide +kernel
theorem d_Gm_removeAt_53 : dec m_Gm_removeAt 53 = .ok (.iload_n 1, 1) := by decide +kernel
theorem d_Gm_removeAt_54 : dec m_Gm_removeAt 54 = .ok (.iload_n 3, 1) := by decide +kernel
theorem d_Gm_removeAt_55 : dec m_Gm_removeAt 55 = .ok (.invokevirtual 58, 3) := by decide +kernel
theorem d_Gm_removeAt_58 : dec m_Gm_removeAt 58 = .ok (.aload_n 0, 1) := by decide +kernel
theorem d_Gm_removeAt_59 : dec m_Gm_removeAt 59 = .ok (.dup, 1) := by decide +kernel
theorem d_Gm_removeAt_60 : dec m_Gm_removeAt 60 = .ok (.getfield 46, 3) := by decide +kernel
theorem d_Gm_removeAt_63 : dec m_Gm_removeAt 63 = .ok (.iconst 1, 1) := by decide +kernel
theorem d_Gm_removeAt_64 : dec m_Gm_removeAt 64 = .ok (.isub, 1) := by decide +kernel
theorem d_Gm_removeAt_65 : dec m_Gm_removeAt 65 = .ok (.putfield 46, 3) := by decide +kernel
theorem d_Gm_removeAt_68 : dec m_Gm_removeAt 68 = .ok (.return_, 1) := by decide +kernel
theorem d_Hi_init_0 : dec m_Hi_init 0 = .ok (.aload_n 0, 1) := by decide +kernel
theorem d_Hi_init_1 : dec m_Hi_init 1 = .ok (.invokespecial 3, 3) := by decide +kernel
theorem d_Hi_init_4 : dec m_Hi_init 4 = .ok (.aload_n 0, 1) := by decide +kernel
theorem d_Hi_init_5 : dec m_Hi_init 5 = .ok (.iconst 4, 1) := by decide +kernel
theorem d_Hi_init_6 : dec m_Hi_init 6 = .ok (.anewarray 9, 3) := by decide +kernel
theorem d_Hi_init_9 : dec m_Hi_init 9 = .ok (.putfield 11, 3) := by decide +kernel
theorem d_Hi_init_12 : dec m_Hi_init 12 = .ok (.iconst 0, 1) := by decide +kernel
theorem d_Hi_init_13 : dec m_Hi_init 13 = .ok (.istore_n 1, 1) := by decide +kernel
theorem d_Hi_init_14 : dec m_Hi_init 14 = .ok (.iload_n 1, 1) := by decide +kernel
theorem d_Hi_init_15 : dec m_Hi_init 15 = .ok (.aload_n 0, 1) := by decide +kernel
theorem d_Hi_init_16 : dec m_Hi_init 16 = .ok (.getfield 11, 3) := by decide +kernel
theorem d_Hi_init_19 : dec m_Hi_init 19 = .ok (.arraylength, 1) := by decide +kernel
theorem d_Hi_init_20 : dec m_Hi_init 20 = .ok (.if_icmp .ge 22, 3) := by decide +kernel
theorem d_Hi_init_23 : dec m_Hi_init 23 = .ok (.aload_n 0, 1) := by decide +kernel
theorem d_Hi_init_24 : dec m_Hi_init 24 = .ok (.getfield 11, 3) := by decide +kernel
theorem d_Hi_init_27 : dec m_Hi_init 27 = .ok (.iload_n 1, 1) := by decide +kernel
theorem d_Hi_init_28 : dec m_Hi_init 28 = .ok (.new 9, 3) := by decide +kernel
theorem d_Hi_init_31 : dec m_Hi_init 31 = .ok (.dup, 1) := by decide +kernel
theorem d_Hi_init_32 : dec m_Hi_init 32 = .ok (.invokespecial 17, 3) := by decide +kernel
theorem d_Hi_init_35 : dec m_Hi_init 35 = .ok (.aastore, 1) := by decide +kernel
theorem d_Hi_init_36 : dec m_Hi_init 36 = .ok (.iinc 1 1, 3) := by decide +kernel
theorem d_Hi_init_39 : dec m_Hi_init 39 = .ok (.goto (-25), 3) := by decide +kernel
theorem d_Hi_init_42 : dec m_Hi_init 42 = .ok (.return_, 1) := by decide +kernel
theorem d_Hi_remember_0 : dec m_Hi_remember 0 = .ok (.aload_n 0, 1) := by decide +kernel
theorem d_Hi_remember_1 : dec m_Hi_remember 1 = .ok (.getfield 18, 3) := by decide +kernel
theorem d_Hi_remember_4 : dec m_Hi_remember 4 = .ok (.aload_n 0, 1) := by decide +kernel
theorem d_Hi_remember_5 : dec m_Hi_remember 5 = .ok (.getfield 11, 3) := by decide +kernel
theorem d_Hi_remember_8 : dec m_Hi_remember 8 = .ok (.arraylength, 1) := by decide +kernel
theorem d_Hi_remember_9 : dec m_Hi_remember 9 = .ok (.if_icmp .lt 7, 3) := by decide +kernel
theorem d_Hi_remember_12 : dec m_Hi_remember 12 = .ok (.aload_n 0, 1) := by decide +kernel
theorem d_Hi_remember_13 : dec m_Hi_remember 13 = .ok (.invokevirtual 22, 3) := by decide +kernel
theorem d_Hi_remember_16 : dec m_Hi_remember 16 = .ok (.aload_n 1, 1) := by decide +kernel
theorem d_Hi_remember_17 : dec m_Hi_remember 17 = .ok (.aload_n 0, 1) := by decide +kernel
theorem d_Hi_remember_18 : dec m_Hi_remember 18 = .ok (.aload_n 0, 1) := by decide +kernel
theorem d_Hi_remember_19 : dec m_Hi_remember 19 = .ok (.getfield 18, 3) := by decide +kernel
theorem d_Hi_remember_22 : dec m_Hi_remember 22 = .ok (.invokevirtual 25, 3) := by decide +kernel
theorem d_Hi_remember_25 : dec m_Hi_remember 25 = .ok (.invokestatic 29, 3) := by decide +kernel
theorem d_Hi_remember_28 : dec m_Hi_remember 28 = .ok (.aload_n 0, 1) := by decide +kernel
theorem d_Hi_remember_29 : dec m_Hi_remember 29 = .ok (.dup, 1) := by decide +kernel
theorem d_Hi_remember_30 : dec m_Hi_remember 30 = .ok (.getfield 18, 3) := by decide +kernel
theorem d_Hi_remember_33 : dec m_Hi_remember 33 = .ok (.iconst 1, 1) := by decide +kernel
theorem d_Hi_remember_34 : dec m_Hi_remember 34 = .ok (.iadd, 1) := by decide +kernel
theorem d_Hi_remember_35 : dec m_Hi_remember 35 = .ok (.putfield 18, 3) := by decide +kernel
theorem d_Hi_remember_38 : dec m_Hi_remember 38 = .ok (.return_, 1) := by decide +kernel
theorem d_Hi_takeLatest_0 : dec m_Hi_takeLatest 0 = .ok (.aload_n 0, 1) := by decide +kernel
theorem d_Hi_takeLatest_1 : dec m_Hi_takeLatest 1 = .ok (.getfield 18, 3) := by decide +kernel
theorem d_Hi_takeLatest_4 : dec m_Hi_takeLatest 4 = .ok (.ifCond .le 25, 3) := by decide +kernel
theorem d_Hi_takeLatest_7 : dec m_Hi_takeLatest 7 = .ok (.aload_n 0, 1) := by decide +kernel
theorem d_Hi_takeLatest_8 : dec m_Hi_takeLatest 8 = .ok (.dup, 1) := by decide +kernel
theorem d_Hi_takeLatest_9 : dec m_Hi_takeLatest 9 = .ok (.getfield 18, 3) := by decide +kernel
theorem d_Hi_takeLatest_12 : dec m_Hi_takeLatest 12 = .ok (.iconst 1, 1) := by decide +kernel
theorem d_Hi_takeLatest_13 : dec m_Hi_takeLatest 13 = .ok (.isub, 1) := by decide +kernel
theorem d_Hi_takeLatest_14 : dec m_Hi_takeLatest 14 = .ok (.putfield 18, 3) := by decide +kernel
theorem d_Hi_takeLatest_17 : dec m_Hi_takeLatest 17 = .ok (.aload_n 0, 1) := by decide +kernel
theorem d_Hi_takeLatest_18 : dec m_Hi_takeLatest 18 = .ok (.aload_n 0, 1) := by decide +kernel
theorem d_Hi_takeLatest_19 : dec m_Hi_takeLatest 19 = .ok (.getfield 18, 3) := by decide +kernel
theorem d_Hi_takeLatest_22 : dec m_Hi_takeLatest 22 = .ok (.invokevirtual 25, 3) := by decide +kernel
theorem d_Hi_takeLatest_25 : dec m_Hi_takeLatest 25 = .ok (.aload_n 1, 1) := by decide +kernel
theorem d_Hi_takeLatest_26 : dec m_Hi_takeLatest 26 = .ok (.invokestatic 29, 3) := by decide +kernel
theorem d_Hi_takeLatest_29 : dec m_Hi_takeLatest 29 = .ok (.return_, 1) := by decide +kernel
theorem d_Hi_stateAt_0 : dec m_Hi_stateAt 0 = .ok (.iload_n 1, 1) := by decide +kernel
theorem d_Hi_stateAt_1 : dec m_Hi_stateAt 1 = .ok (.ifCond .lt 21, 3) := by decide +kernel
theorem d_Hi_stateAt_4 : dec m_Hi_stateAt 4 = .ok (.iload_n 1, 1) := by decide +kernel
theorem d_Hi_stateAt_5 : dec m_Hi_stateAt 5 = .ok (.aload_n 0, 1) := by decide +kernel
theorem d_Hi_stateAt_6 : dec m_Hi_stateAt 6 = .ok (.getfield 11, 3) := by decide +kernel
theorem d_Hi_stateAt_9 : dec m_Hi_stateAt 9 = .ok (.arraylength, 1) := by decide +kernel
theorem d_Hi_stateAt_10 : dec m_Hi_stateAt 10 = .ok (.if_icmp .ge 12, 3) := by decide +kernel
theorem d_Hi_stateAt_13 : dec m_Hi_stateAt 13 = .ok (.aload_n 0, 1) := by decide +kernel
theorem d_Hi_stateAt_14 : dec m_Hi_stateAt 14 = .ok (.getfield 11, 3) := by decide +kernel
theorem d_Hi_stateAt_17 : dec m_Hi_stateAt 17 = .ok (.iload_n 1, 1) := by decide +kernel
theorem d_Hi_stateAt_18 : dec m_Hi_stateAt 18 = .ok (.aaload, 1) := by decide +kernel
theorem d_Hi_stateAt_19 : dec m_Hi_stateAt 19 = .ok (.goto 4, 3) := by decide +kernel
theorem d_Hi_stateAt_22 : dec m_Hi_stateAt 22 = .ok (.aconst_null, 1) := by decide +kernel
theorem d_Hi_stateAt_23 : dec m_Hi_stateAt 23 = .ok (.areturn, 1) := by decide +kernel
theorem d_Hi_copy_0 : dec m_Hi_copy 0 = .ok (.aload_n 0, 1) := by decide +kernel
theorem d_Hi_copy_1 : dec m_Hi_copy 1 = .ok (.ifnull 12, 3) := by decide +kernel
theorem d_Hi_copy_4 : dec m_Hi_copy 4 = .ok (.aload_n 1, 1) := by decide +kernel
theorem d_Hi_copy_5 : dec m_Hi_copy 5 = .ok (.ifnull 8, 3) := by decide +kernel
theorem d_Hi_copy_8 : dec m_Hi_copy 8 = .ok (.aload_n 1, 1) := by decide +kernel
theorem d_Hi_copy_9 : dec m_Hi_copy 9 = .ok (.aload_n 0, 1) := by decide +kernel
theorem d_Hi_copy_10 : dec m_Hi_copy 10 = .ok (.invokevirtual 33, 3) := by decide +kernel
theorem d_Hi_copy_13 : dec m_Hi_copy 13 = .ok (.return_, 1) := by decide +kernel
theorem d_Hi_dropOldest_0 : dec m_Hi_dropOldest 0 = .ok (.iconst 1, 1) := by decide +kernel
theorem d_Hi_dropOldest_1 : dec m_Hi_dropOldest 1 = .ok (.istore_n 1, 1) := by decide +kernel
theorem d_Hi_dropOldest_2 : dec m_Hi_dropOldest 2 = .ok (.iload_n 1, 1) := by decide +kernel
theorem d_Hi_dropOldest_3 : dec m_Hi_dropOldest 3 = .ok (.aload_n 0, 1) := by decide +kernel
theorem d_Hi_dropOldest_4 : dec m_Hi_dropOldest 4 = .ok (.getfield 11, 3) := by decide +kernel
theorem d_Hi_dropOldest_7 : dec m_Hi_dropOldest 7 = .ok (.arraylength, 1) := by decide +kernel
theorem d_Hi_dropOldest_8 : dec m_Hi_dropOldest 8 = .ok (.if_icmp .ge 39, 3) := by decide +kernel
theorem d_Hi_dropOldest_11 : dec m_Hi_dropOldest 11 = .ok (.aload_n 0, 1) := by decide +kernel
theorem d_Hi_dropOldest_12 : dec m_Hi_dropOldest 12 = .ok (.getfield 11, 3) := by decide +kernel
theorem d_Hi_dropOldest_15 : dec m_Hi_dropOldest 15 = .ok (.iload_n 1, 1) := by decide +kernel
theorem d_Hi_dropOldest_16 : dec m_Hi_dropOldest 16 = .ok (.iconst 1, 1) := by decide +kernel
theorem d_Hi_dropOldest_17 : dec m_Hi_dropOldest 17 = .ok (.isub, 1) := by decide +kernel
theorem d_Hi_dropOldest_18 : dec m_Hi_dropOldest 18 = .ok (.aaload, 1) := by decide +kernel
theorem d_Hi_dropOldest_19 : dec m_Hi_dropOldest 19 = .ok (.astore_n 2, 1) := by decide +kernel
theorem d_Hi_dropOldest_20 : dec m_Hi_dropOldest 20 = .ok (.aload_n 0, 1) := by decide +kernel
theorem d_Hi_dropOldest_21 : dec m_Hi_dropOldest 21 = .ok (.getfield 11, 3) := by decide +kernel
theorem d_Hi_dropOldest_24 : dec m_Hi_dropOldest 24 = .ok (.iload_n 1, 1) := by decide +kernel
theorem d_Hi_dropOldest_25 : dec m_Hi_dropOldest 25 = .ok (.iconst 1, 1) := by decide +kernel
theorem d_Hi_dropOldest_26 : dec m_Hi_dropOldest 26 = .ok (.isub, 1) := by decide +kernel
theorem d_Hi_dropOldest_27 : dec m_Hi_dropOldest 27 = .ok (.aload_n 0, 1) := by decide +kernel
theorem d_Hi_dropOldest_28 : dec m_Hi_dropOldest 28 = .ok (.getfield 11, 3) := by decide +kernel
theorem d_Hi_dropOldest_31 : dec m_Hi_dropOldest 31 = .ok (.iload_n 1, 1) := by decide +kernel
theorem d_Hi_dropOldest_32 : dec m_Hi_dropOldest 32 = .ok (.aaload, 1) := by decide +kernel
theorem d_Hi_dropOldest_33 : dec m_Hi_dropOldest 33 = .ok (.aastore, 1) := by decide +kernel
theorem d_Hi_dropOldest_34 : dec m_Hi_dropOldest 34 = .ok (.aload_n 0, 1) := by decide +kernel
theorem d_Hi_dropOldest_35 : dec m_Hi_dropOldest 35 = .ok (.getfield 11, 3) := by decide +kernel
theorem d_Hi_dropOldest_38 : dec m_Hi_dropOldest 38 = .ok (.iload_n 1, 1) := by decide +kernel
theorem d_Hi_dropOldest_39 : dec m_Hi_dropOldest 39 = .ok (.aload_n 2, 1) := by decide +kernel
theorem d_Hi_dropOldest_40 : dec m_Hi_dropOldest 40 = .ok (.aastore, 1) := by decide +kernel
theorem d_Hi_dropOldest_41 : dec m_Hi_dropOldest 41 = .ok (.iinc 1 1, 3) := by decide +kernel
theorem d_Hi_dropOldest_44 : dec m_Hi_dropOldest 44 = .ok (.goto (-42), 3) := by decide +kernel
theorem d_Hi_dropOldest_47 : dec m_Hi_dropOldest 47 = .ok (.aload_n 0, 1) := by decide +kernel
theorem d_Hi_dropOldest_48 : dec m_Hi_dropOldest 48 = .ok (.dup, 1) := by decide +kernel
theorem d_Hi_dropOldest_49 : dec m_Hi_dropOldest 49 = .ok (.getfield 18, 3) := by decide +kernel
theorem d_Hi_dropOldest_52 : dec m_Hi_dropOldest 52 = .ok (.iconst 1, 1) := by decide +kernel
theorem d_Hi_dropOldest_53 : dec m_Hi_dropOldest 53 = .ok (.isub, 1) := by decide +kernel
theorem d_Hi_dropOldest_54 : dec m_Hi_dropOldest 54 = .ok (.putfield 18, 3) := by decide +kernel
theorem d_Hi_dropOldest_57 : dec m_Hi_dropOldest 57 = .ok (.return_, 1) := by decide +kernel
theorem d_Pf_init_0 : dec m_Pf_init 0 = .ok (.aload_n 0, 1) := by decide +kernel
theorem d_Pf_init_1 : dec m_Pf_init 1 = .ok (.invokespecial 3, 3) := by decide +kernel
theorem d_Pf_init_4 : dec m_Pf_init 4 = .ok (.aload_n 0, 1) := by decide +kernel
theorem d_Pf_init_5 : dec m_Pf_init 5 = .ok (.new 9, 3) := by decide +kernel
theorem d_Pf_init_8 : dec m_Pf_init 8 = .ok (.dup, 1) := by decide +kernel
theorem d_Pf_init_9 : dec m_Pf_init 9 = .ok (.sipush 200, 3) := by decide +kernel
theorem d_Pf_init_12 : dec m_Pf_init 12 = .ok (.invokespecial 11, 3) := by decide +kernel
theorem d_Pf_init_15 : dec m_Pf_init 15 = .ok (.putfield 14, 3) := by decide +kernel
theorem d_Pf_init_18 : dec m_Pf_init 18 = .ok (.return_, 1) := by decide +kernel
theorem d_Pf_winnerOf_0 : dec m_Pf_winnerOf 0 = .ok (.aload_n 0, 1) := by decide +kernel
theorem d_Pf_winnerOf_1 : dec m_Pf_winnerOf 1 = .ok (.invokevirtual 20, 3) := by decide +kernel
theorem d_Pf_winnerOf_4 : dec m_Pf_winnerOf 4 = .ok (.iconst 1, 1) := by decide +kernel
theorem d_Pf_winnerOf_5 : dec m_Pf_winnerOf 5 = .ok (.if_icmp .ne 7, 3) := by decide +kernel
theorem d_Pf_winnerOf_8 : dec m_Pf_winnerOf 8 = .ok (.iconst 0, 1) := by decide +kernel
theorem d_Pf_winnerOf_9 : dec m_Pf_winnerOf 9 = .ok (.goto 4, 3) := by decide +kernel
theorem d_Pf_winnerOf_12 : dec m_Pf_winnerOf 12 = .ok (.iconst 1, 1) := by decide +kernel
theorem d_Pf_winnerOf_13 : dec m_Pf_winnerOf 13 = .ok (.ireturn, 1) := by decide +kernel
theorem d_Pf_endOf_0 : dec m_Pf_endOf 0 = .ok (.aload_n 1, 1) := by decide +kernel
theorem d_Pf_endOf_1 : dec m_Pf_endOf 1 = .ok (.invokestatic 26, 3) := by decide +kernel
theorem d_Pf_endOf_4 : dec m_Pf_endOf 4 = .ok (.istore_n 3, 1) := by decide +kernel
theorem d_Pf_endOf_5 : dec m_Pf_endOf 5 = .ok (.iload_n 2, 1) := by decide +kernel
theorem d_Pf_endOf_6 : dec m_Pf_endOf 6 = .ok (.istore 4, 2) := by decide +kernel
theorem d_Pf_endOf_8 : dec m_Pf_endOf 8 = .ok (.iconst 0, 1) := by decide +kernel
theorem d_Pf_endOf_9 : dec m_Pf_endOf 9 = .ok (.istore 5, 2) := by decide +kernel
theorem d_Pf_endOf_11 : dec m_Pf_endOf 11 = .ok (.iconst 0, 1) := by decide +kernel
theorem d_Pf_endOf_12 : dec m_Pf_endOf 12 = .ok (.istore 6, 2) := by decide +kernel
theorem d_Pf_endOf_14 : dec m_Pf_endOf 14 = .ok (.iload 6, 2) := by decide +kernel
theorem d_Pf_endOf_16 : dec m_Pf_endOf 16 = .ok (.sipush 200, 3) := by decide +kernel
theorem d_Pf_endOf_19 : dec m_Pf_endOf 19 = .ok (.if_icmp .ge 73, 3) := by decide +kernel
theorem d_Pf_endOf_22 : dec m_Pf_endOf 22 = .ok (.aload_n 1, 1) := by decide +kernel
theorem d_Pf_endOf_23 : dec m_Pf_endOf 23 = .ok (.getfield 30, 3) := by decide +kernel
theorem d_Pf_endOf_26 : dec m_Pf_endOf 26 = .ok (.iload 5, 2) := by decide +kernel
theorem d_Pf_endOf_28 : dec m_Pf_endOf 28 = .ok (.invokevirtual 33, 3) := by decide +kernel
theorem d_Pf_endOf_31 : dec m_Pf_endOf 31 = .ok (.istore 7, 2) := by decide +kernel
theorem d_Pf_endOf_33 : dec m_Pf_endOf 33 = .ok (.iload 7, 2) := by decide +kernel
theorem d_Pf_endOf_35 : dec m_Pf_endOf 35 = .ok (.ifCond .gt 6, 3) := by decide +kernel
theorem d_Pf_endOf_38 : dec m_Pf_endOf 38 = .ok (.iload 5, 2) := by decide +kernel
theorem d_Pf_endOf_40 : dec m_Pf_endOf 40 = .ok (.ireturn, 1) := by decide +kernel
theorem d_Pf_endOf_41 : dec m_Pf_endOf 41 = .ok (.aload_n 1, 1) := by decide +kernel
theorem d_Pf_endOf_42 : dec m_Pf_endOf 42 = .ok (.iload 5, 2) := by decide +kernel
theorem d_Pf_endOf_44 : dec m_Pf_endOf 44 = .ok (.invokevirtual 37, 3) := by decide +kernel
theorem d_Pf_endOf_47 : dec m_Pf_endOf 47 = .ok (.iload_n 3, 1) := by decide +kernel
theorem d_Pf_endOf_48 : dec m_Pf_endOf 48 = .ok (.if_icmp .ne 14, 3) := by decide +kernel
theorem d_Pf_endOf_51 : dec m_Pf_endOf 51 = .ok (.aload_n 1, 1) := by decide +kernel
theorem d_Pf_endOf_52 : dec m_Pf_endOf 52 = .ok (.iload 5, 2) := by decide +kernel
theorem d_Pf_endOf_54 : dec m_Pf_endOf 54 = .ok (.invokevirtual 40, 3) := by decide +kernel
theorem d_Pf_endOf_57 : dec m_Pf_endOf 57 = .ok (.istore 5, 2) := by decide +kernel
theorem d_Pf_endOf_59 : dec m_Pf_endOf 59 = .ok (.goto 27, 3) := by decide +kernel
theorem d_Pf_endOf_62 : dec m_Pf_endOf 62 = .ok (.aload_n 1, 1) := by decide +kernel
theorem d_Pf_endOf_63 : dec m_Pf_endOf 63 = .ok (.getfield 43, 3) := by decide +kernel
theorem d_Pf_endOf_66 : dec m_Pf_endOf 66 = .ok (.iload 5, 2) := by decide +kernel
theorem d_Pf_endOf_68 : dec m_Pf_endOf 68 = .ok (.invokevirtual 33, 3) := by decide +kernel
theorem d_Pf_endOf_71 : dec m_Pf_endOf 71 = .ok (.iload 4, 2) := by decide +kernel
theorem d_Pf_endOf_73 : dec m_Pf_endOf 73 = .ok (.iload 7, 2) := by decide +kernel
theorem d_Pf_endOf_75 : dec m_Pf_endOf 75 = .ok (.irem, 1) := by decide +kernel
theorem d_Pf_endOf_76 : dec m_Pf_endOf 76 = .ok (.iadd, 1) := by decide +kernel
theorem d_Pf_endOf_77 : dec m_Pf_endOf 77 = .ok (.istore 5, 2) := by decide +kernel
theorem d_Pf_endOf_79 : dec m_Pf_endOf 79 = .ok (.iload 4, 2) := by decide +kernel
theorem d_Pf_endOf_81 : dec m_Pf_endOf 81 = .ok (.iload 7, 2) := by decide +kernel
theorem d_Pf_endOf_83 : dec m_Pf_endOf 83 = .ok (.idiv, 1) := by decide +kernel
theorem d_Pf_endOf_84 : dec m_Pf_endOf 84 = .ok (.istore 4, 2) := by decide +kernel
theorem d_Pf_endOf_86 : dec m_Pf_endOf 86 = .ok (.iinc 6 1, 3) := by decide +kernel
theorem d_Pf_endOf_89 : dec m_Pf_endOf 89 = .ok (.goto (-75), 3) := by decide +kernel
theorem d_Pf_endOf_92 : dec m_Pf_endOf 92 = .ok (.iload 5, 2) := by decide +kernel
theorem d_Pf_endOf_94 : dec m_Pf_endOf 94 = .ok (.ireturn, 1) := by decide +kernel
theorem d_Pf_sizeOf_0 : dec m_Pf_sizeOf 0 = .ok (.aload_n 1, 1) := by decide +kernel
theorem d_Pf_sizeOf_1 : dec m_Pf_sizeOf 1 = .ok (.invokestatic 26, 3) := by decide +kernel
theorem d_Pf_sizeOf_4 : dec m_Pf_sizeOf 4 = .ok (.istore_n 2, 1) := by decide +kernel
theorem d_Pf_sizeOf_5 : dec m_Pf_sizeOf 5 = .ok (.iconst 0, 1) := by decide +kernel
theorem d_Pf_sizeOf_6 : dec m_Pf_sizeOf 6 = .ok (.istore_n 3, 1) := by decide +kernel
theorem d_Pf_sizeOf_7 : dec m_Pf_sizeOf 7 = .ok (.aload_n 0, 1) := by decide +kernel
theorem d_Pf_sizeOf_8 : dec m_Pf_sizeOf 8 = .ok (.getfield 14, 3) := by decide +kernel
theorem d_Pf_sizeOf_11 : dec m_Pf_sizeOf 11 = .ok (.iconst 0, 1) := by decide +kernel
theorem d_Pf_sizeOf_12 : dec m_Pf_sizeOf 12 = .ok (.invokevirtual 46, 3) := by decide +kernel
theorem d_Pf_sizeOf_15 : dec m_Pf_sizeOf 15 = .ok (.aload_n 0, 1) := by decide +kernel
theorem d_Pf_sizeOf_16 : dec m_Pf_sizeOf 16 = .ok (.getfield 14, 3) := by decide +kernel
theorem d_Pf_sizeOf_19 : dec m_Pf_sizeOf 19 = .ok (.iconst 0, 1) := by decide +kernel
theorem d_Pf_sizeOf_20 : dec m_Pf_sizeOf 20 = .ok (.iconst 1, 1) := by decide +kernel
theorem d_Pf_sizeOf_21 : dec m_Pf_sizeOf 21 = .ok (.invokevirtual 49, 3) := by decide +kernel
theorem d_Pf_sizeOf_24 : dec m_Pf_sizeOf 24 = .ok (.iconst 0, 1) := by decide +kernel
theorem d_Pf_sizeOf_25 : dec m_Pf_sizeOf 25 = .ok (.istore 4, 2) := by decide +kernel
theorem d_Pf_sizeOf_27 : dec m_Pf_sizeOf 27 = .ok (.iload 4, 2) := by decide +kernel
theorem d_Pf_sizeOf_29 : dec m_Pf_sizeOf 29 = .ok (.aload_n 1, 1) := by decide +kernel
theorem d_Pf_sizeOf_30 : dec m_Pf_sizeOf 30 = .ok (.getfield 53, 3) := by decide +kernel
theorem d_Pf_sizeOf_33 : dec m_Pf_sizeOf 33 = .ok (.if_icmp .ge 33, 3) := by decide +kernel
theorem d_Pf_sizeOf_36 : dec m_Pf_sizeOf 36 = .ok (.aload_n 0, 1) := by decide +kernel
theorem d_Pf_sizeOf_37 : dec m_Pf_sizeOf 37 = .ok (.getfield 14, 3) := by decide +kernel
theorem d_Pf_sizeOf_40 : dec m_Pf_sizeOf 40 = .ok (.iload 4, 2) := by decide +kernel
theorem d_Pf_sizeOf_42 : dec m_Pf_sizeOf 42 = .ok (.invokevirtual 33, 3) := by decide +kernel
theorem d_Pf_sizeOf_45 : dec m_Pf_sizeOf 45 = .ok (.iconst 1, 1) := by decide +kernel
theorem d_Pf_sizeOf_46 : dec m_Pf_sizeOf 46 = .ok (.if_icmp .ne 14, 3) := by decide +kernel
theorem d_Pf_sizeOf_49 : dec m_Pf_sizeOf 49 = .ok (.iinc 3 1, 3) := by decide +kernel
theorem d_Pf_sizeOf_52 : dec m_Pf_sizeOf 52 = .ok (.aload_n 0, 1) := by decide +kernel
theorem d_Pf_sizeOf_53 : dec m_Pf_sizeOf 53 = .ok (.aload_n 1, 1) := by decide +kernel
theorem d_Pf_sizeOf_54 : dec m_Pf_sizeOf 54 = .ok (.iload 4, 2) := by decide +kernel
theorem d_Pf_sizeOf_56 : dec m_Pf_sizeOf 56 = .ok (.iload_n 2, 1) := by decide +kernel
theorem d_Pf_sizeOf_57 : dec m_Pf_sizeOf 57 = .ok (.invokevirtual 57, 3) := by decide +kernel
theorem d_Pf_sizeOf_60 : dec m_Pf_sizeOf 60 = .ok (.iinc 4 1, 3) := by decide +kernel
theorem d_Pf_sizeOf_63 : dec m_Pf_sizeOf 63 = .ok (.goto (-36), 3) := by decide +kernel
theorem d_Pf_sizeOf_66 : dec m_Pf_sizeOf 66 = .ok (.iload_n 3, 1) := by decide +kernel
theorem d_Pf_sizeOf_67 : dec m_Pf_sizeOf 67 = .ok (.ireturn, 1) := by decide +kernel
theorem d_Pf_takeChildren_0 : dec m_Pf_takeChildren 0 = .ok (.aload_n 1, 1) := by decide +kernel
theorem d_Pf_takeChildren_1 : dec m_Pf_takeChildren 1 = .ok (.iload_n 2, 1) := by decide +kernel
theorem d_Pf_takeChildren_2 : dec m_Pf_takeChildren 2 = .ok (.invokevirtual 61, 3) := by decide +kernel
theorem d_Pf_takeChildren_5 : dec m_Pf_takeChildren 5 = .ok (.ifCond .eq 4, 3) := by decide +kernel
theorem d_Pf_takeChildren_8 : dec m_Pf_takeChildren 8 = .ok (.return_, 1) := by decide +kernel
theorem d_Pf_takeChildren_9 : dec m_Pf_takeChildren 9 = .ok (.aload_n 1, 1) := by decide +kernel
theorem d_Pf_takeChildren_10 : dec m_Pf_takeChildren 10 = .ok (.iload_n 2, 1) := by decide +kernel
theorem d_Pf_takeChildren_11 : dec m_Pf_takeChildren 11 = .ok (.invokevirtual 37, 3) := by decide +kernel
theorem d_Pf_takeChildren_14 : dec m_Pf_takeChildren 14 = .ok (.iload_n 3, 1) := by decide +kernel
theorem d_Pf_takeChildren_15 : dec m_Pf_takeChildren 15 = .ok (.if_icmp .ne 17, 3) := by decide +kernel
theorem d_Pf_takeChildren_18 : dec m_Pf_takeChildren 18 = .ok (.aload_n 0, 1) := by decide +kernel
theorem d_Pf_takeChildren_19 : dec m_Pf_takeChildren 19 = .ok (.getfield 14, 3) := by decide +kernel
theorem d_Pf_takeChildren_22 : dec m_Pf_takeChildren 22 = .ok (.aload_n 1, 1) := by decide +kernel
theorem d_Pf_takeChildren_23 : dec m_Pf_takeChildren 23 = .ok (.iload_n 2, 1) := by decide +kernel
theorem d_Pf_takeChildren_24 : dec m_Pf_takeChildren 24 = .ok (.invokevirtual 40, 3) := by decide +kernel
theorem d_Pf_takeChildren_27 : dec m_Pf_takeChildren 27 = .ok (.iconst 1, 1) := by decide +kernel
theorem d_Pf_takeChildren_28 : dec m_Pf_takeChildren 28 = .ok (.invokevirtual 49, 3) := by decide +kernel
theorem d_Pf_takeChildren_31 : dec m_Pf_takeChildren 31 = .ok (.return_, 1) := by decide +kernel
theorem d_Pf_takeChildren_32 : dec m_Pf_takeChildren 32 = .ok (.aload_n 1, 1) := by decide +kernel
theorem d_Pf_takeChildren_33 : dec m_Pf_takeChildren 33 = .ok (.iload_n 2, 1) := by decide +kernel
theorem d_Pf_takeChildren_34 : dec m_Pf_takeChildren 34 = .ok (.invokevirtual 65, 3) := by decide +kernel
theorem d_Pf_takeChildren_37 : dec m_Pf_takeChildren 37 = .ok (.istore 4, 2) := by decide +kernel
theorem d_Pf_takeChildren_39 : dec m_Pf_takeChildren 39 = .ok (.aload_n 1, 1) := by decide +kernel
theorem d_Pf_takeChildren_40 : dec m_Pf_takeChildren 40 = .ok (.getfield 43, 3) := by decide +kernel
theorem d_Pf_takeChildren_43 : dec m_Pf_takeChildren 43 = .ok (.iload_n 2, 1) := by decide +kernel
theorem d_Pf_takeChildren_44 : dec m_Pf_takeChildren 44 = .ok (.invokevirtual 33, 3) := by decide +kernel
theorem d_Pf_takeChildren_47 : dec m_Pf_takeChildren 47 = .ok (.istore 5, 2) := by decide +kernel
theorem d_Pf_takeChildren_49 : dec m_Pf_takeChildren 49 = .ok (.iload 5, 2) := by decide +kernel
theorem d_Pf_takeChildren_51 : dec m_Pf_takeChildren 51 = .ok (.iload 4, 2) := by decide +kernel
theorem d_Pf_takeChildren_53 : dec m_Pf_takeChildren 53 = .ok (.if_icmp .ge 19, 3) := by decide +kernel
theorem d_Pf_takeChildren_56 : dec m_Pf_takeChildren 56 = .ok (.aload_n 0, 1) := by decide +kernel
theorem d_Pf_takeChildren_57 : dec m_Pf_takeChildren 57 = .ok (.getfield 14, 3) := by decide +kernel
theorem d_Pf_takeChildren_60 : dec m_Pf_takeChildren 60 = .ok (.iload 5, 2) := by decide +kernel
theorem d_Pf_takeChildren_62 : dec m_Pf_takeChildren 62 = .ok (.iconst 1, 1) := by decide +kernel
theorem d_Pf_takeChildren_63 : dec m_Pf_takeChildren 63 = .ok (.invokevirtual 49, 3) := by decide +kernel
theorem d_Pf_takeChildren_66 : dec m_Pf_takeChildren 66 = .ok (.iinc 5 1, 3) := by decide +kernel
theorem d_Pf_takeChildren_69 : dec m_Pf_takeChildren 69 = .ok (.goto (-20), 3) := by decide +kernel
theorem d_Pf_takeChildren_72 : dec m_Pf_takeChildren 72 = .ok (.return_, 1) := by decide +kernel
theorem d_Rd_init_0 : dec m_Rd_init 0 = .ok (.aload_n 0, 1) := by decide +kernel
theorem d_Rd_init_1 : dec m_Rd_init 1 = .ok (.invokespecial 3, 3) := by decide +kernel
theorem d_Rd_init_4 : dec m_Rd_init 4 = .ok (.aload_n 0, 1) := by decide +kernel
theorem d_Rd_init_5 : dec m_Rd_init 5 = .ok (.new 9, 3) := by decide +kernel
theorem d_Rd_init_8 : dec m_Rd_init 8 = .ok (.dup, 1) := by decide +kernel
theorem d_Rd_init_9 : dec m_Rd_init 9 = .ok (.invokespecial 11, 3) := by decide +kernel
theorem d_Rd_init_12 : dec m_Rd_init 12 = .ok (.putfield 12, 3) := by decide +kernel
theorem d_Rd_init_15 : dec m_Rd_init 15 = .ok (.aload_n 0, 1) := by decide +kernel
theorem d_Rd_init_16 : dec m_Rd_init 16 = .ok (.aload_n 1, 1) := by decide +kernel
theorem d_Rd_init_17 : dec m_Rd_init 17 = .ok (.putfield 18, 3) := by decide +kernel
theorem d_Rd_init_20 : dec m_Rd_init 20 = .ok (.return_, 1) := by decide +kernel
theorem d_Rd_readText_0 : dec m_Rd_readText 0 = .ok (.aload_n 0, 1) := by decide +kernel
theorem d_Rd_readText_1 : dec m_Rd_readText 1 = .ok (.getfield 12, 3) := by decide +kernel
theorem d_Rd_readText_4 : dec m_Rd_readText 4 = .ok (.invokevirtual 22, 3) := by decide +kernel
theorem d_Rd_readText_7 : dec m_Rd_readText 7 = .ok (.aload_n 0, 1) := by decide +kernel
theorem d_Rd_readText_8 : dec m_Rd_readText 8 = .ok (.iconst 0, 1) := by decide +kernel
theorem d_Rd_readText_9 : dec m_Rd_readText 9 = .ok (.putfield 25, 3) := by decide +kernel
theorem d_Rd_readText_12 : dec m_Rd_readText 12 = .ok (.iconst 0, 1) := by decide +kernel
theorem d_Rd_readText_13 : dec m_Rd_readText 13 = .ok (.istore_n 1, 1) := by decide +kernel
theorem d_Rd_readText_14 : dec m_Rd_readText 14 = .ok (.iload_n 1, 1) := by decide +kernel
theorem d_Rd_readText_15 : dec m_Rd_readText 15 = .ok (.bipush 60, 2) := by decide +kernel
theorem d_Rd_readText_17 : dec m_Rd_readText 17 = .ok (.if_icmp .ge 52, 3) := by decide +kernel
theorem d_Rd_readText_20 : dec m_Rd_readText 20 = .ok (.aload_n 0, 1) := by decide +kernel
theorem d_Rd_readText_21 : dec m_Rd_readText 21 = .ok (.invokevirtual 29, 3) := by decide +kernel
theorem d_Rd_readText_24 : dec m_Rd_readText 24 = .ok (.ifCond .ne 8, 3) := by decide +kernel
theorem d_Rd_readText_27 : dec m_Rd_readText 27 = .ok (.aload_n 0, 1) := by decide +kernel
theorem d_Rd_readText_28 : dec m_Rd_readText 28 = .ok (.getfield 25, 3) := by decide +kernel
theorem d_Rd_readText_31 : dec m_Rd_readText 31 = .ok (.ireturn, 1) := by decide +kernel
theorem d_Rd_readText_32 : dec m_Rd_readText 32 = .ok (.aload_n 0, 1) := by decide +kernel
theorem d_Rd_readText_33 : dec m_Rd_readText 33 = .ok (.getfield 18, 3) := by decide +kernel
theorem d_Rd_readText_36 : dec m_Rd_readText 36 = .ok (.aload_n 0, 1) := by decide +kernel
theorem d_Rd_readText_37 : dec m_Rd_readText 37 = .ok (.getfield 25, 3) := by decide +kernel
theorem d_Rd_readText_40 : dec m_Rd_readText 40 = .ok (.invokevirtual 33, 3) := by decide +kernel
theorem d_Rd_readText_43 : dec m_Rd_readText 43 = .ok (.iconst (-1), 1) := by decide +kernel
theorem d_Rd_readText_44 : dec m_Rd_readText 44 = .ok (.if_icmp .ne 5, 3) := by decide +kernel
theorem d_Rd_readText_47 : dec m_Rd_readText 47 = .ok (.iconst (-1), 1) := by decide +kernel
theorem d_Rd_readText_48 : dec m_Rd_readText 48 = .ok (.ireturn, 1) := by decide +kernel
theorem d_Rd_readText_49 : dec m_Rd_readText 49 = .ok (.aload_n 0, 1) := by decide +kernel
theorem d_Rd_readText_50 : dec m_Rd_readText 50 = .ok (.bipush 44, 2) := by decide +kernel
theorem d_Rd_readText_52 : dec m_Rd_readText 52 = .ok (.invokevirtual 39, 3) := by decide +kernel
theorem d_Rd_readText_55 : dec m_Rd_readText 55 = .ok (.ifCond .ne 8, 3) := by decide +kernel
theorem d_Rd_readText_58 : dec m_Rd_readText 58 = .ok (.aload_n 0, 1) := by decide +kernel
theorem d_Rd_readText_59 : dec m_Rd_readText 59 = .ok (.getfield 25, 3) := by decide +kernel
theorem d_Rd_readText_62 : dec m_Rd_readText 62 = .ok (.ireturn, 1) := by decide +kernel
theorem d_Rd_readText_63 : dec m_Rd_readText 63 = .ok (.iinc 1 1, 3) := by decide +kernel
theorem d_Rd_readText_66 : dec m_Rd_readText 66 = .ok (.goto (-52), 3) := by decide +kernel
theorem d_Rd_readText_69 : dec m_Rd_readText 69 = .ok (.aload_n 0, 1) := by decide +kernel
theorem d_Rd_readText_70 : dec m_Rd_readText 70 = .ok (.getfield 25, 3) := by decide +kernel
theorem d_Rd_readText_73 : dec m_Rd_readText 73 = .ok (.ireturn, 1) := by decide +kernel
theorem d_Rd_readEntry_0 : dec m_Rd_readEntry 0 = .ok (.aload_n 0, 1) := by decide +kernel
theorem d_Rd_readEntry_1 : dec m_Rd_readEntry 1 = .ok (.invokevirtual 43, 3) := by decide +kernel
theorem d_Rd_readEntry_4 : dec m_Rd_readEntry 4 = .ok (.istore_n 1, 1) := by decide +kernel
theorem d_Rd_readEntry_5 : dec m_Rd_readEntry 5 = .ok (.iload_n 1, 1) := by decide +kernel
theorem d_Rd_readEntry_6 : dec m_Rd_readEntry 6 = .ok (.bipush (-5), 2) := by decide +kernel
theorem d_Rd_readEntry_8 : dec m_Rd_readEntry 8 = .ok (.if_icmp .ne 5, 3) := by decide +kernel
theorem d_Rd_readEntry_11 : dec m_Rd_readEntry 11 = .ok (.iconst 0, 1) := by decide +kernel
theorem d_Rd_readEntry_12 : dec m_Rd_readEntry 12 = .ok (.ireturn, 1) := by decide +kernel
theorem d_Rd_readEntry_13 : dec m_Rd_readEntry 13 = .ok (.aload_n 0, 1) := by decide +kernel
theorem d_Rd_readEntry_14 : dec m_Rd_readEntry 14 = .ok (.bipush 119, 2) := by decide +kernel
theorem d_Rd_readEntry_16 : dec m_Rd_readEntry 16 = .ok (.invokevirtual 39, 3) := by decide +kernel
theorem d_Rd_readEntry_19 : dec m_Rd_readEntry 19 = .ok (.ifCond .eq 17, 3) := by decide +kernel
theorem d_Rd_readEntry_22 : dec m_Rd_readEntry 22 = .ok (.aload_n 0, 1) := by decide +kernel
theorem d_Rd_readEntry_23 : dec m_Rd_readEntry 23 = .ok (.getfield 12, 3) := by decide +kernel
theorem d_Rd_readEntry_26 : dec m_Rd_readEntry 26 = .ok (.getfield 47, 3) := by decide +kernel
theorem d_Rd_readEntry_29 : dec m_Rd_readEntry 29 = .ok (.iload_n 1, 1) := by decide +kernel
theorem d_Rd_readEntry_30 : dec m_Rd_readEntry 30 = .ok (.iconst 1, 1) := by decide +kernel
theorem d_Rd_readEntry_31 : dec m_Rd_readEntry 31 = .ok (.invokevirtual 51, 3) := by decide +kernel
theorem d_Rd_readEntry_34 : dec m_Rd_readEntry 34 = .ok (.iconst 1, 1) := by decide +kernel
theorem d_Rd_readEntry_35 : dec m_Rd_readEntry 35 = .ok (.ireturn, 1) := by decide +kernel
theorem d_Rd_readEntry_36 : dec m_Rd_readEntry 36 = .ok (.aload_n 0, 1) := by decide +kernel
theorem d_Rd_readEntry_37 : dec m_Rd_readEntry 37 = .ok (.bipush 108, 2) := by decide +kernel
theorem d_Rd_readEntry_39 : dec m_Rd_readEntry 39 = .ok (.invokevirtual 39, 3) := by decide +kernel
theorem d_Rd_readEntry_42 : dec m_Rd_readEntry 42 = .ok (.ifCond .eq 17, 3) := by decide +kernel
theorem d_Rd_readEntry_45 : dec m_Rd_readEntry 45 = .ok (.aload_n 0, 1) := by decide +kernel
theorem d_Rd_readEntry_46 : dec m_Rd_readEntry 46 = .ok (.getfield 12, 3) := by decide +kernel
theorem d_Rd_readEntry_49 : dec m_Rd_readEntry 49 = .ok (.getfield 47, 3) := by decide +kernel
theorem d_Rd_readEntry_52 : dec m_Rd_readEntry 52 = .ok (.iload_n 1, 1) := by decide +kernel
theorem d_Rd_readEntry_53 : dec m_Rd_readEntry 53 = .ok (.iconst 2, 1) := by decide +kernel
theorem d_Rd_readEntry_54 : dec m_Rd_readEntry 54 = .ok (.invokevirtual 51, 3) := by decide +kernel
theorem d_Rd_readEntry_57 : dec m_Rd_readEntry 57 = .ok (.iconst 1, 1) := by decide +kernel
theorem d_Rd_readEntry_58 : dec m_Rd_readEntry 58 = .ok (.ireturn, 1) := by decide +kernel
theorem d_Rd_readEntry_59 : dec m_Rd_readEntry 59 = .ok (.aload_n 0, 1) := by decide +kernel
theorem d_Rd_readEntry_60 : dec m_Rd_readEntry 60 = .ok (.bipush 100, 2) := by decide +kernel
theorem d_Rd_readEntry_62 : dec m_Rd_readEntry 62 = .ok (.invokevirtual 39, 3) := by decide +kernel
theorem d_Rd_readEntry_65 : dec m_Rd_readEntry 65 = .ok (.ifCond .eq 17, 3) := by decide +kernel
theorem d_Rd_readEntry_68 : dec m_Rd_readEntry 68 = .ok (.aload_n 0, 1) := by decide +kernel
theorem d_Rd_readEntry_69 : dec m_Rd_readEntry 69 = .ok (.getfield 12, 3) := by decide +kernel
theorem d_Rd_readEntry_72 : dec m_Rd_readEntry 72 = .ok (.getfield 57, 3) := by decide +kernel
theorem d_Rd_readEntry_75 : dec m_Rd_readEntry 75 = .ok (.iload_n 1, 1) := by decide +kernel
theorem d_Rd_readEntry_76 : dec m_Rd_readEntry 76 = .ok (.iconst 1, 1) := by decide +kernel
theorem d_Rd_readEntry_77 : dec m_Rd_readEntry 77 = .ok (.invokevirtual 51, 3) := by decide +kernel
theorem d_Rd_readEntry_80 : dec m_Rd_readEntry 80 = .ok (.iconst 1, 1) := by decide +kernel
theorem d_Rd_readEntry_81 : dec m_Rd_readEntry 81 = .ok (.ireturn, 1) := by decide +kernel
theorem d_Rd_readEntry_82 : dec m_Rd_readEntry 82 = .ok (.aload_n 0, 1) := by decide +kernel
theorem d_Rd_readEntry_83 : dec m_Rd_readEntry 83 = .ok (.bipush 62, 2) := by decide +kernel
theorem d_Rd_readEntry_85 : dec m_Rd_readEntry 85 = .ok (.invokevirtual 39, 3) := by decide +kernel
theorem d_Rd_readEntry_88 : dec m_Rd_readEntry 88 = .ok (.ifCond .eq 15, 3) := by decide +kernel
theorem d_Rd_readEntry_91 : dec m_Rd_readEntry 91 = .ok (.aload_n 0, 1) := by decide +kernel
theorem d_Rd_readEntry_92 : dec m_Rd_readEntry 92 = .ok (.iload_n 1, 1) := by decide +kernel
theorem d_Rd_readEntry_93 : dec m_Rd_readEntry 93 = .ok (.invokevirtual 60, 3) := by decide +kernel
theorem d_Rd_readEntry_96 : dec m_Rd_readEntry 96 = .ok (.ifCond .eq 7, 3) := by decide +kernel
theorem d_Rd_readEntry_99 : dec m_Rd_readEntry 99 = .ok (.iconst 1, 1) := by decide +kernel
theorem d_Rd_readEntry_100 : dec m_Rd_readEntry 100 = .ok (.goto 4, 3) := by decide +kernel
theorem d_Rd_readEntry_103 : dec m_Rd_readEntry 103 = .ok (.iconst 0, 1) := by decide +kernel
theorem d_Rd_readEntry_104 : dec m_Rd_readEntry 104 = .ok (.ireturn, 1) := by decide +kernel
theorem d_Rd_readTargets_0 : dec m_Rd_readTargets 0 = .ok (.iconst 0, 1) := by decide +kernel
theorem d_Rd_readTargets_1 : dec m_Rd_readTargets 1 = .ok (.istore_n 2, 1) := by decide +kernel
theorem d_Rd_readTargets_2 : dec m_Rd_readTargets 2 = .ok (.iload_n 2, 1) := by decide +kernel
theorem d_Rd_readTargets_3 : dec m_Rd_readTargets 3 = .ok (.bipush 60, 2) := by decide +kernel
theorem d_Rd_readTargets_5 : dec m_Rd_readTargets 5 = .ok (.if_icmp .ge 56, 3) := by decide +kernel
theorem d_Rd_readTargets_8 : dec m_Rd_readTargets 8 = .ok (.aload_n 0, 1) := by decide +kernel
theorem d_Rd_readTargets_9 : dec m_Rd_readTargets 9 = .ok (.invokevirtual 43, 3) := by decide +kernel
theorem d_Rd_readTargets_12 : dec m_Rd_readTargets 12 = .ok (.istore_n 3, 1) := by decide +kernel
theorem d_Rd_readTargets_13 : dec m_Rd_readTargets 13 = .ok (.iload_n 3, 1) := by decide +kernel
theorem d_Rd_readTargets_14 : dec m_Rd_readTargets 14 = .ok (.bipush (-5), 2) := by decide +kernel
theorem d_Rd_readTargets_16 : dec m_Rd_readTargets 16 = .ok (.if_icmp .ne 5, 3) := by decide +kernel
theorem d_Rd_readTargets_19 : dec m_Rd_readTargets 19 = .ok (.iconst 0, 1) := by decide +kernel
theorem d_Rd_readTargets_20 : dec m_Rd_readTargets 20 = .ok (.ireturn, 1) := by decide +kernel
theorem d_Rd_readTargets_21 : dec m_Rd_readTargets 21 = .ok (.aload_n 0, 1) := by decide +kernel
theorem d_Rd_readTargets_22 : dec m_Rd_readTargets 22 = .ok (.getfield 12, 3) := by decide +kernel
theorem d_Rd_readTargets_25 : dec m_Rd_readTargets 25 = .ok (.iload_n 1, 1) := by decide +kernel
theorem d_Rd_readTargets_26 : dec m_Rd_readTargets 26 = .ok (.iload_n 3, 1) := by decide +kernel
theorem d_Rd_readTargets_27 : dec m_Rd_readTargets 27 = .ok (.invokevirtual 64, 3) := by decide +kernel
theorem d_Rd_readTargets_30 : dec m_Rd_readTargets 30 = .ok (.bipush (-5), 2) := by decide +kernel
theorem d_Rd_readTargets_32 : dec m_Rd_readTargets 32 = .ok (.if_icmp .ne 12, 3) := by decide +kernel
theorem d_Rd_readTargets_35 : dec m_Rd_readTargets 35 = .ok (.aload_n 0, 1) := by decide +kernel
theorem d_Rd_readTargets_36 : dec m_Rd_readTargets 36 = .ok (.getfield 12, 3) := by decide +kernel
theorem d_Rd_readTargets_39 : dec m_Rd_readTargets 39 = .ok (.iload_n 1, 1) := by decide +kernel
theorem d_Rd_readTargets_40 : dec m_Rd_readTargets 40 = .ok (.iload_n 3, 1) := by decide +kernel
theorem d_Rd_readTargets_41 : dec m_Rd_readTargets 41 = .ok (.invokevirtual 68, 3) := by decide +kernel
theorem d_Rd_readTargets_44 : dec m_Rd_readTargets 44 = .ok (.aload_n 0, 1) := by decide +kernel
theorem d_Rd_readTargets_45 : dec m_Rd_readTargets 45 = .ok (.bipush 46, 2) := by decide +kernel
theorem d_Rd_readTargets_47 : dec m_Rd_readTargets 47 = .ok (.invokevirtual 39, 3) := by decide +kernel
theorem d_Rd_readTargets_50 : dec m_Rd_readTargets 50 = .ok (.ifCond .ne 5, 3) := by decide +kernel
theorem d_Rd_readTargets_53 : dec m_Rd_readTargets 53 = .ok (.iconst 1, 1) := by decide +kernel
theorem d_Rd_readTargets_54 : dec m_Rd_readTargets 54 = .ok (.ireturn, 1) := by decide +kernel
theorem d_Rd_readTargets_55 : dec m_Rd_readTargets 55 = .ok (.iinc 2 1, 3) := by decide +kernel
theorem d_Rd_readTargets_58 : dec m_Rd_readTargets 58 = .ok (.goto (-56), 3) := by decide +kernel
theorem d_Rd_readTargets_61 : dec m_Rd_readTargets 61 = .ok (.iconst 0, 1) := by decide +kernel
theorem d_Rd_readTargets_62 : dec m_Rd_readTargets 62 = .ok (.ireturn, 1) := by decide +kernel
theorem d_Rd_readPosition_0 : dec m_Rd_readPosition 0 = .ok (.aload_n 0, 1) := by decide +kernel
theorem d_Rd_readPosition_1 : dec m_Rd_readPosition 1 = .ok (.invokevirtual 71, 3) := by decide +kernel
theorem d_Rd_readPosition_4 : dec m_Rd_readPosition 4 = .ok (.istore_n 1, 1) := by decide +kernel
theorem d_Rd_readPosition_5 : dec m_Rd_readPosition 5 = .ok (.iload_n 1, 1) := by decide +kernel
theorem d_Rd_readPosition_6 : dec m_Rd_readPosition 6 = .ok (.bipush (-5), 2) := by decide +kernel
theorem d_Rd_readPosition_8 : dec m_Rd_readPosition 8 = .ok (.if_icmp .ne 6, 3) := by decide +kernel
theorem d_Rd_readPosition_11 : dec m_Rd_readPosition 11 = .ok (.bipush (-5), 2) := by decide +kernel
theorem d_Rd_readPosition_13 : dec m_Rd_readPosition 13 = .ok (.ireturn, 1) := by decide +kernel
theorem d_Rd_readPosition_14 : dec m_Rd_readPosition 14 = .ok (.aload_n 0, 1) := by decide +kernel
theorem d_Rd_readPosition_15 : dec m_Rd_readPosition 15 = .ok (.dup, 1) := by decide +kernel
theorem d_Rd_readPosition_16 : dec m_Rd_readPosition 16 = .ok (.getfield 25, 3) := by decide +kernel
theorem d_Rd_readPosition_19 : dec m_Rd_readPosition 19 = .ok (.iconst 1, 1) := by decide +kernel
theorem d_Rd_readPosition_20 : dec m_Rd_readPosition 20 = .ok (.iadd, 1) := by decide +kernel
theorem d_Rd_readPosition_21 : dec m_Rd_readPosition 21 = .ok (.putfield 25, 3) := by decide +kernel
theorem d_Rd_readPosition_24 : dec m_Rd_readPosition 24 = .ok (.aload_n 0, 1) := by decide +kernel
theorem d_Rd_readPosition_25 : dec m_Rd_readPosition 25 = .ok (.invokevirtual 71, 3) := by decide +kernel
theorem d_Rd_readPosition_28 : dec m_Rd_readPosition 28 = .ok (.istore_n 2, 1) := by decide +kernel
theorem d_Rd_readPosition_29 : dec m_Rd_readPosition 29 = .ok (.iload_n 1, 1) := by decide +kernel
theorem d_Rd_readPosition_30 : dec m_Rd_readPosition 30 = .ok (.iconst 1, 1) := by decide +kernel
theorem d_Rd_readPosition_31 : dec m_Rd_readPosition 31 = .ok (.if_icmp .ne 9, 3) := by decide +kernel
theorem d_Rd_readPosition_34 : dec m_Rd_readPosition 34 = .ok (.iload_n 2, 1) := by decide +kernel
theorem d_Rd_readPosition_35 : dec m_Rd_readPosition 35 = .ok (.bipush (-5), 2) := by decide +kernel
theorem d_Rd_readPosition_37 : dec m_Rd_readPosition 37 = .ok (.if_icmp .ne 5, 3) := by decide +kernel
theorem d_Rd_readPosition_40 : dec m_Rd_readPosition 40 = .ok (.iload_n 1, 1) := by decide +kernel
theorem d_Rd_readPosition_41 : dec m_Rd_readPosition 41 = .ok (.ireturn, 1) := by decide +kernel
theorem d_Rd_readPosition_42 : dec m_Rd_readPosition 42 = .ok (.aload_n 0, 1) := by decide +kernel
theorem d_Rd_readPosition_43 : dec m_Rd_readPosition 43 = .ok (.dup, 1) := by decide +kernel
theorem d_Rd_readPosition_44 : dec m_Rd_readPosition 44 = .ok (.getfield 25, 3) := by decide +kernel
theorem d_Rd_readPosition_47 : dec m_Rd_readPosition 47 = .ok (.iconst 1, 1) := by decide +kernel
theorem d_Rd_readPosition_48 : dec m_Rd_readPosition 48 = .ok (.iadd, 1) := by decide +kernel
theorem d_Rd_readPosition_49 : dec m_Rd_readPosition 49 = .ok (.putfield 25, 3) := by decide +kernel
theorem d_Rd_readPosition_52 : dec m_Rd_readPosition 52 = .ok (.bipush 10, 2) := by decide +kernel
theorem d_Rd_readPosition_54 : dec m_Rd_readPosition 54 = .ok (.iload_n 2, 1) := by decide +kernel
theorem d_Rd_readPosition_55 : dec m_Rd_readPosition 55 = .ok (.iadd, 1) := by decide +kernel
theorem d_Rd_readPosition_56 : dec m_Rd_readPosition 56 = .ok (.ireturn, 1) := by decide +kernel
theorem d_Rd_digit_0 : dec m_Rd_digit 0 = .ok (.aload_n 0, 1) := by decide +kernel
theorem d_Rd_digit_1 : dec m_Rd_digit 1 = .ok (.getfield 18, 3) := by decide +kernel
theorem d_Rd_digit_4 : dec m_Rd_digit 4 = .ok (.aload_n 0, 1) := by decide +kernel
theorem d_Rd_digit_5 : dec m_Rd_digit 5 = .ok (.getfield 25, 3) := by decide +kernel
theorem d_Rd_digit_8 : dec m_Rd_digit 8 = .ok (.invokevirtual 33, 3) := by decide +kernel
theorem d_Rd_digit_11 : dec m_Rd_digit 11 = .ok (.istore_n 1, 1) := by decide +kernel
theorem d_Rd_digit_12 : dec m_Rd_digit 12 = .ok (.iload_n 1, 1) := by decide +kernel
theorem d_Rd_digit_13 : dec m_Rd_digit 13 = .ok (.bipush 48, 2) := by decide +kernel
theorem d_Rd_digit_15 : dec m_Rd_digit 15 = .ok (.if_icmp .lt 16, 3) := by decide +kernel
theorem d_Rd_digit_18 : dec m_Rd_digit 18 = .ok (.iload_n 1, 1) := by decide +kernel
theorem d_Rd_digit_19 : dec m_Rd_digit 19 = .ok (.bipush 57, 2) := by decide +kernel
theorem d_Rd_digit_21 : dec m_Rd_digit 21 = .ok (.if_icmp .gt 10, 3) := by decide +kernel
theorem d_Rd_digit_24 : dec m_Rd_digit 24 = .ok (.iload_n 1, 1) := by decide +kernel
theorem d_Rd_digit_25 : dec m_Rd_digit 25 = .ok (.bipush 48, 2) := by decide +kernel
theorem d_Rd_digit_27 : dec m_Rd_digit 27 = .ok (.isub, 1) := by decide +kernel
theorem d_Rd_digit_28 : dec m_Rd_digit 28 = .ok (.goto 5, 3) := by decide +kernel
theorem d_Rd_digit_31 : dec m_Rd_digit 31 = .ok (.bipush (-5), 2) := by decide +kernel
theorem d_Rd_digit_33 : dec m_Rd_digit 33 = .ok (.ireturn, 1) := by decide +kernel
theorem d_Rd_skip_0 : dec m_Rd_skip 0 = .ok (.aload_n 0, 1) := by decide +kernel
theorem d_Rd_skip_1 : dec m_Rd_skip 1 = .ok (.getfield 18, 3) := by decide +kernel
theorem d_Rd_skip_4 : dec m_Rd_skip 4 = .ok (.aload_n 0, 1) := by decide +kernel
theorem d_Rd_skip_5 : dec m_Rd_skip 5 = .ok (.getfield 25, 3) := by decide +kernel
theorem d_Rd_skip_8 : dec m_Rd_skip 8 = .ok (.invokevirtual 33, 3) := by decide +kernel
theorem d_Rd_skip_11 : dec m_Rd_skip 11 = .ok (.iload_n 1, 1) := by decide +kernel
theorem d_Rd_skip_12 : dec m_Rd_skip 12 = .ok (.if_icmp .eq 5, 3) := by decide +kernel
theorem d_Rd_skip_15 : dec m_Rd_skip 15 = .ok (.iconst 0, 1) := by decide +kernel
theorem d_Rd_skip_16 : dec m_Rd_skip 16 = .ok (.ireturn, 1) := by decide +kernel
theorem d_Rd_skip_17 : dec m_Rd_skip 17 = .ok (.aload_n 0, 1) := by decide +kernel
theorem d_Rd_skip_18 : dec m_Rd_skip 18 = .ok (.dup, 1) := by decide +kernel
theorem d_Rd_skip_19 : dec m_Rd_skip 19 = .ok (.getfield 25, 3) := by decide +kernel
theorem d_Rd_skip_22 : dec m_Rd_skip 22 = .ok (.iconst 1, 1) := by decide +kernel
theorem d_Rd_skip_23 : dec m_Rd_skip 23 = .ok (.iadd, 1) := by decide +kernel
theorem d_Rd_skip_24 : dec m_Rd_skip 24 = .ok (.putfield 25, 3) := by decide +kernel
theorem d_Rd_skip_27 : dec m_Rd_skip 27 = .ok (.iconst 1, 1) := by decide +kernel
theorem d_Rd_skip_28 : dec m_Rd_skip 28 = .ok (.ireturn, 1) := by decide +kernel
theorem d_Ro_init_0 : dec m_Ro_init 0 = .ok (.aload_n 0, 1) := by decide +kernel
theorem d_Ro_init_1 : dec m_Ro_init 1 = .ok (.invokespecial 3, 3) := by decide +kernel
theorem d_Ro_init_4 : dec m_Ro_init 4 = .ok (.aload_n 0, 1) := by decide +kernel
theorem d_Ro_init_5 : dec m_Ro_init 5 = .ok (.new 9, 3) := by decide +kernel
theorem d_Ro_init_8 : dec m_Ro_init 8 = .ok (.dup, 1) := by decide +kernel
theorem d_Ro_init_9 : dec m_Ro_init 9 = .ok (.bipush 20, 2) := by decide +kernel
theorem d_Ro_init_11 : dec m_Ro_init 11 = .ok (.invokespecial 11, 3) := by decide +kernel
theorem d_Ro_init_14 : dec m_Ro_init 14 = .ok (.putfield 14, 3) := by decide +kernel
theorem d_Ro_init_17 : dec m_Ro_init 17 = .ok (.return_, 1) := by decide +kernel
theorem d_Ro_workOut_0 : dec m_Ro_workOut 0 = .ok (.aload_n 0, 1) := by decide +kernel
theorem d_Ro_workOut_1 : dec m_Ro_workOut 1 = .ok (.getfield 14, 3) := by decide +kernel
theorem d_Ro_workOut_4 : dec m_Ro_workOut 4 = .ok (.bipush (-5), 2) := by decide +kernel
theorem d_Ro_workOut_6 : dec m_Ro_workOut 6 = .ok (.invokevirtual 20, 3) := by decide +kernel
theorem d_Ro_workOut_9 : dec m_Ro_workOut 9 = .ok (.iconst 0, 1) := by decide +kernel
theorem d_Ro_workOut_10 : dec m_Ro_workOut 10 = .ok (.istore_n 2, 1) := by decide +kernel
theorem d_Ro_workOut_11 : dec m_Ro_workOut 11 = .ok (.iload_n 2, 1) := by decide +kernel
theorem d_Ro_workOut_12 : dec m_Ro_workOut 12 = .ok (.bipush 20, 2) := by decide +kernel
theorem d_Ro_workOut_14 : dec m_Ro_workOut 14 = .ok (.if_icmp .ge 26, 3) := by decide +kernel
theorem d_Ro_workOut_17 : dec m_Ro_workOut 17 = .ok (.aload_n 1, 1) := by decide +kernel
theorem d_Ro_workOut_18 : dec m_Ro_workOut 18 = .ok (.iload_n 2, 1) := by decide +kernel
theorem d_Ro_workOut_19 : dec m_Ro_workOut 19 = .ok (.invokevirtual 23, 3) := by decide +kernel
theorem d_Ro_workOut_22 : dec m_Ro_workOut 22 = .ok (.ifCond .eq 12, 3) := by decide +kernel
theorem d_Ro_workOut_25 : dec m_Ro_workOut 25 = .ok (.aload_n 0, 1) := by decide +kernel
theorem d_Ro_workOut_26 : dec m_Ro_workOut 26 = .ok (.getfield 14, 3) := by decide +kernel
theorem d_Ro_workOut_29 : dec m_Ro_workOut 29 = .ok (.iload_n 2, 1) := by decide +kernel
theorem d_Ro_workOut_30 : dec m_Ro_workOut 30 = .ok (.iconst 0, 1) := by decide +kernel
theorem d_Ro_workOut_31 : dec m_Ro_workOut 31 = .ok (.invokevirtual 29, 3) := by decide +kernel
theorem d_Ro_workOut_34 : dec m_Ro_workOut 34 = .ok (.iinc 2 1, 3) := by decide +kernel
theorem d_Ro_workOut_37 : dec m_Ro_workOut 37 = .ok (.goto (-26), 3) := by decide +kernel
theorem d_Ro_workOut_40 : dec m_Ro_workOut 40 = .ok (.iconst 1, 1) := by decide +kernel
theorem d_Ro_workOut_41 : dec m_Ro_workOut 41 = .ok (.istore_n 2, 1) := by decide +kernel
theorem d_Ro_workOut_42 : dec m_Ro_workOut 42 = .ok (.iload_n 2, 1) := by decide +kernel
theorem d_Ro_workOut_43 : dec m_Ro_workOut 43 = .ok (.bipush 20, 2) := by decide +kernel
theorem d_Ro_workOut_45 : dec m_Ro_workOut 45 = .ok (.if_icmp .gt 15, 3) := by decide +kernel
theorem d_Ro_workOut_48 : dec m_Ro_workOut 48 = .ok (.aload_n 0, 1) := by decide +kernel
theorem d_Ro_workOut_49 : dec m_Ro_workOut 49 = .ok (.aload_n 1, 1) := by decide +kernel
theorem d_Ro_workOut_50 : dec m_Ro_workOut 50 = .ok (.iload_n 2, 1) := by decide +kernel
theorem d_Ro_workOut_51 : dec m_Ro_workOut 51 = .ok (.invokevirtual 33, 3) := by decide +kernel
theorem d_Ro_workOut_54 : dec m_Ro_workOut 54 = .ok (.iinc 2 1, 3) := by decide +kernel
theorem d_Ro_workOut_57 : dec m_Ro_workOut 57 = .ok (.goto (-15), 3) := by decide +kernel
theorem d_Ro_workOut_60 : dec m_Ro_workOut 60 = .ok (.return_, 1) := by decide +kernel
theorem d_Ro_playRound_0 : dec m_Ro_playRound 0 = .ok (.iconst 0, 1) := by decide +kernel
theorem d_Ro_playRound_1 : dec m_Ro_playRound 1 = .ok (.istore_n 3, 1) := by decide +kernel
theorem d_Ro_playRound_2 : dec m_Ro_playRound 2 = .ok (.iload_n 3, 1) := by decide +kernel
theorem d_Ro_playRound_3 : dec m_Ro_playRound 3 = .ok (.bipush 20, 2) := by decide +kernel
theorem d_Ro_playRound_5 : dec m_Ro_playRound 5 = .ok (.if_icmp .ge 44, 3) := by decide +kernel
theorem d_Ro_playRound_8 : dec m_Ro_playRound 8 = .ok (.aload_n 0, 1) := by decide +kernel
theorem d_Ro_playRound_9 : dec m_Ro_playRound 9 = .ok (.iload_n 3, 1) := by decide +kernel
theorem d_Ro_playRound_10 : dec m_Ro_playRound 10 = .ok (.invokevirtual 37, 3) := by decide +kernel
theorem d_Ro_playRound_13 : dec m_Ro_playRound 13 = .ok (.ifCond .ne 30, 3) := by decide +kernel
theorem d_Ro_playRound_16 : dec m_Ro_playRound 16 = .ok (.aload_n 1, 1) := by decide +kernel
theorem d_Ro_playRound_17 : dec m_Ro_playRound 17 = .ok (.iload_n 3, 1) := by decide +kernel
theorem d_Ro_playRound_18 : dec m_Ro_playRound 18 = .ok (.invokevirtual 40, 3) := by decide +kernel
theorem d_Ro_playRound_21 : dec m_Ro_playRound 21 = .ok (.ifCond .ne 22, 3) := by decide +kernel
theorem d_Ro_playRound_24 : dec m_Ro_playRound 24 = .ok (.aload_n 0, 1) := by decide +kernel
theorem d_Ro_playRound_25 : dec m_Ro_playRound 25 = .ok (.aload_n 1, 1) := by decide +kernel
theorem d_Ro_playRound_26 : dec m_Ro_playRound 26 = .ok (.iload_n 3, 1) := by decide +kernel
theorem d_Ro_playRound_27 : dec m_Ro_playRound 27 = .ok (.iload_n 2, 1) := by decide +kernel
theorem d_Ro_playRound_28 : dec m_Ro_playRound 28 = .ok (.invokevirtual 43, 3) := by decide +kernel
theorem d_Ro_playRound_31 : dec m_Ro_playRound 31 = .ok (.ifCond .eq 12, 3) := by decide +kernel
theorem d_Ro_playRound_34 : dec m_Ro_playRound 34 = .ok (.aload_n 0, 1) := by decide +kernel
theorem d_Ro_playRound_35 : dec m_Ro_playRound 35 = .ok (.getfield 14, 3) := by decide +kernel
theorem d_Ro_playRound_38 : dec m_Ro_playRound 38 = .ok (.iload_n 3, 1) := by decide +kernel
theorem d_Ro_playRound_39 : dec m_Ro_playRound 39 = .ok (.iload_n 2, 1) := by decide +kernel
theorem d_Ro_playRound_40 : dec m_Ro_playRound 40 = .ok (.invokevirtual 29, 3) := by decide +kernel
theorem d_Ro_playRound_43 : dec m_Ro_playRound 43 = .ok (.iinc 3 1, 3) := by decide +kernel
theorem d_Ro_playRound_46 : dec m_Ro_playRound 46 = .ok (.goto (-44), 3) := by decide +kernel
theorem d_Ro_playRound_49 : dec m_Ro_playRound 49 = .ok (.return_, 1) := by decide +kernel
theorem d_Ro_isWonBy_0 : dec m_Ro_isWonBy 0 = .ok (.aload_n 1, 1) := by decide +kernel
theorem d_Ro_isWonBy_1 : dec m_Ro_isWonBy 1 = .ok (.getfield 47, 3) := by decide +kernel
theorem d_Ro_isWonBy_4 : dec m_Ro_isWonBy 4 = .ok (.iload_n 2, 1) := by decide +kernel
theorem d_Ro_isWonBy_5 : dec m_Ro_isWonBy 5 = .ok (.invokevirtual 50, 3) := by decide +kernel
theorem d_Ro_isWonBy_8 : dec m_Ro_isWonBy 8 = .ok (.istore 4, 2) := by decide +kernel
theorem d_Ro_isWonBy_10 : dec m_Ro_isWonBy 10 = .ok (.iconst 0, 1) := by decide +kernel
theorem d_Ro_isWonBy_11 : dec m_Ro_isWonBy 11 = .ok (.istore 5, 2) := by decide +kernel
theorem d_Ro_isWonBy_13 : dec m_Ro_isWonBy 13 = .ok (.iconst 0, 1) := by decide +kernel
theorem d_Ro_isWonBy_14 : dec m_Ro_isWonBy 14 = .ok (.istore 6, 2) := by decide +kernel
theorem d_Ro_isWonBy_16 : dec m_Ro_isWonBy 16 = .ok (.iload 6, 2) := by decide +kernel
theorem d_Ro_isWonBy_18 : dec m_Ro_isWonBy 18 = .ok (.iload 4, 2) := by decide +kernel
theorem d_Ro_isWonBy_20 : dec m_Ro_isWonBy 20 = .ok (.if_icmp .ge 40, 3) := by decide +kernel
theorem d_Ro_isWonBy_23 : dec m_Ro_isWonBy 23 = .ok (.aload_n 1, 1) := by decide +kernel
theorem d_Ro_isWonBy_24 : dec m_Ro_isWonBy 24 = .ok (.iload_n 2, 1) := by decide +kernel
theorem d_Ro_isWonBy_25 : dec m_Ro_isWonBy 25 = .ok (.iload 6, 2) := by decide +kernel
theorem d_Ro_isWonBy_27 : dec m_Ro_isWonBy 27 = .ok (.invokevirtual 54, 3) := by decide +kernel
theorem d_Ro_isWonBy_30 : dec m_Ro_isWonBy 30 = .ok (.istore 7, 2) := by decide +kernel
theorem d_Ro_isWonBy_32 : dec m_Ro_isWonBy 32 = .ok (.aload_n 0, 1) := by decide +kernel
theorem d_Ro_isWonBy_33 : dec m_Ro_isWonBy 33 = .ok (.iload 7, 2) := by decide +kernel
theorem d_Ro_isWonBy_35 : dec m_Ro_isWonBy 35 = .ok (.invokevirtual 37, 3) := by decide +kernel
theorem d_Ro_isWonBy_38 : dec m_Ro_isWonBy 38 = .ok (.ifCond .eq 16, 3) := by decide +kernel
theorem d_Ro_isWonBy_41 : dec m_Ro_isWonBy 41 = .ok (.aload_n 0, 1) := by decide +kernel
theorem d_Ro_isWonBy_42 : dec m_Ro_isWonBy 42 = .ok (.iload 7, 2) := by decide +kernel
theorem d_Ro_isWonBy_44 : dec m_Ro_isWonBy 44 = .ok (.invokevirtual 58, 3) := by decide +kernel
theorem d_Ro_isWonBy_47 : dec m_Ro_isWonBy 47 = .ok (.iload_n 3, 1) := by decide +kernel
theorem d_Ro_isWonBy_48 : dec m_Ro_isWonBy 48 = .ok (.if_icmp .ge 6, 3) := by decide +kernel
theorem d_Ro_isWonBy_51 : dec m_Ro_isWonBy 51 = .ok (.iinc 5 1, 3) := by decide +kernel
theorem d_Ro_isWonBy_54 : dec m_Ro_isWonBy 54 = .ok (.iinc 6 1, 3) := by decide +kernel
theorem d_Ro_isWonBy_57 : dec m_Ro_isWonBy 57 = .ok (.goto (-41), 3) := by decide +kernel
theorem d_Ro_isWonBy_60 : dec m_Ro_isWonBy 60 = .ok (.aload_n 1, 1) := by decide +kernel
theorem d_Ro_isWonBy_61 : dec m_Ro_isWonBy 61 = .ok (.getfield 61, 3) := by decide +kernel
theorem d_Ro_isWonBy_64 : dec m_Ro_isWonBy 64 = .ok (.iload_n 2, 1) := by decide +kernel
theorem d_Ro_isWonBy_65 : dec m_Ro_isWonBy 65 = .ok (.invokevirtual 50, 3) := by decide +kernel
theorem d_Ro_isWonBy_68 : dec m_Ro_isWonBy 68 = .ok (.ifCond .ne 16, 3) := by decide +kernel
theorem d_Ro_isWonBy_71 : dec m_Ro_isWonBy 71 = .ok (.iload 5, 2) := by decide +kernel
theorem d_Ro_isWonBy_73 : dec m_Ro_isWonBy 73 = .ok (.ifCond .le 7, 3) := by decide +kernel
theorem d_Ro_isWonBy_76 : dec m_Ro_isWonBy 76 = .ok (.iconst 1, 1) := by decide +kernel
theorem d_Ro_isWonBy_77 : dec m_Ro_isWonBy 77 = .ok (.goto 19, 3) := by decide +kernel
theorem d_Ro_isWonBy_80 : dec m_Ro_isWonBy 80 = .ok (.iconst 0, 1) := by decide +kernel
theorem d_Ro_isWonBy_81 : dec m_Ro_isWonBy 81 = .ok (.goto 15, 3) := by decide +kernel
theorem d_Ro_isWonBy_84 : dec m_Ro_isWonBy 84 = .ok (.iload 5, 2) := by decide +kernel
theorem d_Ro_isWonBy_86 : dec m_Ro_isWonBy 86 = .ok (.iload 4, 2) := by decide +kernel
theorem d_Ro_isWonBy_88 : dec m_Ro_isWonBy 88 = .ok (.if_icmp .ne 7, 3) := by decide +kernel
theorem d_Ro_isWonBy_91 : dec m_Ro_isWonBy 91 = .ok (.iconst 1, 1) := by decide +kernel
theorem d_Ro_isWonBy_92 : dec m_Ro_isWonBy 92 = .ok (.goto 4, 3) := by decide +kernel
theorem d_Ro_isWonBy_95 : dec m_Ro_isWonBy 95 = .ok (.iconst 0, 1) := by decide +kernel
theorem d_Ro_isWonBy_96 : dec m_Ro_isWonBy 96 = .ok (.ireturn, 1) := by decide +kernel
theorem d_Ro_isWon_0 : dec m_Ro_isWon 0 = .ok (.aload_n 0, 1) := by decide +kernel
theorem d_Ro_isWon_1 : dec m_Ro_isWon 1 = .ok (.getfield 14, 3) := by decide +kernel
theorem d_Ro_isWon_4 : dec m_Ro_isWon 4 = .ok (.iload_n 1, 1) := by decide +kernel
theorem d_Ro_isWon_5 : dec m_Ro_isWon 5 = .ok (.invokevirtual 50, 3) := by decide +kernel
theorem d_Ro_isWon_8 : dec m_Ro_isWon 8 = .ok (.bipush (-5), 2) := by decide +kernel
theorem d_Ro_isWon_10 : dec m_Ro_isWon 10 = .ok (.if_icmp .eq 7, 3) := by decide +kernel
theorem d_Ro_isWon_13 : dec m_Ro_isWon 13 = .ok (.iconst 1, 1) := by decide +kernel
theorem d_Ro_isWon_14 : dec m_Ro_isWon 14 = .ok (.goto 4, 3) := by decide +kernel
theorem d_Ro_isWon_17 : dec m_Ro_isWon 17 = .ok (.iconst 0, 1) := by decide +kernel
theorem d_Ro_isWon_18 : dec m_Ro_isWon 18 = .ok (.ireturn, 1) := by decide +kernel
theorem d_Ro_roundOf_0 : dec m_Ro_roundOf 0 = .ok (.aload_n 0, 1) := by decide +kernel
theorem d_Ro_roundOf_1 : dec m_Ro_roundOf 1 = .ok (.getfield 14, 3) := by decide +kernel
theorem d_Ro_roundOf_4 : dec m_Ro_roundOf 4 = .ok (.iload_n 1, 1) := by decide +kernel
theorem d_Ro_roundOf_5 : dec m_Ro_roundOf 5 = .ok (.invokevirtual 50, 3) := by decide +kernel
theorem d_Ro_roundOf_8 : dec m_Ro_roundOf 8 = .ok (.ireturn, 1) := by decide +kernel
theorem d_Ro_wonPositions_0 : dec m_Ro_wonPositions 0 = .ok (.iconst 0, 1) := by decide +kernel
theorem d_Ro_wonPositions_1 : dec m_Ro_wonPositions 1 = .ok (.istore_n 1, 1) := by decide +kernel
theorem d_Ro_wonPositions_2 : dec m_Ro_wonPositions 2 = .ok (.iconst 0, 1) := by decide +kernel
theorem d_Ro_wonPositions_3 : dec m_Ro_wonPositions 3 = .ok (.istore_n 2, 1) := by decide +kernel
theorem d_Ro_wonPositions_4 : dec m_Ro_wonPositions 4 = .ok (.iload_n 2, 1) := by decide +kernel
theorem d_Ro_wonPositions_5 : dec m_Ro_wonPositions 5 = .ok (.bipush 20, 2) := by decide +kernel
theorem d_Ro_wonPositions_7 : dec m_Ro_wonPositions 7 = .ok (.if_icmp .ge 20, 3) := by decide +kernel
theorem d_Ro_wonPositions_10 : dec m_Ro_wonPositions 10 = .ok (.aload_n 0, 1) := by decide +kernel
theorem d_Ro_wonPositions_11 : dec m_Ro_wonPositions 11 = .ok (.iload_n 2, 1) := by decide +kernel
theorem d_Ro_wonPositions_12 : dec m_Ro_wonPositions 12 = .ok (.invokevirtual 37, 3) := by decide +kernel
theorem d_Ro_wonPositions_15 : dec m_Ro_wonPositions 15 = .ok (.ifCond .eq 6, 3) := by decide +kernel
theorem d_Ro_wonPositions_18 : dec m_Ro_wonPositions 18 = .ok (.iinc 1 1, 3) := by decide +kernel
theorem d_Ro_wonPositions_21 : dec m_Ro_wonPositions 21 = .ok (.iinc 2 1, 3) := by decide +kernel
theorem d_Ro_wonPositions_24 : dec m_Ro_wonPositions 24 = .ok (.goto (-20), 3) := by decide +kernel
theorem d_Ro_wonPositions_27 : dec m_Ro_wonPositions 27 = .ok (.iload_n 1, 1) := by decide +kernel
theorem d_Ro_wonPositions_28 : dec m_Ro_wonPositions 28 = .ok (.ireturn, 1) := by decide +kernel
theorem d_Rw_init_0 : dec m_Rw_init 0 = .ok (.aload_n 0, 1) := by decide +kernel
theorem d_Rw_init_1 : dec m_Rw_init 1 = .ok (.invokespecial 1, 3) := by decide +kernel
theorem d_Rw_init_4 : dec m_Rw_init 4 = .ok (.aload_n 0, 1) := by decide +kernel
theorem d_Rw_init_5 : dec m_Rw_init 5 = .ok (.iconst 0, 1) := by decide +kernel
theorem d_Rw_init_6 : dec m_Rw_init 6 = .ok (.iload_n 1, 1) := by decide +kernel
theorem d_Rw_init_7 : dec m_Rw_init 7 = .ok (.invokestatic 7, 3) := by decide +kernel
theorem d_Rw_init_10 : dec m_Rw_init 10 = .ok (.newarray .int, 2) := by decide +kernel
theorem d_Rw_init_12 : dec m_Rw_init 12 = .ok (.putfield 13, 3) := by decide +kernel
theorem d_Rw_init_15 : dec m_Rw_init 15 = .ok (.return_, 1) := by decide +kernel
theorem d_Rw_get_0 : dec m_Rw_get 0 = .ok (.iload_n 1, 1) := by decide +kernel
theorem d_Rw_get_1 : dec m_Rw_get 1 = .ok (.ifCond .lt 21, 3) := by decide +kernel
theorem d_Rw_get_4 : dec m_Rw_get 4 = .ok (.iload_n 1, 1) := by decide +kernel
theorem d_Rw_get_5 : dec m_Rw_get 5 = .ok (.aload_n 0, 1) := by decide +kernel
theorem d_Rw_get_6 : dec m_Rw_get 6 = .ok (.getfield 13, 3) := by decide +kernel
theorem d_Rw_get_9 : dec m_Rw_get 9 = .ok (.arraylength, 1) := by decide +kernel
theorem d_Rw_get_10 : dec m_Rw_get 10 = .ok (.if_icmp .ge 12, 3) := by decide +kernel
theorem d_Rw_get_13 : dec m_Rw_get 13 = .ok (.aload_n 0, 1) := by decide +kernel
theorem d_Rw_get_14 : dec m_Rw_get 14 = .ok (.getfield 13, 3) := by decide +kernel
theorem d_Rw_get_17 : dec m_Rw_get 17 = .ok (.iload_n 1, 1) := by decide +kernel
theorem d_Rw_get_18 : dec m_Rw_get 18 = .ok (.iaload, 1) := by decide +kernel
theorem d_Rw_get_19 : dec m_Rw_get 19 = .ok (.goto 4, 3) := by decide +kernel
theorem d_Rw_get_22 : dec m_Rw_get 22 = .ok (.iconst 0, 1) := by decide +kernel
theorem d_Rw_get_23 : dec m_Rw_get 23 = .ok (.ireturn, 1) := by decide +kernel
theorem d_Rw_set_0 : dec m_Rw_set 0 = .ok (.iload_n 1, 1) := by decide +kernel
theorem d_Rw_set_1 : dec m_Rw_set 1 = .ok (.ifCond .lt 19, 3) := by decide +kernel
theorem d_Rw_set_4 : dec m_Rw_set 4 = .ok (.iload_n 1, 1) := by decide +kernel
theorem d_Rw_set_5 : dec m_Rw_set 5 = .ok (.aload_n 0, 1) := by decide +kernel
theorem d_Rw_set_6 : dec m_Rw_set 6 = .ok (.getfield 13, 3) := by decide +kernel
theorem d_Rw_set_9 : dec m_Rw_set 9 = .ok (.arraylength, 1) := by decide +kernel
theorem d_Rw_set_10 : dec m_Rw_set 10 = .ok (.if_icmp .ge 10, 3) := by decide +kernel
theorem d_Rw_set_13 : dec m_Rw_set 13 = .ok (.aload_n 0, 1) := by decide +kernel
theorem d_Rw_set_14 : dec m_Rw_set 14 = .ok (.getfield 13, 3) := by decide +kernel
theorem d_Rw_set_17 : dec m_Rw_set 17 = .ok (.iload_n 1, 1) := by decide +kernel
theorem d_Rw_set_18 : dec m_Rw_set 18 = .ok (.iload_n 2, 1) := by decide +kernel
theorem d_Rw_set_19 : dec m_Rw_set 19 = .ok (.iastore, 1) := by decide +kernel
theorem d_Rw_set_20 : dec m_Rw_set 20 = .ok (.return_, 1) := by decide +kernel
theorem d_Rw_fill_0 : dec m_Rw_fill 0 = .ok (.iconst 0, 1) := by decide +kernel
theorem d_Rw_fill_1 : dec m_Rw_fill 1 = .ok (.istore_n 2, 1) := by decide +kernel
theorem d_Rw_fill_2 : dec m_Rw_fill 2 = .ok (.iload_n 2, 1) := by decide +kernel
theorem d_Rw_fill_3 : dec m_Rw_fill 3 = .ok (.aload_n 0, 1) := by decide +kernel
theorem d_Rw_fill_4 : dec m_Rw_fill 4 = .ok (.getfield 13, 3) := by decide +kernel
theorem d_Rw_fill_7 : dec m_Rw_fill 7 = .ok (.arraylength, 1) := by decide +kernel
theorem d_Rw_fill_8 : dec m_Rw_fill 8 = .ok (.if_icmp .ge 16, 3) := by decide +kernel
theorem d_Rw_fill_11 : dec m_Rw_fill 11 = .ok (.aload_n 0, 1) := by decide +kernel
theorem d_Rw_fill_12 : dec m_Rw_fill 12 = .ok (.getfield 13, 3) := by decide +kernel
theorem d_Rw_fill_15 : dec m_Rw_fill 15 = .ok (.iload_n 2, 1) := by decide +kernel
theorem d_Rw_fill_16 : dec m_Rw_fill 16 = .ok (.iload_n 1, 1) := by decide +kernel
theorem d_Rw_fill_17 : dec m_Rw_fill 17 = .ok (.iastore, 1) := by decide +kernel
theorem d_Rw_fill_18 : dec m_Rw_fill 18 = .ok (.iinc 2 1, 3) := by decide +kernel
theorem d_Rw_fill_21 : dec m_Rw_fill 21 = .ok (.goto (-19), 3) := by decide +kernel
theorem d_Rw_fill_24 : dec m_Rw_fill 24 = .ok (.return_, 1) := by decide +kernel
theorem d_Rw_copyFrom_0 : dec m_Rw_copyFrom 0 = .ok (.aload_n 1, 1) := by decide +kernel
theorem d_Rw_copyFrom_1 : dec m_Rw_copyFrom 1 = .ok (.getfield 13, 3) := by decide +kernel
theorem d_Rw_copyFrom_4 : dec m_Rw_copyFrom 4 = .ok (.iconst 0, 1) := by decide +kernel
theorem d_Rw_copyFrom_5 : dec m_Rw_copyFrom 5 = .ok (.aload_n 0, 1) := by decide +kernel
theorem d_Rw_copyFrom_6 : dec m_Rw_copyFrom 6 = .ok (.getfield 13, 3) := by decide +kernel
theorem d_Rw_copyFrom_9 : dec m_Rw_copyFrom 9 = .ok (.iconst 0, 1) := by decide +kernel
theorem d_Rw_copyFrom_10 : dec m_Rw_copyFrom 10 = .ok (.aload_n 1, 1) := by decide +kernel
theorem d_Rw_copyFrom_11 : dec m_Rw_copyFrom 11 = .ok (.getfield 13, 3) := by decide +kernel
theorem d_Rw_copyFrom_14 : dec m_Rw_copyFrom 14 = .ok (.arraylength, 1) := by decide +kernel
theorem d_Rw_copyFrom_15 : dec m_Rw_copyFrom 15 = .ok (.aload_n 0, 1) := by decide +kernel
theorem d_Rw_copyFrom_16 : dec m_Rw_copyFrom 16 = .ok (.getfield 13, 3) := by decide +kernel
theorem d_Rw_copyFrom_19 : dec m_Rw_copyFrom 19 = .ok (.arraylength, 1) := by decide +kernel
theorem d_Rw_copyFrom_20 : dec m_Rw_copyFrom 20 = .ok (.invokestatic 19, 3) := by decide +kernel
theorem d_Rw_copyFrom_23 : dec m_Rw_copyFrom 23 = .ok (.invokestatic 22, 3) := by decide +kernel
theorem d_Rw_copyFrom_26 : dec m_Rw_copyFrom 26 = .ok (.return_, 1) := by decide +kernel
theorem d_St_init_0 : dec m_St_init 0 = .ok (.aload_n 0, 1) := by decide +kernel
theorem d_St_init_1 : dec m_St_init 1 = .ok (.invokespecial 1, 3) := by decide +kernel
theorem d_St_init_4 : dec m_St_init 4 = .ok (.aload_n 0, 1) := by decide +kernel
theorem d_St_init_5 : dec m_St_init 5 = .ok (.new 7, 3) := by decide +kernel
theorem d_St_init_8 : dec m_St_init 8 = .ok (.dup, 1) := by decide +kernel
theorem d_St_init_9 : dec m_St_init 9 = .ok (.invokespecial 9, 3) := by decide +kernel
theorem d_St_init_12 : dec m_St_init 12 = .ok (.putfield 10, 3) := by decide +kernel
theorem d_St_init_15 : dec m_St_init 15 = .ok (.aload_n 0, 1) := by decide +kernel
theorem d_St_init_16 : dec m_St_init 16 = .ok (.new 16, 3) := by decide +kernel
theorem d_St_init_19 : dec m_St_init 19 = .ok (.dup, 1) := by decide +kernel
theorem d_St_init_20 : dec m_St_init 20 = .ok (.aload_n 0, 1) := by decide +kernel
theorem d_St_init_21 : dec m_St_init 21 = .ok (.getfield 10, 3) := by decide +kernel
theorem d_St_init_24 : dec m_St_init 24 = .ok (.invokespecial 18, 3) := by decide +kernel
theorem d_St_init_27 : dec m_St_init 27 = .ok (.putfield 21, 3) := by decide +kernel
theorem d_St_init_30 : dec m_St_init 30 = .ok (.return_, 1) := by decide +kernel
theorem d_St_copyFrom_0 : dec m_St_copyFrom 0 = .ok (.aload_n 0, 1) := by decide +kernel
theorem d_St_copyFrom_1 : dec m_St_copyFrom 1 = .ok (.getfield 10, 3) := by decide +kernel
theorem d_St_copyFrom_4 : dec m_St_copyFrom 4 = .ok (.aload_n 1, 1) := by decide +kernel
theorem d_St_copyFrom_5 : dec m_St_copyFrom 5 = .ok (.getfield 10, 3) := by decide +kernel
theorem d_St_copyFrom_8 : dec m_St_copyFrom 8 = .ok (.invokevirtual 25, 3) := by decide +kernel
theorem d_St_copyFrom_11 : dec m_St_copyFrom 11 = .ok (.aload_n 0, 1) := by decide +kernel
theorem d_St_copyFrom_12 : dec m_St_copyFrom 12 = .ok (.getfield 21, 3) := by decide +kernel
theorem d_St_copyFrom_15 : dec m_St_copyFrom 15 = .ok (.aload_n 1, 1) := by decide +kernel
theorem d_St_copyFrom_16 : dec m_St_copyFrom 16 = .ok (.getfield 21, 3) := by decide +kernel
theorem d_St_copyFrom_19 : dec m_St_copyFrom 19 = .ok (.invokevirtual 28, 3) := by decide +kernel
theorem d_St_copyFrom_22 : dec m_St_copyFrom 22 = .ok (.return_, 1) := by decide +kernel
theorem d_Tx_init_0 : dec m_Tx_init 0 = .ok (.aload_n 0, 1) := by decide +kernel
theorem d_Tx_init_1 : dec m_Tx_init 1 = .ok (.invokespecial 3, 3) := by decide +kernel
theorem d_Tx_init_4 : dec m_Tx_init 4 = .ok (.aload_n 0, 1) := by decide +kernel
theorem d_Tx_init_5 : dec m_Tx_init 5 = .ok (.bipush 60, 2) := by decide +kernel
theorem d_Tx_init_7 : dec m_Tx_init 7 = .ok (.newarray .char, 2) := by decide +kernel
theorem d_Tx_init_9 : dec m_Tx_init 9 = .ok (.putfield 9, 3) := by decide +kernel
theorem d_Tx_init_12 : dec m_Tx_init 12 = .ok (.return_, 1) := by decide +kernel
theorem d_Tx_isFull_0 : dec m_Tx_isFull 0 = .ok (.aload_n 0, 1) := by decide +kernel
theorem d_Tx_isFull_1 : dec m_Tx_isFull 1 = .ok (.getfield 15, 3) := by decide +kernel
theorem d_Tx_isFull_4 : dec m_Tx_isFull 4 = .ok (.aload_n 0, 1) := by decide +kernel
theorem d_Tx_isFull_5 : dec m_Tx_isFull 5 = .ok (.getfield 9, 3) := by decide +kernel
theorem d_Tx_isFull_8 : dec m_Tx_isFull 8 = .ok (.arraylength, 1) := by decide +kernel
theorem d_Tx_isFull_9 : dec m_Tx_isFull 9 = .ok (.if_icmp .lt 7, 3) := by decide +kernel
theorem d_Tx_isFull_12 : dec m_Tx_isFull 12 = .ok (.iconst 1, 1) := by decide +kernel
theorem d_Tx_isFull_13 : dec m_Tx_isFull 13 = .ok (.goto 4, 3) := by decide +kernel
theorem d_Tx_isFull_16 : dec m_Tx_isFull 16 = .ok (.iconst 0, 1) := by decide +kernel
theorem d_Tx_isFull_17 : dec m_Tx_isFull 17 = .ok (.ireturn, 1) := by decide +kernel
theorem d_Tx_append_0 : dec m_Tx_append 0 = .ok (.aload_n 0, 1) := by decide +kernel
theorem d_Tx_append_1 : dec m_Tx_append 1 = .ok (.getfield 15, 3) := by decide +kernel
theorem d_Tx_append_4 : dec m_Tx_append 4 = .ok (.ifCond .lt 35, 3) := by decide +kernel
theorem d_Tx_append_7 : dec m_Tx_append 7 = .ok (.aload_n 0, 1) := by decide +kernel
theorem d_Tx_append_8 : dec m_Tx_append 8 = .ok (.getfield 15, 3) := by decide +kernel
theorem d_Tx_append_11 : dec m_Tx_append 11 = .ok (.aload_n 0, 1) := by decide +kernel
theorem d_Tx_append_12 : dec m_Tx_append 12 = .ok (.getfield 9, 3) := by decide +kernel
theorem d_Tx_append_15 : dec m_Tx_append 15 = .ok (.arraylength, 1) := by decide +kernel
theorem d_Tx_append_16 : dec m_Tx_append 16 = .ok (.if_icmp .ge 23, 3) := by decide +kernel
theorem d_Tx_append_19 : dec m_Tx_append 19 = .ok (.aload_n 0, 1) := by decide +kernel
theorem d_Tx_append_20 : dec m_Tx_append 20 = .ok (.getfield 9, 3) := by decide +kernel
theorem d_Tx_append_23 : dec m_Tx_append 23 = .ok (.aload_n 0, 1) := by decide +kernel
theorem d_Tx_append_24 : dec m_Tx_append 24 = .ok (.getfield 15, 3) := by decide +kernel
theorem d_Tx_append_27 : dec m_Tx_append 27 = .ok (.iload_n 1, 1) := by decide +kernel
theorem d_Tx_append_28 : dec m_Tx_append 28 = .ok (.castore, 1) := by decide +kernel
theorem d_Tx_append_29 : dec m_Tx_append 29 = .ok (.aload_n 0, 1) := by decide +kernel
theorem d_Tx_append_30 : dec m_Tx_append 30 = .ok (.dup, 1) := by decide +kernel
theorem d_Tx_append_31 : dec m_Tx_append 31 = .ok (.getfield 15, 3) := by decide +kernel
theorem d_Tx_append_34 : dec m_Tx_append 34 = .ok (.iconst 1, 1) := by decide +kernel
theorem d_Tx_append_35 : dec m_Tx_append 35 = .ok (.iadd, 1) := by decide +kernel
theorem d_Tx_append_36 : dec m_Tx_append 36 = .ok (.putfield 15, 3) := by decide +kernel
theorem d_Tx_append_39 : dec m_Tx_append 39 = .ok (.return_, 1) := by decide +kernel
theorem d_Tx_clear_0 : dec m_Tx_clear 0 = .ok (.aload_n 0, 1) := by decide +kernel
theorem d_Tx_clear_1 : dec m_Tx_clear 1 = .ok (.iconst 0, 1) := by decide +kernel
theorem d_Tx_clear_2 : dec m_Tx_clear 2 = .ok (.putfield 15, 3) := by decide +kernel
theorem d_Tx_clear_5 : dec m_Tx_clear 5 = .ok (.return_, 1) := by decide +kernel
theorem d_Tx_signAt_0 : dec m_Tx_signAt 0 = .ok (.iload_n 1, 1) := by decide +kernel
theorem d_Tx_signAt_1 : dec m_Tx_signAt 1 = .ok (.ifCond .lt 29, 3) := by decide +kernel
theorem d_Tx_signAt_4 : dec m_Tx_signAt 4 = .ok (.iload_n 1, 1) := by decide +kernel
theorem d_Tx_signAt_5 : dec m_Tx_signAt 5 = .ok (.aload_n 0, 1) := by decide +kernel
theorem d_Tx_signAt_6 : dec m_Tx_signAt 6 = .ok (.getfield 15, 3) := by decide +kernel
theorem d_Tx_signAt_9 : dec m_Tx_signAt 9 = .ok (.if_icmp .ge 21, 3) := by decide +kernel
theorem d_Tx_signAt_12 : dec m_Tx_signAt 12 = .ok (.iload_n 1, 1) := by decide +kernel
theorem d_Tx_signAt_13 : dec m_Tx_signAt 13 = .ok (.aload_n 0, 1) := by decide +kernel
theorem d_Tx_signAt_14 : dec m_Tx_signAt 14 = .ok (.getfield 9, 3) := by decide +kernel
theorem d_Tx_signAt_17 : dec m_Tx_signAt 17 = .ok (.arraylength, 1) := by decide +kernel
theorem d_Tx_signAt_18 : dec m_Tx_signAt 18 = .ok (.if_icmp .ge 12, 3) := by decide +kernel
theorem d_Tx_signAt_21 : dec m_Tx_signAt 21 = .ok (.aload_n 0, 1) := by decide +kernel
theorem d_Tx_signAt_22 : dec m_Tx_signAt 22 = .ok (.getfield 9, 3) := by decide +kernel
theorem d_Tx_signAt_25 : dec m_Tx_signAt 25 = .ok (.iload_n 1, 1) := by decide +kernel
theorem d_Tx_signAt_26 : dec m_Tx_signAt 26 = .ok (.caload, 1) := by decide +kernel
theorem d_Tx_signAt_27 : dec m_Tx_signAt 27 = .ok (.goto 4, 3) := by decide +kernel
theorem d_Tx_signAt_30 : dec m_Tx_signAt 30 = .ok (.iconst (-1), 1) := by decide +kernel
theorem d_Tx_signAt_31 : dec m_Tx_signAt 31 = .ok (.ireturn, 1) := by decide +kernel
theorem d_Tr_init_0 : dec m_Tr_init 0 = .ok (.aload_n 0, 1) := by decide +kernel
theorem d_Tr_init_1 : dec m_Tr_init 1 = .ok (.invokespecial 3, 3) := by decide +kernel
theorem d_Tr_init_4 : dec m_Tr_init 4 = .ok (.aload_n 0, 1) := by decide +kernel
theorem d_Tr_init_5 : dec m_Tr_init 5 = .ok (.new 9, 3) := by decide +kernel
theorem d_Tr_init_8 : dec m_Tr_init 8 = .ok (.dup, 1) := by decide +kernel
theorem d_Tr_init_9 : dec m_Tr_init 9 = .ok (.sipush 200, 3) := by decide +kernel
theorem d_Tr_init_12 : dec m_Tr_init 12 = .ok (.invokespecial 11, 3) := by decide +kernel
theorem d_Tr_init_15 : dec m_Tr_init 15 = .ok (.putfield 14, 3) := by decide +kernel
theorem d_Tr_init_18 : dec m_Tr_init 18 = .ok (.aload_n 0, 1) := by decide +kernel
theorem d_Tr_init_19 : dec m_Tr_init 19 = .ok (.new 9, 3) := by decide +kernel
theorem d_Tr_init_22 : dec m_Tr_init 22 = .ok (.dup, 1) := by decide +kernel
theorem d_Tr_init_23 : dec m_Tr_init 23 = .ok (.sipush 200, 3) := by decide +kernel
theorem d_Tr_init_26 : dec m_Tr_init 26 = .ok (.invokespecial 11, 3) := by decide +kernel
theorem d_Tr_init_29 : dec m_Tr_init 29 = .ok (.putfield 20, 3) := by decide +kernel
theorem d_Tr_init_32 : dec m_Tr_init 32 = .ok (.aload_n 0, 1) := by decide +kernel
theorem d_Tr_init_33 : dec m_Tr_init 33 = .ok (.new 9, 3) := by decide +kernel
theorem d_Tr_init_36 : dec m_Tr_init 36 = .ok (.dup, 1) := by decide +kernel
theorem d_Tr_init_37 : dec m_Tr_init 37 = .ok (.sipush 200, 3) := by decide +kernel
theorem d_Tr_init_40 : dec m_Tr_init 40 = .ok (.invokespecial 11, 3) := by decide +kernel
theorem d_Tr_init_43 : dec m_Tr_init 43 = .ok (.putfield 23, 3) := by decide +kernel
theorem d_Tr_init_46 : dec m_Tr_init 46 = .ok (.aload_n 0, 1) := by decide +kernel
theorem d_Tr_init_47 : dec m_Tr_init 47 = .ok (.new 9, 3) := by decide +kernel
theorem d_Tr_init_50 : dec m_Tr_init 50 = .ok (.dup, 1) := by decide +kernel
theorem d_Tr_init_51 : dec m_Tr_init 51 = .ok (.sipush 200, 3) := by decide +kernel
theorem d_Tr_init_54 : dec m_Tr_init 54 = .ok (.invokespecial 11, 3) := by decide +kernel
theorem d_Tr_init_57 : dec m_Tr_init 57 = .ok (.putfield 26, 3) := by decide +kernel
theorem d_Tr_init_60 : dec m_Tr_init 60 = .ok (.aload_n 0, 1) := by decide +kernel
theorem d_Tr_init_61 : dec m_Tr_init 61 = .ok (.new 9, 3) := by decide +kernel
theorem d_Tr_init_64 : dec m_Tr_init 64 = .ok (.dup, 1) := by decide +kernel
theorem d_Tr_init_65 : dec m_Tr_init 65 = .ok (.sipush 200, 3) := by decide +kernel
theorem d_Tr_init_68 : dec m_Tr_init 68 = .ok (.invokespecial 11, 3) := by decide +kernel
theorem d_Tr_init_71 : dec m_Tr_init 71 = .ok (.putfield 29, 3) := by decide +kernel
theorem d_Tr_init_74 : dec m_Tr_init 74 = .ok (.aload_n 0, 1) := by decide +kernel
theorem d_Tr_init_75 : dec m_Tr_init 75 = .ok (.new 9, 3) := by decide +kernel
theorem d_Tr_init_78 : dec m_Tr_init 78 = .ok (.dup, 1) := by decide +kernel
theorem d_Tr_init_79 : dec m_Tr_init 79 = .ok (.sipush 200, 3) := by decide +kernel
theorem d_Tr_init_82 : dec m_Tr_init 82 = .ok (.invokespecial 11, 3) := by decide +kernel
theorem d_Tr_init_85 : dec m_Tr_init 85 = .ok (.putfield 32, 3) := by decide +kernel
theorem d_Tr_init_88 : dec m_Tr_init 88 = .ok (.aload_n 0, 1) := by decide +kernel
theorem d_Tr_init_89 : dec m_Tr_init 89 = .ok (.new 9, 3) := by decide +kernel
theorem d_Tr_init_92 : dec m_Tr_init 92 = .ok (.dup, 1) := by decide +kernel
theorem d_Tr_init_93 : dec m_Tr_init 93 = .ok (.sipush 200, 3) := by decide +kernel
theorem d_Tr_init_96 : dec m_Tr_init 96 = .ok (.invokespecial 11, 3) := by decide +kernel
theorem d_Tr_init_99 : dec m_Tr_init 99 = .ok (.putfield 35, 3) := by decide +kernel
theorem d_Tr_init_102 : dec m_Tr_init 102 = .ok (.aload_n 0, 1) := by decide +kernel
theorem d_Tr_init_103 : dec m_Tr_init 103 = .ok (.new 9, 3) := by decide +kernel
theorem d_Tr_init_106 : dec m_Tr_init 106 = .ok (.dup, 1) := by decide +kernel
theorem d_Tr_init_107 : dec m_Tr_init 107 = .ok (.sipush 200, 3) := by decide +kernel
theorem d_Tr_init_110 : dec m_Tr_init 110 = .ok (.invokespecial 11, 3) := by decide +kernel
theorem d_Tr_init_113 : dec m_Tr_init 113 = .ok (.putfield 38, 3) := by decide +kernel
theorem d_Tr_init_116 : dec m_Tr_init 116 = .ok (.aload_n 0, 1) := by decide +kernel
theorem d_Tr_init_117 : dec m_Tr_init 117 = .ok (.aload_n 1, 1) := by decide +kernel
theorem d_Tr_init_118 : dec m_Tr_init 118 = .ok (.putfield 41, 3) := by decide +kernel
theorem d_Tr_init_121 : dec m_Tr_init 121 = .ok (.return_, 1) := by decide +kernel
theorem d_Tr_copyFrom_0 : dec m_Tr_copyFrom 0 = .ok (.aload_n 0, 1) := by decide +kernel
theorem d_Tr_copyFrom_1 : dec m_Tr_copyFrom 1 = .ok (.getfield 14, 3) := by decide +kernel
theorem d_Tr_copyFrom_4 : dec m_Tr_copyFrom 4 = .ok (.aload_n 1, 1) := by decide +kernel
theorem d_Tr_copyFrom_5 : dec m_Tr_copyFrom 5 = .ok (.getfield 14, 3) := by decide +kernel
theorem d_Tr_copyFrom_8 : dec m_Tr_copyFrom 8 = .ok (.invokevirtual 45, 3) := by decide +kernel
theorem d_Tr_copyFrom_11 : dec m_Tr_copyFrom 11 = .ok (.aload_n 0, 1) := by decide +kernel
theorem d_Tr_copyFrom_12 : dec m_Tr_copyFrom 12 = .ok (.getfield 20, 3) := by decide +kernel
theorem d_Tr_copyFrom_15 : dec m_Tr_copyFrom 15 = .ok (.aload_n 1, 1) := by decide +kernel
theorem d_Tr_copyFrom_16 : dec m_Tr_copyFrom 16 = .ok (.getfield 20, 3) := by decide +kernel
theorem d_Tr_copyFrom_19 : dec m_Tr_copyFrom 19 = .ok (.invokevirtual 45, 3) := by decide +kernel
theorem d_Tr_copyFrom_22 : dec m_Tr_copyFrom 22 = .ok (.aload_n 0, 1) := by decide +kernel
theorem d_Tr_copyFrom_23 : dec m_Tr_copyFrom 23 = .ok (.getfield 23, 3) := by decide +kernel
theorem d_Tr_copyFrom_26 : dec m_Tr_copyFrom 26 = .ok (.aload_n 1, 1) := by decide +kernel
theorem d_Tr_copyFrom_27 : dec m_Tr_copyFrom 27 = .ok (.getfield 23, 3) := by decide +kernel
theorem d_Tr_copyFrom_30 : dec m_Tr_copyFrom 30 = .ok (.invokevirtual 45, 3) := by decide +kernel
theorem d_Tr_copyFrom_33 : dec m_Tr_copyFrom 33 = .ok (.aload_n 0, 1) := by decide +kernel
theorem d_Tr_copyFrom_34 : dec m_Tr_copyFrom 34 = .ok (.getfield 26, 3) := by decide +kernel
theorem d_Tr_copyFrom_37 : dec m_Tr_copyFrom 37 = .ok (.aload_n 1, 1) := by decide +kernel
theorem d_Tr_copyFrom_38 : dec m_Tr_copyFrom 38 = .ok (.getfield 26, 3) := by decide +kernel
theorem d_Tr_copyFrom_41 : dec m_Tr_copyFrom 41 = .ok (.invokevirtual 45, 3) := by decide +kernel
theorem d_Tr_copyFrom_44 : dec m_Tr_copyFrom 44 = .ok (.aload_n 0, 1) := by decide +kernel
theorem d_Tr_copyFrom_45 : dec m_Tr_copyFrom 45 = .ok (.getfield 29, 3) := by decide +kernel
theorem d_Tr_copyFrom_48 : dec m_Tr_copyFrom 48 = .ok (.aload_n 1, 1) := by decide +kernel
theorem d_Tr_copyFrom_49 : dec m_Tr_copyFrom 49 = .ok (.getfield 29, 3) := by decide +kernel
theorem d_Tr_copyFrom_52 : dec m_Tr_copyFrom 52 = .ok (.invokevirtual 45, 3) := by decide +kernel
theorem d_Tr_copyFrom_55 : dec m_Tr_copyFrom 55 = .ok (.aload_n 0, 1) := by decide +kernel
theorem d_Tr_copyFrom_56 : dec m_Tr_copyFrom 56 = .ok (.getfield 32, 3) := by decide +kernel
theorem d_Tr_copyFrom_59 : dec m_Tr_copyFrom 59 = .ok (.aload_n 1, 1) := by decide +kernel
theorem d_Tr_copyFrom_60 : dec m_Tr_copyFrom 60 = .ok (.getfield 32, 3) := by decide +kernel
theorem d_Tr_copyFrom_63 : dec m_Tr_copyFrom 63 = .ok (.invokevirtual 45, 3) := by decide +kernel
theorem d_Tr_copyFrom_66 : dec m_Tr_copyFrom 66 = .ok (.aload_n 0, 1) := by decide +kernel
theorem d_Tr_copyFrom_67 : dec m_Tr_copyFrom 67 = .ok (.getfield 35, 3) := by decide +kernel
theorem d_Tr_copyFrom_70 : dec m_Tr_copyFrom 70 = .ok (.aload_n 1, 1) := by decide +kernel
theorem d_Tr_copyFrom_71 : dec m_Tr_copyFrom 71 = .ok (.getfield 35, 3) := by decide +kernel
theorem d_Tr_copyFrom_74 : dec m_Tr_copyFrom 74 = .ok (.invokevirtual 45, 3) := by decide +kernel
theorem d_Tr_copyFrom_77 : dec m_Tr_copyFrom 77 = .ok (.aload_n 0, 1) := by decide +kernel
theorem d_Tr_copyFrom_78 : dec m_Tr_copyFrom 78 = .ok (.getfield 38, 3) := by decide +kernel
theorem d_Tr_copyFrom_81 : dec m_Tr_copyFrom 81 = .ok (.aload_n 1, 1) := by decide +kernel
theorem d_Tr_copyFrom_82 : dec m_Tr_copyFrom 82 = .ok (.getfield 38, 3) := by decide +kernel
theorem d_Tr_copyFrom_85 : dec m_Tr_copyFrom 85 = .ok (.invokevirtual 45, 3) := by decide +kernel
theorem d_Tr_copyFrom_88 : dec m_Tr_copyFrom 88 = .ok (.aload_n 0, 1) := by decide +kernel
theorem d_Tr_copyFrom_89 : dec m_Tr_copyFrom 89 = .ok (.aload_n 1, 1) := by decide +kernel
theorem d_Tr_copyFrom_90 : dec m_Tr_copyFrom 90 = .ok (.getfield 49, 3) := by decide +kernel
theorem d_Tr_copyFrom_93 : dec m_Tr_copyFrom 93 = .ok (.putfield 49, 3) := by decide +kernel
theorem d_Tr_copyFrom_96 : dec m_Tr_copyFrom 96 = .ok (.return_, 1) := by decide +kernel
theorem d_Tr_clear_0 : dec m_Tr_clear 0 = .ok (.aload_n 0, 1) := by decide +kernel
theorem d_Tr_clear_1 : dec m_Tr_clear 1 = .ok (.iconst 0, 1) := by decide +kernel
theorem d_Tr_clear_2 : dec m_Tr_clear 2 = .ok (.putfield 49, 3) := by decide +kernel
theorem d_Tr_clear_5 : dec m_Tr_clear 5 = .ok (.return_, 1) := by decide +kernel
theorem d_Tr_isEmpty_0 : dec m_Tr_isEmpty 0 = .ok (.aload_n 0, 1) := by decide +kernel
theorem d_Tr_isEmpty_1 : dec m_Tr_isEmpty 1 = .ok (.getfield 49, 3) := by decide +kernel
theorem d_Tr_isEmpty_4 : dec m_Tr_isEmpty 4 = .ok (.ifCond .ne 7, 3) := by decide +kernel
theorem d_Tr_isEmpty_7 : dec m_Tr_isEmpty 7 = .ok (.iconst 1, 1) := by decide +kernel
theorem d_Tr_isEmpty_8 : dec m_Tr_isEmpty 8 = .ok (.goto 4, 3) := by decide +kernel
theorem d_Tr_isEmpty_11 : dec m_Tr_isEmpty 11 = .ok (.iconst 0, 1) := by decide +kernel
theorem d_Tr_isEmpty_12 : dec m_Tr_isEmpty 12 = .ok (.ireturn, 1) := by decide +kernel
theorem d_Tr_has_0 : dec m_Tr_has 0 = .ok (.iload_n 1, 1) := by decide +kernel
theorem d_Tr_has_1 : dec m_Tr_has 1 = .ok (.ifCond .lt 15, 3) := by decide +kernel
theorem d_Tr_has_4 : dec m_Tr_has 4 = .ok (.iload_n 1, 1) := by decide +kernel
theorem d_Tr_has_5 : dec m_Tr_has 5 = .ok (.aload_n 0, 1) := by decide +kernel
theorem d_Tr_has_6 : dec m_Tr_has 6 = .ok (.getfield 49, 3) := by decide +kernel
theorem d_Tr_has_9 : dec m_Tr_has 9 = .ok (.if_icmp .ge 7, 3) := by decide +kernel
theorem d_Tr_has_12 : dec m_Tr_has 12 = .ok (.iconst 1, 1) := by decide +kernel
theorem d_Tr_has_13 : dec m_Tr_has 13 = .ok (.goto 4, 3) := by decide +kernel
theorem d_Tr_has_16 : dec m_Tr_has 16 = .ok (.iconst 0, 1) := by decide +kernel
theorem d_Tr_has_17 : dec m_Tr_has 17 = .ok (.ireturn, 1) := by decide +kernel
theorem d_Tr_isLeaf_0 : dec m_Tr_isLeaf 0 = .ok (.aload_n 0, 1) := by decide +kernel
theorem d_Tr_isLeaf_1 : dec m_Tr_isLeaf 1 = .ok (.getfield 32, 3) := by decide +kernel
theorem d_Tr_isLeaf_4 : dec m_Tr_isLeaf 4 = .ok (.iload_n 1, 1) := by decide +kernel
theorem d_Tr_isLeaf_5 : dec m_Tr_isLeaf 5 = .ok (.invokevirtual 53, 3) := by decide +kernel
theorem d_Tr_isLeaf_8 : dec m_Tr_isLeaf 8 = .ok (.ifCond .ne 7, 3) := by decide +kernel
theorem d_Tr_isLeaf_11 : dec m_Tr_isLeaf 11 = .ok (.iconst 1, 1) := by decide +kernel
theorem d_Tr_isLeaf_12 : dec m_Tr_isLeaf 12 = .ok (.goto 4, 3) := by decide +kernel
theorem d_Tr_isLeaf_15 : dec m_Tr_isLeaf 15 = .ok (.iconst 0, 1) := by decide +kernel
theorem d_Tr_isLeaf_16 : dec m_Tr_isLeaf 16 = .ok (.ireturn, 1) := by decide +kernel
theorem d_Tr_endOfChildren_0 : dec m_Tr_endOfChildren 0 = .ok (.aload_n 0, 1) := by decide +kernel
theorem d_Tr_endOfChildren_1 : dec m_Tr_endOfChildren 1 = .ok (.getfield 35, 3) := by decide +kernel
theorem d_Tr_endOfChildren_4 : dec m_Tr_endOfChildren 4 = .ok (.iload_n 1, 1) := by decide +kernel
theorem d_Tr_endOfChildren_5 : dec m_Tr_endOfChildren 5 = .ok (.invokevirtual 53, 3) := by decide +kernel
theorem d_Tr_endOfChildren_8 : dec m_Tr_endOfChildren 8 = .ok (.aload_n 0, 1) := by decide +kernel
theorem d_Tr_endOfChildren_9 : dec m_Tr_endOfChildren 9 = .ok (.getfield 32, 3) := by decide +kernel
theorem d_Tr_endOfChildren_12 : dec m_Tr_endOfChildren 12 = .ok (.iload_n 1, 1) := by decide +kernel
theorem d_Tr_endOfChildren_13 : dec m_Tr_endOfChildren 13 = .ok (.invokevirtual 53, 3) := by decide +kernel
theorem d_Tr_endOfChildren_16 : dec m_Tr_endOfChildren 16 = .ok (.iadd, 1) := by decide +kernel
theorem d_Tr_endOfChildren_17 : dec m_Tr_endOfChildren 17 = .ok (.ireturn, 1) := by decide +kernel
theorem d_Tr_turnAt_0 : dec m_Tr_turnAt 0 = .ok (.aload_n 0, 1) := by decide +kernel
theorem d_Tr_turnAt_1 : dec m_Tr_turnAt 1 = .ok (.getfield 41, 3) := by decide +kernel
theorem d_Tr_turnAt_4 : dec m_Tr_turnAt 4 = .ok (.getfield 57, 3) := by decide +kernel
theorem d_Tr_turnAt_7 : dec m_Tr_turnAt 7 = .ok (.aload_n 0, 1) := by decide +kernel
theorem d_Tr_turnAt_8 : dec m_Tr_turnAt 8 = .ok (.getfield 14, 3) := by decide +kernel
theorem d_Tr_turnAt_11 : dec m_Tr_turnAt 11 = .ok (.iload_n 1, 1) := by decide +kernel
theorem d_Tr_turnAt_12 : dec m_Tr_turnAt 12 = .ok (.invokevirtual 53, 3) := by decide +kernel
theorem d_Tr_turnAt_15 : dec m_Tr_turnAt 15 = .ok (.invokevirtual 53, 3) := by decide +kernel
theorem d_Tr_turnAt_18 : dec m_Tr_turnAt 18 = .ok (.ireturn, 1) := by decide +kernel
theorem d_Tr_outcome_0 : dec m_Tr_outcome 0 = .ok (.aload_n 0, 1) := by decide +kernel
theorem d_Tr_outcome_1 : dec m_Tr_outcome 1 = .ok (.invokevirtual 62, 3) := by decide +kernel
theorem d_Tr_outcome_4 : dec m_Tr_outcome 4 = .ok (.ifCond .eq 5, 3) := by decide +kernel
theorem d_Tr_outcome_7 : dec m_Tr_outcome 7 = .ok (.iconst 0, 1) := by decide +kernel
theorem d_Tr_outcome_8 : dec m_Tr_outcome 8 = .ok (.ireturn, 1) := by decide +kernel
theorem d_Tr_outcome_9 : dec m_Tr_outcome 9 = .ok (.aload_n 0, 1) := by decide +kernel
theorem d_Tr_outcome_10 : dec m_Tr_outcome 10 = .ok (.getfield 26, 3) := by decide +kernel
theorem d_Tr_outcome_13 : dec m_Tr_outcome 13 = .ok (.iconst 0, 1) := by decide +kernel
theorem d_Tr_outcome_14 : dec m_Tr_outcome 14 = .ok (.invokevirtual 53, 3) := by decide +kernel
theorem d_Tr_outcome_17 : dec m_Tr_outcome 17 = .ok (.ifCond .ne 5, 3) := by decide +kernel
theorem d_Tr_outcome_20 : dec m_Tr_outcome 20 = .ok (.iconst 1, 1) := by decide +kernel
theorem d_Tr_outcome_21 : dec m_Tr_outcome 21 = .ok (.ireturn, 1) := by decide +kernel
theorem d_Tr_outcome_22 : dec m_Tr_outcome 22 = .ok (.aload_n 0, 1) := by decide +kernel
theorem d_Tr_outcome_23 : dec m_Tr_outcome 23 = .ok (.getfield 29, 3) := by decide +kernel
theorem d_Tr_outcome_26 : dec m_Tr_outcome 26 = .ok (.iconst 0, 1) := by decide +kernel
theorem d_Tr_outcome_27 : dec m_Tr_outcome 27 = .ok (.invokevirtual 53, 3) := by decide +kernel
theorem d_Tr_outcome_30 : dec m_Tr_outcome 30 = .ok (.ifCond .ne 7, 3) := by decide +kernel
theorem d_Tr_outcome_33 : dec m_Tr_outcome 33 = .ok (.iconst 2, 1) := by decide +kernel
theorem d_Tr_outcome_34 : dec m_Tr_outcome 34 = .ok (.goto 4, 3) := by decide +kernel
theorem d_Tr_outcome_37 : dec m_Tr_outcome 37 = .ok (.iconst 0, 1) := by decide +kernel
theorem d_Tr_outcome_38 : dec m_Tr_outcome 38 = .ok (.ireturn, 1) := by decide +kernel
theorem d_Tr_plant_0 : dec m_Tr_plant 0 = .ok (.aload_n 0, 1) := by decide +kernel
theorem d_Tr_plant_1 : dec m_Tr_plant 1 = .ok (.invokevirtual 66, 3) := by decide +kernel
theorem d_Tr_plant_4 : dec m_Tr_plant 4 = .ok (.aload_n 0, 1) := by decide +kernel
theorem d_Tr_plant_5 : dec m_Tr_plant 5 = .ok (.iload_n 1, 1) := by decide +kernel
theorem d_Tr_plant_6 : dec m_Tr_plant 6 = .ok (.bipush (-5), 2) := by decide +kernel
theorem d_Tr_plant_8 : dec m_Tr_plant 8 = .ok (.invokevirtual 69, 3) := by decide +kernel
theorem d_Tr_plant_11 : dec m_Tr_plant 11 = .ok (.return_, 1) := by decide +kernel
theorem d_Tr_addLeaf_0 : dec m_Tr_addLeaf 0 = .ok (.aload_n 0, 1) := by decide +kernel
theorem d_Tr_addLeaf_1 : dec m_Tr_addLeaf 1 = .ok (.getfield 49, 3) := by decide +kernel
theorem d_Tr_addLeaf_4 : dec m_Tr_addLeaf 4 = .ok (.istore_n 3, 1) := by decide +kernel
theorem d_Tr_addLeaf_5 : dec m_Tr_addLeaf 5 = .ok (.aload_n 0, 1) := by decide +kernel
theorem d_Tr_addLeaf_6 : dec m_Tr_addLeaf 6 = .ok (.dup, 1) := by decide +kernel
theorem d_Tr_addLeaf_7 : dec m_Tr_addLeaf 7 = .ok (.getfield 49, 3) := by decide +kernel
theorem d_Tr_addLeaf_10 : dec m_Tr_addLeaf 10 = .ok (.iconst 1, 1) := by decide +kernel
theorem d_Tr_addLeaf_11 : dec m_Tr_addLeaf 11 = .ok (.iadd, 1) := by decide +kernel
theorem d_Tr_addLeaf_12 : dec m_Tr_addLeaf 12 = .ok (.putfield 49, 3) := by decide +kernel
theorem d_Tr_addLeaf_15 : dec m_Tr_addLeaf 15 = .ok (.aload_n 0, 1) := by decide +kernel
theorem d_Tr_addLeaf_16 : dec m_Tr_addLeaf 16 = .ok (.getfield 14, 3) := by decide +kernel
theorem d_Tr_addLeaf_19 : dec m_Tr_addLeaf 19 = .ok (.iload_n 3, 1) := by decide +kernel
theorem d_Tr_addLeaf_20 : dec m_Tr_addLeaf 20 = .ok (.iload_n 1, 1) := by decide +kernel
theorem d_Tr_addLeaf_21 : dec m_Tr_addLeaf 21 = .ok (.invokevirtual 73, 3) := by decide +kernel
theorem d_Tr_addLeaf_24 : dec m_Tr_addLeaf 24 = .ok (.aload_n 0, 1) := by decide +kernel
theorem d_Tr_addLeaf_25 : dec m_Tr_addLeaf 25 = .ok (.getfield 20, 3) := by decide +kernel
theorem d_Tr_addLeaf_28 : dec m_Tr_addLeaf 28 = .ok (.iload_n 3, 1) := by decide +kernel
theorem d_Tr_addLeaf_29 : dec m_Tr_addLeaf 29 = .ok (.iload_n 2, 1) := by decide +kernel
theorem d_Tr_addLeaf_30 : dec m_Tr_addLeaf 30 = .ok (.invokevirtual 73, 3) := by decide +kernel
theorem d_Tr_addLeaf_33 : dec m_Tr_addLeaf 33 = .ok (.aload_n 0, 1) := by decide +kernel
theorem d_Tr_addLeaf_34 : dec m_Tr_addLeaf 34 = .ok (.getfield 23, 3) := by decide +kernel
theorem d_Tr_addLeaf_37 : dec m_Tr_addLeaf 37 = .ok (.iload_n 3, 1) := by decide +kernel
theorem d_Tr_addLeaf_38 : dec m_Tr_addLeaf 38 = .ok (.aload_n 0, 1) := by decide +kernel
theorem d_Tr_addLeaf_39 : dec m_Tr_addLeaf 39 = .ok (.iload_n 2, 1) := by decide +kernel
theorem d_Tr_addLeaf_40 : dec m_Tr_addLeaf 40 = .ok (.invokevirtual 76, 3) := by decide +kernel
theorem d_Tr_addLeaf_43 : dec m_Tr_addLeaf 43 = .ok (.ifCond .eq 16, 3) := by decide +kernel
theorem d_Tr_addLeaf_46 : dec m_Tr_addLeaf 46 = .ok (.aload_n 0, 1) := by decide +kernel
theorem d_Tr_addLeaf_47 : dec m_Tr_addLeaf 47 = .ok (.getfield 23, 3) := by decide +kernel
theorem d_Tr_addLeaf_50 : dec m_Tr_addLeaf 50 = .ok (.iload_n 2, 1) := by decide +kernel
theorem d_Tr_addLeaf_51 : dec m_Tr_addLeaf 51 = .ok (.invokevirtual 53, 3) := by decide +kernel
theorem d_Tr_addLeaf_54 : dec m_Tr_addLeaf 54 = .ok (.iconst 1, 1) := by decide +kernel
theorem d_Tr_addLeaf_55 : dec m_Tr_addLeaf 55 = .ok (.iadd, 1) := by decide +kernel
theorem d_Tr_addLeaf_56 : dec m_Tr_addLeaf 56 = .ok (.goto 4, 3) := by decide +kernel
theorem d_Tr_addLeaf_59 : dec m_Tr_addLeaf 59 = .ok (.iconst 0, 1) := by decide +kernel
theorem d_Tr_addLeaf_60 : dec m_Tr_addLeaf 60 = .ok (.invokevirtual 73, 3) := by decide +kernel
theorem d_Tr_addLeaf_63 : dec m_Tr_addLeaf 63 = .ok (.aload_n 0, 1) := by decide +kernel
theorem d_Tr_addLeaf_64 : dec m_Tr_addLeaf 64 = .ok (.getfield 32, 3) := by decide +kernel
theorem d_Tr_addLeaf_67 : dec m_Tr_addLeaf 67 = .ok (.iload_n 3, 1) := by decide +kernel
theorem d_Tr_addLeaf_68 : dec m_Tr_addLeaf 68 = .ok (.iconst 0, 1) := by decide +kernel
theorem d_Tr_addLeaf_69 : dec m_Tr_addLeaf 69 = .ok (.invokevirtual 73, 3) := by decide +kernel
theorem d_Tr_addLeaf_72 : dec m_Tr_addLeaf 72 = .ok (.aload_n 0, 1) := by decide +kernel
theorem d_Tr_addLeaf_73 : dec m_Tr_addLeaf 73 = .ok (.getfield 35, 3) := by decide +kernel
theorem d_Tr_addLeaf_76 : dec m_Tr_addLeaf 76 = .ok (.iload_n 3, 1) := by decide +kernel
theorem d_Tr_addLeaf_77 : dec m_Tr_addLeaf 77 = .ok (.bipush (-5), 2) := by decide +kernel
theorem d_Tr_addLeaf_79 : dec m_Tr_addLeaf 79 = .ok (.invokevirtual 73, 3) := by decide +kernel
theorem d_Tr_addLeaf_82 : dec m_Tr_addLeaf 82 = .ok (.aload_n 0, 1) := by decide +kernel
theorem d_Tr_addLeaf_83 : dec m_Tr_addLeaf 83 = .ok (.getfield 38, 3) := by decide +kernel
theorem d_Tr_addLeaf_86 : dec m_Tr_addLeaf 86 = .ok (.iload_n 3, 1) := by decide +kernel
theorem d_Tr_addLeaf_87 : dec m_Tr_addLeaf 87 = .ok (.iconst 0, 1) := by decide +kernel
theorem d_Tr_addLeaf_88 : dec m_Tr_addLeaf 88 = .ok (.invokevirtual 73, 3) := by decide +kernel
theorem d_Tr_addLeaf_91 : dec m_Tr_addLeaf 91 = .ok (.aload_n 0, 1) := by decide +kernel
theorem d_Tr_addLeaf_92 : dec m_Tr_addLeaf 92 = .ok (.iload_n 3, 1) := by decide +kernel
theorem d_Tr_addLeaf_93 : dec m_Tr_addLeaf 93 = .ok (.iload_n 1, 1) := by decide +kernel
theorem d_Tr_addLeaf_94 : dec m_Tr_addLeaf 94 = .ok (.iload_n 2, 1) := by decide +kernel
theorem d_Tr_addLeaf_95 : dec m_Tr_addLeaf 95 = .ok (.invokevirtual 80, 3) := by decide +kernel
theorem d_Tr_addLeaf_98 : dec m_Tr_addLeaf 98 = .ok (.return_, 1) := by decide +kernel
theorem d_Tr_setLeafCosts_0 : dec m_Tr_setLeafCosts 0 = .ok (.aload_n 0, 1) := by decide +kernel
theorem d_Tr_setLeafCosts_1 : dec m_Tr_setLeafCosts 1 = .ok (.getfield 41, 3) := by decide +kernel
theorem d_Tr_setLeafCosts_4 : dec m_Tr_setLeafCosts 4 = .ok (.iload_n 2, 1) := by decide +kernel
theorem d_Tr_setLeafCosts_5 : dec m_Tr_setLeafCosts 5 = .ok (.invokevirtual 84, 3) := by decide +kernel
theorem d_Tr_setLeafCosts_8 : dec m_Tr_setLeafCosts 8 = .ok (.ifCond .eq 45, 3) := by decide +kernel
theorem d_Tr_setLeafCosts_11 : dec m_Tr_setLeafCosts 11 = .ok (.aload_n 0, 1) := by decide +kernel
theorem d_Tr_setLeafCosts_12 : dec m_Tr_setLeafCosts 12 = .ok (.getfield 41, 3) := by decide +kernel
theorem d_Tr_setLeafCosts_15 : dec m_Tr_setLeafCosts 15 = .ok (.iload_n 2, 1) := by decide +kernel
theorem d_Tr_setLeafCosts_16 : dec m_Tr_setLeafCosts 16 = .ok (.invokevirtual 87, 3) := by decide +kernel
theorem d_Tr_setLeafCosts_19 : dec m_Tr_setLeafCosts 19 = .ok (.istore 4, 2) := by decide +kernel
theorem d_Tr_setLeafCosts_21 : dec m_Tr_setLeafCosts 21 = .ok (.aload_n 0, 1) := by decide +kernel
theorem d_Tr_setLeafCosts_22 : dec m_Tr_setLeafCosts 22 = .ok (.iload_n 1, 1) := by decide +kernel
theorem d_Tr_setLeafCosts_23 : dec m_Tr_setLeafCosts 23 = .ok (.iload 4, 2) := by decide +kernel
theorem d_Tr_setLeafCosts_25 : dec m_Tr_setLeafCosts 25 = .ok (.ifCond .eq 7, 3) := by decide +kernel
theorem d_Tr_setLeafCosts_28 : dec m_Tr_setLeafCosts 28 = .ok (.iconst 0, 1) := by decide +kernel
theorem d_Tr_setLeafCosts_29 : dec m_Tr_setLeafCosts 29 = .ok (.goto 6, 3) := by decide +kernel
theorem d_Tr_setLeafCosts_32 : dec m_Tr_setLeafCosts 32 = .ok (.sipush 9999, 3) := by decide +kernel
theorem d_Tr_setLeafCosts_35 : dec m_Tr_setLeafCosts 35 = .ok (.iload 4, 2) := by decide +kernel
theorem d_Tr_setLeafCosts_37 : dec m_Tr_setLeafCosts 37 = .ok (.ifCond .eq 9, 3) := by decide +kernel
theorem d_Tr_setLeafCosts_40 : dec m_Tr_setLeafCosts 40 = .ok (.sipush 9999, 3) := by decide +kernel
theorem d_Tr_setLeafCosts_43 : dec m_Tr_setLeafCosts 43 = .ok (.goto 4, 3) := by decide +kernel
theorem d_Tr_setLeafCosts_46 : dec m_Tr_setLeafCosts 46 = .ok (.iconst 0, 1) := by decide +kernel
theorem d_Tr_setLeafCosts_47 : dec m_Tr_setLeafCosts 47 = .ok (.invokevirtual 90, 3) := by decide +kernel
theorem d_Tr_setLeafCosts_50 : dec m_Tr_setLeafCosts 50 = .ok (.goto 60, 3) := by decide +kernel
theorem d_Tr_setLeafCosts_53 : dec m_Tr_setLeafCosts 53 = .ok (.aload_n 0, 1) := by decide +kernel
theorem d_Tr_setLeafCosts_54 : dec m_Tr_setLeafCosts 54 = .ok (.iload_n 3, 1) := by decide +kernel
theorem d_Tr_setLeafCosts_55 : dec m_Tr_setLeafCosts 55 = .ok (.iload_n 2, 1) := by decide +kernel
theorem d_Tr_setLeafCosts_56 : dec m_Tr_setLeafCosts 56 = .ok (.invokevirtual 93, 3) := by decide +kernel
theorem d_Tr_setLeafCosts_59 : dec m_Tr_setLeafCosts 59 = .ok (.ifCond .eq 24, 3) := by decide +kernel
theorem d_Tr_setLeafCosts_62 : dec m_Tr_setLeafCosts 62 = .ok (.aload_n 0, 1) := by decide +kernel
theorem d_Tr_setLeafCosts_63 : dec m_Tr_setLeafCosts 63 = .ok (.getfield 38, 3) := by decide +kernel
theorem d_Tr_setLeafCosts_66 : dec m_Tr_setLeafCosts 66 = .ok (.iload_n 1, 1) := by decide +kernel
theorem d_Tr_setLeafCosts_67 : dec m_Tr_setLeafCosts 67 = .ok (.iconst 1, 1) := by decide +kernel
theorem d_Tr_setLeafCosts_68 : dec m_Tr_setLeafCosts 68 = .ok (.invokevirtual 73, 3) := by decide +kernel
theorem d_Tr_setLeafCosts_71 : dec m_Tr_setLeafCosts 71 = .ok (.aload_n 0, 1) := by decide +kernel
theorem d_Tr_setLeafCosts_72 : dec m_Tr_setLeafCosts 72 = .ok (.iload_n 1, 1) := by decide +kernel
theorem d_Tr_setLeafCosts_73 : dec m_Tr_setLeafCosts 73 = .ok (.sipush 9999, 3) := by decide +kernel
theorem d_Tr_setLeafCosts_76 : dec m_Tr_setLeafCosts 76 = .ok (.iconst 0, 1) := by decide +kernel
theorem d_Tr_setLeafCosts_77 : dec m_Tr_setLeafCosts 77 = .ok (.invokevirtual 90, 3) := by decide +kernel
theorem d_Tr_setLeafCosts_80 : dec m_Tr_setLeafCosts 80 = .ok (.goto 30, 3) := by decide +kernel
theorem d_Tr_setLeafCosts_83 : dec m_Tr_setLeafCosts 83 = .ok (.aload_n 0, 1) := by decide +kernel
theorem d_Tr_setLeafCosts_84 : dec m_Tr_setLeafCosts 84 = .ok (.iload_n 1, 1) := by decide +kernel
theorem d_Tr_setLeafCosts_85 : dec m_Tr_setLeafCosts 85 = .ok (.aload_n 0, 1) := by decide +kernel
theorem d_Tr_setLeafCosts_86 : dec m_Tr_setLeafCosts 86 = .ok (.getfield 41, 3) := by decide +kernel
theorem d_Tr_setLeafCosts_89 : dec m_Tr_setLeafCosts 89 = .ok (.getfield 97, 3) := by decide +kernel
theorem d_Tr_setLeafCosts_92 : dec m_Tr_setLeafCosts 92 = .ok (.iload_n 2, 1) := by decide +kernel
theorem d_Tr_setLeafCosts_93 : dec m_Tr_setLeafCosts 93 = .ok (.invokevirtual 53, 3) := by decide +kernel
theorem d_Tr_setLeafCosts_96 : dec m_Tr_setLeafCosts 96 = .ok (.aload_n 0, 1) := by decide +kernel
theorem d_Tr_setLeafCosts_97 : dec m_Tr_setLeafCosts 97 = .ok (.getfield 41, 3) := by decide +kernel
theorem d_Tr_setLeafCosts_100 : dec m_Tr_setLeafCosts 100 = .ok (.getfield 100, 3) := by decide +kernel
theorem d_Tr_setLeafCosts_103 : dec m_Tr_setLeafCosts 103 = .ok (.iload_n 2, 1) := by decide +kernel
theorem d_Tr_setLeafCosts_104 : dec m_Tr_setLeafCosts 104 = .ok (.invokevirtual 53, 3) := by decide +kernel
theorem d_Tr_setLeafCosts_107 : dec m_Tr_setLeafCosts 107 = .ok (.invokevirtual 90, 3) := by decide +kernel
theorem d_Tr_setLeafCosts_110 : dec m_Tr_setLeafCosts 110 = .ok (.return_, 1) := by decide +kernel
theorem d_Tr_setCosts_0 : dec m_Tr_setCosts 0 = .ok (.aload_n 0, 1) := by decide +kernel
theorem d_Tr_setCosts_1 : dec m_Tr_setCosts 1 = .ok (.getfield 26, 3) := by decide +kernel
theorem d_Tr_setCosts_4 : dec m_Tr_setCosts 4 = .ok (.iload_n 1, 1) := by decide +kernel
theorem d_Tr_setCosts_5 : dec m_Tr_setCosts 5 = .ok (.iload_n 2, 1) := by decide +kernel
theorem d_Tr_setCosts_6 : dec m_Tr_setCosts 6 = .ok (.invokevirtual 73, 3) := by decide +kernel
theorem d_Tr_setCosts_9 : dec m_Tr_setCosts 9 = .ok (.aload_n 0, 1) := by decide +kernel
theorem d_Tr_setCosts_10 : dec m_Tr_setCosts 10 = .ok (.getfield 29, 3) := by decide +kernel
theorem d_Tr_setCosts_13 : dec m_Tr_setCosts 13 = .ok (.iload_n 1, 1) := by decide +kernel
theorem d_Tr_setCosts_14 : dec m_Tr_setCosts 14 = .ok (.iload_n 3, 1) := by decide +kernel
theorem d_Tr_setCosts_15 : dec m_Tr_setCosts 15 = .ok (.invokevirtual 73, 3) := by decide +kernel
theorem d_Tr_setCosts_18 : dec m_Tr_setCosts 18 = .ok (.return_, 1) := by decide +kernel
theorem d_Tr_isOnWayTo_0 : dec m_Tr_isOnWayTo 0 = .ok (.iload_n 1, 1) := by decide +kernel
theorem d_Tr_isOnWayTo_1 : dec m_Tr_isOnWayTo 1 = .ok (.istore_n 3, 1) := by decide +kernel
theorem d_Tr_isOnWayTo_2 : dec m_Tr_isOnWayTo 2 = .ok (.iconst 0, 1) := by decide +kernel
theorem d_Tr_isOnWayTo_3 : dec m_Tr_isOnWayTo 3 = .ok (.istore 4, 2) := by decide +kernel
theorem d_Tr_isOnWayTo_5 : dec m_Tr_isOnWayTo 5 = .ok (.iload 4, 2) := by decide +kernel
theorem d_Tr_isOnWayTo_7 : dec m_Tr_isOnWayTo 7 = .ok (.sipush 200, 3) := by decide +kernel
theorem d_Tr_isOnWayTo_10 : dec m_Tr_isOnWayTo 10 = .ok (.if_icmp .ge 40, 3) := by decide +kernel
theorem d_Tr_isOnWayTo_13 : dec m_Tr_isOnWayTo 13 = .ok (.aload_n 0, 1) := by decide +kernel
theorem d_Tr_isOnWayTo_14 : dec m_Tr_isOnWayTo 14 = .ok (.iload_n 3, 1) := by decide +kernel
theorem d_Tr_isOnWayTo_15 : dec m_Tr_isOnWayTo 15 = .ok (.invokevirtual 76, 3) := by decide +kernel
theorem d_Tr_isOnWayTo_18 : dec m_Tr_isOnWayTo 18 = .ok (.ifCond .eq 32, 3) := by decide +kernel
theorem d_Tr_isOnWayTo_21 : dec m_Tr_isOnWayTo 21 = .ok (.aload_n 0, 1) := by decide +kernel
theorem d_Tr_isOnWayTo_22 : dec m_Tr_isOnWayTo 22 = .ok (.getfield 14, 3) := by decide +kernel
theorem d_Tr_isOnWayTo_25 : dec m_Tr_isOnWayTo 25 = .ok (.iload_n 3, 1) := by decide +kernel
theorem d_Tr_isOnWayTo_26 : dec m_Tr_isOnWayTo 26 = .ok (.invokevirtual 53, 3) := by decide +kernel
theorem d_Tr_isOnWayTo_29 : dec m_Tr_isOnWayTo 29 = .ok (.iload_n 2, 1) := by decide +kernel
theorem d_Tr_isOnWayTo_30 : dec m_Tr_isOnWayTo 30 = .ok (.if_icmp .ne 5, 3) := by decide +kernel
theorem d_Tr_isOnWayTo_33 : dec m_Tr_isOnWayTo 33 = .ok (.iconst 1, 1) := by decide +kernel
theorem d_Tr_isOnWayTo_34 : dec m_Tr_isOnWayTo 34 = .ok (.ireturn, 1) := by decide +kernel
theorem d_Tr_isOnWayTo_35 : dec m_Tr_isOnWayTo 35 = .ok (.aload_n 0, 1) := by decide +kernel
theorem d_Tr_isOnWayTo_36 : dec m_Tr_isOnWayTo 36 = .ok (.getfield 20, 3) := by decide +kernel
theorem d_Tr_isOnWayTo_39 : dec m_Tr_isOnWayTo 39 = .ok (.iload_n 3, 1) := by decide +kernel
theorem d_Tr_isOnWayTo_40 : dec m_Tr_isOnWayTo 40 = .ok (.invokevirtual 53, 3) := by decide +kernel
theorem d_Tr_isOnWayTo_43 : dec m_Tr_isOnWayTo 43 = .ok (.istore_n 3, 1) := by decide +kernel
theorem d_Tr_isOnWayTo_44 : dec m_Tr_isOnWayTo 44 = .ok (.iinc 4 1, 3) := by decide +kernel
theorem d_Tr_isOnWayTo_47 : dec m_Tr_isOnWayTo 47 = .ok (.goto (-42), 3) := by decide +kernel
theorem d_Tr_isOnWayTo_50 : dec m_Tr_isOnWayTo 50 = .ok (.iconst 0, 1) := by decide +kernel
theorem d_Tr_isOnWayTo_51 : dec m_Tr_isOnWayTo 51 = .ok (.ireturn, 1) := by decide +kernel
theorem d_Tr_cheapestChild_0 : dec m_Tr_cheapestChild 0 = .ok (.aload_n 0, 1) := by decide +kernel
theorem d_Tr_cheapestChild_1 : dec m_Tr_cheapestChild 1 = .ok (.iload_n 1, 1) := by decide +kernel
theorem d_Tr_cheapestChild_2 : dec m_Tr_cheapestChild 2 = .ok (.invokevirtual 103, 3) := by decide +kernel
theorem d_Tr_cheapestChild_5 : dec m_Tr_cheapestChild 5 = .ok (.ifCond .ne 10, 3) := by decide +kernel
theorem d_Tr_cheapestChild_8 : dec m_Tr_cheapestChild 8 = .ok (.aload_n 0, 1) := by decide +kernel
theorem d_Tr_cheapestChild_9 : dec m_Tr_cheapestChild 9 = .ok (.getfield 26, 3) := by decide +kernel
theorem d_Tr_cheapestChild_12 : dec m_Tr_cheapestChild 12 = .ok (.goto 7, 3) := by decide +kernel
theorem d_Tr_cheapestChild_15 : dec m_Tr_cheapestChild 15 = .ok (.aload_n 0, 1) := by decide +kernel
theorem d_Tr_cheapestChild_16 : dec m_Tr_cheapestChild 16 = .ok (.getfield 29, 3) := by decide +kernel
theorem d_Tr_cheapestChild_19 : dec m_Tr_cheapestChild 19 = .ok (.astore_n 2, 1) := by decide +kernel
theorem d_Tr_cheapestChild_20 : dec m_Tr_cheapestChild 20 = .ok (.aload_n 0, 1) := by decide +kernel
theorem d_Tr_cheapestChild_21 : dec m_Tr_cheapestChild 21 = .ok (.iload_n 1, 1) := by decide +kernel
theorem d_Tr_cheapestChild_22 : dec m_Tr_cheapestChild 22 = .ok (.invokevirtual 106, 3) := by decide +kernel
theorem d_Tr_cheapestChild_25 : dec m_Tr_cheapestChild 25 = .ok (.istore_n 3, 1) := by decide +kernel
theorem d_Tr_cheapestChild_26 : dec m_Tr_cheapestChild 26 = .ok (.aload_n 0, 1) := by decide +kernel
theorem d_Tr_cheapestChild_27 : dec m_Tr_cheapestChild 27 = .ok (.getfield 35, 3) := by decide +kernel
theorem d_Tr_cheapestChild_30 : dec m_Tr_cheapestChild 30 = .ok (.iload_n 1, 1) := by decide +kernel
theorem d_Tr_cheapestChild_31 : dec m_Tr_cheapestChild 31 = .ok (.invokevirtual 53, 3) := by decide +kernel
theorem d_Tr_cheapestChild_34 : dec m_Tr_cheapestChild 34 = .ok (.istore 4, 2) := by decide +kernel
theorem d_Tr_cheapestChild_36 : dec m_Tr_cheapestChild 36 = .ok (.iload 4, 2) := by decide +kernel
theorem d_Tr_cheapestChild_38 : dec m_Tr_cheapestChild 38 = .ok (.iconst 1, 1) := by decide +kernel
theorem d_Tr_cheapestChild_39 : dec m_Tr_cheapestChild 39 = .ok (.iadd, 1) := by decide +kernel
theorem d_Tr_cheapestChild_40 : dec m_Tr_cheapestChild 40 = .ok (.istore 5, 2) := by decide +kernel
theorem d_Tr_cheapestChild_42 : dec m_Tr_cheapestChild 42 = .ok (.iload 5, 2) := by decide +kernel
theorem d_Tr_cheapestChild_44 : dec m_Tr_cheapestChild 44 = .ok (.iload_n 3, 1) := by decide +kernel
theorem d_Tr_cheapestChild_45 : dec m_Tr_cheapestChild 45 = .ok (.if_icmp .ge 28, 3) := by decide +kernel
theorem d_Tr_cheapestChild_48 : dec m_Tr_cheapestChild 48 = .ok (.aload_n 2, 1) := by decide +kernel
theorem d_Tr_cheapestChild_49 : dec m_Tr_cheapestChild 49 = .ok (.iload 5, 2) := by decide +kernel
theorem d_Tr_cheapestChild_51 : dec m_Tr_cheapestChild 51 = .ok (.invokevirtual 53, 3) := by decide +kernel
theorem d_Tr_cheapestChild_54 : dec m_Tr_cheapestChild 54 = .ok (.aload_n 2, 1) := by decide +kernel
theorem d_Tr_cheapestChild_55 : dec m_Tr_cheapestChild 55 = .ok (.iload 4, 2) := by decide +kernel
theorem d_Tr_cheapestChild_57 : dec m_Tr_cheapestChild 57 = .ok (.invokevirtual 53, 3) := by decide +kernel
theorem d_Tr_cheapestChild_60 : dec m_Tr_cheapestChild 60 = .ok (.if_icmp .ge 7, 3) := by decide +kernel
theorem d_Tr_cheapestChild_63 : dec m_Tr_cheapestChild 63 = .ok (.iload 5, 2) := by decide +kernel
theorem d_Tr_cheapestChild_65 : dec m_Tr_cheapestChild 65 = .ok (.istore 4, 2) := by decide +kernel
theorem d_Tr_cheapestChild_67 : dec m_Tr_cheapestChild 67 = .ok (.iinc 5 1, 3) := by decide +kernel
theorem d_Tr_cheapestChild_70 : dec m_Tr_cheapestChild 70 = .ok (.goto (-28), 3) := by decide +kernel
theorem d_Tr_cheapestChild_73 : dec m_Tr_cheapestChild 73 = .ok (.iload 4, 2) := by decide +kernel
theorem d_Tr_cheapestChild_75 : dec m_Tr_cheapestChild 75 = .ok (.ireturn, 1) := by decide +kernel
theorem d_Tr_leafOnWay_0 : dec m_Tr_leafOnWay 0 = .ok (.iconst 0, 1) := by decide +kernel
theorem d_Tr_leafOnWay_1 : dec m_Tr_leafOnWay 1 = .ok (.istore_n 1, 1) := by decide +kernel
theorem d_Tr_leafOnWay_2 : dec m_Tr_leafOnWay 2 = .ok (.iconst 0, 1) := by decide +kernel
theorem d_Tr_leafOnWay_3 : dec m_Tr_leafOnWay 3 = .ok (.istore_n 2, 1) := by decide +kernel
theorem d_Tr_leafOnWay_4 : dec m_Tr_leafOnWay 4 = .ok (.iload_n 2, 1) := by decide +kernel
theorem d_Tr_leafOnWay_5 : dec m_Tr_leafOnWay 5 = .ok (.sipush 200, 3) := by decide +kernel
theorem d_Tr_leafOnWay_8 : dec m_Tr_leafOnWay 8 = .ok (.if_icmp .ge 23, 3) := by decide +kernel
theorem d_Tr_leafOnWay_11 : dec m_Tr_leafOnWay 11 = .ok (.aload_n 0, 1) := by decide +kernel
theorem d_Tr_leafOnWay_12 : dec m_Tr_leafOnWay 12 = .ok (.iload_n 1, 1) := by decide +kernel
theorem d_Tr_leafOnWay_13 : dec m_Tr_leafOnWay 13 = .ok (.invokevirtual 109, 3) := by decide +kernel
theorem d_Tr_leafOnWay_16 : dec m_Tr_leafOnWay 16 = .ok (.ifCond .ne 15, 3) := by decide +kernel
theorem d_Tr_leafOnWay_19 : dec m_Tr_leafOnWay 19 = .ok (.aload_n 0, 1) := by decide +kernel
theorem d_Tr_leafOnWay_20 : dec m_Tr_leafOnWay 20 = .ok (.iload_n 1, 1) := by decide +kernel
theorem d_Tr_leafOnWay_21 : dec m_Tr_leafOnWay 21 = .ok (.invokevirtual 112, 3) := by decide +kernel
theorem d_Tr_leafOnWay_24 : dec m_Tr_leafOnWay 24 = .ok (.istore_n 1, 1) := by decide +kernel
theorem d_Tr_leafOnWay_25 : dec m_Tr_leafOnWay 25 = .ok (.iinc 2 1, 3) := by decide +kernel
theorem d_Tr_leafOnWay_28 : dec m_Tr_leafOnWay 28 = .ok (.goto (-24), 3) := by decide +kernel
theorem d_Tr_leafOnWay_31 : dec m_Tr_leafOnWay 31 = .ok (.iload_n 1, 1) := by decide +kernel
theorem d_Tr_leafOnWay_32 : dec m_Tr_leafOnWay 32 = .ok (.ireturn, 1) := by decide +kernel
theorem d_Tr_nodeOnWay_0 : dec m_Tr_nodeOnWay 0 = .ok (.aload_n 0, 1) := by decide +kernel
theorem d_Tr_nodeOnWay_1 : dec m_Tr_nodeOnWay 1 = .ok (.invokevirtual 62, 3) := by decide +kernel
theorem d_Tr_nodeOnWay_4 : dec m_Tr_nodeOnWay 4 = .ok (.ifCond .ne 17, 3) := by decide +kernel
theorem d_Tr_nodeOnWay_7 : dec m_Tr_nodeOnWay 7 = .ok (.aload_n 0, 1) := by decide +kernel
theorem d_Tr_nodeOnWay_8 : dec m_Tr_nodeOnWay 8 = .ok (.invokevirtual 115, 3) := by decide +kernel
theorem d_Tr_nodeOnWay_11 : dec m_Tr_nodeOnWay 11 = .ok (.ifCond .ne 10, 3) := by decide +kernel
theorem d_Tr_nodeOnWay_14 : dec m_Tr_nodeOnWay 14 = .ok (.iload_n 1, 1) := by decide +kernel
theorem d_Tr_nodeOnWay_15 : dec m_Tr_nodeOnWay 15 = .ok (.sipush 200, 3) := by decide +kernel
theorem d_Tr_nodeOnWay_18 : dec m_Tr_nodeOnWay 18 = .ok (.if_icmp .lt 6, 3) := by decide +kernel
theorem d_Tr_nodeOnWay_21 : dec m_Tr_nodeOnWay 21 = .ok (.bipush (-5), 2) := by decide +kernel
theorem d_Tr_nodeOnWay_23 : dec m_Tr_nodeOnWay 23 = .ok (.ireturn, 1) := by decide +kernel
theorem d_Tr_nodeOnWay_24 : dec m_Tr_nodeOnWay 24 = .ok (.iconst 0, 1) := by decide +kernel
theorem d_Tr_nodeOnWay_25 : dec m_Tr_nodeOnWay 25 = .ok (.istore_n 2, 1) := by decide +kernel
theorem d_Tr_nodeOnWay_26 : dec m_Tr_nodeOnWay 26 = .ok (.iconst 0, 1) := by decide +kernel
theorem d_Tr_nodeOnWay_27 : dec m_Tr_nodeOnWay 27 = .ok (.istore_n 3, 1) := by decide +kernel
theorem d_Tr_nodeOnWay_28 : dec m_Tr_nodeOnWay 28 = .ok (.iload_n 3, 1) := by decide +kernel
theorem d_Tr_nodeOnWay_29 : dec m_Tr_nodeOnWay 29 = .ok (.iload_n 1, 1) := by decide +kernel
theorem d_Tr_nodeOnWay_30 : dec m_Tr_nodeOnWay 30 = .ok (.if_icmp .ge 26, 3) := by decide +kernel
theorem d_Tr_nodeOnWay_33 : dec m_Tr_nodeOnWay 33 = .ok (.aload_n 0, 1) := by decide +kernel
theorem d_Tr_nodeOnWay_34 : dec m_Tr_nodeOnWay 34 = .ok (.iload_n 2, 1) := by decide +kernel
theorem d_Tr_nodeOnWay_35 : dec m_Tr_nodeOnWay 35 = .ok (.invokevirtual 109, 3) := by decide +kernel
theorem d_Tr_nodeOnWay_38 : dec m_Tr_nodeOnWay 38 = .ok (.ifCond .eq 6, 3) := by decide +kernel
theorem d_Tr_nodeOnWay_41 : dec m_Tr_nodeOnWay 41 = .ok (.bipush (-5), 2) := by decide +kernel
theorem d_Tr_nodeOnWay_43 : dec m_Tr_nodeOnWay 43 = .ok (.ireturn, 1) := by decide +kernel
theorem d_Tr_nodeOnWay_44 : dec m_Tr_nodeOnWay 44 = .ok (.aload_n 0, 1) := by decide +kernel
theorem d_Tr_nodeOnWay_45 : dec m_Tr_nodeOnWay 45 = .ok (.iload_n 2, 1) := by decide +kernel
theorem d_Tr_nodeOnWay_46 : dec m_Tr_nodeOnWay 46 = .ok (.invokevirtual 112, 3) := by decide +kernel
theorem d_Tr_nodeOnWay_49 : dec m_Tr_nodeOnWay 49 = .ok (.istore_n 2, 1) := by decide +kernel
theorem d_Tr_nodeOnWay_50 : dec m_Tr_nodeOnWay 50 = .ok (.iinc 3 1, 3) := by decide +kernel
theorem d_Tr_nodeOnWay_53 : dec m_Tr_nodeOnWay 53 = .ok (.goto (-25), 3) := by decide +kernel
theorem d_Tr_nodeOnWay_56 : dec m_Tr_nodeOnWay 56 = .ok (.iload_n 2, 1) := by decide +kernel
theorem d_Tr_nodeOnWay_57 : dec m_Tr_nodeOnWay 57 = .ok (.ireturn, 1) := by decide +kernel
theorem d_Tr_canGrow_0 : dec m_Tr_canGrow 0 = .ok (.aload_n 0, 1) := by decide +kernel
theorem d_Tr_canGrow_1 : dec m_Tr_canGrow 1 = .ok (.invokevirtual 62, 3) := by decide +kernel
theorem d_Tr_canGrow_4 : dec m_Tr_canGrow 4 = .ok (.ifCond .ne 10, 3) := by decide +kernel
theorem d_Tr_canGrow_7 : dec m_Tr_canGrow 7 = .ok (.aload_n 0, 1) := by decide +kernel
theorem d_Tr_canGrow_8 : dec m_Tr_canGrow 8 = .ok (.invokevirtual 115, 3) := by decide +kernel
theorem d_Tr_canGrow_11 : dec m_Tr_canGrow 11 = .ok (.ifCond .eq 5, 3) := by decide +kernel
theorem d_Tr_canGrow_14 : dec m_Tr_canGrow 14 = .ok (.iconst 0, 1) := by decide +kernel
theorem d_Tr_canGrow_15 : dec m_Tr_canGrow 15 = .ok (.ireturn, 1) := by decide +kernel
theorem d_Tr_canGrow_16 : dec m_Tr_canGrow 16 = .ok (.aload_n 0, 1) := by decide +kernel
theorem d_Tr_canGrow_17 : dec m_Tr_canGrow 17 = .ok (.getfield 41, 3) := by decide +kernel
theorem d_Tr_canGrow_20 : dec m_Tr_canGrow 20 = .ok (.getfield 119, 3) := by decide +kernel
theorem d_Tr_canGrow_23 : dec m_Tr_canGrow 23 = .ok (.aload_n 0, 1) := by decide +kernel
theorem d_Tr_canGrow_24 : dec m_Tr_canGrow 24 = .ok (.getfield 14, 3) := by decide +kernel
theorem d_Tr_canGrow_27 : dec m_Tr_canGrow 27 = .ok (.aload_n 0, 1) := by decide +kernel
theorem d_Tr_canGrow_28 : dec m_Tr_canGrow 28 = .ok (.invokevirtual 122, 3) := by decide +kernel
theorem d_Tr_canGrow_31 : dec m_Tr_canGrow 31 = .ok (.invokevirtual 53, 3) := by decide +kernel
theorem d_Tr_canGrow_34 : dec m_Tr_canGrow 34 = .ok (.invokevirtual 53, 3) := by decide +kernel
theorem d_Tr_canGrow_37 : dec m_Tr_canGrow 37 = .ok (.sipush 200, 3) := by decide +kernel
theorem d_Tr_canGrow_40 : dec m_Tr_canGrow 40 = .ok (.aload_n 0, 1) := by decide +kernel
theorem d_Tr_canGrow_41 : dec m_Tr_canGrow 41 = .ok (.getfield 49, 3) := by decide +kernel
theorem d_Tr_canGrow_44 : dec m_Tr_canGrow 44 = .ok (.isub, 1) := by decide +kernel
theorem d_Tr_canGrow_45 : dec m_Tr_canGrow 45 = .ok (.if_icmp .gt 7, 3) := by decide +kernel
theorem d_Tr_canGrow_48 : dec m_Tr_canGrow 48 = .ok (.iconst 1, 1) := by decide +kernel
theorem d_Tr_canGrow_49 : dec m_Tr_canGrow 49 = .ok (.goto 4, 3) := by decide +kernel
theorem d_Tr_canGrow_52 : dec m_Tr_canGrow 52 = .ok (.iconst 0, 1) := by decide +kernel
theorem d_Tr_canGrow_53 : dec m_Tr_canGrow 53 = .ok (.ireturn, 1) := by decide +kernel
theorem d_Tr_grow_0 : dec m_Tr_grow 0 = .ok (.aload_n 0, 1) := by decide +kernel
theorem d_Tr_grow_1 : dec m_Tr_grow 1 = .ok (.invokevirtual 122, 3) := by decide +kernel
theorem d_Tr_grow_4 : dec m_Tr_grow 4 = .ok (.istore_n 1, 1) := by decide +kernel
theorem d_Tr_grow_5 : dec m_Tr_grow 5 = .ok (.aload_n 0, 1) := by decide +kernel
theorem d_Tr_grow_6 : dec m_Tr_grow 6 = .ok (.getfield 14, 3) := by decide +kernel
theorem d_Tr_grow_9 : dec m_Tr_grow 9 = .ok (.iload_n 1, 1) := by decide +kernel
theorem d_Tr_grow_10 : dec m_Tr_grow 10 = .ok (.invokevirtual 53, 3) := by decide +kernel
theorem d_Tr_grow_13 : dec m_Tr_grow 13 = .ok (.istore_n 2, 1) := by decide +kernel
theorem d_Tr_grow_14 : dec m_Tr_grow 14 = .ok (.aload_n 0, 1) := by decide +kernel
theorem d_Tr_grow_15 : dec m_Tr_grow 15 = .ok (.getfield 41, 3) := by decide +kernel
theorem d_Tr_grow_18 : dec m_Tr_grow 18 = .ok (.getfield 119, 3) := by decide +kernel
theorem d_Tr_grow_21 : dec m_Tr_grow 21 = .ok (.iload_n 2, 1) := by decide +kernel
theorem d_Tr_grow_22 : dec m_Tr_grow 22 = .ok (.invokevirtual 53, 3) := by decide +kernel
theorem d_Tr_grow_25 : dec m_Tr_grow 25 = .ok (.istore_n 3, 1) := by decide +kernel
theorem d_Tr_grow_26 : dec m_Tr_grow 26 = .ok (.aload_n 0, 1) := by decide +kernel
theorem d_Tr_grow_27 : dec m_Tr_grow 27 = .ok (.getfield 35, 3) := by decide +kernel
theorem d_Tr_grow_30 : dec m_Tr_grow 30 = .ok (.iload_n 1, 1) := by decide +kernel
theorem d_Tr_grow_31 : dec m_Tr_grow 31 = .ok (.aload_n 0, 1) := by decide +kernel
theorem d_Tr_grow_32 : dec m_Tr_grow 32 = .ok (.getfield 49, 3) := by decide +kernel
theorem d_Tr_grow_35 : dec m_Tr_grow 35 = .ok (.invokevirtual 73, 3) := by decide +kernel
theorem d_Tr_grow_38 : dec m_Tr_grow 38 = .ok (.aload_n 0, 1) := by decide +kernel
theorem d_Tr_grow_39 : dec m_Tr_grow 39 = .ok (.getfield 32, 3) := by decide +kernel
theorem d_Tr_grow_42 : dec m_Tr_grow 42 = .ok (.iload_n 1, 1) := by decide +kernel
theorem d_Tr_grow_43 : dec m_Tr_grow 43 = .ok (.iload_n 3, 1) := by decide +kernel
theorem d_Tr_grow_44 : dec m_Tr_grow 44 = .ok (.invokevirtual 73, 3) := by decide +kernel
theorem d_Tr_grow_47 : dec m_Tr_grow 47 = .ok (.iconst 0, 1) := by decide +kernel
theorem d_Tr_grow_48 : dec m_Tr_grow 48 = .ok (.istore 4, 2) := by decide +kernel
theorem d_Tr_grow_50 : dec m_Tr_grow 50 = .ok (.iload 4, 2) := by decide +kernel
theorem d_Tr_grow_52 : dec m_Tr_grow 52 = .ok (.iload_n 3, 1) := by decide +kernel
theorem d_Tr_grow_53 : dec m_Tr_grow 53 = .ok (.if_icmp .ge 24, 3) := by decide +kernel
theorem d_Tr_grow_56 : dec m_Tr_grow 56 = .ok (.aload_n 0, 1) := by decide +kernel
theorem d_Tr_grow_57 : dec m_Tr_grow 57 = .ok (.aload_n 0, 1) := by decide +kernel
theorem d_Tr_grow_58 : dec m_Tr_grow 58 = .ok (.getfield 41, 3) := by decide +kernel
theorem d_Tr_grow_61 : dec m_Tr_grow 61 = .ok (.iload_n 2, 1) := by decide +kernel
theorem d_Tr_grow_62 : dec m_Tr_grow 62 = .ok (.iload 4, 2) := by decide +kernel
theorem d_Tr_grow_64 : dec m_Tr_grow 64 = .ok (.invokevirtual 125, 3) := by decide +kernel
theorem d_Tr_grow_67 : dec m_Tr_grow 67 = .ok (.iload_n 1, 1) := by decide +kernel
theorem d_Tr_grow_68 : dec m_Tr_grow 68 = .ok (.invokevirtual 69, 3) := by decide +kernel
theorem d_Tr_grow_71 : dec m_Tr_grow 71 = .ok (.iinc 4 1, 3) := by decide +kernel
theorem d_Tr_grow_74 : dec m_Tr_grow 74 = .ok (.goto (-24), 3) := by decide +kernel
theorem d_Tr_grow_77 : dec m_Tr_grow 77 = .ok (.aload_n 0, 1) := by decide +kernel
theorem d_Tr_grow_78 : dec m_Tr_grow 78 = .ok (.iload_n 1, 1) := by decide +kernel
theorem d_Tr_grow_79 : dec m_Tr_grow 79 = .ok (.invokevirtual 129, 3) := by decide +kernel
theorem d_Tr_grow_82 : dec m_Tr_grow 82 = .ok (.return_, 1) := by decide +kernel
theorem d_Tr_workOutFrom_0 : dec m_Tr_workOutFrom 0 = .ok (.iload_n 1, 1) := by decide +kernel
theorem d_Tr_workOutFrom_1 : dec m_Tr_workOutFrom 1 = .ok (.istore_n 2, 1) := by decide +kernel
theorem d_Tr_workOutFrom_2 : dec m_Tr_workOutFrom 2 = .ok (.iconst 0, 1) := by decide +kernel
theorem d_Tr_workOutFrom_3 : dec m_Tr_workOutFrom 3 = .ok (.istore_n 3, 1) := by decide +kernel
theorem d_Tr_workOutFrom_4 : dec m_Tr_workOutFrom 4 = .ok (.iload_n 3, 1) := by decide +kernel
theorem d_Tr_workOutFrom_5 : dec m_Tr_workOutFrom 5 = .ok (.sipush 200, 3) := by decide +kernel
theorem d_Tr_workOutFrom_8 : dec m_Tr_workOutFrom 8 = .ok (.if_icmp .ge 31, 3) := by decide +kernel
theorem d_Tr_workOutFrom_11 : dec m_Tr_workOutFrom 11 = .ok (.aload_n 0, 1) := by decide +kernel
theorem d_Tr_workOutFrom_12 : dec m_Tr_workOutFrom 12 = .ok (.iload_n 2, 1) := by decide +kernel
theorem d_Tr_workOutFrom_13 : dec m_Tr_workOutFrom 13 = .ok (.invokevirtual 76, 3) := by decide +kernel
theorem d_Tr_workOutFrom_16 : dec m_Tr_workOutFrom 16 = .ok (.ifCond .eq 23, 3) := by decide +kernel
theorem d_Tr_workOutFrom_19 : dec m_Tr_workOutFrom 19 = .ok (.aload_n 0, 1) := by decide +kernel
theorem d_Tr_workOutFrom_20 : dec m_Tr_workOutFrom 20 = .ok (.iload_n 2, 1) := by decide +kernel
theorem d_Tr_workOutFrom_21 : dec m_Tr_workOutFrom 21 = .ok (.invokevirtual 132, 3) := by decide +kernel
theorem d_Tr_workOutFrom_24 : dec m_Tr_workOutFrom 24 = .ok (.aload_n 0, 1) := by decide +kernel
theorem d_Tr_workOutFrom_25 : dec m_Tr_workOutFrom 25 = .ok (.getfield 20, 3) := by decide +kernel
theorem d_Tr_workOutFrom_28 : dec m_Tr_workOutFrom 28 = .ok (.iload_n 2, 1) := by decide +kernel
theorem d_Tr_workOutFrom_29 : dec m_Tr_workOutFrom 29 = .ok (.invokevirtual 53, 3) := by decide +kernel
theorem d_Tr_workOutFrom_32 : dec m_Tr_workOutFrom 32 = .ok (.istore_n 2, 1) := by decide +kernel
theorem d_Tr_workOutFrom_33 : dec m_Tr_workOutFrom 33 = .ok (.iinc 3 1, 3) := by decide +kernel
theorem d_Tr_workOutFrom_36 : dec m_Tr_workOutFrom 36 = .ok (.goto (-32), 3) := by decide +kernel
theorem d_Tr_workOutFrom_39 : dec m_Tr_workOutFrom 39 = .ok (.return_, 1) := by decide +kernel
theorem d_Tr_workOut_0 : dec m_Tr_workOut 0 = .ok (.aload_n 0, 1) := by decide +kernel
theorem d_Tr_workOut_1 : dec m_Tr_workOut 1 = .ok (.iload_n 1, 1) := by decide +kernel
theorem d_Tr_workOut_2 : dec m_Tr_workOut 2 = .ok (.invokevirtual 103, 3) := by decide +kernel
theorem d_Tr_workOut_5 : dec m_Tr_workOut 5 = .ok (.ifCond .ne 29, 3) := by decide +kernel
theorem d_Tr_workOut_8 : dec m_Tr_workOut 8 = .ok (.aload_n 0, 1) := by decide +kernel
theorem d_Tr_workOut_9 : dec m_Tr_workOut 9 = .ok (.iload_n 1, 1) := by decide +kernel
theorem d_Tr_workOut_10 : dec m_Tr_workOut 10 = .ok (.aload_n 0, 1) := by decide +kernel
theorem d_Tr_workOut_11 : dec m_Tr_workOut 11 = .ok (.iload_n 1, 1) := by decide +kernel
theorem d_Tr_workOut_12 : dec m_Tr_workOut 12 = .ok (.aload_n 0, 1) := by decide +kernel
theorem d_Tr_workOut_13 : dec m_Tr_workOut 13 = .ok (.getfield 26, 3) := by decide +kernel
theorem d_Tr_workOut_16 : dec m_Tr_workOut 16 = .ok (.invokevirtual 135, 3) := by decide +kernel
theorem d_Tr_workOut_19 : dec m_Tr_workOut 19 = .ok (.aload_n 0, 1) := by decide +kernel
theorem d_Tr_workOut_20 : dec m_Tr_workOut 20 = .ok (.iload_n 1, 1) := by decide +kernel
theorem d_Tr_workOut_21 : dec m_Tr_workOut 21 = .ok (.aload_n 0, 1) := by decide +kernel
theorem d_Tr_workOut_22 : dec m_Tr_workOut 22 = .ok (.getfield 29, 3) := by decide +kernel
theorem d_Tr_workOut_25 : dec m_Tr_workOut 25 = .ok (.invokevirtual 139, 3) := by decide +kernel
theorem d_Tr_workOut_28 : dec m_Tr_workOut 28 = .ok (.invokevirtual 90, 3) := by decide +kernel
theorem d_Tr_workOut_31 : dec m_Tr_workOut 31 = .ok (.goto 26, 3) := by decide +kernel
theorem d_Tr_workOut_34 : dec m_Tr_workOut 34 = .ok (.aload_n 0, 1) := by decide +kernel
theorem d_Tr_workOut_35 : dec m_Tr_workOut 35 = .ok (.iload_n 1, 1) := by decide +kernel
theorem d_Tr_workOut_36 : dec m_Tr_workOut 36 = .ok (.aload_n 0, 1) := by decide +kernel
theorem d_Tr_workOut_37 : dec m_Tr_workOut 37 = .ok (.iload_n 1, 1) := by decide +kernel
theorem d_Tr_workOut_38 : dec m_Tr_workOut 38 = .ok (.aload_n 0, 1) := by decide +kernel
theorem d_Tr_workOut_39 : dec m_Tr_workOut 39 = .ok (.getfield 26, 3) := by decide +kernel
theorem d_Tr_workOut_42 : dec m_Tr_workOut 42 = .ok (.invokevirtual 139, 3) := by decide +kernel
theorem d_Tr_workOut_45 : dec m_Tr_workOut 45 = .ok (.aload_n 0, 1) := by decide +kernel
theorem d_Tr_workOut_46 : dec m_Tr_workOut 46 = .ok (.iload_n 1, 1) := by decide +kernel
theorem d_Tr_workOut_47 : dec m_Tr_workOut 47 = .ok (.aload_n 0, 1) := by decide +kernel
theorem d_Tr_workOut_48 : dec m_Tr_workOut 48 = .ok (.getfield 29, 3) := by decide +kernel
theorem d_Tr_workOut_51 : dec m_Tr_workOut 51 = .ok (.invokevirtual 135, 3) := by decide +kernel
theorem d_Tr_workOut_54 : dec m_Tr_workOut 54 = .ok (.invokevirtual 90, 3) := by decide +kernel
theorem d_Tr_workOut_57 : dec m_Tr_workOut 57 = .ok (.return_, 1) := by decide +kernel
theorem d_Tr_leastOfChildren_0 : dec m_Tr_leastOfChildren 0 = .ok (.aload_n 0, 1) := by decide +kernel
theorem d_Tr_leastOfChildren_1 : dec m_Tr_leastOfChildren 1 = .ok (.iload_n 1, 1) := by decide +kernel
theorem d_Tr_leastOfChildren_2 : dec m_Tr_leastOfChildren 2 = .ok (.invokevirtual 106, 3) := by decide +kernel
theorem d_Tr_leastOfChildren_5 : dec m_Tr_leastOfChildren 5 = .ok (.istore_n 3, 1) := by decide +kernel
theorem d_Tr_leastOfChildren_6 : dec m_Tr_leastOfChildren 6 = .ok (.sipush 9999, 3) := by decide +kernel
theorem d_Tr_leastOfChildren_9 : dec m_Tr_leastOfChildren 9 = .ok (.istore 4, 2) := by decide +kernel
theorem d_Tr_leastOfChildren_11 : dec m_Tr_leastOfChildren 11 = .ok (.aload_n 0, 1) := by decide +kernel
theorem d_Tr_leastOfChildren_12 : dec m_Tr_leastOfChildren 12 = .ok (.getfield 35, 3) := by decide +kernel
theorem d_Tr_leastOfChildren_15 : dec m_Tr_leastOfChildren 15 = .ok (.iload_n 1, 1) := by decide +kernel
theorem d_Tr_leastOfChildren_16 : dec m_Tr_leastOfChildren 16 = .ok (.invokevirtual 53, 3) := by decide +kernel
theorem d_Tr_leastOfChildren_19 : dec m_Tr_leastOfChildren 19 = .ok (.istore 5, 2) := by decide +kernel
theorem d_Tr_leastOfChildren_21 : dec m_Tr_leastOfChildren 21 = .ok (.iload 5, 2) := by decide +kernel
theorem d_Tr_leastOfChildren_23 : dec m_Tr_leastOfChildren 23 = .ok (.iload_n 3, 1) := by decide +kernel
theorem d_Tr_leastOfChildren_24 : dec m_Tr_leastOfChildren 24 = .ok (.if_icmp .ge 22, 3) := by decide +kernel
theorem d_Tr_leastOfChildren_27 : dec m_Tr_leastOfChildren 27 = .ok (.iload 4, 2) := by decide +kernel
theorem d_Tr_leastOfChildren_29 : dec m_Tr_leastOfChildren 29 = .ok (.aload_n 2, 1) := by decide +kernel
theorem d_Tr_leastOfChildren_30 : dec m_Tr_leastOfChildren 30 = .ok (.iload 5, 2) := by decide +kernel
theorem d_Tr_leastOfChildren_32 : dec m_Tr_leastOfChildren 32 = .ok (.invokevirtual 53, 3) := by decide +kernel
theorem d_Tr_leastOfChildren_35 : dec m_Tr_leastOfChildren 35 = .ok (.invokestatic 142, 3) := by decide +kernel
theorem d_Tr_leastOfChildren_38 : dec m_Tr_leastOfChildren 38 = .ok (.istore 4, 2) := by decide +kernel
theorem d_Tr_leastOfChildren_40 : dec m_Tr_leastOfChildren 40 = .ok (.iinc 5 1, 3) := by decide +kernel
theorem d_Tr_leastOfChildren_43 : dec m_Tr_leastOfChildren 43 = .ok (.goto (-22), 3) := by decide +kernel
theorem d_Tr_leastOfChildren_46 : dec m_Tr_leastOfChildren 46 = .ok (.iload 4, 2) := by decide +kernel
theorem d_Tr_leastOfChildren_48 : dec m_Tr_leastOfChildren 48 = .ok (.ireturn, 1) := by decide +kernel
theorem d_Tr_sumOfChildren_0 : dec m_Tr_sumOfChildren 0 = .ok (.aload_n 0, 1) := by decide +kernel
theorem d_Tr_sumOfChildren_1 : dec m_Tr_sumOfChildren 1 = .ok (.iload_n 1, 1) := by decide +kernel
theorem d_Tr_sumOfChildren_2 : dec m_Tr_sumOfChildren 2 = .ok (.invokevirtual 106, 3) := by decide +kernel
theorem d_Tr_sumOfChildren_5 : dec m_Tr_sumOfChildren 5 = .ok (.istore_n 3, 1) := by decide +kernel
theorem d_Tr_sumOfChildren_6 : dec m_Tr_sumOfChildren 6 = .ok (.iconst 0, 1) := by decide +kernel
theorem d_Tr_sumOfChildren_7 : dec m_Tr_sumOfChildren 7 = .ok (.istore 4, 2) := by decide +kernel
theorem d_Tr_sumOfChildren_9 : dec m_Tr_sumOfChildren 9 = .ok (.aload_n 0, 1) := by decide +kernel
theorem d_Tr_sumOfChildren_10 : dec m_Tr_sumOfChildren 10 = .ok (.getfield 35, 3) := by decide +kernel
theorem d_Tr_sumOfChildren_13 : dec m_Tr_sumOfChildren 13 = .ok (.iload_n 1, 1) := by decide +kernel
theorem d_Tr_sumOfChildren_14 : dec m_Tr_sumOfChildren 14 = .ok (.invokevirtual 53, 3) := by decide +kernel
theorem d_Tr_sumOfChildren_17 : dec m_Tr_sumOfChildren 17 = .ok (.istore 5, 2) := by decide +kernel
theorem d_Tr_sumOfChildren_19 : dec m_Tr_sumOfChildren 19 = .ok (.iload 5, 2) := by decide +kernel
theorem d_Tr_sumOfChildren_21 : dec m_Tr_sumOfChildren 21 = .ok (.iload_n 3, 1) := by decide +kernel
theorem d_Tr_sumOfChildren_22 : dec m_Tr_sumOfChildren 22 = .ok (.if_icmp .ge 26, 3) := by decide +kernel
theorem d_Tr_sumOfChildren_25 : dec m_Tr_sumOfChildren 25 = .ok (.sipush 9999, 3) := by decide +kernel
theorem d_Tr_sumOfChildren_28 : dec m_Tr_sumOfChildren 28 = .ok (.iload 4, 2) := by decide +kernel
theorem d_Tr_sumOfChildren_30 : dec m_Tr_sumOfChildren 30 = .ok (.aload_n 2, 1) := by decide +kernel
theorem d_Tr_sumOfChildren_31 : dec m_Tr_sumOfChildren 31 = .ok (.iload 5, 2) := by decide +kernel
theorem d_Tr_sumOfChildren_33 : dec m_Tr_sumOfChildren 33 = .ok (.invokevirtual 53, 3) := by decide +kernel
theorem d_Tr_sumOfChildren_36 : dec m_Tr_sumOfChildren 36 = .ok (.iadd, 1) := by decide +kernel
theorem d_Tr_sumOfChildren_37 : dec m_Tr_sumOfChildren 37 = .ok (.invokestatic 142, 3) := by decide +kernel
theorem d_Tr_sumOfChildren_40 : dec m_Tr_sumOfChildren 40 = .ok (.istore 4, 2) := by decide +kernel
theorem d_Tr_sumOfChildren_42 : dec m_Tr_sumOfChildren 42 = .ok (.iinc 5 1, 3) := by decide +kernel
theorem d_Tr_sumOfChildren_45 : dec m_Tr_sumOfChildren 45 = .ok (.goto (-26), 3) := by decide +kernel
theorem d_Tr_sumOfChildren_48 : dec m_Tr_sumOfChildren 48 = .ok (.iload 4, 2) := by decide +kernel
theorem d_Tr_sumOfChildren_50 : dec m_Tr_sumOfChildren 50 = .ok (.ireturn, 1) := by decide +kernel
theorem d_Tr_loopCount_0 : dec m_Tr_loopCount 0 = .ok (.iconst 0, 1) := by decide +kernel
theorem d_Tr_loopCount_1 : dec m_Tr_loopCount 1 = .ok (.istore_n 1, 1) := by decide +kernel
theorem d_Tr_loopCount_2 : dec m_Tr_loopCount 2 = .ok (.iconst 0, 1) := by decide +kernel
theorem d_Tr_loopCount_3 : dec m_Tr_loopCount 3 = .ok (.istore_n 2, 1) := by decide +kernel
theorem d_Tr_loopCount_4 : dec m_Tr_loopCount 4 = .ok (.iload_n 2, 1) := by decide +kernel
theorem d_Tr_loopCount_5 : dec m_Tr_loopCount 5 = .ok (.aload_n 0, 1) := by decide +kernel
theorem d_Tr_loopCount_6 : dec m_Tr_loopCount 6 = .ok (.getfield 49, 3) := by decide +kernel
theorem d_Tr_loopCount_9 : dec m_Tr_loopCount 9 = .ok (.if_icmp .ge 20, 3) := by decide +kernel
theorem d_Tr_loopCount_12 : dec m_Tr_loopCount 12 = .ok (.iload_n 1, 1) := by decide +kernel
theorem d_Tr_loopCount_13 : dec m_Tr_loopCount 13 = .ok (.aload_n 0, 1) := by decide +kernel
theorem d_Tr_loopCount_14 : dec m_Tr_loopCount 14 = .ok (.getfield 38, 3) := by decide +kernel
theorem d_Tr_loopCount_17 : dec m_Tr_loopCount 17 = .ok (.iload_n 2, 1) := by decide +kernel
theorem d_Tr_loopCount_18 : dec m_Tr_loopCount 18 = .ok (.invokevirtual 53, 3) := by decide +kernel
theorem d_Tr_loopCount_21 : dec m_Tr_loopCount 21 = .ok (.iadd, 1) := by decide +kernel
theorem d_Tr_loopCount_22 : dec m_Tr_loopCount 22 = .ok (.istore_n 1, 1) := by decide +kernel
theorem d_Tr_loopCount_23 : dec m_Tr_loopCount 23 = .ok (.iinc 2 1, 3) := by decide +kernel
theorem d_Tr_loopCount_26 : dec m_Tr_loopCount 26 = .ok (.goto (-22), 3) := by decide +kernel
theorem d_Tr_loopCount_29 : dec m_Tr_loopCount 29 = .ok (.iload_n 1, 1) := by decide +kernel
theorem d_Tr_loopCount_30 : dec m_Tr_loopCount 30 = .ok (.ireturn, 1) := by decide +kernel
theorem d_Tr_openedCount_0 : dec m_Tr_openedCount 0 = .ok (.iconst 0, 1) := by decide +kernel
theorem d_Tr_openedCount_1 : dec m_Tr_openedCount 1 = .ok (.istore_n 1, 1) := by decide +kernel
theorem d_Tr_openedCount_2 : dec m_Tr_openedCount 2 = .ok (.iconst 0, 1) := by decide +kernel
theorem d_Tr_openedCount_3 : dec m_Tr_openedCount 3 = .ok (.istore_n 2, 1) := by decide +kernel
theorem d_Tr_openedCount_4 : dec m_Tr_openedCount 4 = .ok (.iload_n 2, 1) := by decide +kernel
theorem d_Tr_openedCount_5 : dec m_Tr_openedCount 5 = .ok (.aload_n 0, 1) := by decide +kernel
theorem d_Tr_openedCount_6 : dec m_Tr_openedCount 6 = .ok (.getfield 49, 3) := by decide +kernel
theorem d_Tr_openedCount_9 : dec m_Tr_openedCount 9 = .ok (.if_icmp .ge 20, 3) := by decide +kernel
theorem d_Tr_openedCount_12 : dec m_Tr_openedCount 12 = .ok (.aload_n 0, 1) := by decide +kernel
theorem d_Tr_openedCount_13 : dec m_Tr_openedCount 13 = .ok (.iload_n 2, 1) := by decide +kernel
theorem d_Tr_openedCount_14 : dec m_Tr_openedCount 14 = .ok (.invokevirtual 109, 3) := by decide +kernel
theorem d_Tr_openedCount_17 : dec m_Tr_openedCount 17 = .ok (.ifCond .ne 6, 3) := by decide +kernel
theorem d_Tr_openedCount_20 : dec m_Tr_openedCount 20 = .ok (.iinc 1 1, 3) := by decide +kernel
theorem d_Tr_openedCount_23 : dec m_Tr_openedCount 23 = .ok (.iinc 2 1, 3) := by decide +kernel
theorem d_Tr_openedCount_26 : dec m_Tr_openedCount 26 = .ok (.goto (-22), 3) := by decide +kernel
theorem d_Tr_openedCount_29 : dec m_Tr_openedCount 29 = .ok (.iload_n 1, 1) := by decide +kernel
theorem d_Tr_openedCount_30 : dec m_Tr_openedCount 30 = .ok (.ireturn, 1) := by decide +kernel
theorem d_Tr_greatestDepth_0 : dec m_Tr_greatestDepth 0 = .ok (.iconst 0, 1) := by decide +kernel
theorem d_Tr_greatestDepth_1 : dec m_Tr_greatestDepth 1 = .ok (.istore_n 1, 1) := by decide +kernel
theorem d_Tr_greatestDepth_2 : dec m_Tr_greatestDepth 2 = .ok (.iconst 0, 1) := by decide +kernel
theorem d_Tr_greatestDepth_3 : dec m_Tr_greatestDepth 3 = .ok (.istore_n 2, 1) := by decide +kernel
theorem d_Tr_greatestDepth_4 : dec m_Tr_greatestDepth 4 = .ok (.iload_n 2, 1) := by decide +kernel
theorem d_Tr_greatestDepth_5 : dec m_Tr_greatestDepth 5 = .ok (.aload_n 0, 1) := by decide +kernel
theorem d_Tr_greatestDepth_6 : dec m_Tr_greatestDepth 6 = .ok (.getfield 49, 3) := by decide +kernel
theorem d_Tr_greatestDepth_9 : dec m_Tr_greatestDepth 9 = .ok (.if_icmp .ge 22, 3) := by decide +kernel
theorem d_Tr_greatestDepth_12 : dec m_Tr_greatestDepth 12 = .ok (.iload_n 1, 1) := by decide +kernel
theorem d_Tr_greatestDepth_13 : dec m_Tr_greatestDepth 13 = .ok (.aload_n 0, 1) := by decide +kernel
theorem d_Tr_greatestDepth_14 : dec m_Tr_greatestDepth 14 = .ok (.getfield 23, 3) := by decide +kernel
theorem d_Tr_greatestDepth_17 : dec m_Tr_greatestDepth 17 = .ok (.iload_n 2, 1) := by decide +kernel
theorem d_Tr_greatestDepth_18 : dec m_Tr_greatestDepth 18 = .ok (.invokevirtual 53, 3) := by decide +kernel
theorem d_Tr_greatestDepth_21 : dec m_Tr_greatestDepth 21 = .ok (.invokestatic 147, 3) := by decide +kernel
theorem d_Tr_greatestDepth_24 : dec m_Tr_greatestDepth 24 = .ok (.istore_n 1, 1) := by decide +kernel
theorem d_Tr_greatestDepth_25 : dec m_Tr_greatestDepth 25 = .ok (.iinc 2 1, 3) := by decide +kernel
theorem d_Tr_greatestDepth_28 : dec m_Tr_greatestDepth 28 = .ok (.goto (-24), 3) := by decide +kernel
theorem d_Tr_greatestDepth_31 : dec m_Tr_greatestDepth 31 = .ok (.iload_n 1, 1) := by decide +kernel
theorem d_Tr_greatestDepth_32 : dec m_Tr_greatestDepth 32 = .ok (.ireturn, 1) := by decide +kernel
theorem d_Cp_init_0 : dec m_Cp_init 0 = .ok (.aload_n 0, 1) := by decide +kernel
theorem d_Cp_init_1 : dec m_Cp_init 1 = .ok (.invokespecial 1, 3) := by decide +kernel
theorem d_Cp_init_4 : dec m_Cp_init 4 = .ok (.aload_n 0, 1) := by decide +kernel
theorem d_Cp_init_5 : dec m_Cp_init 5 = .ok (.new 7, 3) := by decide +kernel
theorem d_Cp_init_8 : dec m_Cp_init 8 = .ok (.dup, 1) := by decide +kernel
theorem d_Cp_init_9 : dec m_Cp_init 9 = .ok (.invokespecial 9, 3) := by decide +kernel
theorem d_Cp_init_12 : dec m_Cp_init 12 = .ok (.putfield 10, 3) := by decide +kernel
theorem d_Cp_init_15 : dec m_Cp_init 15 = .ok (.aload_n 0, 1) := by decide +kernel
theorem d_Cp_init_16 : dec m_Cp_init 16 = .ok (.new 7, 3) := by decide +kernel
theorem d_Cp_init_19 : dec m_Cp_init 19 = .ok (.dup, 1) := by decide +kernel
theorem d_Cp_init_20 : dec m_Cp_init 20 = .ok (.invokespecial 9, 3) := by decide +kernel
theorem d_Cp_init_23 : dec m_Cp_init 23 = .ok (.putfield 16, 3) := by decide +kernel
theorem d_Cp_init_26 : dec m_Cp_init 26 = .ok (.aload_n 0, 1) := by decide +kernel
theorem d_Cp_init_27 : dec m_Cp_init 27 = .ok (.iconst 0, 1) := by decide +kernel
theorem d_Cp_init_28 : dec m_Cp_init 28 = .ok (.putfield 19, 3) := by decide +kernel
theorem d_Cp_init_31 : dec m_Cp_init 31 = .ok (.aload_n 0, 1) := by decide +kernel
theorem d_Cp_init_32 : dec m_Cp_init 32 = .ok (.new 23, 3) := by decide +kernel
theorem d_Cp_init_35 : dec m_Cp_init 35 = .ok (.dup, 1) := by decide +kernel
theorem d_Cp_init_36 : dec m_Cp_init 36 = .ok (.invokespecial 25, 3) := by decide +kernel
theorem d_Cp_init_39 : dec m_Cp_init 39 = .ok (.putfield 26, 3) := by decide +kernel
theorem d_Cp_init_42 : dec m_Cp_init 42 = .ok (.aload_n 0, 1) := by decide +kernel
theorem d_Cp_init_43 : dec m_Cp_init 43 = .ok (.new 30, 3) := by decide +kernel
theorem d_Cp_init_46 : dec m_Cp_init 46 = .ok (.dup, 1) := by decide +kernel
theorem d_Cp_init_47 : dec m_Cp_init 47 = .ok (.invokespecial 32, 3) := by decide +kernel
theorem d_Cp_init_50 : dec m_Cp_init 50 = .ok (.putfield 33, 3) := by decide +kernel
theorem d_Cp_init_53 : dec m_Cp_init 53 = .ok (.aload_n 0, 1) := by decide +kernel
theorem d_Cp_init_54 : dec m_Cp_init 54 = .ok (.new 37, 3) := by decide +kernel
theorem d_Cp_init_57 : dec m_Cp_init 57 = .ok (.dup, 1) := by decide +kernel
theorem d_Cp_init_58 : dec m_Cp_init 58 = .ok (.aload_n 0, 1) := by decide +kernel
theorem d_Cp_init_59 : dec m_Cp_init 59 = .ok (.getfield 33, 3) := by decide +kernel
theorem d_Cp_init_62 : dec m_Cp_init 62 = .ok (.invokespecial 39, 3) := by decide +kernel
theorem d_Cp_init_65 : dec m_Cp_init 65 = .ok (.putfield 42, 3) := by decide +kernel
theorem d_Cp_init_68 : dec m_Cp_init 68 = .ok (.aload_n 0, 1) := by decide +kernel
theorem d_Cp_init_69 : dec m_Cp_init 69 = .ok (.new 46, 3) := by decide +kernel
theorem d_Cp_init_72 : dec m_Cp_init 72 = .ok (.dup, 1) := by decide +kernel
theorem d_Cp_init_73 : dec m_Cp_init 73 = .ok (.invokespecial 48, 3) := by decide +kernel
theorem d_Cp_init_76 : dec m_Cp_init 76 = .ok (.putfield 49, 3) := by decide +kernel
theorem d_Cp_init_79 : dec m_Cp_init 79 = .ok (.aload_n 0, 1) := by decide +kernel
theorem d_Cp_init_80 : dec m_Cp_init 80 = .ok (.new 53, 3) := by decide +kernel
theorem d_Cp_init_83 : dec m_Cp_init 83 = .ok (.dup, 1) := by decide +kernel
theorem d_Cp_init_84 : dec m_Cp_init 84 = .ok (.invokespecial 55, 3) := by decide +kernel
theorem d_Cp_init_87 : dec m_Cp_init 87 = .ok (.putfield 56, 3) := by decide +kernel
theorem d_Cp_init_90 : dec m_Cp_init 90 = .ok (.return_, 1) := by decide +kernel
theorem d_Cp_setPosition_0 : dec m_Cp_setPosition 0 = .ok (.iload_n 1, 1) := by decide +kernel
theorem d_Cp_setPosition_1 : dec m_Cp_setPosition 1 = .ok (.invokestatic 60, 3) := by decide +kernel
theorem d_Cp_setPosition_4 : dec m_Cp_setPosition 4 = .ok (.ifCond .ne 5, 3) := by decide +kernel
theorem d_Cp_setPosition_7 : dec m_Cp_setPosition 7 = .ok (.iconst (-1), 1) := by decide +kernel
theorem d_Cp_setPosition_8 : dec m_Cp_setPosition 8 = .ok (.ireturn, 1) := by decide +kernel
theorem d_Cp_setPosition_9 : dec m_Cp_setPosition 9 = .ok (.iload_n 2, 1) := by decide +kernel
theorem d_Cp_setPosition_10 : dec m_Cp_setPosition 10 = .ok (.ifCond .lt 17, 3) := by decide +kernel
theorem d_Cp_setPosition_13 : dec m_Cp_setPosition 13 = .ok (.iload_n 2, 1) := by decide +kernel
theorem d_Cp_setPosition_14 : dec m_Cp_setPosition 14 = .ok (.iconst 1, 1) := by decide +kernel
theorem d_Cp_setPosition_15 : dec m_Cp_setPosition 15 = .ok (.if_icmp .gt 12, 3) := by decide +kernel
theorem d_Cp_setPosition_18 : dec m_Cp_setPosition 18 = .ok (.iload_n 3, 1) := by decide +kernel
theorem d_Cp_setPosition_19 : dec m_Cp_setPosition 19 = .ok (.ifCond .lt 8, 3) := by decide +kernel
theorem d_Cp_setPosition_22 : dec m_Cp_setPosition 22 = .ok (.iload_n 3, 1) := by decide +kernel
theorem d_Cp_setPosition_23 : dec m_Cp_setPosition 23 = .ok (.iconst 2, 1) := by decide +kernel
theorem d_Cp_setPosition_24 : dec m_Cp_setPosition 24 = .ok (.if_icmp .le 6, 3) := by decide +kernel
theorem d_Cp_setPosition_27 : dec m_Cp_setPosition 27 = .ok (.bipush (-2), 2) := by decide +kernel
theorem d_Cp_setPosition_29 : dec m_Cp_setPosition 29 = .ok (.ireturn, 1) := by decide +kernel
theorem d_Cp_setPosition_30 : dec m_Cp_setPosition 30 = .ok (.aload_n 0, 1) := by decide +kernel
theorem d_Cp_setPosition_31 : dec m_Cp_setPosition 31 = .ok (.getfield 10, 3) := by decide +kernel
theorem d_Cp_setPosition_34 : dec m_Cp_setPosition 34 = .ok (.getfield 64, 3) := by decide +kernel
theorem d_Cp_setPosition_37 : dec m_Cp_setPosition 37 = .ok (.astore 4, 2) := by decide +kernel
theorem d_Cp_setPosition_39 : dec m_Cp_setPosition 39 = .ok (.aload 4, 2) := by decide +kernel
theorem d_Cp_setPosition_41 : dec m_Cp_setPosition 41 = .ok (.getfield 68, 3) := by decide +kernel
theorem d_Cp_setPosition_44 : dec m_Cp_setPosition 44 = .ok (.iload_n 1, 1) := by decide +kernel
theorem d_Cp_setPosition_45 : dec m_Cp_setPosition 45 = .ok (.invokevirtual 74, 3) := by decide +kernel
theorem d_Cp_setPosition_48 : dec m_Cp_setPosition 48 = .ok (.istore 5, 2) := by decide +kernel
theorem d_Cp_setPosition_50 : dec m_Cp_setPosition 50 = .ok (.iload 5, 2) := by decide +kernel
theorem d_Cp_setPosition_52 : dec m_Cp_setPosition 52 = .ok (.iload_n 3, 1) := by decide +kernel
theorem d_Cp_setPosition_53 : dec m_Cp_setPosition 53 = .ok (.if_icmp .ne 19, 3) := by decide +kernel
theorem d_Cp_setPosition_56 : dec m_Cp_setPosition 56 = .ok (.aload 4, 2) := by decide +kernel
theorem d_Cp_setPosition_58 : dec m_Cp_setPosition 58 = .ok (.getfield 80, 3) := by decide +kernel
theorem d_Cp_setPosition_61 : dec m_Cp_setPosition 61 = .ok (.iload_n 1, 1) := by decide +kernel
theorem d_Cp_setPosition_62 : dec m_Cp_setPosition 62 = .ok (.invokevirtual 74, 3) := by decide +kernel
theorem d_Cp_setPosition_65 : dec m_Cp_setPosition 65 = .ok (.iload_n 2, 1) := by decide +kernel
theorem d_Cp_setPosition_66 : dec m_Cp_setPosition 66 = .ok (.if_icmp .ne 6, 3) := by decide +kernel
theorem d_Cp_setPosition_69 : dec m_Cp_setPosition 69 = .ok (.bipush (-5), 2) := by decide +kernel
theorem d_Cp_setPosition_71 : dec m_Cp_setPosition 71 = .ok (.ireturn, 1) := by decide +kernel
theorem d_Cp_setPosition_72 : dec m_Cp_setPosition 72 = .ok (.aload_n 0, 1) := by decide +kernel
theorem d_Cp_setPosition_73 : dec m_Cp_setPosition 73 = .ok (.getfield 26, 3) := by decide +kernel
theorem d_Cp_setPosition_76 : dec m_Cp_setPosition 76 = .ok (.aload_n 0, 1) := by decide +kernel
theorem d_Cp_setPosition_77 : dec m_Cp_setPosition 77 = .ok (.getfield 10, 3) := by decide +kernel
theorem d_Cp_setPosition_80 : dec m_Cp_setPosition 80 = .ok (.invokevirtual 83, 3) := by decide +kernel
theorem d_Cp_setPosition_83 : dec m_Cp_setPosition 83 = .ok (.aload 4, 2) := by decide +kernel
theorem d_Cp_setPosition_85 : dec m_Cp_setPosition 85 = .ok (.getfield 80, 3) := by decide +kernel
theorem d_Cp_setPosition_88 : dec m_Cp_setPosition 88 = .ok (.iload_n 1, 1) := by decide +kernel
theorem d_Cp_setPosition_89 : dec m_Cp_setPosition 89 = .ok (.iload_n 2, 1) := by decide +kernel
theorem d_Cp_setPosition_90 : dec m_Cp_setPosition 90 = .ok (.invokevirtual 87, 3) := by decide +kernel
theorem d_Cp_setPosition_93 : dec m_Cp_setPosition 93 = .ok (.aload 4, 2) := by decide +kernel
theorem d_Cp_setPosition_95 : dec m_Cp_setPosition 95 = .ok (.getfield 68, 3) := by decide +kernel
theorem d_Cp_setPosition_98 : dec m_Cp_setPosition 98 = .ok (.iload_n 1, 1) := by decide +kernel
theorem d_Cp_setPosition_99 : dec m_Cp_setPosition 99 = .ok (.iload_n 3, 1) := by decide +kernel
theorem d_Cp_setPosition_100 : dec m_Cp_setPosition 100 = .ok (.invokevirtual 87, 3) := by decide +kernel
theorem d_Cp_setPosition_103 : dec m_Cp_setPosition 103 = .ok (.aload_n 0, 1) := by decide +kernel
theorem d_Cp_setPosition_104 : dec m_Cp_setPosition 104 = .ok (.getfield 10, 3) := by decide +kernel
theorem d_Cp_setPosition_107 : dec m_Cp_setPosition 107 = .ok (.getfield 91, 3) := by decide +kernel
theorem d_Cp_setPosition_110 : dec m_Cp_setPosition 110 = .ok (.invokevirtual 95, 3) := by decide +kernel
theorem d_Cp_setPosition_113 : dec m_Cp_setPosition 113 = .ok (.iload 5, 2) := by decide +kernel
theorem d_Cp_setPosition_115 : dec m_Cp_setPosition 115 = .ok (.ireturn, 1) := by decide +kernel
theorem d_Cp_guess_0 : dec m_Cp_guess 0 = .ok (.iload_n 1, 1) := by decide +kernel
theorem d_Cp_guess_1 : dec m_Cp_guess 1 = .ok (.invokestatic 60, 3) := by decide +kernel
theorem d_Cp_guess_4 : dec m_Cp_guess 4 = .ok (.ifCond .ne 5, 3) := by decide +kernel
theorem d_Cp_guess_7 : dec m_Cp_guess 7 = .ok (.iconst (-1), 1) := by decide +kernel
theorem d_Cp_guess_8 : dec m_Cp_guess 8 = .ok (.ireturn, 1) := by decide +kernel
theorem d_Cp_guess_9 : dec m_Cp_guess 9 = .ok (.iload_n 2, 1) := by decide +kernel
theorem d_Cp_guess_10 : dec m_Cp_guess 10 = .ok (.invokestatic 100, 3) := by decide +kernel
theorem d_Cp_guess_13 : dec m_Cp_guess 13 = .ok (.ifCond .eq 10, 3) := by decide +kernel
theorem d_Cp_guess_16 : dec m_Cp_guess 16 = .ok (.iload_n 3, 1) := by decide +kernel
theorem d_Cp_guess_17 : dec m_Cp_guess 17 = .ok (.invokestatic 100, 3) := by decide +kernel
theorem d_Cp_guess_20 : dec m_Cp_guess 20 = .ok (.ifCond .ne 6, 3) := by decide +kernel
theorem d_Cp_guess_23 : dec m_Cp_guess 23 = .ok (.bipush (-2), 2) := by decide +kernel
theorem d_Cp_guess_25 : dec m_Cp_guess 25 = .ok (.ireturn, 1) := by decide +kernel
theorem d_Cp_guess_26 : dec m_Cp_guess 26 = .ok (.aload_n 0, 1) := by decide +kernel
theorem d_Cp_guess_27 : dec m_Cp_guess 27 = .ok (.getfield 10, 3) := by decide +kernel
theorem d_Cp_guess_30 : dec m_Cp_guess 30 = .ok (.getfield 64, 3) := by decide +kernel
theorem d_Cp_guess_33 : dec m_Cp_guess 33 = .ok (.astore 4, 2) := by decide +kernel
theorem d_Cp_guess_35 : dec m_Cp_guess 35 = .ok (.aload 4, 2) := by decide +kernel
theorem d_Cp_guess_37 : dec m_Cp_guess 37 = .ok (.getfield 103, 3) := by decide +kernel
theorem d_Cp_guess_40 : dec m_Cp_guess 40 = .ok (.iload_n 1, 1) := by decide +kernel
theorem d_Cp_guess_41 : dec m_Cp_guess 41 = .ok (.invokevirtual 74, 3) := by decide +kernel
theorem d_Cp_guess_44 : dec m_Cp_guess 44 = .ok (.istore 5, 2) := by decide +kernel
theorem d_Cp_guess_46 : dec m_Cp_guess 46 = .ok (.iload 5, 2) := by decide +kernel
theorem d_Cp_guess_48 : dec m_Cp_guess 48 = .ok (.iload_n 2, 1) := by decide +kernel
theorem d_Cp_guess_49 : dec m_Cp_guess 49 = .ok (.if_icmp .ne 19, 3) := by decide +kernel
theorem d_Cp_guess_52 : dec m_Cp_guess 52 = .ok (.aload 4, 2) := by decide +kernel
theorem d_Cp_guess_54 : dec m_Cp_guess 54 = .ok (.getfield 106, 3) := by decide +kernel
theorem d_Cp_guess_57 : dec m_Cp_guess 57 = .ok (.iload_n 1, 1) := by decide +kernel
theorem d_Cp_guess_58 : dec m_Cp_guess 58 = .ok (.invokevirtual 74, 3) := by decide +kernel
theorem d_Cp_guess_61 : dec m_Cp_guess 61 = .ok (.iload_n 3, 1) := by decide +kernel
theorem d_Cp_guess_62 : dec m_Cp_guess 62 = .ok (.if_icmp .ne 6, 3) := by decide +kernel
theorem d_Cp_guess_65 : dec m_Cp_guess 65 = .ok (.bipush (-5), 2) := by decide +kernel
theorem d_Cp_guess_67 : dec m_Cp_guess 67 = .ok (.ireturn, 1) := by decide +kernel
theorem d_Cp_guess_68 : dec m_Cp_guess 68 = .ok (.aload_n 0, 1) := by decide +kernel
theorem d_Cp_guess_69 : dec m_Cp_guess 69 = .ok (.getfield 26, 3) := by decide +kernel
theorem d_Cp_guess_72 : dec m_Cp_guess 72 = .ok (.aload_n 0, 1) := by decide +kernel
theorem d_Cp_guess_73 : dec m_Cp_guess 73 = .ok (.getfield 10, 3) := by decide +kernel
theorem d_Cp_guess_76 : dec m_Cp_guess 76 = .ok (.invokevirtual 83, 3) := by decide +kernel
theorem d_Cp_guess_79 : dec m_Cp_guess 79 = .ok (.aload 4, 2) := by decide +kernel
theorem d_Cp_guess_81 : dec m_Cp_guess 81 = .ok (.getfield 103, 3) := by decide +kernel
theorem d_Cp_guess_84 : dec m_Cp_guess 84 = .ok (.iload_n 1, 1) := by decide +kernel
theorem d_Cp_guess_85 : dec m_Cp_guess 85 = .ok (.iload_n 2, 1) := by decide +kernel
theorem d_Cp_guess_86 : dec m_Cp_guess 86 = .ok (.invokevirtual 87, 3) := by decide +kernel
theorem d_Cp_guess_89 : dec m_Cp_guess 89 = .ok (.aload 4, 2) := by decide +kernel
theorem d_Cp_guess_91 : dec m_Cp_guess 91 = .ok (.getfield 106, 3) := by decide +kernel
theorem d_Cp_guess_94 : dec m_Cp_guess 94 = .ok (.iload_n 1, 1) := by decide +kernel
theorem d_Cp_guess_95 : dec m_Cp_guess 95 = .ok (.iload_n 3, 1) := by decide +kernel
theorem d_Cp_guess_96 : dec m_Cp_guess 96 = .ok (.invokevirtual 87, 3) := by decide +kernel
theorem d_Cp_guess_99 : dec m_Cp_guess 99 = .ok (.aload_n 0, 1) := by decide +kernel
theorem d_Cp_guess_100 : dec m_Cp_guess 100 = .ok (.getfield 10, 3) := by decide +kernel
theorem d_Cp_guess_103 : dec m_Cp_guess 103 = .ok (.getfield 91, 3) := by decide +kernel
theorem d_Cp_guess_106 : dec m_Cp_guess 106 = .ok (.invokevirtual 95, 3) := by decide +kernel
theorem d_Cp_guess_109 : dec m_Cp_guess 109 = .ok (.iload 5, 2) := by decide +kernel
theorem d_Cp_guess_111 : dec m_Cp_guess 111 = .ok (.ireturn, 1) := by decide +kernel
theorem d_Cp_addMove_0 : dec m_Cp_addMove 0 = .ok (.iload_n 1, 1) := by decide +kernel
theorem d_Cp_addMove_1 : dec m_Cp_addMove 1 = .ok (.invokestatic 60, 3) := by decide +kernel
theorem d_Cp_addMove_4 : dec m_Cp_addMove 4 = .ok (.ifCond .eq 10, 3) := by decide +kernel
theorem d_Cp_addMove_7 : dec m_Cp_addMove 7 = .ok (.iload_n 2, 1) := by decide +kernel
theorem d_Cp_addMove_8 : dec m_Cp_addMove 8 = .ok (.invokestatic 60, 3) := by decide +kernel
theorem d_Cp_addMove_11 : dec m_Cp_addMove 11 = .ok (.ifCond .ne 5, 3) := by decide +kernel
theorem d_Cp_addMove_14 : dec m_Cp_addMove 14 = .ok (.iconst (-1), 1) := by decide +kernel
theorem d_Cp_addMove_15 : dec m_Cp_addMove 15 = .ok (.ireturn, 1) := by decide +kernel
theorem d_Cp_addMove_16 : dec m_Cp_addMove 16 = .ok (.aload_n 0, 1) := by decide +kernel
theorem d_Cp_addMove_17 : dec m_Cp_addMove 17 = .ok (.getfield 10, 3) := by decide +kernel
theorem d_Cp_addMove_20 : dec m_Cp_addMove 20 = .ok (.getfield 64, 3) := by decide +kernel
theorem d_Cp_addMove_23 : dec m_Cp_addMove 23 = .ok (.astore_n 3, 1) := by decide +kernel
theorem d_Cp_addMove_24 : dec m_Cp_addMove 24 = .ok (.aload_n 3, 1) := by decide +kernel
theorem d_Cp_addMove_25 : dec m_Cp_addMove 25 = .ok (.iload_n 1, 1) := by decide +kernel
theorem d_Cp_addMove_26 : dec m_Cp_addMove 26 = .ok (.iload_n 2, 1) := by decide +kernel
theorem d_Cp_addMove_27 : dec m_Cp_addMove 27 = .ok (.invokevirtual 109, 3) := by decide +kernel
theorem d_Cp_addMove_30 : dec m_Cp_addMove 30 = .ok (.bipush (-5), 2) := by decide +kernel
theorem d_Cp_addMove_32 : dec m_Cp_addMove 32 = .ok (.if_icmp .eq 6, 3) := by decide +kernel
theorem d_Cp_addMove_35 : dec m_Cp_addMove 35 = .ok (.bipush (-5), 2) := by decide +kernel
theorem d_Cp_addMove_37 : dec m_Cp_addMove 37 = .ok (.ireturn, 1) := by decide +kernel
theorem d_Cp_addMove_38 : dec m_Cp_addMove 38 = .ok (.aload_n 3, 1) := by decide +kernel
theorem d_Cp_addMove_39 : dec m_Cp_addMove 39 = .ok (.getfield 113, 3) := by decide +kernel
theorem d_Cp_addMove_42 : dec m_Cp_addMove 42 = .ok (.bipush 60, 2) := by decide +kernel
theorem d_Cp_addMove_44 : dec m_Cp_addMove 44 = .ok (.if_icmp .lt 6, 3) := by decide +kernel
theorem d_Cp_addMove_47 : dec m_Cp_addMove 47 = .ok (.bipush (-3), 2) := by decide +kernel
theorem d_Cp_addMove_49 : dec m_Cp_addMove 49 = .ok (.ireturn, 1) := by decide +kernel
theorem d_Cp_addMove_50 : dec m_Cp_addMove 50 = .ok (.aload_n 0, 1) := by decide +kernel
theorem d_Cp_addMove_51 : dec m_Cp_addMove 51 = .ok (.getfield 26, 3) := by decide +kernel
theorem d_Cp_addMove_54 : dec m_Cp_addMove 54 = .ok (.aload_n 0, 1) := by decide +kernel
theorem d_Cp_addMove_55 : dec m_Cp_addMove 55 = .ok (.getfield 10, 3) := by decide +kernel
theorem d_Cp_addMove_58 : dec m_Cp_addMove 58 = .ok (.invokevirtual 83, 3) := by decide +kernel
theorem d_Cp_addMove_61 : dec m_Cp_addMove 61 = .ok (.aload_n 3, 1) := by decide +kernel
theorem d_Cp_addMove_62 : dec m_Cp_addMove 62 = .ok (.iload_n 1, 1) := by decide +kernel
theorem d_Cp_addMove_63 : dec m_Cp_addMove 63 = .ok (.iload_n 2, 1) := by decide +kernel
theorem d_Cp_addMove_64 : dec m_Cp_addMove 64 = .ok (.invokevirtual 117, 3) := by decide +kernel
theorem d_Cp_addMove_67 : dec m_Cp_addMove 67 = .ok (.aload_n 0, 1) := by decide +kernel
theorem d_Cp_addMove_68 : dec m_Cp_addMove 68 = .ok (.getfield 10, 3) := by decide +kernel
theorem d_Cp_addMove_71 : dec m_Cp_addMove 71 = .ok (.getfield 91, 3) := by decide +kernel
theorem d_Cp_addMove_74 : dec m_Cp_addMove 74 = .ok (.invokevirtual 95, 3) := by decide +kernel
theorem d_Cp_addMove_77 : dec m_Cp_addMove 77 = .ok (.aload_n 3, 1) := by decide +kernel
theorem d_Cp_addMove_78 : dec m_Cp_addMove 78 = .ok (.getfield 120, 3) := by decide +kernel
theorem d_Cp_addMove_81 : dec m_Cp_addMove 81 = .ok (.iload_n 1, 1) := by decide +kernel
theorem d_Cp_addMove_82 : dec m_Cp_addMove 82 = .ok (.invokevirtual 74, 3) := by decide +kernel
theorem d_Cp_addMove_85 : dec m_Cp_addMove 85 = .ok (.ireturn, 1) := by decide +kernel
theorem d_Cp_removeMove_0 : dec m_Cp_removeMove 0 = .ok (.iload_n 1, 1) := by decide +kernel
theorem d_Cp_removeMove_1 : dec m_Cp_removeMove 1 = .ok (.invokestatic 60, 3) := by decide +kernel
theorem d_Cp_removeMove_4 : dec m_Cp_removeMove 4 = .ok (.ifCond .eq 10, 3) := by decide +kernel
theorem d_Cp_removeMove_7 : dec m_Cp_removeMove 7 = .ok (.iload_n 2, 1) := by decide +kernel
theorem d_Cp_removeMove_8 : dec m_Cp_removeMove 8 = .ok (.invokestatic 60, 3) := by decide +kernel
theorem d_Cp_removeMove_11 : dec m_Cp_removeMove 11 = .ok (.ifCond .ne 5, 3) := by decide +kernel
theorem d_Cp_removeMove_14 : dec m_Cp_removeMove 14 = .ok (.iconst (-1), 1) := by decide +kernel
theorem d_Cp_removeMove_15 : dec m_Cp_removeMove 15 = .ok (.ireturn, 1) := by decide +kernel
theorem d_Cp_removeMove_16 : dec m_Cp_removeMove 16 = .ok (.aload_n 0, 1) := by decide +kernel
theorem d_Cp_removeMove_17 : dec m_Cp_removeMove 17 = .ok (.getfield 10, 3) := by decide +kernel
theorem d_Cp_removeMove_20 : dec m_Cp_removeMove 20 = .ok (.getfield 64, 3) := by decide +kernel
theorem d_Cp_removeMove_23 : dec m_Cp_removeMove 23 = .ok (.astore_n 3, 1) := by decide +kernel
theorem d_Cp_removeMove_24 : dec m_Cp_removeMove 24 = .ok (.aload_n 3, 1) := by decide +kernel
theorem d_Cp_removeMove_25 : dec m_Cp_removeMove 25 = .ok (.iload_n 1, 1) := by decide +kernel
theorem d_Cp_removeMove_26 : dec m_Cp_removeMove 26 = .ok (.iload_n 2, 1) := by decide +kernel
theorem d_Cp_removeMove_27 : dec m_Cp_removeMove 27 = .ok (.invokevirtual 109, 3) := by decide +kernel
theorem d_Cp_removeMove_30 : dec m_Cp_removeMove 30 = .ok (.istore 4, 2) := by decide +kernel
theorem d_Cp_removeMove_32 : dec m_Cp_removeMove 32 = .ok (.iload 4, 2) := by decide +kernel
theorem d_Cp_removeMove_34 : dec m_Cp_removeMove 34 = .ok (.bipush (-5), 2) := by decide +kernel
theorem d_Cp_removeMove_36 : dec m_Cp_removeMove 36 = .ok (.if_icmp .ne 5, 3) := by decide +kernel
theorem d_Cp_removeMove_39 : dec m_Cp_removeMove 39 = .ok (.iconst (-1), 1) := by decide +kernel
theorem d_Cp_removeMove_40 : dec m_Cp_removeMove 40 = .ok (.ireturn, 1) := by decide +kernel
theorem d_Cp_removeMove_41 : dec m_Cp_removeMove 41 = .ok (.aload_n 0, 1) := by decide +kernel
theorem d_Cp_removeMove_42 : dec m_Cp_removeMove 42 = .ok (.getfield 26, 3) := by decide +kernel
theorem d_Cp_removeMove_45 : dec m_Cp_removeMove 45 = .ok (.aload_n 0, 1) := by decide +kernel
theorem d_Cp_removeMove_46 : dec m_Cp_removeMove 46 = .ok (.getfield 10, 3) := by decide +kernel
theorem d_Cp_removeMove_49 : dec m_Cp_removeMove 49 = .ok (.invokevirtual 83, 3) := by decide +kernel
theorem d_Cp_removeMove_52 : dec m_Cp_removeMove 52 = .ok (.aload_n 3, 1) := by decide +kernel
theorem d_Cp_removeMove_53 : dec m_Cp_removeMove 53 = .ok (.iload_n 1, 1) := by decide +kernel
theorem d_Cp_removeMove_54 : dec m_Cp_removeMove 54 = .ok (.iload 4, 2) := by decide +kernel
theorem d_Cp_removeMove_56 : dec m_Cp_removeMove 56 = .ok (.invokevirtual 123, 3) := by decide +kernel
theorem d_Cp_removeMove_59 : dec m_Cp_removeMove 59 = .ok (.aload_n 0, 1) := by decide +kernel
theorem d_Cp_removeMove_60 : dec m_Cp_removeMove 60 = .ok (.getfield 10, 3) := by decide +kernel
theorem d_Cp_removeMove_63 : dec m_Cp_removeMove 63 = .ok (.getfield 91, 3) := by decide +kernel
theorem d_Cp_removeMove_66 : dec m_Cp_removeMove 66 = .ok (.invokevirtual 95, 3) := by decide +kernel
theorem d_Cp_removeMove_69 : dec m_Cp_removeMove 69 = .ok (.aload_n 3, 1) := by decide +kernel
theorem d_Cp_removeMove_70 : dec m_Cp_removeMove 70 = .ok (.getfield 120, 3) := by decide +kernel
theorem d_Cp_removeMove_73 : dec m_Cp_removeMove 73 = .ok (.iload_n 1, 1) := by decide +kernel
theorem d_Cp_removeMove_74 : dec m_Cp_removeMove 74 = .ok (.invokevirtual 74, 3) := by decide +kernel
theorem d_Cp_removeMove_77 : dec m_Cp_removeMove 77 = .ok (.ireturn, 1) := by decide +kernel
theorem d_Cp_readGame_0 : dec m_Cp_readGame 0 = .ok (.aload_n 0, 1) := by decide +kernel
theorem d_Cp_readGame_1 : dec m_Cp_readGame 1 = .ok (.getfield 42, 3) := by decide +kernel
theorem d_Cp_readGame_4 : dec m_Cp_readGame 4 = .ok (.invokevirtual 126, 3) := by decide +kernel
theorem d_Cp_readGame_7 : dec m_Cp_readGame 7 = .ok (.istore_n 1, 1) := by decide +kernel
theorem d_Cp_readGame_8 : dec m_Cp_readGame 8 = .ok (.iload_n 1, 1) := by decide +kernel
theorem d_Cp_readGame_9 : dec m_Cp_readGame 9 = .ok (.iconst (-1), 1) := by decide +kernel
theorem d_Cp_readGame_10 : dec m_Cp_readGame 10 = .ok (.if_icmp .eq 8, 3) := by decide +kernel
theorem d_Cp_readGame_13 : dec m_Cp_readGame 13 = .ok (.bipush (-100), 2) := by decide +kernel
theorem d_Cp_readGame_15 : dec m_Cp_readGame 15 = .ok (.iload_n 1, 1) := by decide +kernel
theorem d_Cp_readGame_16 : dec m_Cp_readGame 16 = .ok (.isub, 1) := by decide +kernel
theorem d_Cp_readGame_17 : dec m_Cp_readGame 17 = .ok (.ireturn, 1) := by decide +kernel
theorem d_Cp_readGame_18 : dec m_Cp_readGame 18 = .ok (.aload_n 0, 1) := by decide +kernel
theorem d_Cp_readGame_19 : dec m_Cp_readGame 19 = .ok (.getfield 42, 3) := by decide +kernel
theorem d_Cp_readGame_22 : dec m_Cp_readGame 22 = .ok (.getfield 130, 3) := by decide +kernel
theorem d_Cp_readGame_25 : dec m_Cp_readGame 25 = .ok (.getfield 113, 3) := by decide +kernel
theorem d_Cp_readGame_28 : dec m_Cp_readGame 28 = .ok (.bipush 60, 2) := by decide +kernel
theorem d_Cp_readGame_30 : dec m_Cp_readGame 30 = .ok (.if_icmp .le 6, 3) := by decide +kernel
theorem d_Cp_readGame_33 : dec m_Cp_readGame 33 = .ok (.bipush (-3), 2) := by decide +kernel
theorem d_Cp_readGame_35 : dec m_Cp_readGame 35 = .ok (.ireturn, 1) := by decide +kernel
theorem d_Cp_readGame_36 : dec m_Cp_readGame 36 = .ok (.aload_n 0, 1) := by decide +kernel
theorem d_Cp_readGame_37 : dec m_Cp_readGame 37 = .ok (.getfield 26, 3) := by decide +kernel
theorem d_Cp_readGame_40 : dec m_Cp_readGame 40 = .ok (.aload_n 0, 1) := by decide +kernel
theorem d_Cp_readGame_41 : dec m_Cp_readGame 41 = .ok (.getfield 10, 3) := by decide +kernel
theorem d_Cp_readGame_44 : dec m_Cp_readGame 44 = .ok (.invokevirtual 83, 3) := by decide +kernel
theorem d_Cp_readGame_47 : dec m_Cp_readGame 47 = .ok (.aload_n 0, 1) := by decide +kernel
theorem d_Cp_readGame_48 : dec m_Cp_readGame 48 = .ok (.getfield 10, 3) := by decide +kernel
theorem d_Cp_readGame_51 : dec m_Cp_readGame 51 = .ok (.getfield 64, 3) := by decide +kernel
theorem d_Cp_readGame_54 : dec m_Cp_readGame 54 = .ok (.aload_n 0, 1) := by decide +kernel
theorem d_Cp_readGame_55 : dec m_Cp_readGame 55 = .ok (.getfield 42, 3) := by decide +kernel
theorem d_Cp_readGame_58 : dec m_Cp_readGame 58 = .ok (.getfield 130, 3) := by decide +kernel
theorem d_Cp_readGame_61 : dec m_Cp_readGame 61 = .ok (.invokevirtual 133, 3) := by decide +kernel
theorem d_Cp_readGame_64 : dec m_Cp_readGame 64 = .ok (.aload_n 0, 1) := by decide +kernel
theorem d_Cp_readGame_65 : dec m_Cp_readGame 65 = .ok (.getfield 10, 3) := by decide +kernel
theorem d_Cp_readGame_68 : dec m_Cp_readGame 68 = .ok (.getfield 91, 3) := by decide +kernel
theorem d_Cp_readGame_71 : dec m_Cp_readGame 71 = .ok (.invokevirtual 95, 3) := by decide +kernel
theorem d_Cp_readGame_74 : dec m_Cp_readGame 74 = .ok (.aload_n 0, 1) := by decide +kernel
theorem d_Cp_readGame_75 : dec m_Cp_readGame 75 = .ok (.getfield 10, 3) := by decide +kernel
theorem d_Cp_readGame_78 : dec m_Cp_readGame 78 = .ok (.getfield 64, 3) := by decide +kernel
theorem d_Cp_readGame_81 : dec m_Cp_readGame 81 = .ok (.getfield 113, 3) := by decide +kernel
theorem d_Cp_readGame_84 : dec m_Cp_readGame 84 = .ok (.ireturn, 1) := by decide +kernel
theorem d_Cp_begin_0 : dec m_Cp_begin 0 = .ok (.iload_n 1, 1) := by decide +kernel
theorem d_Cp_begin_1 : dec m_Cp_begin 1 = .ok (.invokestatic 60, 3) := by decide +kernel
theorem d_Cp_begin_4 : dec m_Cp_begin 4 = .ok (.ifCond .ne 5, 3) := by decide +kernel
theorem d_Cp_begin_7 : dec m_Cp_begin 7 = .ok (.iconst (-1), 1) := by decide +kernel
theorem d_Cp_begin_8 : dec m_Cp_begin 8 = .ok (.ireturn, 1) := by decide +kernel
theorem d_Cp_begin_9 : dec m_Cp_begin 9 = .ok (.aload_n 0, 1) := by decide +kernel
theorem d_Cp_begin_10 : dec m_Cp_begin 10 = .ok (.getfield 26, 3) := by decide +kernel
theorem d_Cp_begin_13 : dec m_Cp_begin 13 = .ok (.aload_n 0, 1) := by decide +kernel
theorem d_Cp_begin_14 : dec m_Cp_begin 14 = .ok (.getfield 10, 3) := by decide +kernel
theorem d_Cp_begin_17 : dec m_Cp_begin 17 = .ok (.invokevirtual 83, 3) := by decide +kernel
theorem d_Cp_begin_20 : dec m_Cp_begin 20 = .ok (.aload_n 0, 1) := by decide +kernel
theorem d_Cp_begin_21 : dec m_Cp_begin 21 = .ok (.getfield 10, 3) := by decide +kernel
theorem d_Cp_begin_24 : dec m_Cp_begin 24 = .ok (.getfield 91, 3) := by decide +kernel
theorem d_Cp_begin_27 : dec m_Cp_begin 27 = .ok (.iload_n 1, 1) := by decide +kernel
theorem d_Cp_begin_28 : dec m_Cp_begin 28 = .ok (.invokevirtual 137, 3) := by decide +kernel
theorem d_Cp_begin_31 : dec m_Cp_begin 31 = .ok (.aload_n 0, 1) := by decide +kernel
theorem d_Cp_begin_32 : dec m_Cp_begin 32 = .ok (.getfield 10, 3) := by decide +kernel
theorem d_Cp_begin_35 : dec m_Cp_begin 35 = .ok (.getfield 91, 3) := by decide +kernel
theorem d_Cp_begin_38 : dec m_Cp_begin 38 = .ok (.getfield 141, 3) := by decide +kernel
theorem d_Cp_begin_41 : dec m_Cp_begin 41 = .ok (.iconst 0, 1) := by decide +kernel
theorem d_Cp_begin_42 : dec m_Cp_begin 42 = .ok (.invokevirtual 74, 3) := by decide +kernel
theorem d_Cp_begin_45 : dec m_Cp_begin 45 = .ok (.ireturn, 1) := by decide +kernel
theorem d_Cp_open_0 : dec m_Cp_open 0 = .ok (.iload_n 1, 1) := by decide +kernel
theorem d_Cp_open_1 : dec m_Cp_open 1 = .ok (.iconst 1, 1) := by decide +kernel
theorem d_Cp_open_2 : dec m_Cp_open 2 = .ok (.if_icmp .lt 9, 3) := by decide +kernel
theorem d_Cp_open_5 : dec m_Cp_open 5 = .ok (.iload_n 1, 1) := by decide +kernel
theorem d_Cp_open_6 : dec m_Cp_open 6 = .ok (.bipush 100, 2) := by decide +kernel
theorem d_Cp_open_8 : dec m_Cp_open 8 = .ok (.if_icmp .le 6, 3) := by decide +kernel
theorem d_Cp_open_11 : dec m_Cp_open 11 = .ok (.bipush (-2), 2) := by decide +kernel
theorem d_Cp_open_13 : dec m_Cp_open 13 = .ok (.ireturn, 1) := by decide +kernel
theorem d_Cp_open_14 : dec m_Cp_open 14 = .ok (.aload_n 0, 1) := by decide +kernel
theorem d_Cp_open_15 : dec m_Cp_open 15 = .ok (.getfield 10, 3) := by decide +kernel
theorem d_Cp_open_18 : dec m_Cp_open 18 = .ok (.getfield 91, 3) := by decide +kernel
theorem d_Cp_open_21 : dec m_Cp_open 21 = .ok (.astore_n 2, 1) := by decide +kernel
theorem d_Cp_open_22 : dec m_Cp_open 22 = .ok (.aload_n 2, 1) := by decide +kernel
theorem d_Cp_open_23 : dec m_Cp_open 23 = .ok (.invokevirtual 144, 3) := by decide +kernel
theorem d_Cp_open_26 : dec m_Cp_open 26 = .ok (.ifCond .eq 6, 3) := by decide +kernel
theorem d_Cp_open_29 : dec m_Cp_open 29 = .ok (.bipush (-4), 2) := by decide +kernel
theorem d_Cp_open_31 : dec m_Cp_open 31 = .ok (.ireturn, 1) := by decide +kernel
theorem d_Cp_open_32 : dec m_Cp_open 32 = .ok (.aload_n 2, 1) := by decide +kernel
theorem d_Cp_open_33 : dec m_Cp_open 33 = .ok (.invokevirtual 148, 3) := by decide +kernel
theorem d_Cp_open_36 : dec m_Cp_open 36 = .ok (.ifCond .ne 6, 3) := by decide +kernel
theorem d_Cp_open_39 : dec m_Cp_open 39 = .ok (.bipush (-5), 2) := by decide +kernel
theorem d_Cp_open_41 : dec m_Cp_open 41 = .ok (.ireturn, 1) := by decide +kernel
theorem d_Cp_open_42 : dec m_Cp_open 42 = .ok (.aload_n 0, 1) := by decide +kernel
theorem d_Cp_open_43 : dec m_Cp_open 43 = .ok (.getfield 26, 3) := by decide +kernel
theorem d_Cp_open_46 : dec m_Cp_open 46 = .ok (.aload_n 0, 1) := by decide +kernel
theorem d_Cp_open_47 : dec m_Cp_open 47 = .ok (.getfield 10, 3) := by decide +kernel
theorem d_Cp_open_50 : dec m_Cp_open 50 = .ok (.invokevirtual 83, 3) := by decide +kernel
theorem d_Cp_open_53 : dec m_Cp_open 53 = .ok (.iconst 0, 1) := by decide +kernel
theorem d_Cp_open_54 : dec m_Cp_open 54 = .ok (.istore_n 3, 1) := by decide +kernel
theorem d_Cp_open_55 : dec m_Cp_open 55 = .ok (.iload_n 3, 1) := by decide +kernel
theorem d_Cp_open_56 : dec m_Cp_open 56 = .ok (.iload_n 1, 1) := by decide +kernel
theorem d_Cp_open_57 : dec m_Cp_open 57 = .ok (.if_icmp .ge 20, 3) := by decide +kernel
theorem d_Cp_open_60 : dec m_Cp_open 60 = .ok (.aload_n 2, 1) := by decide +kernel
theorem d_Cp_open_61 : dec m_Cp_open 61 = .ok (.invokevirtual 148, 3) := by decide +kernel
theorem d_Cp_open_64 : dec m_Cp_open 64 = .ok (.ifCond .eq 13, 3) := by decide +kernel
theorem d_Cp_open_67 : dec m_Cp_open 67 = .ok (.aload_n 2, 1) := by decide +kernel
theorem d_Cp_open_68 : dec m_Cp_open 68 = .ok (.invokevirtual 151, 3) := by decide +kernel
theorem d_Cp_open_71 : dec m_Cp_open 71 = .ok (.iinc 3 1, 3) := by decide +kernel
theorem d_Cp_open_74 : dec m_Cp_open 74 = .ok (.goto (-19), 3) := by decide +kernel
theorem d_Cp_open_77 : dec m_Cp_open 77 = .ok (.iload_n 3, 1) := by decide +kernel
theorem d_Cp_open_78 : dec m_Cp_open 78 = .ok (.ireturn, 1) := by decide +kernel
theorem d_Cp_type_0 : dec m_Cp_type 0 = .ok (.aload_n 0, 1) := by decide +kernel
theorem d_Cp_type_1 : dec m_Cp_type 1 = .ok (.getfield 33, 3) := by decide +kernel
theorem d_Cp_type_4 : dec m_Cp_type 4 = .ok (.invokevirtual 154, 3) := by decide +kernel
theorem d_Cp_type_7 : dec m_Cp_type 7 = .ok (.ifCond .eq 6, 3) := by decide +kernel
theorem d_Cp_type_10 : dec m_Cp_type 10 = .ok (.bipush (-3), 2) := by decide +kernel
theorem d_Cp_type_12 : dec m_Cp_type 12 = .ok (.ireturn, 1) := by decide +kernel
theorem d_Cp_type_13 : dec m_Cp_type 13 = .ok (.aload_n 0, 1) := by decide +kernel
theorem d_Cp_type_14 : dec m_Cp_type 14 = .ok (.getfield 33, 3) := by decide +kernel
theorem d_Cp_type_17 : dec m_Cp_type 17 = .ok (.iload_n 1, 1) := by decide +kernel
theorem d_Cp_type_18 : dec m_Cp_type 18 = .ok (.invokevirtual 157, 3) := by decide +kernel
theorem d_Cp_type_21 : dec m_Cp_type 21 = .ok (.aload_n 0, 1) := by decide +kernel
theorem d_Cp_type_22 : dec m_Cp_type 22 = .ok (.getfield 33, 3) := by decide +kernel
theorem d_Cp_type_25 : dec m_Cp_type 25 = .ok (.getfield 160, 3) := by decide +kernel
theorem d_Cp_type_28 : dec m_Cp_type 28 = .ok (.ireturn, 1) := by decide +kernel
theorem d_Cp_clearText_0 : dec m_Cp_clearText 0 = .ok (.aload_n 0, 1) := by decide +kernel
theorem d_Cp_clearText_1 : dec m_Cp_clearText 1 = .ok (.getfield 33, 3) := by decide +kernel
theorem d_Cp_clearText_4 : dec m_Cp_clearText 4 = .ok (.getfield 160, 3) := by decide +kernel
theorem d_Cp_clearText_7 : dec m_Cp_clearText 7 = .ok (.istore_n 1, 1) := by decide +kernel
theorem d_Cp_clearText_8 : dec m_Cp_clearText 8 = .ok (.aload_n 0, 1) := by decide +kernel
theorem d_Cp_clearText_9 : dec m_Cp_clearText 9 = .ok (.getfield 33, 3) := by decide +kernel
theorem d_Cp_clearText_12 : dec m_Cp_clearText 12 = .ok (.invokevirtual 163, 3) := by decide +kernel
theorem d_Cp_clearText_15 : dec m_Cp_clearText 15 = .ok (.iload_n 1, 1) := by decide +kernel
theorem d_Cp_clearText_16 : dec m_Cp_clearText 16 = .ok (.ireturn, 1) := by decide +kernel
theorem d_Cp_undo_0 : dec m_Cp_undo 0 = .ok (.aload_n 0, 1) := by decide +kernel
theorem d_Cp_undo_1 : dec m_Cp_undo 1 = .ok (.getfield 26, 3) := by decide +kernel
theorem d_Cp_undo_4 : dec m_Cp_undo 4 = .ok (.getfield 164, 3) := by decide +kernel
theorem d_Cp_undo_7 : dec m_Cp_undo 7 = .ok (.ifCond .ne 6, 3) := by decide +kernel
theorem d_Cp_undo_10 : dec m_Cp_undo 10 = .ok (.bipush (-5), 2) := by decide +kernel
theorem d_Cp_undo_12 : dec m_Cp_undo 12 = .ok (.ireturn, 1) := by decide +kernel
theorem d_Cp_undo_13 : dec m_Cp_undo 13 = .ok (.aload_n 0, 1) := by decide +kernel
theorem d_Cp_undo_14 : dec m_Cp_undo 14 = .ok (.getfield 26, 3) := by decide +kernel
theorem d_Cp_undo_17 : dec m_Cp_undo 17 = .ok (.aload_n 0, 1) := by decide +kernel
theorem d_Cp_undo_18 : dec m_Cp_undo 18 = .ok (.getfield 10, 3) := by decide +kernel
theorem d_Cp_undo_21 : dec m_Cp_undo 21 = .ok (.invokevirtual 167, 3) := by decide +kernel
theorem d_Cp_undo_24 : dec m_Cp_undo 24 = .ok (.aload_n 0, 1) := by decide +kernel
theorem d_Cp_undo_25 : dec m_Cp_undo 25 = .ok (.getfield 26, 3) := by decide +kernel
theorem d_Cp_undo_28 : dec m_Cp_undo 28 = .ok (.getfield 164, 3) := by decide +kernel
theorem d_Cp_undo_31 : dec m_Cp_undo 31 = .ok (.ireturn, 1) := by decide +kernel
theorem d_Cp_keep_0 : dec m_Cp_keep 0 = .ok (.aload_n 0, 1) := by decide +kernel
theorem d_Cp_keep_1 : dec m_Cp_keep 1 = .ok (.getfield 16, 3) := by decide +kernel
theorem d_Cp_keep_4 : dec m_Cp_keep 4 = .ok (.aload_n 0, 1) := by decide +kernel
theorem d_Cp_keep_5 : dec m_Cp_keep 5 = .ok (.getfield 10, 3) := by decide +kernel
theorem d_Cp_keep_8 : dec m_Cp_keep 8 = .ok (.invokevirtual 170, 3) := by decide +kernel
theorem d_Cp_keep_11 : dec m_Cp_keep 11 = .ok (.aload_n 0, 1) := by decide +kernel
theorem d_Cp_keep_12 : dec m_Cp_keep 12 = .ok (.iconst 1, 1) := by decide +kernel
theorem d_Cp_keep_13 : dec m_Cp_keep 13 = .ok (.putfield 19, 3) := by decide +kernel
theorem d_Cp_keep_16 : dec m_Cp_keep 16 = .ok (.aload_n 0, 1) := by decide +kernel
theorem d_Cp_keep_17 : dec m_Cp_keep 17 = .ok (.getfield 10, 3) := by decide +kernel
theorem d_Cp_keep_20 : dec m_Cp_keep 20 = .ok (.getfield 64, 3) := by decide +kernel
theorem d_Cp_keep_23 : dec m_Cp_keep 23 = .ok (.getfield 113, 3) := by decide +kernel
theorem d_Cp_keep_26 : dec m_Cp_keep 26 = .ok (.ireturn, 1) := by decide +kernel
theorem d_Cp_restore_0 : dec m_Cp_restore 0 = .ok (.aload_n 0, 1) := by decide +kernel
theorem d_Cp_restore_1 : dec m_Cp_restore 1 = .ok (.getfield 19, 3) := by decide +kernel
theorem d_Cp_restore_4 : dec m_Cp_restore 4 = .ok (.ifCond .ne 6, 3) := by decide +kernel
theorem d_Cp_restore_7 : dec m_Cp_restore 7 = .ok (.bipush (-5), 2) := by decide +kernel
theorem d_Cp_restore_9 : dec m_Cp_restore 9 = .ok (.ireturn, 1) := by decide +kernel
theorem d_Cp_restore_10 : dec m_Cp_restore 10 = .ok (.aload_n 0, 1) := by decide +kernel
theorem d_Cp_restore_11 : dec m_Cp_restore 11 = .ok (.getfield 26, 3) := by decide +kernel
theorem d_Cp_restore_14 : dec m_Cp_restore 14 = .ok (.aload_n 0, 1) := by decide +kernel
theorem d_Cp_restore_15 : dec m_Cp_restore 15 = .ok (.getfield 10, 3) := by decide +kernel
theorem d_Cp_restore_18 : dec m_Cp_restore 18 = .ok (.invokevirtual 83, 3) := by decide +kernel
theorem d_Cp_restore_21 : dec m_Cp_restore 21 = .ok (.aload_n 0, 1) := by decide +kernel
theorem d_Cp_restore_22 : dec m_Cp_restore 22 = .ok (.getfield 10, 3) := by decide +kernel
theorem d_Cp_restore_25 : dec m_Cp_restore 25 = .ok (.aload_n 0, 1) := by decide +kernel
theorem d_Cp_restore_26 : dec m_Cp_restore 26 = .ok (.getfield 16, 3) := by decide +kernel
theorem d_Cp_restore_29 : dec m_Cp_restore 29 = .ok (.invokevirtual 170, 3) := by decide +kernel
theorem d_Cp_restore_32 : dec m_Cp_restore 32 = .ok (.aload_n 0, 1) := by decide +kernel
theorem d_Cp_restore_33 : dec m_Cp_restore 33 = .ok (.getfield 10, 3) := by decide +kernel
theorem d_Cp_restore_36 : dec m_Cp_restore 36 = .ok (.getfield 64, 3) := by decide +kernel
theorem d_Cp_restore_39 : dec m_Cp_restore 39 = .ok (.getfield 113, 3) := by decide +kernel
theorem d_Cp_restore_42 : dec m_Cp_restore 42 = .ok (.ireturn, 1) := by decide +kernel
theorem d_Cp_position_0 : dec m_Cp_position 0 = .ok (.iload_n 1, 1) := by decide +kernel
theorem d_Cp_position_1 : dec m_Cp_position 1 = .ok (.invokestatic 60, 3) := by decide +kernel
theorem d_Cp_position_4 : dec m_Cp_position 4 = .ok (.ifCond .ne 5, 3) := by decide +kernel
theorem d_Cp_position_7 : dec m_Cp_position 7 = .ok (.iconst (-1), 1) := by decide +kernel
theorem d_Cp_position_8 : dec m_Cp_position 8 = .ok (.ireturn, 1) := by decide +kernel
theorem d_Cp_position_9 : dec m_Cp_position 9 = .ok (.aload_n 0, 1) := by decide +kernel
theorem d_Cp_position_10 : dec m_Cp_position 10 = .ok (.getfield 10, 3) := by decide +kernel
theorem d_Cp_position_13 : dec m_Cp_position 13 = .ok (.getfield 64, 3) := by decide +kernel
theorem d_Cp_position_16 : dec m_Cp_position 16 = .ok (.astore_n 3, 1) := by decide +kernel
theorem d_Cp_position_17 : dec m_Cp_position 17 = .ok (.iload_n 2, 1) := by decide +kernel
theorem d_Cp_position_18 : dec m_Cp_position 18 = .ok (.tableswitch 147 0 7 #[46, 55, 64, 73, 82, 91, 105, 130], 46) := by decide +kernel
theorem d_Cp_position_64 : dec m_Cp_position 64 = .ok (.aload_n 3, 1) := by decide +kernel
theorem d_Cp_position_65 : dec m_Cp_position 65 = .ok (.getfield 80, 3) := by decide +kernel
theorem d_Cp_position_68 : dec m_Cp_position 68 = .ok (.iload_n 1, 1) := by decide +kernel
theorem d_Cp_position_69 : dec m_Cp_position 69 = .ok (.invokevirtual 74, 3) := by decide +kernel
theorem d_Cp_position_72 : dec m_Cp_position 72 = .ok (.ireturn, 1) := by decide +kernel
theorem d_Cp_position_73 : dec m_Cp_position 73 = .ok (.aload_n 3, 1) := by decide +kernel
theorem d_Cp_position_74 : dec m_Cp_position 74 = .ok (.getfield 68, 3) := by decide +kernel
theorem d_Cp_position_77 : dec m_Cp_position 77 = .ok (.iload_n 1, 1) := by decide +kernel
theorem d_Cp_position_78 : dec m_Cp_position 78 = .ok (.invokevirtual 74, 3) := by decide +kernel
theorem d_Cp_position_81 : dec m_Cp_position 81 = .ok (.ireturn, 1) := by decide +kernel
theorem d_Cp_position_82 : dec m_Cp_position 82 = .ok (.aload_n 3, 1) := by decide +kernel
theorem d_Cp_position_83 : dec m_Cp_position 83 = .ok (.getfield 103, 3) := by decide +kernel
theorem d_Cp_position_86 : dec m_Cp_position 86 = .ok (.iload_n 1, 1) := by decide +kernel
theorem d_Cp_position_87 : dec m_Cp_position 87 = .ok (.invokevirtual 74, 3) := by decide +kernel
theorem d_Cp_position_90 : dec m_Cp_position 90 = .ok (.ireturn, 1) := by decide +kernel
theorem d_Cp_position_91 : dec m_Cp_position 91 = .ok (.aload_n 3, 1) := by decide +kernel
theorem d_Cp_position_92 : dec m_Cp_position 92 = .ok (.getfield 106, 3) := by decide +kernel
theorem d_Cp_position_95 : dec m_Cp_position 95 = .ok (.iload_n 1, 1) := by decide +kernel
theorem d_Cp_position_96 : dec m_Cp_position 96 = .ok (.invokevirtual 74, 3) := by decide +kernel
theorem d_Cp_position_99 : dec m_Cp_position 99 = .ok (.ireturn, 1) := by decide +kernel
theorem d_Cp_position_100 : dec m_Cp_position 100 = .ok (.aload_n 3, 1) := by decide +kernel
theorem d_Cp_position_101 : dec m_Cp_position 101 = .ok (.getfield 120, 3) := by decide +kernel
theorem d_Cp_position_104 : dec m_Cp_position 104 = .ok (.iload_n 1, 1) := by decide +kernel
theorem d_Cp_position_105 : dec m_Cp_position 105 = .ok (.invokevirtual 74, 3) := by decide +kernel
theorem d_Cp_position_108 : dec m_Cp_position 108 = .ok (.ireturn, 1) := by decide +kernel
theorem d_Cp_position_109 : dec m_Cp_position 109 = .ok (.aload_n 3, 1) := by decide +kernel
theorem d_Cp_position_110 : dec m_Cp_position 110 = .ok (.iload_n 1, 1) := by decide +kernel
theorem d_Cp_position_111 : dec m_Cp_position 111 = .ok (.invokevirtual 173, 3) := by decide +kernel
theorem d_Cp_position_114 : dec m_Cp_position 114 = .ok (.ifCond .eq 7, 3) := by decide +kernel
theorem d_Cp_position_117 : dec m_Cp_position 117 = .ok (.iconst 1, 1) := by decide +kernel
theorem d_Cp_position_118 : dec m_Cp_position 118 = .ok (.goto 4, 3) := by decide +kernel
theorem d_Cp_position_121 : dec m_Cp_position 121 = .ok (.iconst 0, 1) := by decide +kernel
theorem d_Cp_position_122 : dec m_Cp_position 122 = .ok (.ireturn, 1) := by decide +kernel
theorem d_Cp_position_123 : dec m_Cp_position 123 = .ok (.aload_n 0, 1) := by decide +kernel
theorem d_Cp_position_124 : dec m_Cp_position 124 = .ok (.getfield 49, 3) := by decide +kernel
theorem d_Cp_position_127 : dec m_Cp_position 127 = .ok (.aload_n 3, 1) := by decide +kernel
theorem d_Cp_position_128 : dec m_Cp_position 128 = .ok (.invokevirtual 176, 3) := by decide +kernel
theorem d_Cp_position_131 : dec m_Cp_position 131 = .ok (.aload_n 0, 1) := by decide +kernel
theorem d_Cp_position_132 : dec m_Cp_position 132 = .ok (.getfield 49, 3) := by decide +kernel
theorem d_Cp_position_135 : dec m_Cp_position 135 = .ok (.iload_n 1, 1) := by decide +kernel
theorem d_Cp_position_136 : dec m_Cp_position 136 = .ok (.invokevirtual 179, 3) := by decide +kernel
theorem d_Cp_position_139 : dec m_Cp_position 139 = .ok (.ifCond .eq 7, 3) := by decide +kernel
theorem d_Cp_position_142 : dec m_Cp_position 142 = .ok (.iconst 1, 1) := by decide +kernel
theorem d_Cp_position_143 : dec m_Cp_position 143 = .ok (.goto 4, 3) := by decide +kernel
theorem d_Cp_position_146 : dec m_Cp_position 146 = .ok (.iconst 0, 1) := by decide +kernel
theorem d_Cp_position_147 : dec m_Cp_position 147 = .ok (.ireturn, 1) := by decide +kernel
theorem d_Cp_position_148 : dec m_Cp_position 148 = .ok (.aload_n 0, 1) := by decide +kernel
theorem d_Cp_position_149 : dec m_Cp_position 149 = .ok (.getfield 49, 3) := by decide +kernel
theorem d_Cp_position_152 : dec m_Cp_position 152 = .ok (.aload_n 3, 1) := by decide +kernel
theorem d_Cp_position_153 : dec m_Cp_position 153 = .ok (.invokevirtual 176, 3) := by decide +kernel
theorem d_Cp_position_156 : dec m_Cp_position 156 = .ok (.aload_n 0, 1) := by decide +kernel
theorem d_Cp_position_157 : dec m_Cp_position 157 = .ok (.getfield 49, 3) := by decide +kernel
theorem d_Cp_position_160 : dec m_Cp_position 160 = .ok (.iload_n 1, 1) := by decide +kernel
theorem d_Cp_position_161 : dec m_Cp_position 161 = .ok (.invokevirtual 182, 3) := by decide +kernel
theorem d_Cp_position_164 : dec m_Cp_position 164 = .ok (.ireturn, 1) := by decide +kernel
theorem d_Cp_position_165 : dec m_Cp_position 165 = .ok (.bipush (-2), 2) := by decide +kernel
theorem d_Cp_position_167 : dec m_Cp_position 167 = .ok (.ireturn, 1) := by decide +kernel
theorem d_Cp_move_0 : dec m_Cp_move 0 = .ok (.iload_n 1, 1) := by decide +kernel
theorem d_Cp_move_1 : dec m_Cp_move 1 = .ok (.invokestatic 60, 3) := by decide +kernel
theorem d_Cp_move_4 : dec m_Cp_move 4 = .ok (.ifCond .ne 5, 3) := by decide +kernel
theorem d_Cp_move_7 : dec m_Cp_move 7 = .ok (.iconst (-1), 1) := by decide +kernel
theorem d_Cp_move_8 : dec m_Cp_move 8 = .ok (.ireturn, 1) := by decide +kernel
theorem d_Cp_move_9 : dec m_Cp_move 9 = .ok (.iload_n 2, 1) := by decide +kernel
theorem d_Cp_move_10 : dec m_Cp_move 10 = .ok (.ifCond .ge 6, 3) := by decide +kernel
theorem d_Cp_move_13 : dec m_Cp_move 13 = .ok (.bipush (-2), 2) := by decide +kernel
theorem d_Cp_move_15 : dec m_Cp_move 15 = .ok (.ireturn, 1) := by decide +kernel
theorem d_Cp_move_16 : dec m_Cp_move 16 = .ok (.aload_n 0, 1) := by decide +kernel
theorem d_Cp_move_17 : dec m_Cp_move 17 = .ok (.getfield 10, 3) := by decide +kernel
theorem d_Cp_move_20 : dec m_Cp_move 20 = .ok (.getfield 64, 3) := by decide +kernel
theorem d_Cp_move_23 : dec m_Cp_move 23 = .ok (.iload_n 1, 1) := by decide +kernel
theorem d_Cp_move_24 : dec m_Cp_move 24 = .ok (.iload_n 2, 1) := by decide +kernel
theorem d_Cp_move_25 : dec m_Cp_move 25 = .ok (.invokevirtual 185, 3) := by decide +kernel
theorem d_Cp_move_28 : dec m_Cp_move 28 = .ok (.ireturn, 1) := by decide +kernel
theorem d_Cp_node_0 : dec m_Cp_node 0 = .ok (.aload_n 0, 1) := by decide +kernel
theorem d_Cp_node_1 : dec m_Cp_node 1 = .ok (.getfield 10, 3) := by decide +kernel
theorem d_Cp_node_4 : dec m_Cp_node 4 = .ok (.getfield 91, 3) := by decide +kernel
theorem d_Cp_node_7 : dec m_Cp_node 7 = .ok (.astore_n 3, 1) := by decide +kernel
theorem d_Cp_node_8 : dec m_Cp_node 8 = .ok (.aload_n 3, 1) := by decide +kernel
theorem d_Cp_node_9 : dec m_Cp_node 9 = .ok (.iload_n 1, 1) := by decide +kernel
theorem d_Cp_node_10 : dec m_Cp_node 10 = .ok (.invokevirtual 188, 3) := by decide +kernel
theorem d_Cp_node_13 : dec m_Cp_node 13 = .ok (.ifCond .ne 5, 3) := by decide +kernel
theorem d_Cp_node_16 : dec m_Cp_node 16 = .ok (.iconst (-1), 1) := by decide +kernel
theorem d_Cp_node_17 : dec m_Cp_node 17 = .ok (.ireturn, 1) := by decide +kernel
theorem d_Cp_node_18 : dec m_Cp_node 18 = .ok (.iload_n 2, 1) := by decide +kernel
theorem d_Cp_node_19 : dec m_Cp_node 19 = .ok (.tableswitch 117 0 7 #[45, 54, 63, 72, 81, 90, 99, 108], 45) := by decide +kernel
theorem d_Cp_node_64 : dec m_Cp_node 64 = .ok (.aload_n 3, 1) := by decide +kernel
theorem d_Cp_node_65 : dec m_Cp_node 65 = .ok (.getfield 191, 3) := by decide +kernel
theorem d_Cp_node_68 : dec m_Cp_node 68 = .ok (.iload_n 1, 1) := by decide +kernel
theorem d_Cp_node_69 : dec m_Cp_node 69 = .ok (.invokevirtual 74, 3) := by decide +kernel
theorem d_Cp_node_72 : dec m_Cp_node 72 = .ok (.ireturn, 1) := by decide +kernel
theorem d_Cp_node_73 : dec m_Cp_node 73 = .ok (.aload_n 3, 1) := by decide +kernel
theorem d_Cp_node_74 : dec m_Cp_node 74 = .ok (.getfield 194, 3) := by decide +kernel
theorem d_Cp_node_77 : dec m_Cp_node 77 = .ok (.iload_n 1, 1) := by decide +kernel
theorem d_Cp_node_78 : dec m_Cp_node 78 = .ok (.invokevirtual 74, 3) := by decide +kernel
theorem d_Cp_node_81 : dec m_Cp_node 81 = .ok (.ireturn, 1) := by decide +kernel
theorem d_Cp_node_82 : dec m_Cp_node 82 = .ok (.aload_n 3, 1) := by decide +kernel
theorem d_Cp_node_83 : dec m_Cp_node 83 = .ok (.getfield 141, 3) := by decide +kernel
theorem d_Cp_node_86 : dec m_Cp_node 86 = .ok (.iload_n 1, 1) := by decide +kernel
theorem d_Cp_node_87 : dec m_Cp_node 87 = .ok (.invokevirtual 74, 3) := by decide +kernel
theorem d_Cp_node_90 : dec m_Cp_node 90 = .ok (.ireturn, 1) := by decide +kernel
theorem d_Cp_node_91 : dec m_Cp_node 91 = .ok (.aload_n 3, 1) := by decide +kernel
theorem d_Cp_node_92 : dec m_Cp_node 92 = .ok (.getfield 197, 3) := by decide +kernel
theorem d_Cp_node_95 : dec m_Cp_node 95 = .ok (.iload_n 1, 1) := by decide +kernel
theorem d_Cp_node_96 : dec m_Cp_node 96 = .ok (.invokevirtual 74, 3) := by decide +kernel
theorem d_Cp_node_99 : dec m_Cp_node 99 = .ok (.ireturn, 1) := by decide +kernel
theorem d_Cp_node_100 : dec m_Cp_node 100 = .ok (.aload_n 3, 1) := by decide +kernel
theorem d_Cp_node_101 : dec m_Cp_node 101 = .ok (.getfield 200, 3) := by decide +kernel
theorem d_Cp_node_104 : dec m_Cp_node 104 = .ok (.iload_n 1, 1) := by decide +kernel
theorem d_Cp_node_105 : dec m_Cp_node 105 = .ok (.invokevirtual 74, 3) := by decide +kernel
theorem d_Cp_node_108 : dec m_Cp_node 108 = .ok (.ireturn, 1) := by decide +kernel
theorem d_Cp_node_109 : dec m_Cp_node 109 = .ok (.aload_n 3, 1) := by decide +kernel
theorem d_Cp_node_110 : dec m_Cp_node 110 = .ok (.getfield 203, 3) := by decide +kernel
theorem d_Cp_node_113 : dec m_Cp_node 113 = .ok (.iload_n 1, 1) := by decide +kernel
theorem d_Cp_node_114 : dec m_Cp_node 114 = .ok (.invokevirtual 74, 3) := by decide +kernel
theorem d_Cp_node_117 : dec m_Cp_node 117 = .ok (.ireturn, 1) := by decide +kernel
theorem d_Cp_node_118 : dec m_Cp_node 118 = .ok (.aload_n 3, 1) := by decide +kernel
theorem d_Cp_node_119 : dec m_Cp_node 119 = .ok (.getfield 206, 3) := by decide +kernel
theorem d_Cp_node_122 : dec m_Cp_node 122 = .ok (.iload_n 1, 1) := by decide +kernel
theorem d_Cp_node_123 : dec m_Cp_node 123 = .ok (.invokevirtual 74, 3) := by decide +kernel
theorem d_Cp_node_126 : dec m_Cp_node 126 = .ok (.ireturn, 1) := by decide +kernel
theorem d_Cp_node_127 : dec m_Cp_node 127 = .ok (.aload_n 3, 1) := by decide +kernel
theorem d_Cp_node_128 : dec m_Cp_node 128 = .ok (.getfield 209, 3) := by decide +kernel
theorem d_Cp_node_131 : dec m_Cp_node 131 = .ok (.iload_n 1, 1) := by decide +kernel
theorem d_Cp_node_132 : dec m_Cp_node 132 = .ok (.invokevirtual 74, 3) := by decide +kernel
theorem d_Cp_node_135 : dec m_Cp_node 135 = .ok (.ireturn, 1) := by decide +kernel
theorem d_Cp_node_136 : dec m_Cp_node 136 = .ok (.bipush (-2), 2) := by decide +kernel
theorem d_Cp_node_138 : dec m_Cp_node 138 = .ok (.ireturn, 1) := by decide +kernel
theorem d_Cp_way_0 : dec m_Cp_way 0 = .ok (.iload_n 1, 1) := by decide +kernel
theorem d_Cp_way_1 : dec m_Cp_way 1 = .ok (.ifCond .ge 6, 3) := by decide +kernel
theorem d_Cp_way_4 : dec m_Cp_way 4 = .ok (.bipush (-2), 2) := by decide +kernel
theorem d_Cp_way_6 : dec m_Cp_way 6 = .ok (.ireturn, 1) := by decide +kernel
theorem d_Cp_way_7 : dec m_Cp_way 7 = .ok (.aload_n 0, 1) := by decide +kernel
theorem d_Cp_way_8 : dec m_Cp_way 8 = .ok (.getfield 10, 3) := by decide +kernel
theorem d_Cp_way_11 : dec m_Cp_way 11 = .ok (.getfield 91, 3) := by decide +kernel
theorem d_Cp_way_14 : dec m_Cp_way 14 = .ok (.iload_n 1, 1) := by decide +kernel
theorem d_Cp_way_15 : dec m_Cp_way 15 = .ok (.invokevirtual 212, 3) := by decide +kernel
theorem d_Cp_way_18 : dec m_Cp_way 18 = .ok (.ireturn, 1) := by decide +kernel
theorem d_Cp_playOut_0 : dec m_Cp_playOut 0 = .ok (.iload_n 1, 1) := by decide +kernel
theorem d_Cp_playOut_1 : dec m_Cp_playOut 1 = .ok (.ifCond .lt 12, 3) := by decide +kernel
theorem d_Cp_playOut_4 : dec m_Cp_playOut 4 = .ok (.iload_n 2, 1) := by decide +kernel
theorem d_Cp_playOut_5 : dec m_Cp_playOut 5 = .ok (.ifCond .lt 8, 3) := by decide +kernel
theorem d_Cp_playOut_8 : dec m_Cp_playOut 8 = .ok (.iload_n 2, 1) := by decide +kernel
theorem d_Cp_playOut_9 : dec m_Cp_playOut 9 = .ok (.iconst 2, 1) := by decide +kernel
theorem d_Cp_playOut_10 : dec m_Cp_playOut 10 = .ok (.if_icmp .le 6, 3) := by decide +kernel
theorem d_Cp_playOut_13 : dec m_Cp_playOut 13 = .ok (.bipush (-2), 2) := by decide +kernel
theorem d_Cp_playOut_15 : dec m_Cp_playOut 15 = .ok (.ireturn, 1) := by decide +kernel
theorem d_Cp_playOut_16 : dec m_Cp_playOut 16 = .ok (.aload_n 0, 1) := by decide +kernel
theorem d_Cp_playOut_17 : dec m_Cp_playOut 17 = .ok (.getfield 10, 3) := by decide +kernel
theorem d_Cp_playOut_20 : dec m_Cp_playOut 20 = .ok (.getfield 91, 3) := by decide +kernel
theorem d_Cp_playOut_23 : dec m_Cp_playOut 23 = .ok (.astore_n 3, 1) := by decide +kernel
theorem d_Cp_playOut_24 : dec m_Cp_playOut 24 = .ok (.aload_n 3, 1) := by decide +kernel
theorem d_Cp_playOut_25 : dec m_Cp_playOut 25 = .ok (.invokevirtual 215, 3) := by decide +kernel
theorem d_Cp_playOut_28 : dec m_Cp_playOut 28 = .ok (.ifCond .ne 6, 3) := by decide +kernel
theorem d_Cp_playOut_31 : dec m_Cp_playOut 31 = .ok (.bipush (-4), 2) := by decide +kernel
theorem d_Cp_playOut_33 : dec m_Cp_playOut 33 = .ok (.ireturn, 1) := by decide +kernel
theorem d_Cp_playOut_34 : dec m_Cp_playOut 34 = .ok (.aload_n 0, 1) := by decide +kernel
theorem d_Cp_playOut_35 : dec m_Cp_playOut 35 = .ok (.getfield 56, 3) := by decide +kernel
theorem d_Cp_playOut_38 : dec m_Cp_playOut 38 = .ok (.aload_n 3, 1) := by decide +kernel
theorem d_Cp_playOut_39 : dec m_Cp_playOut 39 = .ok (.iload_n 1, 1) := by decide +kernel
theorem d_Cp_playOut_40 : dec m_Cp_playOut 40 = .ok (.invokevirtual 218, 3) := by decide +kernel
theorem d_Cp_playOut_43 : dec m_Cp_playOut 43 = .ok (.istore 4, 2) := by decide +kernel
theorem d_Cp_playOut_45 : dec m_Cp_playOut 45 = .ok (.iload_n 2, 1) := by decide +kernel
theorem d_Cp_playOut_46 : dec m_Cp_playOut 46 = .ok (.ifCond .ne 13, 3) := by decide +kernel
theorem d_Cp_playOut_49 : dec m_Cp_playOut 49 = .ok (.aload_n 3, 1) := by decide +kernel
theorem d_Cp_playOut_50 : dec m_Cp_playOut 50 = .ok (.getfield 206, 3) := by decide +kernel
theorem d_Cp_playOut_53 : dec m_Cp_playOut 53 = .ok (.iload 4, 2) := by decide +kernel
theorem d_Cp_playOut_55 : dec m_Cp_playOut 55 = .ok (.invokevirtual 74, 3) := by decide +kernel
theorem d_Cp_playOut_58 : dec m_Cp_playOut 58 = .ok (.ireturn, 1) := by decide +kernel
theorem d_Cp_playOut_59 : dec m_Cp_playOut 59 = .ok (.iload_n 2, 1) := by decide +kernel
theorem d_Cp_playOut_60 : dec m_Cp_playOut 60 = .ok (.iconst 1, 1) := by decide +kernel
theorem d_Cp_playOut_61 : dec m_Cp_playOut 61 = .ok (.if_icmp .ne 15, 3) := by decide +kernel
theorem d_Cp_playOut_64 : dec m_Cp_playOut 64 = .ok (.aload_n 3, 1) := by decide +kernel
theorem d_Cp_playOut_65 : dec m_Cp_playOut 65 = .ok (.getfield 191, 3) := by decide +kernel
theorem d_Cp_playOut_68 : dec m_Cp_playOut 68 = .ok (.iload 4, 2) := by decide +kernel
theorem d_Cp_playOut_70 : dec m_Cp_playOut 70 = .ok (.invokevirtual 74, 3) := by decide +kernel
theorem d_Cp_playOut_73 : dec m_Cp_playOut 73 = .ok (.goto 5, 3) := by decide +kernel
theorem d_Cp_playOut_76 : dec m_Cp_playOut 76 = .ok (.iload 4, 2) := by decide +kernel
theorem d_Cp_playOut_78 : dec m_Cp_playOut 78 = .ok (.ireturn, 1) := by decide +kernel
theorem d_Cp_proofSize_0 : dec m_Cp_proofSize 0 = .ok (.aload_n 0, 1) := by decide +kernel
theorem d_Cp_proofSize_1 : dec m_Cp_proofSize 1 = .ok (.getfield 10, 3) := by decide +kernel
theorem d_Cp_proofSize_4 : dec m_Cp_proofSize 4 = .ok (.getfield 91, 3) := by decide +kernel
theorem d_Cp_proofSize_7 : dec m_Cp_proofSize 7 = .ok (.invokevirtual 215, 3) := by decide +kernel
theorem d_Cp_proofSize_10 : dec m_Cp_proofSize 10 = .ok (.ifCond .ne 6, 3) := by decide +kernel
theorem d_Cp_proofSize_13 : dec m_Cp_proofSize 13 = .ok (.bipush (-4), 2) := by decide +kernel
theorem d_Cp_proofSize_15 : dec m_Cp_proofSize 15 = .ok (.ireturn, 1) := by decide +kernel
theorem d_Cp_proofSize_16 : dec m_Cp_proofSize 16 = .ok (.aload_n 0, 1) := by decide +kernel
theorem d_Cp_proofSize_17 : dec m_Cp_proofSize 17 = .ok (.getfield 56, 3) := by decide +kernel
theorem d_Cp_proofSize_20 : dec m_Cp_proofSize 20 = .ok (.aload_n 0, 1) := by decide +kernel
theorem d_Cp_proofSize_21 : dec m_Cp_proofSize 21 = .ok (.getfield 10, 3) := by decide +kernel
theorem d_Cp_proofSize_24 : dec m_Cp_proofSize 24 = .ok (.getfield 91, 3) := by decide +kernel
theorem d_Cp_proofSize_27 : dec m_Cp_proofSize 27 = .ok (.invokevirtual 222, 3) := by decide +kernel
theorem d_Cp_proofSize_30 : dec m_Cp_proofSize 30 = .ok (.ireturn, 1) := by decide +kernel
theorem d_Cp_count_0 : dec m_Cp_count 0 = .ok (.iload_n 1, 1) := by decide +kernel
theorem d_Cp_count_1 : dec m_Cp_count 1 = .ok (.iconst 2, 1) := by decide +kernel
theorem d_Cp_count_2 : dec m_Cp_count 2 = .ok (.if_icmp .lt 39, 3) := by decide +kernel
theorem d_Cp_count_5 : dec m_Cp_count 5 = .ok (.iload_n 1, 1) := by decide +kernel
theorem d_Cp_count_6 : dec m_Cp_count 6 = .ok (.bipush 7, 2) := by decide +kernel
theorem d_Cp_count_8 : dec m_Cp_count 8 = .ok (.if_icmp .gt 33, 3) := by decide +kernel
theorem d_Cp_count_11 : dec m_Cp_count 11 = .ok (.aload_n 0, 1) := by decide +kernel
theorem d_Cp_count_12 : dec m_Cp_count 12 = .ok (.getfield 10, 3) := by decide +kernel
theorem d_Cp_count_15 : dec m_Cp_count 15 = .ok (.getfield 91, 3) := by decide +kernel
theorem d_Cp_count_18 : dec m_Cp_count 18 = .ok (.invokevirtual 144, 3) := by decide +kernel
theorem d_Cp_count_21 : dec m_Cp_count 21 = .ok (.ifCond .eq 8, 3) := by decide +kernel
theorem d_Cp_count_24 : dec m_Cp_count 24 = .ok (.bipush (-5), 2) := by decide +kernel
theorem d_Cp_count_26 : dec m_Cp_count 26 = .ok (.goto 14, 3) := by decide +kernel
theorem d_Cp_count_29 : dec m_Cp_count 29 = .ok (.aload_n 0, 1) := by decide +kernel
theorem d_Cp_count_30 : dec m_Cp_count 30 = .ok (.getfield 10, 3) := by decide +kernel
theorem d_Cp_count_33 : dec m_Cp_count 33 = .ok (.getfield 91, 3) := by decide +kernel
theorem d_Cp_count_36 : dec m_Cp_count 36 = .ok (.iload_n 1, 1) := by decide +kernel
theorem d_Cp_count_37 : dec m_Cp_count 37 = .ok (.invokestatic 226, 3) := by decide +kernel
theorem d_Cp_count_40 : dec m_Cp_count 40 = .ok (.ireturn, 1) := by decide +kernel
theorem d_Cp_count_41 : dec m_Cp_count 41 = .ok (.iload_n 1, 1) := by decide +kernel
theorem d_Cp_count_42 : dec m_Cp_count 42 = .ok (.tableswitch 118 0 10 #[58, 69, 118, 118, 118, 118, 118, 118, 80, 102, 110], 58) := by decide +kernel
theorem d_Cp_count_100 : dec m_Cp_count 100 = .ok (.aload_n 0, 1) := by decide +kernel
theorem d_Cp_count_101 : dec m_Cp_count 101 = .ok (.getfield 10, 3) := by decide +kernel
theorem d_Cp_count_104 : dec m_Cp_count 104 = .ok (.getfield 64, 3) := by decide +kernel
theorem d_Cp_count_107 : dec m_Cp_count 107 = .ok (.getfield 113, 3) := by decide +kernel
theorem d_Cp_count_110 : dec m_Cp_count 110 = .ok (.ireturn, 1) := by decide +kernel
theorem d_Cp_count_111 : dec m_Cp_count 111 = .ok (.aload_n 0, 1) := by decide +kernel
theorem d_Cp_count_112 : dec m_Cp_count 112 = .ok (.getfield 10, 3) := by decide +kernel
theorem d_Cp_count_115 : dec m_Cp_count 115 = .ok (.getfield 91, 3) := by decide +kernel
theorem d_Cp_count_118 : dec m_Cp_count 118 = .ok (.getfield 229, 3) := by decide +kernel
theorem d_Cp_count_121 : dec m_Cp_count 121 = .ok (.ireturn, 1) := by decide +kernel
theorem d_Cp_count_122 : dec m_Cp_count 122 = .ok (.aload_n 0, 1) := by decide +kernel
theorem d_Cp_count_123 : dec m_Cp_count 123 = .ok (.getfield 49, 3) := by decide +kernel
theorem d_Cp_count_126 : dec m_Cp_count 126 = .ok (.aload_n 0, 1) := by decide +kernel
theorem d_Cp_count_127 : dec m_Cp_count 127 = .ok (.getfield 10, 3) := by decide +kernel
theorem d_Cp_count_130 : dec m_Cp_count 130 = .ok (.getfield 64, 3) := by decide +kernel
theorem d_Cp_count_133 : dec m_Cp_count 133 = .ok (.invokevirtual 176, 3) := by decide +kernel
theorem d_Cp_count_136 : dec m_Cp_count 136 = .ok (.aload_n 0, 1) := by decide +kernel
theorem d_Cp_count_137 : dec m_Cp_count 137 = .ok (.getfield 49, 3) := by decide +kernel
theorem d_Cp_count_140 : dec m_Cp_count 140 = .ok (.invokevirtual 230, 3) := by decide +kernel
theorem d_Cp_count_143 : dec m_Cp_count 143 = .ok (.ireturn, 1) := by decide +kernel
theorem d_Cp_count_144 : dec m_Cp_count 144 = .ok (.aload_n 0, 1) := by decide +kernel
theorem d_Cp_count_145 : dec m_Cp_count 145 = .ok (.getfield 26, 3) := by decide +kernel
theorem d_Cp_count_148 : dec m_Cp_count 148 = .ok (.getfield 164, 3) := by decide +kernel
theorem d_Cp_count_151 : dec m_Cp_count 151 = .ok (.ireturn, 1) := by decide +kernel
theorem d_Cp_count_152 : dec m_Cp_count 152 = .ok (.aload_n 0, 1) := by decide +kernel
theorem d_Cp_count_153 : dec m_Cp_count 153 = .ok (.getfield 33, 3) := by decide +kernel
theorem d_Cp_count_156 : dec m_Cp_count 156 = .ok (.getfield 160, 3) := by decide +kernel
theorem d_Cp_count_159 : dec m_Cp_count 159 = .ok (.ireturn, 1) := by decide +kernel
theorem d_Cp_count_160 : dec m_Cp_count 160 = .ok (.bipush (-2), 2) := by decide +kernel
theorem d_Cp_count_162 : dec m_Cp_count 162 = .ok (.ireturn, 1) := by decide +kernel
theorem d_Cp_tellTree_0 : dec m_Cp_tellTree 0 = .ok (.iload_n 1, 1) := by decide +kernel
theorem d_Cp_tellTree_1 : dec m_Cp_tellTree 1 = .ok (.tableswitch 68 2 6 #[35, 44, 53, 58, 63], 35) := by decide +kernel
theorem d_Cp_tellTree_36 : dec m_Cp_tellTree 36 = .ok (.aload_n 0, 1) := by decide +kernel
theorem d_Cp_tellTree_37 : dec m_Cp_tellTree 37 = .ok (.getfield 141, 3) := by decide +kernel
theorem d_Cp_tellTree_40 : dec m_Cp_tellTree 40 = .ok (.iconst 0, 1) := by decide +kernel
theorem d_Cp_tellTree_41 : dec m_Cp_tellTree 41 = .ok (.invokevirtual 74, 3) := by decide +kernel
theorem d_Cp_tellTree_44 : dec m_Cp_tellTree 44 = .ok (.ireturn, 1) := by decide +kernel
theorem d_Cp_tellTree_45 : dec m_Cp_tellTree 45 = .ok (.aload_n 0, 1) := by decide +kernel
theorem d_Cp_tellTree_46 : dec m_Cp_tellTree 46 = .ok (.getfield 197, 3) := by decide +kernel
theorem d_Cp_tellTree_49 : dec m_Cp_tellTree 49 = .ok (.iconst 0, 1) := by decide +kernel
theorem d_Cp_tellTree_50 : dec m_Cp_tellTree 50 = .ok (.invokevirtual 74, 3) := by decide +kernel
theorem d_Cp_tellTree_53 : dec m_Cp_tellTree 53 = .ok (.ireturn, 1) := by decide +kernel
theorem d_Cp_tellTree_54 : dec m_Cp_tellTree 54 = .ok (.aload_n 0, 1) := by decide +kernel
theorem d_Cp_tellTree_55 : dec m_Cp_tellTree 55 = .ok (.invokevirtual 215, 3) := by decide +kernel
theorem d_Cp_tellTree_58 : dec m_Cp_tellTree 58 = .ok (.ireturn, 1) := by decide +kernel
theorem d_Cp_tellTree_59 : dec m_Cp_tellTree 59 = .ok (.aload_n 0, 1) := by decide +kernel
theorem d_Cp_tellTree_60 : dec m_Cp_tellTree 60 = .ok (.invokevirtual 233, 3) := by decide +kernel
theorem d_Cp_tellTree_63 : dec m_Cp_tellTree 63 = .ok (.ireturn, 1) := by decide +kernel
theorem d_Cp_tellTree_64 : dec m_Cp_tellTree 64 = .ok (.aload_n 0, 1) := by decide +kernel
theorem d_Cp_tellTree_65 : dec m_Cp_tellTree 65 = .ok (.invokevirtual 236, 3) := by decide +kernel
theorem d_Cp_tellTree_68 : dec m_Cp_tellTree 68 = .ok (.ireturn, 1) := by decide +kernel
theorem d_Cp_tellTree_69 : dec m_Cp_tellTree 69 = .ok (.aload_n 0, 1) := by decide +kernel
theorem d_Cp_tellTree_70 : dec m_Cp_tellTree 70 = .ok (.invokevirtual 239, 3) := by decide +kernel
theorem d_Cp_tellTree_73 : dec m_Cp_tellTree 73 = .ok (.ireturn, 1) := by decide +kernel
theorem d_Cp_isPosition_0 : dec m_Cp_isPosition 0 = .ok (.iload_n 0, 1) := by decide +kernel
theorem d_Cp_isPosition_1 : dec m_Cp_isPosition 1 = .ok (.ifCond .lt 13, 3) := by decide +kernel
theorem d_Cp_isPosition_4 : dec m_Cp_isPosition 4 = .ok (.iload_n 0, 1) := by decide +kernel
theorem d_Cp_isPosition_5 : dec m_Cp_isPosition 5 = .ok (.bipush 20, 2) := by decide +kernel
theorem d_Cp_isPosition_7 : dec m_Cp_isPosition 7 = .ok (.if_icmp .ge 7, 3) := by decide +kernel
theorem d_Cp_isPosition_10 : dec m_Cp_isPosition 10 = .ok (.iconst 1, 1) := by decide +kernel
theorem d_Cp_isPosition_11 : dec m_Cp_isPosition 11 = .ok (.goto 4, 3) := by decide +kernel
theorem d_Cp_isPosition_14 : dec m_Cp_isPosition 14 = .ok (.iconst 0, 1) := by decide +kernel
theorem d_Cp_isPosition_15 : dec m_Cp_isPosition 15 = .ok (.ireturn, 1) := by decide +kernel
theorem d_Cp_isGuess_0 : dec m_Cp_isGuess 0 = .ok (.iload_n 0, 1) := by decide +kernel
theorem d_Cp_isGuess_1 : dec m_Cp_isGuess 1 = .ok (.iconst 1, 1) := by decide +kernel
theorem d_Cp_isGuess_2 : dec m_Cp_isGuess 2 = .ok (.if_icmp .lt 13, 3) := by decide +kernel
theorem d_Cp_isGuess_5 : dec m_Cp_isGuess 5 = .ok (.iload_n 0, 1) := by decide +kernel
theorem d_Cp_isGuess_6 : dec m_Cp_isGuess 6 = .ok (.bipush 9, 2) := by decide +kernel
theorem d_Cp_isGuess_8 : dec m_Cp_isGuess 8 = .ok (.if_icmp .gt 7, 3) := by decide +kernel
theorem d_Cp_isGuess_11 : dec m_Cp_isGuess 11 = .ok (.iconst 1, 1) := by decide +kernel
theorem d_Cp_isGuess_12 : dec m_Cp_isGuess 12 = .ok (.goto 4, 3) := by decide +kernel
theorem d_Cp_isGuess_15 : dec m_Cp_isGuess 15 = .ok (.iconst 0, 1) := by decide +kernel
theorem d_Cp_isGuess_16 : dec m_Cp_isGuess 16 = .ok (.ireturn, 1) := by decide +kernel
end
section
theorem d_Md_init_0 : dec m_Md_init 0 = .ok (.aload_n 0, 1) := by decide +kernel
theorem d_Md_init_1 : dec m_Md_init 1 = .ok (.invokespecial 1, 3) := by decide +kernel
theorem d_Md_init_4 : dec m_Md_init 4 = .ok (.aload_n 0, 1) := by decide +kernel
theorem d_Md_init_5 : dec m_Md_init 5 = .ok (.sipush 1624, 3) := by decide +kernel
theorem d_Md_init_8 : dec m_Md_init 8 = .ok (.newarray .int, 2) := by decide +kernel
theorem d_Md_init_10 : dec m_Md_init 10 = .ok (.putfield 7, 3) := by decide +kernel
theorem d_Md_init_13 : dec m_Md_init 13 = .ok (.aload_n 0, 1) := by decide +kernel
theorem d_Md_init_14 : dec m_Md_init 14 = .ok (.sipush 6496, 3) := by decide +kernel
theorem d_Md_init_17 : dec m_Md_init 17 = .ok (.newarray .int, 2) := by decide +kernel
theorem d_Md_init_19 : dec m_Md_init 19 = .ok (.putfield 13, 3) := by decide +kernel
theorem d_Md_init_22 : dec m_Md_init 22 = .ok (.aload_n 0, 1) := by decide +kernel
theorem d_Md_init_23 : dec m_Md_init 23 = .ok (.sipush 1624, 3) := by decide +kernel
theorem d_Md_init_26 : dec m_Md_init 26 = .ok (.newarray .int, 2) := by decide +kernel
theorem d_Md_init_28 : dec m_Md_init 28 = .ok (.putfield 16, 3) := by decide +kernel
theorem d_Md_init_31 : dec m_Md_init 31 = .ok (.aload_n 0, 1) := by decide +kernel
theorem d_Md_init_32 : dec m_Md_init 32 = .ok (.bipush 60, 2) := by decide +kernel
theorem d_Md_init_34 : dec m_Md_init 34 = .ok (.newarray .int, 2) := by decide +kernel
theorem d_Md_init_36 : dec m_Md_init 36 = .ok (.putfield 19, 3) := by decide +kernel
theorem d_Md_init_39 : dec m_Md_init 39 = .ok (.aload_n 0, 1) := by decide +kernel
theorem d_Md_init_40 : dec m_Md_init 40 = .ok (.bipush 20, 2) := by decide +kernel
theorem d_Md_init_42 : dec m_Md_init 42 = .ok (.newarray .int, 2) := by decide +kernel
theorem d_Md_init_44 : dec m_Md_init 44 = .ok (.putfield 22, 3) := by decide +kernel
theorem d_Md_init_47 : dec m_Md_init 47 = .ok (.aload_n 0, 1) := by decide +kernel
theorem d_Md_init_48 : dec m_Md_init 48 = .ok (.sipush 200, 3) := by decide +kernel
theorem d_Md_init_51 : dec m_Md_init 51 = .ok (.newarray .boolean, 2) := by decide +kernel
theorem d_Md_init_53 : dec m_Md_init 53 = .ok (.putfield 25, 3) := by decide +kernel
theorem d_Md_init_56 : dec m_Md_init 56 = .ok (.aload_n 0, 1) := by decide +kernel
theorem d_Md_init_57 : dec m_Md_init 57 = .ok (.sipush 192, 3) := by decide +kernel
theorem d_Md_init_60 : dec m_Md_init 60 = .ok (.newarray .int, 2) := by decide +kernel
theorem d_Md_init_62 : dec m_Md_init 62 = .ok (.putfield 29, 3) := by decide +kernel
theorem d_Md_init_65 : dec m_Md_init 65 = .ok (.aload_n 0, 1) := by decide +kernel
theorem d_Md_init_66 : dec m_Md_init 66 = .ok (.iconst 0, 1) := by decide +kernel
theorem d_Md_init_67 : dec m_Md_init 67 = .ok (.putfield 32, 3) := by decide +kernel
theorem d_Md_init_70 : dec m_Md_init 70 = .ok (.iconst 0, 1) := by decide +kernel
theorem d_Md_init_71 : dec m_Md_init 71 = .ok (.istore_n 1, 1) := by decide +kernel
theorem d_Md_init_72 : dec m_Md_init 72 = .ok (.iload_n 1, 1) := by decide +kernel
theorem d_Md_init_73 : dec m_Md_init 73 = .ok (.bipush 20, 2) := by decide +kernel
theorem d_Md_init_75 : dec m_Md_init 75 = .ok (.if_icmp .ge 35, 3) := by decide +kernel
theorem d_Md_init_78 : dec m_Md_init 78 = .ok (.aload_n 0, 1) := by decide +kernel
theorem d_Md_init_79 : dec m_Md_init 79 = .ok (.getfield 7, 3) := by decide +kernel
theorem d_Md_init_82 : dec m_Md_init 82 = .ok (.iconst 3, 1) := by decide +kernel
theorem d_Md_init_83 : dec m_Md_init 83 = .ok (.iconst 5, 1) := by decide +kernel
theorem d_Md_init_84 : dec m_Md_init 84 = .ok (.iload_n 1, 1) := by decide +kernel
theorem d_Md_init_85 : dec m_Md_init 85 = .ok (.imul, 1) := by decide +kernel
theorem d_Md_init_86 : dec m_Md_init 86 = .ok (.iadd, 1) := by decide +kernel
theorem d_Md_init_87 : dec m_Md_init 87 = .ok (.iconst 2, 1) := by decide +kernel
theorem d_Md_init_88 : dec m_Md_init 88 = .ok (.iadd, 1) := by decide +kernel
theorem d_Md_init_89 : dec m_Md_init 89 = .ok (.iconst 1, 1) := by decide +kernel
theorem d_Md_init_90 : dec m_Md_init 90 = .ok (.iastore, 1) := by decide +kernel
theorem d_Md_init_91 : dec m_Md_init 91 = .ok (.aload_n 0, 1) := by decide +kernel
theorem d_Md_init_92 : dec m_Md_init 92 = .ok (.getfield 7, 3) := by decide +kernel
theorem d_Md_init_95 : dec m_Md_init 95 = .ok (.iconst 3, 1) := by decide +kernel
theorem d_Md_init_96 : dec m_Md_init 96 = .ok (.iconst 5, 1) := by decide +kernel
theorem d_Md_init_97 : dec m_Md_init 97 = .ok (.iload_n 1, 1) := by decide +kernel
theorem d_Md_init_98 : dec m_Md_init 98 = .ok (.imul, 1) := by decide +kernel
theorem d_Md_init_99 : dec m_Md_init 99 = .ok (.iadd, 1) := by decide +kernel
theorem d_Md_init_100 : dec m_Md_init 100 = .ok (.iconst 3, 1) := by decide +kernel
theorem d_Md_init_101 : dec m_Md_init 101 = .ok (.iadd, 1) := by decide +kernel
theorem d_Md_init_102 : dec m_Md_init 102 = .ok (.iconst 1, 1) := by decide +kernel
theorem d_Md_init_103 : dec m_Md_init 103 = .ok (.iastore, 1) := by decide +kernel
theorem d_Md_init_104 : dec m_Md_init 104 = .ok (.iinc 1 1, 3) := by decide +kernel
theorem d_Md_init_107 : dec m_Md_init 107 = .ok (.goto (-35), 3) := by decide +kernel
theorem d_Md_init_110 : dec m_Md_init 110 = .ok (.return_, 1) := by decide +kernel
theorem d_Md_in_0 : dec m_Md_in 0 = .ok (.iload_n 0, 1) := by decide +kernel
theorem d_Md_in_1 : dec m_Md_in 1 = .ok (.iload_n 1, 1) := by decide +kernel
theorem d_Md_in_2 : dec m_Md_in 2 = .ok (.if_icmp .lt 12, 3) := by decide +kernel
theorem d_Md_in_5 : dec m_Md_in 5 = .ok (.iload_n 0, 1) := by decide +kernel
theorem d_Md_in_6 : dec m_Md_in 6 = .ok (.iload_n 2, 1) := by decide +kernel
theorem d_Md_in_7 : dec m_Md_in 7 = .ok (.if_icmp .gt 7, 3) := by decide +kernel
theorem d_Md_in_10 : dec m_Md_in 10 = .ok (.iconst 1, 1) := by decide +kernel
theorem d_Md_in_11 : dec m_Md_in 11 = .ok (.goto 4, 3) := by decide +kernel
theorem d_Md_in_14 : dec m_Md_in 14 = .ok (.iconst 0, 1) := by decide +kernel
theorem d_Md_in_15 : dec m_Md_in 15 = .ok (.ireturn, 1) := by decide +kernel
theorem d_Md_isPosition_0 : dec m_Md_isPosition 0 = .ok (.iload_n 0, 1) := by decide +kernel
theorem d_Md_isPosition_1 : dec m_Md_isPosition 1 = .ok (.iconst 0, 1) := by decide +kernel
theorem d_Md_isPosition_2 : dec m_Md_isPosition 2 = .ok (.bipush 19, 2) := by decide +kernel
theorem d_Md_isPosition_4 : dec m_Md_isPosition 4 = .ok (.invokestatic 36, 3) := by decide +kernel
theorem d_Md_isPosition_7 : dec m_Md_isPosition 7 = .ok (.ireturn, 1) := by decide +kernel
theorem d_Md_of_0 : dec m_Md_of 0 = .ok (.aload_n 0, 1) := by decide +kernel
theorem d_Md_of_1 : dec m_Md_of 1 = .ok (.getfield 7, 3) := by decide +kernel
theorem d_Md_of_4 : dec m_Md_of 4 = .ok (.iconst 3, 1) := by decide +kernel
theorem d_Md_of_5 : dec m_Md_of 5 = .ok (.iconst 5, 1) := by decide +kernel
theorem d_Md_of_6 : dec m_Md_of 6 = .ok (.iload_n 1, 1) := by decide +kernel
theorem d_Md_of_7 : dec m_Md_of 7 = .ok (.imul, 1) := by decide +kernel
theorem d_Md_of_8 : dec m_Md_of 8 = .ok (.iadd, 1) := by decide +kernel
theorem d_Md_of_9 : dec m_Md_of 9 = .ok (.iload_n 2, 1) := by decide +kernel
theorem d_Md_of_10 : dec m_Md_of 10 = .ok (.iadd, 1) := by decide +kernel
theorem d_Md_of_11 : dec m_Md_of 11 = .ok (.iaload, 1) := by decide +kernel
theorem d_Md_of_12 : dec m_Md_of 12 = .ok (.ireturn, 1) := by decide +kernel
theorem d_Md_get_0 : dec m_Md_get 0 = .ok (.aload_n 0, 1) := by decide +kernel
theorem d_Md_get_1 : dec m_Md_get 1 = .ok (.getfield 7, 3) := by decide +kernel
theorem d_Md_get_4 : dec m_Md_get 4 = .ok (.sipush 223, 3) := by decide +kernel
theorem d_Md_get_7 : dec m_Md_get 7 = .ok (.bipush 7, 2) := by decide +kernel
theorem d_Md_get_9 : dec m_Md_get 9 = .ok (.iload_n 1, 1) := by decide +kernel
theorem d_Md_get_10 : dec m_Md_get 10 = .ok (.imul, 1) := by decide +kernel
theorem d_Md_get_11 : dec m_Md_get 11 = .ok (.iadd, 1) := by decide +kernel
theorem d_Md_get_12 : dec m_Md_get 12 = .ok (.iload_n 2, 1) := by decide +kernel
theorem d_Md_get_13 : dec m_Md_get 13 = .ok (.iadd, 1) := by decide +kernel
theorem d_Md_get_14 : dec m_Md_get 14 = .ok (.iaload, 1) := by decide +kernel
theorem d_Md_get_15 : dec m_Md_get 15 = .ok (.ireturn, 1) := by decide +kernel
theorem d_Md_lay_0 : dec m_Md_lay 0 = .ok (.aload_n 0, 1) := by decide +kernel
theorem d_Md_lay_1 : dec m_Md_lay 1 = .ok (.getfield 7, 3) := by decide +kernel
theorem d_Md_lay_4 : dec m_Md_lay 4 = .ok (.sipush 223, 3) := by decide +kernel
theorem d_Md_lay_7 : dec m_Md_lay 7 = .ok (.bipush 7, 2) := by decide +kernel
theorem d_Md_lay_9 : dec m_Md_lay 9 = .ok (.iload_n 1, 1) := by decide +kernel
theorem d_Md_lay_10 : dec m_Md_lay 10 = .ok (.imul, 1) := by decide +kernel
theorem d_Md_lay_11 : dec m_Md_lay 11 = .ok (.iadd, 1) := by decide +kernel
theorem d_Md_lay_12 : dec m_Md_lay 12 = .ok (.iload_n 2, 1) := by decide +kernel
theorem d_Md_lay_13 : dec m_Md_lay 13 = .ok (.iadd, 1) := by decide +kernel
theorem d_Md_lay_14 : dec m_Md_lay 14 = .ok (.iload_n 3, 1) := by decide +kernel
theorem d_Md_lay_15 : dec m_Md_lay 15 = .ok (.iastore, 1) := by decide +kernel
theorem d_Md_lay_16 : dec m_Md_lay 16 = .ok (.return_, 1) := by decide +kernel
theorem d_Md_records_0 : dec m_Md_records 0 = .ok (.aload_n 0, 1) := by decide +kernel
theorem d_Md_records_1 : dec m_Md_records 1 = .ok (.getfield 40, 3) := by decide +kernel
theorem d_Md_records_4 : dec m_Md_records 4 = .ok (.iconst 4, 1) := by decide +kernel
theorem d_Md_records_5 : dec m_Md_records 5 = .ok (.if_icmp .ne 44, 3) := by decide +kernel
theorem d_Md_records_8 : dec m_Md_records 8 = .ok (.iconst 0, 1) := by decide +kernel
theorem d_Md_records_9 : dec m_Md_records 9 = .ok (.istore_n 1, 1) := by decide +kernel
theorem d_Md_records_10 : dec m_Md_records 10 = .ok (.iload_n 1, 1) := by decide +kernel
theorem d_Md_records_11 : dec m_Md_records 11 = .ok (.sipush 4872, 3) := by decide +kernel
theorem d_Md_records_14 : dec m_Md_records 14 = .ok (.if_icmp .ge 25, 3) := by decide +kernel
theorem d_Md_records_17 : dec m_Md_records 17 = .ok (.aload_n 0, 1) := by decide +kernel
theorem d_Md_records_18 : dec m_Md_records 18 = .ok (.getfield 13, 3) := by decide +kernel
theorem d_Md_records_21 : dec m_Md_records 21 = .ok (.iload_n 1, 1) := by decide +kernel
theorem d_Md_records_22 : dec m_Md_records 22 = .ok (.aload_n 0, 1) := by decide +kernel
theorem d_Md_records_23 : dec m_Md_records 23 = .ok (.getfield 13, 3) := by decide +kernel
theorem d_Md_records_26 : dec m_Md_records 26 = .ok (.iload_n 1, 1) := by decide +kernel
theorem d_Md_records_27 : dec m_Md_records 27 = .ok (.sipush 1624, 3) := by decide +kernel
theorem d_Md_records_30 : dec m_Md_records 30 = .ok (.iadd, 1) := by decide +kernel
theorem d_Md_records_31 : dec m_Md_records 31 = .ok (.iaload, 1) := by decide +kernel
theorem d_Md_records_32 : dec m_Md_records 32 = .ok (.iastore, 1) := by decide +kernel
theorem d_Md_records_33 : dec m_Md_records 33 = .ok (.iinc 1 1, 3) := by decide +kernel
theorem d_Md_records_36 : dec m_Md_records 36 = .ok (.goto (-26), 3) := by decide +kernel
theorem d_Md_records_39 : dec m_Md_records 39 = .ok (.aload_n 0, 1) := by decide +kernel
theorem d_Md_records_40 : dec m_Md_records 40 = .ok (.dup, 1) := by decide +kernel
theorem d_Md_records_41 : dec m_Md_records 41 = .ok (.getfield 40, 3) := by decide +kernel
theorem d_Md_records_44 : dec m_Md_records 44 = .ok (.iconst 1, 1) := by decide +kernel
theorem d_Md_records_45 : dec m_Md_records 45 = .ok (.isub, 1) := by decide +kernel
theorem d_Md_records_46 : dec m_Md_records 46 = .ok (.putfield 40, 3) := by decide +kernel
theorem d_Md_records_49 : dec m_Md_records 49 = .ok (.iconst 0, 1) := by decide +kernel
theorem d_Md_records_50 : dec m_Md_records 50 = .ok (.istore_n 1, 1) := by decide +kernel
theorem d_Md_records_51 : dec m_Md_records 51 = .ok (.iload_n 1, 1) := by decide +kernel
theorem d_Md_records_52 : dec m_Md_records 52 = .ok (.sipush 1624, 3) := by decide +kernel
theorem d_Md_records_55 : dec m_Md_records 55 = .ok (.if_icmp .ge 30, 3) := by decide +kernel
theorem d_Md_records_58 : dec m_Md_records 58 = .ok (.aload_n 0, 1) := by decide +kernel
theorem d_Md_records_59 : dec m_Md_records 59 = .ok (.getfield 13, 3) := by decide +kernel
theorem d_Md_records_62 : dec m_Md_records 62 = .ok (.sipush 1624, 3) := by decide +kernel
theorem d_Md_records_65 : dec m_Md_records 65 = .ok (.aload_n 0, 1) := by decide +kernel
theorem d_Md_records_66 : dec m_Md_records 66 = .ok (.getfield 40, 3) := by decide +kernel
theorem d_Md_records_69 : dec m_Md_records 69 = .ok (.imul, 1) := by decide +kernel
theorem d_Md_records_70 : dec m_Md_records 70 = .ok (.iload_n 1, 1) := by decide +kernel
theorem d_Md_records_71 : dec m_Md_records 71 = .ok (.iadd, 1) := by decide +kernel
theorem d_Md_records_72 : dec m_Md_records 72 = .ok (.aload_n 0, 1) := by decide +kernel
theorem d_Md_records_73 : dec m_Md_records 73 = .ok (.getfield 7, 3) := by decide +kernel
theorem d_Md_records_76 : dec m_Md_records 76 = .ok (.iload_n 1, 1) := by decide +kernel
theorem d_Md_records_77 : dec m_Md_records 77 = .ok (.iaload, 1) := by decide +kernel
theorem d_Md_records_78 : dec m_Md_records 78 = .ok (.iastore, 1) := by decide +kernel
theorem d_Md_records_79 : dec m_Md_records 79 = .ok (.iinc 1 1, 3) := by decide +kernel
theorem d_Md_records_82 : dec m_Md_records 82 = .ok (.goto (-31), 3) := by decide +kernel
theorem d_Md_records_85 : dec m_Md_records 85 = .ok (.aload_n 0, 1) := by decide +kernel
theorem d_Md_records_86 : dec m_Md_records 86 = .ok (.dup, 1) := by decide +kernel
theorem d_Md_records_87 : dec m_Md_records 87 = .ok (.getfield 40, 3) := by decide +kernel
theorem d_Md_records_90 : dec m_Md_records 90 = .ok (.iconst 1, 1) := by decide +kernel
theorem d_Md_records_91 : dec m_Md_records 91 = .ok (.iadd, 1) := by decide +kernel
theorem d_Md_records_92 : dec m_Md_records 92 = .ok (.putfield 40, 3) := by decide +kernel
theorem d_Md_records_95 : dec m_Md_records 95 = .ok (.return_, 1) := by decide +kernel
theorem d_Md_movesOf_0 : dec m_Md_movesOf 0 = .ok (.iconst 0, 1) := by decide +kernel
theorem d_Md_movesOf_1 : dec m_Md_movesOf 1 = .ok (.istore_n 2, 1) := by decide +kernel
theorem d_Md_movesOf_2 : dec m_Md_movesOf 2 = .ok (.iconst 0, 1) := by decide +kernel
theorem d_Md_movesOf_3 : dec m_Md_movesOf 3 = .ok (.istore_n 3, 1) := by decide +kernel
theorem d_Md_movesOf_4 : dec m_Md_movesOf 4 = .ok (.iload_n 3, 1) := by decide +kernel
theorem d_Md_movesOf_5 : dec m_Md_movesOf 5 = .ok (.aload_n 0, 1) := by decide +kernel
theorem d_Md_movesOf_6 : dec m_Md_movesOf 6 = .ok (.getfield 7, 3) := by decide +kernel
theorem d_Md_movesOf_9 : dec m_Md_movesOf 9 = .ok (.iconst 0, 1) := by decide +kernel
theorem d_Md_movesOf_10 : dec m_Md_movesOf 10 = .ok (.iaload, 1) := by decide +kernel
theorem d_Md_movesOf_11 : dec m_Md_movesOf 11 = .ok (.if_icmp .ge 32, 3) := by decide +kernel
theorem d_Md_movesOf_14 : dec m_Md_movesOf 14 = .ok (.iload_n 2, 1) := by decide +kernel
theorem d_Md_movesOf_15 : dec m_Md_movesOf 15 = .ok (.aload_n 0, 1) := by decide +kernel
theorem d_Md_movesOf_16 : dec m_Md_movesOf 16 = .ok (.getfield 7, 3) := by decide +kernel
theorem d_Md_movesOf_19 : dec m_Md_movesOf 19 = .ok (.bipush 103, 2) := by decide +kernel
theorem d_Md_movesOf_21 : dec m_Md_movesOf 21 = .ok (.iconst 2, 1) := by decide +kernel
theorem d_Md_movesOf_22 : dec m_Md_movesOf 22 = .ok (.iload_n 3, 1) := by decide +kernel
theorem d_Md_movesOf_23 : dec m_Md_movesOf 23 = .ok (.imul, 1) := by decide +kernel
theorem d_Md_movesOf_24 : dec m_Md_movesOf 24 = .ok (.iadd, 1) := by decide +kernel
theorem d_Md_movesOf_25 : dec m_Md_movesOf 25 = .ok (.iaload, 1) := by decide +kernel
theorem d_Md_movesOf_26 : dec m_Md_movesOf 26 = .ok (.iload_n 1, 1) := by decide +kernel
theorem d_Md_movesOf_27 : dec m_Md_movesOf 27 = .ok (.if_icmp .ne 7, 3) := by decide +kernel
theorem d_Md_movesOf_30 : dec m_Md_movesOf 30 = .ok (.iconst 1, 1) := by decide +kernel
theorem d_Md_movesOf_31 : dec m_Md_movesOf 31 = .ok (.goto 4, 3) := by decide +kernel
theorem d_Md_movesOf_34 : dec m_Md_movesOf 34 = .ok (.iconst 0, 1) := by decide +kernel
theorem d_Md_movesOf_35 : dec m_Md_movesOf 35 = .ok (.iadd, 1) := by decide +kernel
theorem d_Md_movesOf_36 : dec m_Md_movesOf 36 = .ok (.istore_n 2, 1) := by decide +kernel
theorem d_Md_movesOf_37 : dec m_Md_movesOf 37 = .ok (.iinc 3 1, 3) := by decide +kernel
theorem d_Md_movesOf_40 : dec m_Md_movesOf 40 = .ok (.goto (-36), 3) := by decide +kernel
theorem d_Md_movesOf_43 : dec m_Md_movesOf 43 = .ok (.iload_n 2, 1) := by decide +kernel
theorem d_Md_movesOf_44 : dec m_Md_movesOf 44 = .ok (.ireturn, 1) := by decide +kernel
theorem d_Md_moveAt_0 : dec m_Md_moveAt 0 = .ok (.iload_n 2, 1) := by decide +kernel
theorem d_Md_moveAt_1 : dec m_Md_moveAt 1 = .ok (.istore_n 3, 1) := by decide +kernel
theorem d_Md_moveAt_2 : dec m_Md_moveAt 2 = .ok (.iconst 0, 1) := by decide +kernel
theorem d_Md_moveAt_3 : dec m_Md_moveAt 3 = .ok (.istore 4, 2) := by decide +kernel
theorem d_Md_moveAt_5 : dec m_Md_moveAt 5 = .ok (.iload 4, 2) := by decide +kernel
theorem d_Md_moveAt_7 : dec m_Md_moveAt 7 = .ok (.aload_n 0, 1) := by decide +kernel
theorem d_Md_moveAt_8 : dec m_Md_moveAt 8 = .ok (.getfield 7, 3) := by decide +kernel
theorem d_Md_moveAt_11 : dec m_Md_moveAt 11 = .ok (.iconst 0, 1) := by decide +kernel
theorem d_Md_moveAt_12 : dec m_Md_moveAt 12 = .ok (.iaload, 1) := by decide +kernel
theorem d_Md_moveAt_13 : dec m_Md_moveAt 13 = .ok (.if_icmp .ge 52, 3) := by decide +kernel
theorem d_Md_moveAt_16 : dec m_Md_moveAt 16 = .ok (.iload_n 3, 1) := by decide +kernel
theorem d_Md_moveAt_17 : dec m_Md_moveAt 17 = .ok (.aload_n 0, 1) := by decide +kernel
theorem d_Md_moveAt_18 : dec m_Md_moveAt 18 = .ok (.getfield 7, 3) := by decide +kernel
theorem d_Md_moveAt_21 : dec m_Md_moveAt 21 = .ok (.bipush 103, 2) := by decide +kernel
theorem d_Md_moveAt_23 : dec m_Md_moveAt 23 = .ok (.iconst 2, 1) := by decide +kernel
theorem d_Md_moveAt_24 : dec m_Md_moveAt 24 = .ok (.iload 4, 2) := by decide +kernel
theorem d_Md_moveAt_26 : dec m_Md_moveAt 26 = .ok (.imul, 1) := by decide +kernel
theorem d_Md_moveAt_27 : dec m_Md_moveAt 27 = .ok (.iadd, 1) := by decide +kernel
theorem d_Md_moveAt_28 : dec m_Md_moveAt 28 = .ok (.iaload, 1) := by decide +kernel
theorem d_Md_moveAt_29 : dec m_Md_moveAt 29 = .ok (.iload_n 1, 1) := by decide +kernel
theorem d_Md_moveAt_30 : dec m_Md_moveAt 30 = .ok (.if_icmp .ne 7, 3) := by decide +kernel
theorem d_Md_moveAt_33 : dec m_Md_moveAt 33 = .ok (.iconst 1, 1) := by decide +kernel
theorem d_Md_moveAt_34 : dec m_Md_moveAt 34 = .ok (.goto 4, 3) := by decide +kernel
theorem d_Md_moveAt_37 : dec m_Md_moveAt 37 = .ok (.iconst 0, 1) := by decide +kernel
theorem d_Md_moveAt_38 : dec m_Md_moveAt 38 = .ok (.isub, 1) := by decide +kernel
theorem d_Md_moveAt_39 : dec m_Md_moveAt 39 = .ok (.istore_n 3, 1) := by decide +kernel
theorem d_Md_moveAt_40 : dec m_Md_moveAt 40 = .ok (.iload_n 3, 1) := by decide +kernel
theorem d_Md_moveAt_41 : dec m_Md_moveAt 41 = .ok (.ifCond .ge 18, 3) := by decide +kernel
theorem d_Md_moveAt_44 : dec m_Md_moveAt 44 = .ok (.aload_n 0, 1) := by decide +kernel
theorem d_Md_moveAt_45 : dec m_Md_moveAt 45 = .ok (.getfield 7, 3) := by decide +kernel
theorem d_Md_moveAt_48 : dec m_Md_moveAt 48 = .ok (.bipush 103, 2) := by decide +kernel
theorem d_Md_moveAt_50 : dec m_Md_moveAt 50 = .ok (.iconst 2, 1) := by decide +kernel
theorem d_Md_moveAt_51 : dec m_Md_moveAt 51 = .ok (.iload 4, 2) := by decide +kernel
theorem d_Md_moveAt_53 : dec m_Md_moveAt 53 = .ok (.imul, 1) := by decide +kernel
theorem d_Md_moveAt_54 : dec m_Md_moveAt 54 = .ok (.iadd, 1) := by decide +kernel
theorem d_Md_moveAt_55 : dec m_Md_moveAt 55 = .ok (.iconst 1, 1) := by decide +kernel
theorem d_Md_moveAt_56 : dec m_Md_moveAt 56 = .ok (.iadd, 1) := by decide +kernel
theorem d_Md_moveAt_57 : dec m_Md_moveAt 57 = .ok (.iaload, 1) := by decide +kernel
theorem d_Md_moveAt_58 : dec m_Md_moveAt 58 = .ok (.ireturn, 1) := by decide +kernel
theorem d_Md_moveAt_59 : dec m_Md_moveAt 59 = .ok (.iinc 4 1, 3) := by decide +kernel
theorem d_Md_moveAt_62 : dec m_Md_moveAt 62 = .ok (.goto (-57), 3) := by decide +kernel
theorem d_Md_moveAt_65 : dec m_Md_moveAt 65 = .ok (.bipush (-5), 2) := by decide +kernel
theorem d_Md_moveAt_67 : dec m_Md_moveAt 67 = .ok (.ireturn, 1) := by decide +kernel
theorem d_Md_placeOf_0 : dec m_Md_placeOf 0 = .ok (.iconst 0, 1) := by decide +kernel
theorem d_Md_placeOf_1 : dec m_Md_placeOf 1 = .ok (.istore_n 3, 1) := by decide +kernel
theorem d_Md_placeOf_2 : dec m_Md_placeOf 2 = .ok (.iload_n 3, 1) := by decide +kernel
theorem d_Md_placeOf_3 : dec m_Md_placeOf 3 = .ok (.aload_n 0, 1) := by decide +kernel
theorem d_Md_placeOf_4 : dec m_Md_placeOf 4 = .ok (.getfield 7, 3) := by decide +kernel
theorem d_Md_placeOf_7 : dec m_Md_placeOf 7 = .ok (.iconst 0, 1) := by decide +kernel
theorem d_Md_placeOf_8 : dec m_Md_placeOf 8 = .ok (.iaload, 1) := by decide +kernel
theorem d_Md_placeOf_9 : dec m_Md_placeOf 9 = .ok (.if_icmp .ge 43, 3) := by decide +kernel
theorem d_Md_placeOf_12 : dec m_Md_placeOf 12 = .ok (.aload_n 0, 1) := by decide +kernel
theorem d_Md_placeOf_13 : dec m_Md_placeOf 13 = .ok (.getfield 7, 3) := by decide +kernel
theorem d_Md_placeOf_16 : dec m_Md_placeOf 16 = .ok (.bipush 103, 2) := by decide +kernel
theorem d_Md_placeOf_18 : dec m_Md_placeOf 18 = .ok (.iconst 2, 1) := by decide +kernel
theorem d_Md_placeOf_19 : dec m_Md_placeOf 19 = .ok (.iload_n 3, 1) := by decide +kernel
theorem d_Md_placeOf_20 : dec m_Md_placeOf 20 = .ok (.imul, 1) := by decide +kernel
theorem d_Md_placeOf_21 : dec m_Md_placeOf 21 = .ok (.iadd, 1) := by decide +kernel
theorem d_Md_placeOf_22 : dec m_Md_placeOf 22 = .ok (.iaload, 1) := by decide +kernel
theorem d_Md_placeOf_23 : dec m_Md_placeOf 23 = .ok (.iload_n 1, 1) := by decide +kernel
theorem d_Md_placeOf_24 : dec m_Md_placeOf 24 = .ok (.if_icmp .ne 22, 3) := by decide +kernel
theorem d_Md_placeOf_27 : dec m_Md_placeOf 27 = .ok (.aload_n 0, 1) := by decide +kernel
theorem d_Md_placeOf_28 : dec m_Md_placeOf 28 = .ok (.getfield 7, 3) := by decide +kernel
theorem d_Md_placeOf_31 : dec m_Md_placeOf 31 = .ok (.bipush 103, 2) := by decide +kernel
theorem d_Md_placeOf_33 : dec m_Md_placeOf 33 = .ok (.iconst 2, 1) := by decide +kernel
theorem d_Md_placeOf_34 : dec m_Md_placeOf 34 = .ok (.iload_n 3, 1) := by decide +kernel
theorem d_Md_placeOf_35 : dec m_Md_placeOf 35 = .ok (.imul, 1) := by decide +kernel
theorem d_Md_placeOf_36 : dec m_Md_placeOf 36 = .ok (.iadd, 1) := by decide +kernel
theorem d_Md_placeOf_37 : dec m_Md_placeOf 37 = .ok (.iconst 1, 1) := by decide +kernel
theorem d_Md_placeOf_38 : dec m_Md_placeOf 38 = .ok (.iadd, 1) := by decide +kernel
theorem d_Md_placeOf_39 : dec m_Md_placeOf 39 = .ok (.iaload, 1) := by decide +kernel
theorem d_Md_placeOf_40 : dec m_Md_placeOf 40 = .ok (.iload_n 2, 1) := by decide +kernel
theorem d_Md_placeOf_41 : dec m_Md_placeOf 41 = .ok (.if_icmp .ne 5, 3) := by decide +kernel
theorem d_Md_placeOf_44 : dec m_Md_placeOf 44 = .ok (.iload_n 3, 1) := by decide +kernel
theorem d_Md_placeOf_45 : dec m_Md_placeOf 45 = .ok (.ireturn, 1) := by decide +kernel
theorem d_Md_placeOf_46 : dec m_Md_placeOf 46 = .ok (.iinc 3 1, 3) := by decide +kernel
theorem d_Md_placeOf_49 : dec m_Md_placeOf 49 = .ok (.goto (-47), 3) := by decide +kernel
theorem d_Md_placeOf_52 : dec m_Md_placeOf 52 = .ok (.bipush (-5), 2) := by decide +kernel
theorem d_Md_placeOf_54 : dec m_Md_placeOf 54 = .ok (.ireturn, 1) := by decide +kernel
theorem d_Md_isEnd_0 : dec m_Md_isEnd 0 = .ok (.aload_n 0, 1) := by decide +kernel
theorem d_Md_isEnd_1 : dec m_Md_isEnd 1 = .ok (.iload_n 1, 1) := by decide +kernel
theorem d_Md_isEnd_2 : dec m_Md_isEnd 2 = .ok (.iconst 1, 1) := by decide +kernel
theorem d_Md_isEnd_3 : dec m_Md_isEnd 3 = .ok (.invokevirtual 43, 3) := by decide +kernel
theorem d_Md_isEnd_6 : dec m_Md_isEnd 6 = .ok (.ifCond .ne 11, 3) := by decide +kernel
theorem d_Md_isEnd_9 : dec m_Md_isEnd 9 = .ok (.aload_n 0, 1) := by decide +kernel
theorem d_Md_isEnd_10 : dec m_Md_isEnd 10 = .ok (.iload_n 1, 1) := by decide +kernel
theorem d_Md_isEnd_11 : dec m_Md_isEnd 11 = .ok (.invokevirtual 47, 3) := by decide +kernel
theorem d_Md_isEnd_14 : dec m_Md_isEnd 14 = .ok (.ifCond .ne 7, 3) := by decide +kernel
theorem d_Md_isEnd_17 : dec m_Md_isEnd 17 = .ok (.iconst 1, 1) := by decide +kernel
theorem d_Md_isEnd_18 : dec m_Md_isEnd 18 = .ok (.goto 4, 3) := by decide +kernel
theorem d_Md_isEnd_21 : dec m_Md_isEnd 21 = .ok (.iconst 0, 1) := by decide +kernel
theorem d_Md_isEnd_22 : dec m_Md_isEnd 22 = .ok (.ireturn, 1) := by decide +kernel
theorem d_Md_noTree_0 : dec m_Md_noTree 0 = .ok (.sipush 223, 3) := by decide +kernel
theorem d_Md_noTree_3 : dec m_Md_noTree 3 = .ok (.istore_n 1, 1) := by decide +kernel
theorem d_Md_noTree_4 : dec m_Md_noTree 4 = .ok (.iload_n 1, 1) := by decide +kernel
theorem d_Md_noTree_5 : dec m_Md_noTree 5 = .ok (.sipush 1624, 3) := by decide +kernel
theorem d_Md_noTree_8 : dec m_Md_noTree 8 = .ok (.if_icmp .ge 16, 3) := by decide +kernel
theorem d_Md_noTree_11 : dec m_Md_noTree 11 = .ok (.aload_n 0, 1) := by decide +kernel
theorem d_Md_noTree_12 : dec m_Md_noTree 12 = .ok (.getfield 7, 3) := by decide +kernel
theorem d_Md_noTree_15 : dec m_Md_noTree 15 = .ok (.iload_n 1, 1) := by decide +kernel
theorem d_Md_noTree_16 : dec m_Md_noTree 16 = .ok (.iconst 0, 1) := by decide +kernel
theorem d_Md_noTree_17 : dec m_Md_noTree 17 = .ok (.iastore, 1) := by decide +kernel
theorem d_Md_noTree_18 : dec m_Md_noTree 18 = .ok (.iinc 1 1, 3) := by decide +kernel
theorem d_Md_noTree_21 : dec m_Md_noTree 21 = .ok (.goto (-17), 3) := by decide +kernel
theorem d_Md_noTree_24 : dec m_Md_noTree 24 = .ok (.aload_n 0, 1) := by decide +kernel
theorem d_Md_noTree_25 : dec m_Md_noTree 25 = .ok (.getfield 7, 3) := by decide +kernel
theorem d_Md_noTree_28 : dec m_Md_noTree 28 = .ok (.iconst 1, 1) := by decide +kernel
theorem d_Md_noTree_29 : dec m_Md_noTree 29 = .ok (.iconst 0, 1) := by decide +kernel
theorem d_Md_noTree_30 : dec m_Md_noTree 30 = .ok (.iastore, 1) := by decide +kernel
theorem d_Md_noTree_31 : dec m_Md_noTree 31 = .ok (.aload_n 0, 1) := by decide +kernel
theorem d_Md_noTree_32 : dec m_Md_noTree 32 = .ok (.getfield 7, 3) := by decide +kernel
theorem d_Md_noTree_35 : dec m_Md_noTree 35 = .ok (.iconst 2, 1) := by decide +kernel
theorem d_Md_noTree_36 : dec m_Md_noTree 36 = .ok (.iconst 0, 1) := by decide +kernel
theorem d_Md_noTree_37 : dec m_Md_noTree 37 = .ok (.iastore, 1) := by decide +kernel
theorem d_Md_noTree_38 : dec m_Md_noTree 38 = .ok (.return_, 1) := by decide +kernel
theorem d_Md_setPosition_0 : dec m_Md_setPosition 0 = .ok (.aload_n 0, 1) := by decide +kernel
theorem d_Md_setPosition_1 : dec m_Md_setPosition 1 = .ok (.iconst 0, 1) := by decide +kernel
theorem d_Md_setPosition_2 : dec m_Md_setPosition 2 = .ok (.putfield 32, 3) := by decide +kernel
theorem d_Md_setPosition_5 : dec m_Md_setPosition 5 = .ok (.iload_n 1, 1) := by decide +kernel
theorem d_Md_setPosition_6 : dec m_Md_setPosition 6 = .ok (.invokestatic 51, 3) := by decide +kernel
theorem d_Md_setPosition_9 : dec m_Md_setPosition 9 = .ok (.ifCond .ne 5, 3) := by decide +kernel
theorem d_Md_setPosition_12 : dec m_Md_setPosition 12 = .ok (.iconst (-1), 1) := by decide +kernel
theorem d_Md_setPosition_13 : dec m_Md_setPosition 13 = .ok (.ireturn, 1) := by decide +kernel
theorem d_Md_setPosition_14 : dec m_Md_setPosition 14 = .ok (.iload_n 2, 1) := by decide +kernel
theorem d_Md_setPosition_15 : dec m_Md_setPosition 15 = .ok (.iconst 0, 1) := by decide +kernel
theorem d_Md_setPosition_16 : dec m_Md_setPosition 16 = .ok (.iconst 1, 1) := by decide +kernel
theorem d_Md_setPosition_17 : dec m_Md_setPosition 17 = .ok (.invokestatic 36, 3) := by decide +kernel
theorem d_Md_setPosition_20 : dec m_Md_setPosition 20 = .ok (.ifCond .eq 12, 3) := by decide +kernel
theorem d_Md_setPosition_23 : dec m_Md_setPosition 23 = .ok (.iload_n 3, 1) := by decide +kernel
theorem d_Md_setPosition_24 : dec m_Md_setPosition 24 = .ok (.iconst 0, 1) := by decide +kernel
theorem d_Md_setPosition_25 : dec m_Md_setPosition 25 = .ok (.iconst 2, 1) := by decide +kernel
theorem d_Md_setPosition_26 : dec m_Md_setPosition 26 = .ok (.invokestatic 36, 3) := by decide +kernel
theorem d_Md_setPosition_29 : dec m_Md_setPosition 29 = .ok (.ifCond .ne 6, 3) := by decide +kernel
theorem d_Md_setPosition_32 : dec m_Md_setPosition 32 = .ok (.bipush (-2), 2) := by decide +kernel
theorem d_Md_setPosition_34 : dec m_Md_setPosition 34 = .ok (.ireturn, 1) := by decide +kernel
theorem d_Md_setPosition_35 : dec m_Md_setPosition 35 = .ok (.aload_n 0, 1) := by decide +kernel
theorem d_Md_setPosition_36 : dec m_Md_setPosition 36 = .ok (.iload_n 1, 1) := by decide +kernel
theorem d_Md_setPosition_37 : dec m_Md_setPosition 37 = .ok (.iconst 1, 1) := by decide +kernel
theorem d_Md_setPosition_38 : dec m_Md_setPosition 38 = .ok (.invokevirtual 43, 3) := by decide +kernel
theorem d_Md_setPosition_41 : dec m_Md_setPosition 41 = .ok (.istore 4, 2) := by decide +kernel
theorem d_Md_setPosition_43 : dec m_Md_setPosition 43 = .ok (.aload_n 0, 1) := by decide +kernel
theorem d_Md_setPosition_44 : dec m_Md_setPosition 44 = .ok (.iload_n 1, 1) := by decide +kernel
theorem d_Md_setPosition_45 : dec m_Md_setPosition 45 = .ok (.iconst 0, 1) := by decide +kernel
theorem d_Md_setPosition_46 : dec m_Md_setPosition 46 = .ok (.invokevirtual 43, 3) := by decide +kernel
theorem d_Md_setPosition_49 : dec m_Md_setPosition 49 = .ok (.iload_n 2, 1) := by decide +kernel
theorem d_Md_setPosition_50 : dec m_Md_setPosition 50 = .ok (.if_icmp .ne 12, 3) := by decide +kernel
theorem d_Md_setPosition_53 : dec m_Md_setPosition 53 = .ok (.iload 4, 2) := by decide +kernel
theorem d_Md_setPosition_55 : dec m_Md_setPosition 55 = .ok (.iload_n 3, 1) := by decide +kernel
theorem d_Md_setPosition_56 : dec m_Md_setPosition 56 = .ok (.if_icmp .ne 6, 3) := by decide +kernel
theorem d_Md_setPosition_59 : dec m_Md_setPosition 59 = .ok (.bipush (-5), 2) := by decide +kernel
theorem d_Md_setPosition_61 : dec m_Md_setPosition 61 = .ok (.ireturn, 1) := by decide +kernel
theorem d_Md_setPosition_62 : dec m_Md_setPosition 62 = .ok (.aload_n 0, 1) := by decide +kernel
theorem d_Md_setPosition_63 : dec m_Md_setPosition 63 = .ok (.invokevirtual 55, 3) := by decide +kernel
theorem d_Md_setPosition_66 : dec m_Md_setPosition 66 = .ok (.aload_n 0, 1) := by decide +kernel
theorem d_Md_setPosition_67 : dec m_Md_setPosition 67 = .ok (.getfield 7, 3) := by decide +kernel
theorem d_Md_setPosition_70 : dec m_Md_setPosition 70 = .ok (.iconst 3, 1) := by decide +kernel
theorem d_Md_setPosition_71 : dec m_Md_setPosition 71 = .ok (.iconst 5, 1) := by decide +kernel
theorem d_Md_setPosition_72 : dec m_Md_setPosition 72 = .ok (.iload_n 1, 1) := by decide +kernel
theorem d_Md_setPosition_73 : dec m_Md_setPosition 73 = .ok (.imul, 1) := by decide +kernel
theorem d_Md_setPosition_74 : dec m_Md_setPosition 74 = .ok (.iadd, 1) := by decide +kernel
theorem d_Md_setPosition_75 : dec m_Md_setPosition 75 = .ok (.iconst 0, 1) := by decide +kernel
theorem d_Md_setPosition_76 : dec m_Md_setPosition 76 = .ok (.iadd, 1) := by decide +kernel
theorem d_Md_setPosition_77 : dec m_Md_setPosition 77 = .ok (.iload_n 2, 1) := by decide +kernel
theorem d_Md_setPosition_78 : dec m_Md_setPosition 78 = .ok (.iastore, 1) := by decide +kernel
theorem d_Md_setPosition_79 : dec m_Md_setPosition 79 = .ok (.aload_n 0, 1) := by decide +kernel
theorem d_Md_setPosition_80 : dec m_Md_setPosition 80 = .ok (.getfield 7, 3) := by decide +kernel
theorem d_Md_setPosition_83 : dec m_Md_setPosition 83 = .ok (.iconst 3, 1) := by decide +kernel
theorem d_Md_setPosition_84 : dec m_Md_setPosition 84 = .ok (.iconst 5, 1) := by decide +kernel
theorem d_Md_setPosition_85 : dec m_Md_setPosition 85 = .ok (.iload_n 1, 1) := by decide +kernel
theorem d_Md_setPosition_86 : dec m_Md_setPosition 86 = .ok (.imul, 1) := by decide +kernel
theorem d_Md_setPosition_87 : dec m_Md_setPosition 87 = .ok (.iadd, 1) := by decide +kernel
theorem d_Md_setPosition_88 : dec m_Md_setPosition 88 = .ok (.iconst 1, 1) := by decide +kernel
theorem d_Md_setPosition_89 : dec m_Md_setPosition 89 = .ok (.iadd, 1) := by decide +kernel
theorem d_Md_setPosition_90 : dec m_Md_setPosition 90 = .ok (.iload_n 3, 1) := by decide +kernel
theorem d_Md_setPosition_91 : dec m_Md_setPosition 91 = .ok (.iastore, 1) := by decide +kernel
theorem d_Md_setPosition_92 : dec m_Md_setPosition 92 = .ok (.aload_n 0, 1) := by decide +kernel
theorem d_Md_setPosition_93 : dec m_Md_setPosition 93 = .ok (.invokevirtual 58, 3) := by decide +kernel
theorem d_Md_setPosition_96 : dec m_Md_setPosition 96 = .ok (.iload 4, 2) := by decide +kernel
theorem d_Md_setPosition_98 : dec m_Md_setPosition 98 = .ok (.ireturn, 1) := by decide +kernel
theorem d_Md_guess_0 : dec m_Md_guess 0 = .ok (.aload_n 0, 1) := by decide +kernel
theorem d_Md_guess_1 : dec m_Md_guess 1 = .ok (.iconst 0, 1) := by decide +kernel
theorem d_Md_guess_2 : dec m_Md_guess 2 = .ok (.putfield 32, 3) := by decide +kernel
theorem d_Md_guess_5 : dec m_Md_guess 5 = .ok (.iload_n 1, 1) := by decide +kernel
theorem d_Md_guess_6 : dec m_Md_guess 6 = .ok (.invokestatic 51, 3) := by decide +kernel
theorem d_Md_guess_9 : dec m_Md_guess 9 = .ok (.ifCond .ne 5, 3) := by decide +kernel
theorem d_Md_guess_12 : dec m_Md_guess 12 = .ok (.iconst (-1), 1) := by decide +kernel
theorem d_Md_guess_13 : dec m_Md_guess 13 = .ok (.ireturn, 1) := by decide +kernel
theorem d_Md_guess_14 : dec m_Md_guess 14 = .ok (.iload_n 2, 1) := by decide +kernel
theorem d_Md_guess_15 : dec m_Md_guess 15 = .ok (.iconst 1, 1) := by decide +kernel
theorem d_Md_guess_16 : dec m_Md_guess 16 = .ok (.bipush 9, 2) := by decide +kernel
theorem d_Md_guess_18 : dec m_Md_guess 18 = .ok (.invokestatic 36, 3) := by decide +kernel
theorem d_Md_guess_21 : dec m_Md_guess 21 = .ok (.ifCond .eq 13, 3) := by decide +kernel
theorem d_Md_guess_24 : dec m_Md_guess 24 = .ok (.iload_n 3, 1) := by decide +kernel
theorem d_Md_guess_25 : dec m_Md_guess 25 = .ok (.iconst 1, 1) := by decide +kernel
theorem d_Md_guess_26 : dec m_Md_guess 26 = .ok (.bipush 9, 2) := by decide +kernel
theorem d_Md_guess_28 : dec m_Md_guess 28 = .ok (.invokestatic 36, 3) := by decide +kernel
theorem d_Md_guess_31 : dec m_Md_guess 31 = .ok (.ifCond .ne 6, 3) := by decide +kernel
theorem d_Md_guess_34 : dec m_Md_guess 34 = .ok (.bipush (-2), 2) := by decide +kernel
theorem d_Md_guess_36 : dec m_Md_guess 36 = .ok (.ireturn, 1) := by decide +kernel
theorem d_Md_guess_37 : dec m_Md_guess 37 = .ok (.aload_n 0, 1) := by decide +kernel
theorem d_Md_guess_38 : dec m_Md_guess 38 = .ok (.iload_n 1, 1) := by decide +kernel
theorem d_Md_guess_39 : dec m_Md_guess 39 = .ok (.iconst 2, 1) := by decide +kernel
theorem d_Md_guess_40 : dec m_Md_guess 40 = .ok (.invokevirtual 43, 3) := by decide +kernel
theorem d_Md_guess_43 : dec m_Md_guess 43 = .ok (.istore 4, 2) := by decide +kernel
theorem d_Md_guess_45 : dec m_Md_guess 45 = .ok (.iload 4, 2) := by decide +kernel
theorem d_Md_guess_47 : dec m_Md_guess 47 = .ok (.iload_n 2, 1) := by decide +kernel
theorem d_Md_guess_48 : dec m_Md_guess 48 = .ok (.if_icmp .ne 16, 3) := by decide +kernel
theorem d_Md_guess_51 : dec m_Md_guess 51 = .ok (.aload_n 0, 1) := by decide +kernel
theorem d_Md_guess_52 : dec m_Md_guess 52 = .ok (.iload_n 1, 1) := by decide +kernel
theorem d_Md_guess_53 : dec m_Md_guess 53 = .ok (.iconst 3, 1) := by decide +kernel
theorem d_Md_guess_54 : dec m_Md_guess 54 = .ok (.invokevirtual 43, 3) := by decide +kernel
theorem d_Md_guess_57 : dec m_Md_guess 57 = .ok (.iload_n 3, 1) := by decide +kernel
theorem d_Md_guess_58 : dec m_Md_guess 58 = .ok (.if_icmp .ne 6, 3) := by decide +kernel
theorem d_Md_guess_61 : dec m_Md_guess 61 = .ok (.bipush (-5), 2) := by decide +kernel
theorem d_Md_guess_63 : dec m_Md_guess 63 = .ok (.ireturn, 1) := by decide +kernel
theorem d_Md_guess_64 : dec m_Md_guess 64 = .ok (.aload_n 0, 1) := by decide +kernel
theorem d_Md_guess_65 : dec m_Md_guess 65 = .ok (.invokevirtual 55, 3) := by decide +kernel
theorem d_Md_guess_68 : dec m_Md_guess 68 = .ok (.aload_n 0, 1) := by decide +kernel
theorem d_Md_guess_69 : dec m_Md_guess 69 = .ok (.getfield 7, 3) := by decide +kernel
theorem d_Md_guess_72 : dec m_Md_guess 72 = .ok (.iconst 3, 1) := by decide +kernel
theorem d_Md_guess_73 : dec m_Md_guess 73 = .ok (.iconst 5, 1) := by decide +kernel
theorem d_Md_guess_74 : dec m_Md_guess 74 = .ok (.iload_n 1, 1) := by decide +kernel
theorem d_Md_guess_75 : dec m_Md_guess 75 = .ok (.imul, 1) := by decide +kernel
theorem d_Md_guess_76 : dec m_Md_guess 76 = .ok (.iadd, 1) := by decide +kernel
theorem d_Md_guess_77 : dec m_Md_guess 77 = .ok (.iconst 2, 1) := by decide +kernel
theorem d_Md_guess_78 : dec m_Md_guess 78 = .ok (.iadd, 1) := by decide +kernel
theorem d_Md_guess_79 : dec m_Md_guess 79 = .ok (.iload_n 2, 1) := by decide +kernel
theorem d_Md_guess_80 : dec m_Md_guess 80 = .ok (.iastore, 1) := by decide +kernel
theorem d_Md_guess_81 : dec m_Md_guess 81 = .ok (.aload_n 0, 1) := by decide +kernel
theorem d_Md_guess_82 : dec m_Md_guess 82 = .ok (.getfield 7, 3) := by decide +kernel
theorem d_Md_guess_85 : dec m_Md_guess 85 = .ok (.iconst 3, 1) := by decide +kernel
theorem d_Md_guess_86 : dec m_Md_guess 86 = .ok (.iconst 5, 1) := by decide +kernel
theorem d_Md_guess_87 : dec m_Md_guess 87 = .ok (.iload_n 1, 1) := by decide +kernel
theorem d_Md_guess_88 : dec m_Md_guess 88 = .ok (.imul, 1) := by decide +kernel
theorem d_Md_guess_89 : dec m_Md_guess 89 = .ok (.iadd, 1) := by decide +kernel
theorem d_Md_guess_90 : dec m_Md_guess 90 = .ok (.iconst 3, 1) := by decide +kernel
theorem d_Md_guess_91 : dec m_Md_guess 91 = .ok (.iadd, 1) := by decide +kernel
theorem d_Md_guess_92 : dec m_Md_guess 92 = .ok (.iload_n 3, 1) := by decide +kernel
theorem d_Md_guess_93 : dec m_Md_guess 93 = .ok (.iastore, 1) := by decide +kernel
theorem d_Md_guess_94 : dec m_Md_guess 94 = .ok (.aload_n 0, 1) := by decide +kernel
theorem d_Md_guess_95 : dec m_Md_guess 95 = .ok (.invokevirtual 58, 3) := by decide +kernel
theorem d_Md_guess_98 : dec m_Md_guess 98 = .ok (.iload 4, 2) := by decide +kernel
theorem d_Md_guess_100 : dec m_Md_guess 100 = .ok (.ireturn, 1) := by decide +kernel
theorem d_Md_comes_0 : dec m_Md_comes 0 = .ok (.aload_n 0, 1) := by decide +kernel
theorem d_Md_comes_1 : dec m_Md_comes 1 = .ok (.getfield 7, 3) := by decide +kernel
theorem d_Md_comes_4 : dec m_Md_comes 4 = .ok (.bipush 103, 2) := by decide +kernel
theorem d_Md_comes_6 : dec m_Md_comes 6 = .ok (.iconst 2, 1) := by decide +kernel
theorem d_Md_comes_7 : dec m_Md_comes 7 = .ok (.aload_n 0, 1) := by decide +kernel
theorem d_Md_comes_8 : dec m_Md_comes 8 = .ok (.getfield 7, 3) := by decide +kernel
theorem d_Md_comes_11 : dec m_Md_comes 11 = .ok (.iconst 0, 1) := by decide +kernel
theorem d_Md_comes_12 : dec m_Md_comes 12 = .ok (.iaload, 1) := by decide +kernel
theorem d_Md_comes_13 : dec m_Md_comes 13 = .ok (.imul, 1) := by decide +kernel
theorem d_Md_comes_14 : dec m_Md_comes 14 = .ok (.iadd, 1) := by decide +kernel
theorem d_Md_comes_15 : dec m_Md_comes 15 = .ok (.iload_n 1, 1) := by decide +kernel
theorem d_Md_comes_16 : dec m_Md_comes 16 = .ok (.iastore, 1) := by decide +kernel
theorem d_Md_comes_17 : dec m_Md_comes 17 = .ok (.aload_n 0, 1) := by decide +kernel
theorem d_Md_comes_18 : dec m_Md_comes 18 = .ok (.getfield 7, 3) := by decide +kernel
theorem d_Md_comes_21 : dec m_Md_comes 21 = .ok (.bipush 103, 2) := by decide +kernel
theorem d_Md_comes_23 : dec m_Md_comes 23 = .ok (.iconst 2, 1) := by decide +kernel
theorem d_Md_comes_24 : dec m_Md_comes 24 = .ok (.aload_n 0, 1) := by decide +kernel
theorem d_Md_comes_25 : dec m_Md_comes 25 = .ok (.getfield 7, 3) := by decide +kernel
theorem d_Md_comes_28 : dec m_Md_comes 28 = .ok (.iconst 0, 1) := by decide +kernel
theorem d_Md_comes_29 : dec m_Md_comes 29 = .ok (.iaload, 1) := by decide +kernel
theorem d_Md_comes_30 : dec m_Md_comes 30 = .ok (.imul, 1) := by decide +kernel
theorem d_Md_comes_31 : dec m_Md_comes 31 = .ok (.iadd, 1) := by decide +kernel
theorem d_Md_comes_32 : dec m_Md_comes 32 = .ok (.iconst 1, 1) := by decide +kernel
theorem d_Md_comes_33 : dec m_Md_comes 33 = .ok (.iadd, 1) := by decide +kernel
theorem d_Md_comes_34 : dec m_Md_comes 34 = .ok (.iload_n 2, 1) := by decide +kernel
theorem d_Md_comes_35 : dec m_Md_comes 35 = .ok (.iastore, 1) := by decide +kernel
theorem d_Md_comes_36 : dec m_Md_comes 36 = .ok (.aload_n 0, 1) := by decide +kernel
theorem d_Md_comes_37 : dec m_Md_comes 37 = .ok (.getfield 7, 3) := by decide +kernel
theorem d_Md_comes_40 : dec m_Md_comes 40 = .ok (.iconst 0, 1) := by decide +kernel
theorem d_Md_comes_41 : dec m_Md_comes 41 = .ok (.dup2, 1) := by decide +kernel
theorem d_Md_comes_42 : dec m_Md_comes 42 = .ok (.iaload, 1) := by decide +kernel
theorem d_Md_comes_43 : dec m_Md_comes 43 = .ok (.iconst 1, 1) := by decide +kernel
theorem d_Md_comes_44 : dec m_Md_comes 44 = .ok (.iadd, 1) := by decide +kernel
theorem d_Md_comes_45 : dec m_Md_comes 45 = .ok (.iastore, 1) := by decide +kernel
theorem d_Md_comes_46 : dec m_Md_comes 46 = .ok (.return_, 1) := by decide +kernel
theorem d_Md_addMove_0 : dec m_Md_addMove 0 = .ok (.aload_n 0, 1) := by decide +kernel
theorem d_Md_addMove_1 : dec m_Md_addMove 1 = .ok (.iconst 0, 1) := by decide +kernel
theorem d_Md_addMove_2 : dec m_Md_addMove 2 = .ok (.putfield 32, 3) := by decide +kernel
theorem d_Md_addMove_5 : dec m_Md_addMove 5 = .ok (.iload_n 1, 1) := by decide +kernel
theorem d_Md_addMove_6 : dec m_Md_addMove 6 = .ok (.invokestatic 51, 3) := by decide +kernel
theorem d_Md_addMove_9 : dec m_Md_addMove 9 = .ok (.ifCond .eq 10, 3) := by decide +kernel
theorem d_Md_addMove_12 : dec m_Md_addMove 12 = .ok (.iload_n 2, 1) := by decide +kernel
theorem d_Md_addMove_13 : dec m_Md_addMove 13 = .ok (.invokestatic 51, 3) := by decide +kernel
theorem d_Md_addMove_16 : dec m_Md_addMove 16 = .ok (.ifCond .ne 5, 3) := by decide +kernel
theorem d_Md_addMove_19 : dec m_Md_addMove 19 = .ok (.iconst (-1), 1) := by decide +kernel
theorem d_Md_addMove_20 : dec m_Md_addMove 20 = .ok (.ireturn, 1) := by decide +kernel
theorem d_Md_addMove_21 : dec m_Md_addMove 21 = .ok (.aload_n 0, 1) := by decide +kernel
theorem d_Md_addMove_22 : dec m_Md_addMove 22 = .ok (.iload_n 1, 1) := by decide +kernel
theorem d_Md_addMove_23 : dec m_Md_addMove 23 = .ok (.iload_n 2, 1) := by decide +kernel
theorem d_Md_addMove_24 : dec m_Md_addMove 24 = .ok (.invokevirtual 61, 3) := by decide +kernel
theorem d_Md_addMove_27 : dec m_Md_addMove 27 = .ok (.bipush (-5), 2) := by decide +kernel
theorem d_Md_addMove_29 : dec m_Md_addMove 29 = .ok (.if_icmp .eq 6, 3) := by decide +kernel
theorem d_Md_addMove_32 : dec m_Md_addMove 32 = .ok (.bipush (-5), 2) := by decide +kernel
theorem d_Md_addMove_34 : dec m_Md_addMove 34 = .ok (.ireturn, 1) := by decide +kernel
theorem d_Md_addMove_35 : dec m_Md_addMove 35 = .ok (.aload_n 0, 1) := by decide +kernel
theorem d_Md_addMove_36 : dec m_Md_addMove 36 = .ok (.getfield 7, 3) := by decide +kernel
theorem d_Md_addMove_39 : dec m_Md_addMove 39 = .ok (.iconst 0, 1) := by decide +kernel
theorem d_Md_addMove_40 : dec m_Md_addMove 40 = .ok (.iaload, 1) := by decide +kernel
theorem d_Md_addMove_41 : dec m_Md_addMove 41 = .ok (.bipush 60, 2) := by decide +kernel
theorem d_Md_addMove_43 : dec m_Md_addMove 43 = .ok (.if_icmp .ne 6, 3) := by decide +kernel
theorem d_Md_addMove_46 : dec m_Md_addMove 46 = .ok (.bipush (-3), 2) := by decide +kernel
theorem d_Md_addMove_48 : dec m_Md_addMove 48 = .ok (.ireturn, 1) := by decide +kernel
theorem d_Md_addMove_49 : dec m_Md_addMove 49 = .ok (.aload_n 0, 1) := by decide +kernel
theorem d_Md_addMove_50 : dec m_Md_addMove 50 = .ok (.invokevirtual 55, 3) := by decide +kernel
theorem d_Md_addMove_53 : dec m_Md_addMove 53 = .ok (.aload_n 0, 1) := by decide +kernel
theorem d_Md_addMove_54 : dec m_Md_addMove 54 = .ok (.iload_n 1, 1) := by decide +kernel
theorem d_Md_addMove_55 : dec m_Md_addMove 55 = .ok (.iload_n 2, 1) := by decide +kernel
theorem d_Md_addMove_56 : dec m_Md_addMove 56 = .ok (.invokevirtual 64, 3) := by decide +kernel
theorem d_Md_addMove_59 : dec m_Md_addMove 59 = .ok (.aload_n 0, 1) := by decide +kernel
theorem d_Md_addMove_60 : dec m_Md_addMove 60 = .ok (.invokevirtual 58, 3) := by decide +kernel
theorem d_Md_addMove_63 : dec m_Md_addMove 63 = .ok (.aload_n 0, 1) := by decide +kernel
theorem d_Md_addMove_64 : dec m_Md_addMove 64 = .ok (.iload_n 1, 1) := by decide +kernel
theorem d_Md_addMove_65 : dec m_Md_addMove 65 = .ok (.invokevirtual 47, 3) := by decide +kernel
theorem d_Md_addMove_68 : dec m_Md_addMove 68 = .ok (.ireturn, 1) := by decide +kernel
theorem d_Md_removeMove_0 : dec m_Md_removeMove 0 = .ok (.aload_n 0, 1) := by decide +kernel
theorem d_Md_removeMove_1 : dec m_Md_removeMove 1 = .ok (.iconst 0, 1) := by decide +kernel
theorem d_Md_removeMove_2 : dec m_Md_removeMove 2 = .ok (.putfield 32, 3) := by decide +kernel
theorem d_Md_removeMove_5 : dec m_Md_removeMove 5 = .ok (.aload_n 0, 1) := by decide +kernel
theorem d_Md_removeMove_6 : dec m_Md_removeMove 6 = .ok (.iload_n 1, 1) := by decide +kernel
theorem d_Md_removeMove_7 : dec m_Md_removeMove 7 = .ok (.iload_n 2, 1) := by decide +kernel
theorem d_Md_removeMove_8 : dec m_Md_removeMove 8 = .ok (.invokevirtual 61, 3) := by decide +kernel
theorem d_Md_removeMove_11 : dec m_Md_removeMove 11 = .ok (.istore_n 3, 1) := by decide +kernel
theorem d_Md_removeMove_12 : dec m_Md_removeMove 12 = .ok (.iload_n 1, 1) := by decide +kernel
theorem d_Md_removeMove_13 : dec m_Md_removeMove 13 = .ok (.invokestatic 51, 3) := by decide +kernel
theorem d_Md_removeMove_16 : dec m_Md_removeMove 16 = .ok (.ifCond .eq 16, 3) := by decide +kernel
theorem d_Md_removeMove_19 : dec m_Md_removeMove 19 = .ok (.iload_n 2, 1) := by decide +kernel
theorem d_Md_removeMove_20 : dec m_Md_removeMove 20 = .ok (.invokestatic 51, 3) := by decide +kernel
theorem d_Md_removeMove_23 : dec m_Md_removeMove 23 = .ok (.ifCond .eq 9, 3) := by decide +kernel
theorem d_Md_removeMove_26 : dec m_Md_removeMove 26 = .ok (.iload_n 3, 1) := by decide +kernel
theorem d_Md_removeMove_27 : dec m_Md_removeMove 27 = .ok (.bipush (-5), 2) := by decide +kernel
theorem d_Md_removeMove_29 : dec m_Md_removeMove 29 = .ok (.if_icmp .ne 5, 3) := by decide +kernel
theorem d_Md_removeMove_32 : dec m_Md_removeMove 32 = .ok (.iconst (-1), 1) := by decide +kernel
theorem d_Md_removeMove_33 : dec m_Md_removeMove 33 = .ok (.ireturn, 1) := by decide +kernel
theorem d_Md_removeMove_34 : dec m_Md_removeMove 34 = .ok (.aload_n 0, 1) := by decide +kernel
theorem d_Md_removeMove_35 : dec m_Md_removeMove 35 = .ok (.invokevirtual 55, 3) := by decide +kernel
theorem d_Md_removeMove_38 : dec m_Md_removeMove 38 = .ok (.aload_n 0, 1) := by decide +kernel
theorem d_Md_removeMove_39 : dec m_Md_removeMove 39 = .ok (.getfield 7, 3) := by decide +kernel
theorem d_Md_removeMove_42 : dec m_Md_removeMove 42 = .ok (.iconst 0, 1) := by decide +kernel
theorem d_Md_removeMove_43 : dec m_Md_removeMove 43 = .ok (.dup2, 1) := by decide +kernel
theorem d_Md_removeMove_44 : dec m_Md_removeMove 44 = .ok (.iaload, 1) := by decide +kernel
theorem d_Md_removeMove_45 : dec m_Md_removeMove 45 = .ok (.iconst 1, 1) := by decide +kernel
theorem d_Md_removeMove_46 : dec m_Md_removeMove 46 = .ok (.isub, 1) := by decide +kernel
theorem d_Md_removeMove_47 : dec m_Md_removeMove 47 = .ok (.iastore, 1) := by decide +kernel
theorem d_Md_removeMove_48 : dec m_Md_removeMove 48 = .ok (.iconst 2, 1) := by decide +kernel
theorem d_Md_removeMove_49 : dec m_Md_removeMove 49 = .ok (.iload_n 3, 1) := by decide +kernel
theorem d_Md_removeMove_50 : dec m_Md_removeMove 50 = .ok (.imul, 1) := by decide +kernel
theorem d_Md_removeMove_51 : dec m_Md_removeMove 51 = .ok (.istore 4, 2) := by decide +kernel
theorem d_Md_removeMove_53 : dec m_Md_removeMove 53 = .ok (.iload 4, 2) := by decide +kernel
theorem d_Md_removeMove_55 : dec m_Md_removeMove 55 = .ok (.iconst 2, 1) := by decide +kernel
theorem d_Md_removeMove_56 : dec m_Md_removeMove 56 = .ok (.aload_n 0, 1) := by decide +kernel
theorem d_Md_removeMove_57 : dec m_Md_removeMove 57 = .ok (.getfield 7, 3) := by decide +kernel
theorem d_Md_removeMove_60 : dec m_Md_removeMove 60 = .ok (.iconst 0, 1) := by decide +kernel
theorem d_Md_removeMove_61 : dec m_Md_removeMove 61 = .ok (.iaload, 1) := by decide +kernel
theorem d_Md_removeMove_62 : dec m_Md_removeMove 62 = .ok (.imul, 1) := by decide +kernel
theorem d_Md_removeMove_63 : dec m_Md_removeMove 63 = .ok (.if_icmp .ge 31, 3) := by decide +kernel
theorem d_Md_removeMove_66 : dec m_Md_removeMove 66 = .ok (.aload_n 0, 1) := by decide +kernel
theorem d_Md_removeMove_67 : dec m_Md_removeMove 67 = .ok (.getfield 7, 3) := by decide +kernel
theorem d_Md_removeMove_70 : dec m_Md_removeMove 70 = .ok (.bipush 103, 2) := by decide +kernel
theorem d_Md_removeMove_72 : dec m_Md_removeMove 72 = .ok (.iload 4, 2) := by decide +kernel
theorem d_Md_removeMove_74 : dec m_Md_removeMove 74 = .ok (.iadd, 1) := by decide +kernel
theorem d_Md_removeMove_75 : dec m_Md_removeMove 75 = .ok (.aload_n 0, 1) := by decide +kernel
theorem d_Md_removeMove_76 : dec m_Md_removeMove 76 = .ok (.getfield 7, 3) := by decide +kernel
theorem d_Md_removeMove_79 : dec m_Md_removeMove 79 = .ok (.bipush 103, 2) := by decide +kernel
theorem d_Md_removeMove_81 : dec m_Md_removeMove 81 = .ok (.iload 4, 2) := by decide +kernel
theorem d_Md_removeMove_83 : dec m_Md_removeMove 83 = .ok (.iadd, 1) := by decide +kernel
theorem d_Md_removeMove_84 : dec m_Md_removeMove 84 = .ok (.iconst 2, 1) := by decide +kernel
theorem d_Md_removeMove_85 : dec m_Md_removeMove 85 = .ok (.iadd, 1) := by decide +kernel
theorem d_Md_removeMove_86 : dec m_Md_removeMove 86 = .ok (.iaload, 1) := by decide +kernel
theorem d_Md_removeMove_87 : dec m_Md_removeMove 87 = .ok (.iastore, 1) := by decide +kernel
theorem d_Md_removeMove_88 : dec m_Md_removeMove 88 = .ok (.iinc 4 1, 3) := by decide +kernel
theorem d_Md_removeMove_91 : dec m_Md_removeMove 91 = .ok (.goto (-38), 3) := by decide +kernel
theorem d_Md_removeMove_94 : dec m_Md_removeMove 94 = .ok (.aload_n 0, 1) := by decide +kernel
theorem d_Md_removeMove_95 : dec m_Md_removeMove 95 = .ok (.getfield 7, 3) := by decide +kernel
theorem d_Md_removeMove_98 : dec m_Md_removeMove 98 = .ok (.bipush 103, 2) := by decide +kernel
theorem d_Md_removeMove_100 : dec m_Md_removeMove 100 = .ok (.iconst 2, 1) := by decide +kernel
theorem d_Md_removeMove_101 : dec m_Md_removeMove 101 = .ok (.aload_n 0, 1) := by decide +kernel
theorem d_Md_removeMove_102 : dec m_Md_removeMove 102 = .ok (.getfield 7, 3) := by decide +kernel
theorem d_Md_removeMove_105 : dec m_Md_removeMove 105 = .ok (.iconst 0, 1) := by decide +kernel
theorem d_Md_removeMove_106 : dec m_Md_removeMove 106 = .ok (.iaload, 1) := by decide +kernel
theorem d_Md_removeMove_107 : dec m_Md_removeMove 107 = .ok (.imul, 1) := by decide +kernel
theorem d_Md_removeMove_108 : dec m_Md_removeMove 108 = .ok (.iadd, 1) := by decide +kernel
theorem d_Md_removeMove_109 : dec m_Md_removeMove 109 = .ok (.iconst 0, 1) := by decide +kernel
theorem d_Md_removeMove_110 : dec m_Md_removeMove 110 = .ok (.iastore, 1) := by decide +kernel
theorem d_Md_removeMove_111 : dec m_Md_removeMove 111 = .ok (.aload_n 0, 1) := by decide +kernel
theorem d_Md_removeMove_112 : dec m_Md_removeMove 112 = .ok (.getfield 7, 3) := by decide +kernel
theorem d_Md_removeMove_115 : dec m_Md_removeMove 115 = .ok (.bipush 103, 2) := by decide +kernel
theorem d_Md_removeMove_117 : dec m_Md_removeMove 117 = .ok (.iconst 2, 1) := by decide +kernel
theorem d_Md_removeMove_118 : dec m_Md_removeMove 118 = .ok (.aload_n 0, 1) := by decide +kernel
theorem d_Md_removeMove_119 : dec m_Md_removeMove 119 = .ok (.getfield 7, 3) := by decide +kernel
theorem d_Md_removeMove_122 : dec m_Md_removeMove 122 = .ok (.iconst 0, 1) := by decide +kernel
theorem d_Md_removeMove_123 : dec m_Md_removeMove 123 = .ok (.iaload, 1) := by decide +kernel
theorem d_Md_removeMove_124 : dec m_Md_removeMove 124 = .ok (.imul, 1) := by decide +kernel
theorem d_Md_removeMove_125 : dec m_Md_removeMove 125 = .ok (.iadd, 1) := by decide +kernel
theorem d_Md_removeMove_126 : dec m_Md_removeMove 126 = .ok (.iconst 1, 1) := by decide +kernel
theorem d_Md_removeMove_127 : dec m_Md_removeMove 127 = .ok (.iadd, 1) := by decide +kernel
theorem d_Md_removeMove_128 : dec m_Md_removeMove 128 = .ok (.iconst 0, 1) := by decide +kernel
theorem d_Md_removeMove_129 : dec m_Md_removeMove 129 = .ok (.iastore, 1) := by decide +kernel
theorem d_Md_removeMove_130 : dec m_Md_removeMove 130 = .ok (.aload_n 0, 1) := by decide +kernel
theorem d_Md_removeMove_131 : dec m_Md_removeMove 131 = .ok (.invokevirtual 58, 3) := by decide +kernel
theorem d_Md_removeMove_134 : dec m_Md_removeMove 134 = .ok (.aload_n 0, 1) := by decide +kernel
theorem d_Md_removeMove_135 : dec m_Md_removeMove 135 = .ok (.iload_n 1, 1) := by decide +kernel
theorem d_Md_removeMove_136 : dec m_Md_removeMove 136 = .ok (.invokevirtual 47, 3) := by decide +kernel
theorem d_Md_removeMove_139 : dec m_Md_removeMove 139 = .ok (.ireturn, 1) := by decide +kernel
theorem d_Md_isWonNow_0 : dec m_Md_isWonNow 0 = .ok (.aload_n 0, 1) := by decide +kernel
theorem d_Md_isWonNow_1 : dec m_Md_isWonNow 1 = .ok (.iload_n 1, 1) := by decide +kernel
theorem d_Md_isWonNow_2 : dec m_Md_isWonNow 2 = .ok (.invokevirtual 68, 3) := by decide +kernel
theorem d_Md_isWonNow_5 : dec m_Md_isWonNow 5 = .ok (.ifCond .eq 19, 3) := by decide +kernel
theorem d_Md_isWonNow_8 : dec m_Md_isWonNow 8 = .ok (.aload_n 0, 1) := by decide +kernel
theorem d_Md_isWonNow_9 : dec m_Md_isWonNow 9 = .ok (.iload_n 1, 1) := by decide +kernel
theorem d_Md_isWonNow_10 : dec m_Md_isWonNow 10 = .ok (.iconst 1, 1) := by decide +kernel
theorem d_Md_isWonNow_11 : dec m_Md_isWonNow 11 = .ok (.invokevirtual 43, 3) := by decide +kernel
theorem d_Md_isWonNow_14 : dec m_Md_isWonNow 14 = .ok (.iconst 1, 1) := by decide +kernel
theorem d_Md_isWonNow_15 : dec m_Md_isWonNow 15 = .ok (.if_icmp .ne 7, 3) := by decide +kernel
theorem d_Md_isWonNow_18 : dec m_Md_isWonNow 18 = .ok (.iconst 1, 1) := by decide +kernel
theorem d_Md_isWonNow_19 : dec m_Md_isWonNow 19 = .ok (.goto 4, 3) := by decide +kernel
theorem d_Md_isWonNow_22 : dec m_Md_isWonNow 22 = .ok (.iconst 0, 1) := by decide +kernel
theorem d_Md_isWonNow_23 : dec m_Md_isWonNow 23 = .ok (.ireturn, 1) := by decide +kernel
theorem d_Md_isWonNow_24 : dec m_Md_isWonNow 24 = .ok (.aload_n 0, 1) := by decide +kernel
theorem d_Md_isWonNow_25 : dec m_Md_isWonNow 25 = .ok (.iload_n 1, 1) := by decide +kernel
theorem d_Md_isWonNow_26 : dec m_Md_isWonNow 26 = .ok (.invokevirtual 47, 3) := by decide +kernel
theorem d_Md_isWonNow_29 : dec m_Md_isWonNow 29 = .ok (.istore_n 2, 1) := by decide +kernel
theorem d_Md_isWonNow_30 : dec m_Md_isWonNow 30 = .ok (.iconst 0, 1) := by decide +kernel
theorem d_Md_isWonNow_31 : dec m_Md_isWonNow 31 = .ok (.istore_n 3, 1) := by decide +kernel
theorem d_Md_isWonNow_32 : dec m_Md_isWonNow 32 = .ok (.iconst 0, 1) := by decide +kernel
theorem d_Md_isWonNow_33 : dec m_Md_isWonNow 33 = .ok (.istore 4, 2) := by decide +kernel
theorem d_Md_isWonNow_35 : dec m_Md_isWonNow 35 = .ok (.iload 4, 2) := by decide +kernel
theorem d_Md_isWonNow_37 : dec m_Md_isWonNow 37 = .ok (.iload_n 2, 1) := by decide +kernel
theorem d_Md_isWonNow_38 : dec m_Md_isWonNow 38 = .ok (.if_icmp .ge 32, 3) := by decide +kernel
theorem d_Md_isWonNow_41 : dec m_Md_isWonNow 41 = .ok (.iload_n 3, 1) := by decide +kernel
theorem d_Md_isWonNow_42 : dec m_Md_isWonNow 42 = .ok (.aload_n 0, 1) := by decide +kernel
theorem d_Md_isWonNow_43 : dec m_Md_isWonNow 43 = .ok (.getfield 22, 3) := by decide +kernel
theorem d_Md_isWonNow_46 : dec m_Md_isWonNow 46 = .ok (.aload_n 0, 1) := by decide +kernel
theorem d_Md_isWonNow_47 : dec m_Md_isWonNow 47 = .ok (.iload_n 1, 1) := by decide +kernel
theorem d_Md_isWonNow_48 : dec m_Md_isWonNow 48 = .ok (.iload 4, 2) := by decide +kernel
theorem d_Md_isWonNow_50 : dec m_Md_isWonNow 50 = .ok (.invokevirtual 71, 3) := by decide +kernel
theorem d_Md_isWonNow_53 : dec m_Md_isWonNow 53 = .ok (.iaload, 1) := by decide +kernel
theorem d_Md_isWonNow_54 : dec m_Md_isWonNow 54 = .ok (.ifCond .lt 7, 3) := by decide +kernel
theorem d_Md_isWonNow_57 : dec m_Md_isWonNow 57 = .ok (.iconst 1, 1) := by decide +kernel
theorem d_Md_isWonNow_58 : dec m_Md_isWonNow 58 = .ok (.goto 4, 3) := by decide +kernel
theorem d_Md_isWonNow_61 : dec m_Md_isWonNow 61 = .ok (.iconst 0, 1) := by decide +kernel
theorem d_Md_isWonNow_62 : dec m_Md_isWonNow 62 = .ok (.iadd, 1) := by decide +kernel
theorem d_Md_isWonNow_63 : dec m_Md_isWonNow 63 = .ok (.istore_n 3, 1) := by decide +kernel
theorem d_Md_isWonNow_64 : dec m_Md_isWonNow 64 = .ok (.iinc 4 1, 3) := by decide +kernel
theorem d_Md_isWonNow_67 : dec m_Md_isWonNow 67 = .ok (.goto (-32), 3) := by decide +kernel
theorem d_Md_isWonNow_70 : dec m_Md_isWonNow 70 = .ok (.aload_n 0, 1) := by decide +kernel
theorem d_Md_isWonNow_71 : dec m_Md_isWonNow 71 = .ok (.iload_n 1, 1) := by decide +kernel
theorem d_Md_isWonNow_72 : dec m_Md_isWonNow 72 = .ok (.iconst 0, 1) := by decide +kernel
theorem d_Md_isWonNow_73 : dec m_Md_isWonNow 73 = .ok (.invokevirtual 43, 3) := by decide +kernel
theorem d_Md_isWonNow_76 : dec m_Md_isWonNow 76 = .ok (.ifCond .ne 15, 3) := by decide +kernel
theorem d_Md_isWonNow_79 : dec m_Md_isWonNow 79 = .ok (.iload_n 3, 1) := by decide +kernel
theorem d_Md_isWonNow_80 : dec m_Md_isWonNow 80 = .ok (.ifCond .le 7, 3) := by decide +kernel
theorem d_Md_isWonNow_83 : dec m_Md_isWonNow 83 = .ok (.iconst 1, 1) := by decide +kernel
theorem d_Md_isWonNow_84 : dec m_Md_isWonNow 84 = .ok (.goto 17, 3) := by decide +kernel
theorem d_Md_isWonNow_87 : dec m_Md_isWonNow 87 = .ok (.iconst 0, 1) := by decide +kernel
theorem d_Md_isWonNow_88 : dec m_Md_isWonNow 88 = .ok (.goto 13, 3) := by decide +kernel
theorem d_Md_isWonNow_91 : dec m_Md_isWonNow 91 = .ok (.iload_n 3, 1) := by decide +kernel
theorem d_Md_isWonNow_92 : dec m_Md_isWonNow 92 = .ok (.iload_n 2, 1) := by decide +kernel
theorem d_Md_isWonNow_93 : dec m_Md_isWonNow 93 = .ok (.if_icmp .ne 7, 3) := by decide +kernel
theorem d_Md_isWonNow_96 : dec m_Md_isWonNow 96 = .ok (.iconst 1, 1) := by decide +kernel
theorem d_Md_isWonNow_97 : dec m_Md_isWonNow 97 = .ok (.goto 4, 3) := by decide +kernel
theorem d_Md_isWonNow_100 : dec m_Md_isWonNow 100 = .ok (.iconst 0, 1) := by decide +kernel
theorem d_Md_isWonNow_101 : dec m_Md_isWonNow 101 = .ok (.ireturn, 1) := by decide +kernel
theorem d_Md_laysRounds_0 : dec m_Md_laysRounds 0 = .ok (.iconst 0, 1) := by decide +kernel
theorem d_Md_laysRounds_1 : dec m_Md_laysRounds 1 = .ok (.istore_n 1, 1) := by decide +kernel
theorem d_Md_laysRounds_2 : dec m_Md_laysRounds 2 = .ok (.iload_n 1, 1) := by decide +kernel
theorem d_Md_laysRounds_3 : dec m_Md_laysRounds 3 = .ok (.bipush 20, 2) := by decide +kernel
theorem d_Md_laysRounds_5 : dec m_Md_laysRounds 5 = .ok (.if_icmp .ge 17, 3) := by decide +kernel
theorem d_Md_laysRounds_8 : dec m_Md_laysRounds 8 = .ok (.aload_n 0, 1) := by decide +kernel
theorem d_Md_laysRounds_9 : dec m_Md_laysRounds 9 = .ok (.getfield 22, 3) := by decide +kernel
theorem d_Md_laysRounds_12 : dec m_Md_laysRounds 12 = .ok (.iload_n 1, 1) := by decide +kernel
theorem d_Md_laysRounds_13 : dec m_Md_laysRounds 13 = .ok (.bipush (-5), 2) := by decide +kernel
theorem d_Md_laysRounds_15 : dec m_Md_laysRounds 15 = .ok (.iastore, 1) := by decide +kernel
theorem d_Md_laysRounds_16 : dec m_Md_laysRounds 16 = .ok (.iinc 1 1, 3) := by decide +kernel
theorem d_Md_laysRounds_19 : dec m_Md_laysRounds 19 = .ok (.goto (-17), 3) := by decide +kernel
theorem d_Md_laysRounds_22 : dec m_Md_laysRounds 22 = .ok (.iconst 0, 1) := by decide +kernel
theorem d_Md_laysRounds_23 : dec m_Md_laysRounds 23 = .ok (.istore_n 1, 1) := by decide +kernel
theorem d_Md_laysRounds_24 : dec m_Md_laysRounds 24 = .ok (.iconst 1, 1) := by decide +kernel
theorem d_Md_laysRounds_25 : dec m_Md_laysRounds 25 = .ok (.istore_n 2, 1) := by decide +kernel
theorem d_Md_laysRounds_26 : dec m_Md_laysRounds 26 = .ok (.iload_n 2, 1) := by decide +kernel
theorem d_Md_laysRounds_27 : dec m_Md_laysRounds 27 = .ok (.ifCond .gt 8, 3) := by decide +kernel
theorem d_Md_laysRounds_30 : dec m_Md_laysRounds 30 = .ok (.iload_n 1, 1) := by decide +kernel
theorem d_Md_laysRounds_31 : dec m_Md_laysRounds 31 = .ok (.iconst 1, 1) := by decide +kernel
theorem d_Md_laysRounds_32 : dec m_Md_laysRounds 32 = .ok (.if_icmp .ne 108, 3) := by decide +kernel
theorem d_Md_laysRounds_35 : dec m_Md_laysRounds 35 = .ok (.iconst 0, 1) := by decide +kernel
theorem d_Md_laysRounds_36 : dec m_Md_laysRounds 36 = .ok (.istore_n 2, 1) := by decide +kernel
theorem d_Md_laysRounds_37 : dec m_Md_laysRounds 37 = .ok (.iconst 0, 1) := by decide +kernel
theorem d_Md_laysRounds_38 : dec m_Md_laysRounds 38 = .ok (.istore_n 3, 1) := by decide +kernel
theorem d_Md_laysRounds_39 : dec m_Md_laysRounds 39 = .ok (.iload_n 3, 1) := by decide +kernel
theorem d_Md_laysRounds_40 : dec m_Md_laysRounds 40 = .ok (.bipush 20, 2) := by decide +kernel
theorem d_Md_laysRounds_42 : dec m_Md_laysRounds 42 = .ok (.if_icmp .ge 51, 3) := by decide +kernel
theorem d_Md_laysRounds_45 : dec m_Md_laysRounds 45 = .ok (.aload_n 0, 1) := by decide +kernel
theorem d_Md_laysRounds_46 : dec m_Md_laysRounds 46 = .ok (.getfield 22, 3) := by decide +kernel
theorem d_Md_laysRounds_49 : dec m_Md_laysRounds 49 = .ok (.iload_n 3, 1) := by decide +kernel
theorem d_Md_laysRounds_50 : dec m_Md_laysRounds 50 = .ok (.iaload, 1) := by decide +kernel
theorem d_Md_laysRounds_51 : dec m_Md_laysRounds 51 = .ok (.bipush (-5), 2) := by decide +kernel
theorem d_Md_laysRounds_53 : dec m_Md_laysRounds 53 = .ok (.if_icmp .ne 34, 3) := by decide +kernel
theorem d_Md_laysRounds_56 : dec m_Md_laysRounds 56 = .ok (.iload_n 1, 1) := by decide +kernel
theorem d_Md_laysRounds_57 : dec m_Md_laysRounds 57 = .ok (.ifCond .gt 11, 3) := by decide +kernel
theorem d_Md_laysRounds_60 : dec m_Md_laysRounds 60 = .ok (.aload_n 0, 1) := by decide +kernel
theorem d_Md_laysRounds_61 : dec m_Md_laysRounds 61 = .ok (.iload_n 3, 1) := by decide +kernel
theorem d_Md_laysRounds_62 : dec m_Md_laysRounds 62 = .ok (.invokevirtual 68, 3) := by decide +kernel
theorem d_Md_laysRounds_65 : dec m_Md_laysRounds 65 = .ok (.ifCond .eq 22, 3) := by decide +kernel
theorem d_Md_laysRounds_68 : dec m_Md_laysRounds 68 = .ok (.aload_n 0, 1) := by decide +kernel
theorem d_Md_laysRounds_69 : dec m_Md_laysRounds 69 = .ok (.iload_n 3, 1) := by decide +kernel
theorem d_Md_laysRounds_70 : dec m_Md_laysRounds 70 = .ok (.invokevirtual 74, 3) := by decide +kernel
theorem d_Md_laysRounds_73 : dec m_Md_laysRounds 73 = .ok (.ifCond .eq 14, 3) := by decide +kernel
theorem d_Md_laysRounds_76 : dec m_Md_laysRounds 76 = .ok (.aload_n 0, 1) := by decide +kernel
theorem d_Md_laysRounds_77 : dec m_Md_laysRounds 77 = .ok (.getfield 22, 3) := by decide +kernel
theorem d_Md_laysRounds_80 : dec m_Md_laysRounds 80 = .ok (.iload_n 3, 1) := by decide +kernel
theorem d_Md_laysRounds_81 : dec m_Md_laysRounds 81 = .ok (.bipush (-100), 2) := by decide +kernel
theorem d_Md_laysRounds_83 : dec m_Md_laysRounds 83 = .ok (.iastore, 1) := by decide +kernel
theorem d_Md_laysRounds_84 : dec m_Md_laysRounds 84 = .ok (.iinc 2 1, 3) := by decide +kernel
theorem d_Md_laysRounds_87 : dec m_Md_laysRounds 87 = .ok (.iinc 3 1, 3) := by decide +kernel
theorem d_Md_laysRounds_90 : dec m_Md_laysRounds 90 = .ok (.goto (-51), 3) := by decide +kernel
theorem d_Md_laysRounds_93 : dec m_Md_laysRounds 93 = .ok (.iconst 0, 1) := by decide +kernel
theorem d_Md_laysRounds_94 : dec m_Md_laysRounds 94 = .ok (.istore_n 3, 1) := by decide +kernel
theorem d_Md_laysRounds_95 : dec m_Md_laysRounds 95 = .ok (.iload_n 3, 1) := by decide +kernel
theorem d_Md_laysRounds_96 : dec m_Md_laysRounds 96 = .ok (.bipush 20, 2) := by decide +kernel
theorem d_Md_laysRounds_98 : dec m_Md_laysRounds 98 = .ok (.if_icmp .ge 36, 3) := by decide +kernel
theorem d_Md_laysRounds_101 : dec m_Md_laysRounds 101 = .ok (.aload_n 0, 1) := by decide +kernel
theorem d_Md_laysRounds_102 : dec m_Md_laysRounds 102 = .ok (.getfield 22, 3) := by decide +kernel
theorem d_Md_laysRounds_105 : dec m_Md_laysRounds 105 = .ok (.iload_n 3, 1) := by decide +kernel
theorem d_Md_laysRounds_106 : dec m_Md_laysRounds 106 = .ok (.aload_n 0, 1) := by decide +kernel
theorem d_Md_laysRounds_107 : dec m_Md_laysRounds 107 = .ok (.getfield 22, 3) := by decide +kernel
theorem d_Md_laysRounds_110 : dec m_Md_laysRounds 110 = .ok (.iload_n 3, 1) := by decide +kernel
theorem d_Md_laysRounds_111 : dec m_Md_laysRounds 111 = .ok (.iaload, 1) := by decide +kernel
theorem d_Md_laysRounds_112 : dec m_Md_laysRounds 112 = .ok (.bipush (-100), 2) := by decide +kernel
theorem d_Md_laysRounds_114 : dec m_Md_laysRounds 114 = .ok (.if_icmp .ne 7, 3) := by decide +kernel
theorem d_Md_laysRounds_117 : dec m_Md_laysRounds 117 = .ok (.iload_n 1, 1) := by decide +kernel
theorem d_Md_laysRounds_118 : dec m_Md_laysRounds 118 = .ok (.goto 9, 3) := by decide +kernel
theorem d_Md_laysRounds_121 : dec m_Md_laysRounds 121 = .ok (.aload_n 0, 1) := by decide +kernel
theorem d_Md_laysRounds_122 : dec m_Md_laysRounds 122 = .ok (.getfield 22, 3) := by decide +kernel
theorem d_Md_laysRounds_125 : dec m_Md_laysRounds 125 = .ok (.iload_n 3, 1) := by decide +kernel
theorem d_Md_laysRounds_126 : dec m_Md_laysRounds 126 = .ok (.iaload, 1) := by decide +kernel
theorem d_Md_laysRounds_127 : dec m_Md_laysRounds 127 = .ok (.iastore, 1) := by decide +kernel
theorem d_Md_laysRounds_128 : dec m_Md_laysRounds 128 = .ok (.iinc 3 1, 3) := by decide +kernel
theorem d_Md_laysRounds_131 : dec m_Md_laysRounds 131 = .ok (.goto (-36), 3) := by decide +kernel
theorem d_Md_laysRounds_134 : dec m_Md_laysRounds 134 = .ok (.iinc 1 1, 3) := by decide +kernel
theorem d_Md_laysRounds_137 : dec m_Md_laysRounds 137 = .ok (.goto (-111), 3) := by decide +kernel
theorem d_Md_laysRounds_140 : dec m_Md_laysRounds 140 = .ok (.return_, 1) := by decide +kernel
theorem d_Md_wonMany_0 : dec m_Md_wonMany 0 = .ok (.aload_n 0, 1) := by decide +kernel
theorem d_Md_wonMany_1 : dec m_Md_wonMany 1 = .ok (.invokevirtual 77, 3) := by decide +kernel
theorem d_Md_wonMany_4 : dec m_Md_wonMany 4 = .ok (.iconst 0, 1) := by decide +kernel
theorem d_Md_wonMany_5 : dec m_Md_wonMany 5 = .ok (.istore_n 1, 1) := by decide +kernel
theorem d_Md_wonMany_6 : dec m_Md_wonMany 6 = .ok (.iconst 0, 1) := by decide +kernel
theorem d_Md_wonMany_7 : dec m_Md_wonMany 7 = .ok (.istore_n 2, 1) := by decide +kernel
theorem d_Md_wonMany_8 : dec m_Md_wonMany 8 = .ok (.iload_n 2, 1) := by decide +kernel
theorem d_Md_wonMany_9 : dec m_Md_wonMany 9 = .ok (.bipush 20, 2) := by decide +kernel
theorem d_Md_wonMany_11 : dec m_Md_wonMany 11 = .ok (.if_icmp .ge 26, 3) := by decide +kernel
theorem d_Md_wonMany_14 : dec m_Md_wonMany 14 = .ok (.iload_n 1, 1) := by decide +kernel
theorem d_Md_wonMany_15 : dec m_Md_wonMany 15 = .ok (.aload_n 0, 1) := by decide +kernel
theorem d_Md_wonMany_16 : dec m_Md_wonMany 16 = .ok (.getfield 22, 3) := by decide +kernel
theorem d_Md_wonMany_19 : dec m_Md_wonMany 19 = .ok (.iload_n 2, 1) := by decide +kernel
theorem d_Md_wonMany_20 : dec m_Md_wonMany 20 = .ok (.iaload, 1) := by decide +kernel
theorem d_Md_wonMany_21 : dec m_Md_wonMany 21 = .ok (.ifCond .lt 7, 3) := by decide +kernel
theorem d_Md_wonMany_24 : dec m_Md_wonMany 24 = .ok (.iconst 1, 1) := by decide +kernel
theorem d_Md_wonMany_25 : dec m_Md_wonMany 25 = .ok (.goto 4, 3) := by decide +kernel
theorem d_Md_wonMany_28 : dec m_Md_wonMany 28 = .ok (.iconst 0, 1) := by decide +kernel
theorem d_Md_wonMany_29 : dec m_Md_wonMany 29 = .ok (.iadd, 1) := by decide +kernel
theorem d_Md_wonMany_30 : dec m_Md_wonMany 30 = .ok (.istore_n 1, 1) := by decide +kernel
theorem d_Md_wonMany_31 : dec m_Md_wonMany 31 = .ok (.iinc 2 1, 3) := by decide +kernel
theorem d_Md_wonMany_34 : dec m_Md_wonMany 34 = .ok (.goto (-26), 3) := by decide +kernel
theorem d_Md_wonMany_37 : dec m_Md_wonMany 37 = .ok (.iload_n 1, 1) := by decide +kernel
theorem d_Md_wonMany_38 : dec m_Md_wonMany 38 = .ok (.ireturn, 1) := by decide +kernel
theorem d_Md_depthOf_0 : dec m_Md_depthOf 0 = .ok (.iconst 0, 1) := by decide +kernel
theorem d_Md_depthOf_1 : dec m_Md_depthOf 1 = .ok (.istore_n 2, 1) := by decide +kernel
theorem d_Md_depthOf_2 : dec m_Md_depthOf 2 = .ok (.aload_n 0, 1) := by decide +kernel
theorem d_Md_depthOf_3 : dec m_Md_depthOf 3 = .ok (.iload_n 1, 1) := by decide +kernel
theorem d_Md_depthOf_4 : dec m_Md_depthOf 4 = .ok (.iconst 1, 1) := by decide +kernel
theorem d_Md_depthOf_5 : dec m_Md_depthOf 5 = .ok (.invokevirtual 80, 3) := by decide +kernel
theorem d_Md_depthOf_8 : dec m_Md_depthOf 8 = .ok (.istore_n 3, 1) := by decide +kernel
theorem d_Md_depthOf_9 : dec m_Md_depthOf 9 = .ok (.iload_n 3, 1) := by decide +kernel
theorem d_Md_depthOf_10 : dec m_Md_depthOf 10 = .ok (.bipush (-5), 2) := by decide +kernel
theorem d_Md_depthOf_12 : dec m_Md_depthOf 12 = .ok (.if_icmp .eq 16, 3) := by decide +kernel
theorem d_Md_depthOf_15 : dec m_Md_depthOf 15 = .ok (.iinc 2 1, 3) := by decide +kernel
theorem d_Md_depthOf_18 : dec m_Md_depthOf 18 = .ok (.aload_n 0, 1) := by decide +kernel
theorem d_Md_depthOf_19 : dec m_Md_depthOf 19 = .ok (.iload_n 3, 1) := by decide +kernel
theorem d_Md_depthOf_20 : dec m_Md_depthOf 20 = .ok (.iconst 1, 1) := by decide +kernel
theorem d_Md_depthOf_21 : dec m_Md_depthOf 21 = .ok (.invokevirtual 80, 3) := by decide +kernel
theorem d_Md_depthOf_24 : dec m_Md_depthOf 24 = .ok (.istore_n 3, 1) := by decide +kernel
theorem d_Md_depthOf_25 : dec m_Md_depthOf 25 = .ok (.goto (-16), 3) := by decide +kernel
theorem d_Md_depthOf_28 : dec m_Md_depthOf 28 = .ok (.iload_n 2, 1) := by decide +kernel
theorem d_Md_depthOf_29 : dec m_Md_depthOf 29 = .ok (.ireturn, 1) := by decide +kernel
theorem d_Md_isOnWay_0 : dec m_Md_isOnWay 0 = .ok (.iconst 0, 1) := by decide +kernel
theorem d_Md_isOnWay_1 : dec m_Md_isOnWay 1 = .ok (.istore_n 3, 1) := by decide +kernel
theorem d_Md_isOnWay_2 : dec m_Md_isOnWay 2 = .ok (.iload_n 2, 1) := by decide +kernel
theorem d_Md_isOnWay_3 : dec m_Md_isOnWay 3 = .ok (.istore 4, 2) := by decide +kernel
theorem d_Md_isOnWay_5 : dec m_Md_isOnWay 5 = .ok (.iload 4, 2) := by decide +kernel
theorem d_Md_isOnWay_7 : dec m_Md_isOnWay 7 = .ok (.bipush (-5), 2) := by decide +kernel
theorem d_Md_isOnWay_9 : dec m_Md_isOnWay 9 = .ok (.if_icmp .eq 36, 3) := by decide +kernel
theorem d_Md_isOnWay_12 : dec m_Md_isOnWay 12 = .ok (.iload_n 3, 1) := by decide +kernel
theorem d_Md_isOnWay_13 : dec m_Md_isOnWay 13 = .ok (.ifCond .ne 14, 3) := by decide +kernel
theorem d_Md_isOnWay_16 : dec m_Md_isOnWay 16 = .ok (.aload_n 0, 1) := by decide +kernel
theorem d_Md_isOnWay_17 : dec m_Md_isOnWay 17 = .ok (.iload 4, 2) := by decide +kernel
theorem d_Md_isOnWay_19 : dec m_Md_isOnWay 19 = .ok (.iconst 0, 1) := by decide +kernel
theorem d_Md_isOnWay_20 : dec m_Md_isOnWay 20 = .ok (.invokevirtual 80, 3) := by decide +kernel
theorem d_Md_isOnWay_23 : dec m_Md_isOnWay 23 = .ok (.iload_n 1, 1) := by decide +kernel
theorem d_Md_isOnWay_24 : dec m_Md_isOnWay 24 = .ok (.if_icmp .ne 7, 3) := by decide +kernel
theorem d_Md_isOnWay_27 : dec m_Md_isOnWay 27 = .ok (.iconst 1, 1) := by decide +kernel
theorem d_Md_isOnWay_28 : dec m_Md_isOnWay 28 = .ok (.goto 4, 3) := by decide +kernel
theorem d_Md_isOnWay_31 : dec m_Md_isOnWay 31 = .ok (.iconst 0, 1) := by decide +kernel
theorem d_Md_isOnWay_32 : dec m_Md_isOnWay 32 = .ok (.istore_n 3, 1) := by decide +kernel
theorem d_Md_isOnWay_33 : dec m_Md_isOnWay 33 = .ok (.aload_n 0, 1) := by decide +kernel
theorem d_Md_isOnWay_34 : dec m_Md_isOnWay 34 = .ok (.iload 4, 2) := by decide +kernel
theorem d_Md_isOnWay_36 : dec m_Md_isOnWay 36 = .ok (.iconst 1, 1) := by decide +kernel
theorem d_Md_isOnWay_37 : dec m_Md_isOnWay 37 = .ok (.invokevirtual 80, 3) := by decide +kernel
theorem d_Md_isOnWay_40 : dec m_Md_isOnWay 40 = .ok (.istore 4, 2) := by decide +kernel
theorem d_Md_isOnWay_42 : dec m_Md_isOnWay 42 = .ok (.goto (-37), 3) := by decide +kernel
theorem d_Md_isOnWay_45 : dec m_Md_isOnWay 45 = .ok (.iload_n 3, 1) := by decide +kernel
theorem d_Md_isOnWay_46 : dec m_Md_isOnWay 46 = .ok (.ireturn, 1) := by decide +kernel
theorem d_Md_makes_0 : dec m_Md_makes 0 = .ok (.aload_n 0, 1) := by decide +kernel
theorem d_Md_makes_1 : dec m_Md_makes 1 = .ok (.getfield 7, 3) := by decide +kernel
theorem d_Md_makes_4 : dec m_Md_makes 4 = .ok (.iconst 1, 1) := by decide +kernel
theorem d_Md_makes_5 : dec m_Md_makes 5 = .ok (.iaload, 1) := by decide +kernel
theorem d_Md_makes_6 : dec m_Md_makes 6 = .ok (.istore_n 3, 1) := by decide +kernel
theorem d_Md_makes_7 : dec m_Md_makes 7 = .ok (.aload_n 0, 1) := by decide +kernel
theorem d_Md_makes_8 : dec m_Md_makes 8 = .ok (.iload_n 1, 1) := by decide +kernel
theorem d_Md_makes_9 : dec m_Md_makes 9 = .ok (.invokevirtual 68, 3) := by decide +kernel
theorem d_Md_makes_12 : dec m_Md_makes 12 = .ok (.ifCond .eq 17, 3) := by decide +kernel
theorem d_Md_makes_15 : dec m_Md_makes 15 = .ok (.aload_n 0, 1) := by decide +kernel
theorem d_Md_makes_16 : dec m_Md_makes 16 = .ok (.iload_n 1, 1) := by decide +kernel
theorem d_Md_makes_17 : dec m_Md_makes 17 = .ok (.iconst 1, 1) := by decide +kernel
theorem d_Md_makes_18 : dec m_Md_makes 18 = .ok (.invokevirtual 43, 3) := by decide +kernel
theorem d_Md_makes_21 : dec m_Md_makes 21 = .ok (.iconst 1, 1) := by decide +kernel
theorem d_Md_makes_22 : dec m_Md_makes 22 = .ok (.if_icmp .ne 7, 3) := by decide +kernel
theorem d_Md_makes_25 : dec m_Md_makes 25 = .ok (.iconst 1, 1) := by decide +kernel
theorem d_Md_makes_26 : dec m_Md_makes 26 = .ok (.goto 4, 3) := by decide +kernel
theorem d_Md_makes_29 : dec m_Md_makes 29 = .ok (.iconst 0, 1) := by decide +kernel
theorem d_Md_makes_30 : dec m_Md_makes 30 = .ok (.istore 4, 2) := by decide +kernel
theorem d_Md_makes_32 : dec m_Md_makes 32 = .ok (.aload_n 0, 1) := by decide +kernel
theorem d_Md_makes_33 : dec m_Md_makes 33 = .ok (.iload_n 1, 1) := by decide +kernel
theorem d_Md_makes_34 : dec m_Md_makes 34 = .ok (.invokevirtual 68, 3) := by decide +kernel
theorem d_Md_makes_37 : dec m_Md_makes 37 = .ok (.ifCond .ne 16, 3) := by decide +kernel
theorem d_Md_makes_40 : dec m_Md_makes 40 = .ok (.aload_n 0, 1) := by decide +kernel
theorem d_Md_makes_41 : dec m_Md_makes 41 = .ok (.iload_n 1, 1) := by decide +kernel
theorem d_Md_makes_42 : dec m_Md_makes 42 = .ok (.iload_n 2, 1) := by decide +kernel
theorem d_Md_makes_43 : dec m_Md_makes 43 = .ok (.invokevirtual 83, 3) := by decide +kernel
theorem d_Md_makes_46 : dec m_Md_makes 46 = .ok (.ifCond .eq 7, 3) := by decide +kernel
theorem d_Md_makes_49 : dec m_Md_makes 49 = .ok (.iconst 1, 1) := by decide +kernel
theorem d_Md_makes_50 : dec m_Md_makes 50 = .ok (.goto 4, 3) := by decide +kernel
theorem d_Md_makes_53 : dec m_Md_makes 53 = .ok (.iconst 0, 1) := by decide +kernel
theorem d_Md_makes_54 : dec m_Md_makes 54 = .ok (.istore 5, 2) := by decide +kernel
theorem d_Md_makes_56 : dec m_Md_makes 56 = .ok (.iload 5, 2) := by decide +kernel
theorem d_Md_makes_58 : dec m_Md_makes 58 = .ok (.ifCond .ne 16, 3) := by decide +kernel
theorem d_Md_makes_61 : dec m_Md_makes 61 = .ok (.aload_n 0, 1) := by decide +kernel
theorem d_Md_makes_62 : dec m_Md_makes 62 = .ok (.iload_n 1, 1) := by decide +kernel
theorem d_Md_makes_63 : dec m_Md_makes 63 = .ok (.invokevirtual 68, 3) := by decide +kernel
theorem d_Md_makes_66 : dec m_Md_makes 66 = .ok (.ifCond .eq 12, 3) := by decide +kernel
theorem d_Md_makes_69 : dec m_Md_makes 69 = .ok (.iload 4, 2) := by decide +kernel
theorem d_Md_makes_71 : dec m_Md_makes 71 = .ok (.ifCond .ne 7, 3) := by decide +kernel
theorem d_Md_makes_74 : dec m_Md_makes 74 = .ok (.iconst 1, 1) := by decide +kernel
theorem d_Md_makes_75 : dec m_Md_makes 75 = .ok (.goto 4, 3) := by decide +kernel
theorem d_Md_makes_78 : dec m_Md_makes 78 = .ok (.iconst 0, 1) := by decide +kernel
theorem d_Md_makes_79 : dec m_Md_makes 79 = .ok (.istore 6, 2) := by decide +kernel
theorem d_Md_makes_81 : dec m_Md_makes 81 = .ok (.aload_n 0, 1) := by decide +kernel
theorem d_Md_makes_82 : dec m_Md_makes 82 = .ok (.iload_n 3, 1) := by decide +kernel
theorem d_Md_makes_83 : dec m_Md_makes 83 = .ok (.iconst 0, 1) := by decide +kernel
theorem d_Md_makes_84 : dec m_Md_makes 84 = .ok (.iload_n 1, 1) := by decide +kernel
theorem d_Md_makes_85 : dec m_Md_makes 85 = .ok (.invokevirtual 87, 3) := by decide +kernel
theorem d_Md_makes_88 : dec m_Md_makes 88 = .ok (.aload_n 0, 1) := by decide +kernel
theorem d_Md_makes_89 : dec m_Md_makes 89 = .ok (.iload_n 3, 1) := by decide +kernel
theorem d_Md_makes_90 : dec m_Md_makes 90 = .ok (.iconst 1, 1) := by decide +kernel
theorem d_Md_makes_91 : dec m_Md_makes 91 = .ok (.iload_n 2, 1) := by decide +kernel
theorem d_Md_makes_92 : dec m_Md_makes 92 = .ok (.invokevirtual 87, 3) := by decide +kernel
theorem d_Md_makes_95 : dec m_Md_makes 95 = .ok (.aload_n 0, 1) := by decide +kernel
theorem d_Md_makes_96 : dec m_Md_makes 96 = .ok (.iload_n 3, 1) := by decide +kernel
theorem d_Md_makes_97 : dec m_Md_makes 97 = .ok (.iconst 2, 1) := by decide +kernel
theorem d_Md_makes_98 : dec m_Md_makes 98 = .ok (.iload 4, 2) := by decide +kernel
theorem d_Md_makes_100 : dec m_Md_makes 100 = .ok (.ifCond .eq 7, 3) := by decide +kernel
theorem d_Md_makes_103 : dec m_Md_makes 103 = .ok (.iconst 0, 1) := by decide +kernel
theorem d_Md_makes_104 : dec m_Md_makes 104 = .ok (.goto 20, 3) := by decide +kernel
theorem d_Md_makes_107 : dec m_Md_makes 107 = .ok (.iload 6, 2) := by decide +kernel
theorem d_Md_makes_109 : dec m_Md_makes 109 = .ok (.ifCond .eq 9, 3) := by decide +kernel
theorem d_Md_makes_112 : dec m_Md_makes 112 = .ok (.sipush 9999, 3) := by decide +kernel
theorem d_Md_makes_115 : dec m_Md_makes 115 = .ok (.goto 9, 3) := by decide +kernel
theorem d_Md_makes_118 : dec m_Md_makes 118 = .ok (.aload_n 0, 1) := by decide +kernel
theorem d_Md_makes_119 : dec m_Md_makes 119 = .ok (.iload_n 1, 1) := by decide +kernel
theorem d_Md_makes_120 : dec m_Md_makes 120 = .ok (.iconst 2, 1) := by decide +kernel
theorem d_Md_makes_121 : dec m_Md_makes 121 = .ok (.invokevirtual 43, 3) := by decide +kernel
theorem d_Md_makes_124 : dec m_Md_makes 124 = .ok (.invokevirtual 87, 3) := by decide +kernel
theorem d_Md_makes_127 : dec m_Md_makes 127 = .ok (.aload_n 0, 1) := by decide +kernel
theorem d_Md_makes_128 : dec m_Md_makes 128 = .ok (.iload_n 3, 1) := by decide +kernel
theorem d_Md_makes_129 : dec m_Md_makes 129 = .ok (.iconst 3, 1) := by decide +kernel
theorem d_Md_makes_130 : dec m_Md_makes 130 = .ok (.iload 4, 2) := by decide +kernel
theorem d_Md_makes_132 : dec m_Md_makes 132 = .ok (.ifCond .eq 9, 3) := by decide +kernel
theorem d_Md_makes_135 : dec m_Md_makes 135 = .ok (.sipush 9999, 3) := by decide +kernel
theorem d_Md_makes_138 : dec m_Md_makes 138 = .ok (.goto 18, 3) := by decide +kernel
theorem d_Md_makes_141 : dec m_Md_makes 141 = .ok (.iload 6, 2) := by decide +kernel
theorem d_Md_makes_143 : dec m_Md_makes 143 = .ok (.ifCond .eq 7, 3) := by decide +kernel
theorem d_Md_makes_146 : dec m_Md_makes 146 = .ok (.iconst 0, 1) := by decide +kernel
theorem d_Md_makes_147 : dec m_Md_makes 147 = .ok (.goto 9, 3) := by decide +kernel
theorem d_Md_makes_150 : dec m_Md_makes 150 = .ok (.aload_n 0, 1) := by decide +kernel
theorem d_Md_makes_151 : dec m_Md_makes 151 = .ok (.iload_n 1, 1) := by decide +kernel
theorem d_Md_makes_152 : dec m_Md_makes 152 = .ok (.iconst 3, 1) := by decide +kernel
theorem d_Md_makes_153 : dec m_Md_makes 153 = .ok (.invokevirtual 43, 3) := by decide +kernel
theorem d_Md_makes_156 : dec m_Md_makes 156 = .ok (.invokevirtual 87, 3) := by decide +kernel
theorem d_Md_makes_159 : dec m_Md_makes 159 = .ok (.aload_n 0, 1) := by decide +kernel
theorem d_Md_makes_160 : dec m_Md_makes 160 = .ok (.iload_n 3, 1) := by decide +kernel
theorem d_Md_makes_161 : dec m_Md_makes 161 = .ok (.iconst 4, 1) := by decide +kernel
theorem d_Md_makes_162 : dec m_Md_makes 162 = .ok (.iconst 0, 1) := by decide +kernel
theorem d_Md_makes_163 : dec m_Md_makes 163 = .ok (.invokevirtual 87, 3) := by decide +kernel
theorem d_Md_makes_166 : dec m_Md_makes 166 = .ok (.aload_n 0, 1) := by decide +kernel
theorem d_Md_makes_167 : dec m_Md_makes 167 = .ok (.iload_n 3, 1) := by decide +kernel
theorem d_Md_makes_168 : dec m_Md_makes 168 = .ok (.iconst 5, 1) := by decide +kernel
theorem d_Md_makes_169 : dec m_Md_makes 169 = .ok (.bipush (-5), 2) := by decide +kernel
theorem d_Md_makes_171 : dec m_Md_makes 171 = .ok (.invokevirtual 87, 3) := by decide +kernel
theorem d_Md_makes_174 : dec m_Md_makes 174 = .ok (.aload_n 0, 1) := by decide +kernel
theorem d_Md_makes_175 : dec m_Md_makes 175 = .ok (.iload_n 3, 1) := by decide +kernel
theorem d_Md_makes_176 : dec m_Md_makes 176 = .ok (.bipush 6, 2) := by decide +kernel
theorem d_Md_makes_178 : dec m_Md_makes 178 = .ok (.iload 5, 2) := by decide +kernel
theorem d_Md_makes_180 : dec m_Md_makes 180 = .ok (.ifCond .eq 7, 3) := by decide +kernel
theorem d_Md_makes_183 : dec m_Md_makes 183 = .ok (.iconst 1, 1) := by decide +kernel
theorem d_Md_makes_184 : dec m_Md_makes 184 = .ok (.goto 4, 3) := by decide +kernel
theorem d_Md_makes_187 : dec m_Md_makes 187 = .ok (.iconst 0, 1) := by decide +kernel
theorem d_Md_makes_188 : dec m_Md_makes 188 = .ok (.invokevirtual 87, 3) := by decide +kernel
theorem d_Md_makes_191 : dec m_Md_makes 191 = .ok (.aload_n 0, 1) := by decide +kernel
theorem d_Md_makes_192 : dec m_Md_makes 192 = .ok (.getfield 7, 3) := by decide +kernel
theorem d_Md_makes_195 : dec m_Md_makes 195 = .ok (.iconst 1, 1) := by decide +kernel
theorem d_Md_makes_196 : dec m_Md_makes 196 = .ok (.dup2, 1) := by decide +kernel
theorem d_Md_makes_197 : dec m_Md_makes 197 = .ok (.iaload, 1) := by decide +kernel
theorem d_Md_makes_198 : dec m_Md_makes 198 = .ok (.iconst 1, 1) := by decide +kernel
theorem d_Md_makes_199 : dec m_Md_makes 199 = .ok (.iadd, 1) := by decide +kernel
theorem d_Md_makes_200 : dec m_Md_makes 200 = .ok (.iastore, 1) := by decide +kernel
theorem d_Md_makes_201 : dec m_Md_makes 201 = .ok (.return_, 1) := by decide +kernel
theorem d_Md_isDecided_0 : dec m_Md_isDecided 0 = .ok (.aload_n 0, 1) := by decide +kernel
theorem d_Md_isDecided_1 : dec m_Md_isDecided 1 = .ok (.iconst 0, 1) := by decide +kernel
theorem d_Md_isDecided_2 : dec m_Md_isDecided 2 = .ok (.iconst 2, 1) := by decide +kernel
theorem d_Md_isDecided_3 : dec m_Md_isDecided 3 = .ok (.invokevirtual 80, 3) := by decide +kernel
theorem d_Md_isDecided_6 : dec m_Md_isDecided 6 = .ok (.ifCond .eq 12, 3) := by decide +kernel
theorem d_Md_isDecided_9 : dec m_Md_isDecided 9 = .ok (.aload_n 0, 1) := by decide +kernel
theorem d_Md_isDecided_10 : dec m_Md_isDecided 10 = .ok (.iconst 0, 1) := by decide +kernel
theorem d_Md_isDecided_11 : dec m_Md_isDecided 11 = .ok (.iconst 3, 1) := by decide +kernel
theorem d_Md_isDecided_12 : dec m_Md_isDecided 12 = .ok (.invokevirtual 80, 3) := by decide +kernel
theorem d_Md_isDecided_15 : dec m_Md_isDecided 15 = .ok (.ifCond .ne 7, 3) := by decide +kernel
theorem d_Md_isDecided_18 : dec m_Md_isDecided 18 = .ok (.iconst 1, 1) := by decide +kernel
theorem d_Md_isDecided_19 : dec m_Md_isDecided 19 = .ok (.goto 4, 3) := by decide +kernel
theorem d_Md_isDecided_22 : dec m_Md_isDecided 22 = .ok (.iconst 0, 1) := by decide +kernel
theorem d_Md_isDecided_23 : dec m_Md_isDecided 23 = .ok (.ireturn, 1) := by decide +kernel
theorem d_Md_turnOf_0 : dec m_Md_turnOf 0 = .ok (.aload_n 0, 1) := by decide +kernel
theorem d_Md_turnOf_1 : dec m_Md_turnOf 1 = .ok (.aload_n 0, 1) := by decide +kernel
theorem d_Md_turnOf_2 : dec m_Md_turnOf 2 = .ok (.iload_n 1, 1) := by decide +kernel
theorem d_Md_turnOf_3 : dec m_Md_turnOf 3 = .ok (.iconst 0, 1) := by decide +kernel
theorem d_Md_turnOf_4 : dec m_Md_turnOf 4 = .ok (.invokevirtual 80, 3) := by decide +kernel
theorem d_Md_turnOf_7 : dec m_Md_turnOf 7 = .ok (.iconst 0, 1) := by decide +kernel
theorem d_Md_turnOf_8 : dec m_Md_turnOf 8 = .ok (.invokevirtual 43, 3) := by decide +kernel
theorem d_Md_turnOf_11 : dec m_Md_turnOf 11 = .ok (.ireturn, 1) := by decide +kernel
theorem d_Md_cheapest_0 : dec m_Md_cheapest 0 = .ok (.aload_n 0, 1) := by decide +kernel
theorem d_Md_cheapest_1 : dec m_Md_cheapest 1 = .ok (.iload_n 1, 1) := by decide +kernel
theorem d_Md_cheapest_2 : dec m_Md_cheapest 2 = .ok (.iconst 5, 1) := by decide +kernel
theorem d_Md_cheapest_3 : dec m_Md_cheapest 3 = .ok (.invokevirtual 80, 3) := by decide +kernel
theorem d_Md_cheapest_6 : dec m_Md_cheapest 6 = .ok (.istore_n 3, 1) := by decide +kernel
theorem d_Md_cheapest_7 : dec m_Md_cheapest 7 = .ok (.iconst 1, 1) := by decide +kernel
theorem d_Md_cheapest_8 : dec m_Md_cheapest 8 = .ok (.istore 4, 2) := by decide +kernel
theorem d_Md_cheapest_10 : dec m_Md_cheapest 10 = .ok (.iload 4, 2) := by decide +kernel
theorem d_Md_cheapest_12 : dec m_Md_cheapest 12 = .ok (.aload_n 0, 1) := by decide +kernel
theorem d_Md_cheapest_13 : dec m_Md_cheapest 13 = .ok (.iload_n 1, 1) := by decide +kernel
theorem d_Md_cheapest_14 : dec m_Md_cheapest 14 = .ok (.iconst 4, 1) := by decide +kernel
theorem d_Md_cheapest_15 : dec m_Md_cheapest 15 = .ok (.invokevirtual 80, 3) := by decide +kernel
theorem d_Md_cheapest_18 : dec m_Md_cheapest 18 = .ok (.if_icmp .ge 43, 3) := by decide +kernel
theorem d_Md_cheapest_21 : dec m_Md_cheapest 21 = .ok (.aload_n 0, 1) := by decide +kernel
theorem d_Md_cheapest_22 : dec m_Md_cheapest 22 = .ok (.iload_n 1, 1) := by decide +kernel
theorem d_Md_cheapest_23 : dec m_Md_cheapest 23 = .ok (.iconst 5, 1) := by decide +kernel
theorem d_Md_cheapest_24 : dec m_Md_cheapest 24 = .ok (.invokevirtual 80, 3) := by decide +kernel
theorem d_Md_cheapest_27 : dec m_Md_cheapest 27 = .ok (.iload 4, 2) := by decide +kernel
theorem d_Md_cheapest_29 : dec m_Md_cheapest 29 = .ok (.iadd, 1) := by decide +kernel
theorem d_Md_cheapest_30 : dec m_Md_cheapest 30 = .ok (.istore 5, 2) := by decide +kernel
theorem d_Md_cheapest_32 : dec m_Md_cheapest 32 = .ok (.aload_n 0, 1) := by decide +kernel
theorem d_Md_cheapest_33 : dec m_Md_cheapest 33 = .ok (.iload 5, 2) := by decide +kernel
theorem d_Md_cheapest_35 : dec m_Md_cheapest 35 = .ok (.iload_n 2, 1) := by decide +kernel
theorem d_Md_cheapest_36 : dec m_Md_cheapest 36 = .ok (.invokevirtual 80, 3) := by decide +kernel
theorem d_Md_cheapest_39 : dec m_Md_cheapest 39 = .ok (.aload_n 0, 1) := by decide +kernel
theorem d_Md_cheapest_40 : dec m_Md_cheapest 40 = .ok (.iload_n 3, 1) := by decide +kernel
theorem d_Md_cheapest_41 : dec m_Md_cheapest 41 = .ok (.iload_n 2, 1) := by decide +kernel
theorem d_Md_cheapest_42 : dec m_Md_cheapest 42 = .ok (.invokevirtual 80, 3) := by decide +kernel
theorem d_Md_cheapest_45 : dec m_Md_cheapest 45 = .ok (.if_icmp .ge 8, 3) := by decide +kernel
theorem d_Md_cheapest_48 : dec m_Md_cheapest 48 = .ok (.iload 5, 2) := by decide +kernel
theorem d_Md_cheapest_50 : dec m_Md_cheapest 50 = .ok (.goto 4, 3) := by decide +kernel
theorem d_Md_cheapest_53 : dec m_Md_cheapest 53 = .ok (.iload_n 3, 1) := by decide +kernel
theorem d_Md_cheapest_54 : dec m_Md_cheapest 54 = .ok (.istore_n 3, 1) := by decide +kernel
theorem d_Md_cheapest_55 : dec m_Md_cheapest 55 = .ok (.iinc 4 1, 3) := by decide +kernel
theorem d_Md_cheapest_58 : dec m_Md_cheapest 58 = .ok (.goto (-48), 3) := by decide +kernel
theorem d_Md_cheapest_61 : dec m_Md_cheapest 61 = .ok (.iload_n 3, 1) := by decide +kernel
theorem d_Md_cheapest_62 : dec m_Md_cheapest 62 = .ok (.ireturn, 1) := by decide +kernel
theorem d_Md_nextOf_0 : dec m_Md_nextOf 0 = .ok (.aload_n 0, 1) := by decide +kernel
theorem d_Md_nextOf_1 : dec m_Md_nextOf 1 = .ok (.iload_n 1, 1) := by decide +kernel
theorem d_Md_nextOf_2 : dec m_Md_nextOf 2 = .ok (.aload_n 0, 1) := by decide +kernel
theorem d_Md_nextOf_3 : dec m_Md_nextOf 3 = .ok (.iload_n 1, 1) := by decide +kernel
theorem d_Md_nextOf_4 : dec m_Md_nextOf 4 = .ok (.invokevirtual 91, 3) := by decide +kernel
theorem d_Md_nextOf_7 : dec m_Md_nextOf 7 = .ok (.ifCond .ne 7, 3) := by decide +kernel
theorem d_Md_nextOf_10 : dec m_Md_nextOf 10 = .ok (.iconst 2, 1) := by decide +kernel
theorem d_Md_nextOf_11 : dec m_Md_nextOf 11 = .ok (.goto 4, 3) := by decide +kernel
theorem d_Md_nextOf_14 : dec m_Md_nextOf 14 = .ok (.iconst 3, 1) := by decide +kernel
theorem d_Md_nextOf_15 : dec m_Md_nextOf 15 = .ok (.invokevirtual 94, 3) := by decide +kernel
theorem d_Md_nextOf_18 : dec m_Md_nextOf 18 = .ok (.ireturn, 1) := by decide +kernel
theorem d_Md_sumOver_0 : dec m_Md_sumOver 0 = .ok (.iconst 0, 1) := by decide +kernel
theorem d_Md_sumOver_1 : dec m_Md_sumOver 1 = .ok (.istore_n 3, 1) := by decide +kernel
theorem d_Md_sumOver_2 : dec m_Md_sumOver 2 = .ok (.iconst 0, 1) := by decide +kernel
theorem d_Md_sumOver_3 : dec m_Md_sumOver 3 = .ok (.istore 4, 2) := by decide +kernel
theorem d_Md_sumOver_5 : dec m_Md_sumOver 5 = .ok (.iload 4, 2) := by decide +kernel
theorem d_Md_sumOver_7 : dec m_Md_sumOver 7 = .ok (.aload_n 0, 1) := by decide +kernel
theorem d_Md_sumOver_8 : dec m_Md_sumOver 8 = .ok (.iload_n 1, 1) := by decide +kernel
theorem d_Md_sumOver_9 : dec m_Md_sumOver 9 = .ok (.iconst 4, 1) := by decide +kernel
theorem d_Md_sumOver_10 : dec m_Md_sumOver 10 = .ok (.invokevirtual 80, 3) := by decide +kernel
theorem d_Md_sumOver_13 : dec m_Md_sumOver 13 = .ok (.if_icmp .ge 26, 3) := by decide +kernel
theorem d_Md_sumOver_16 : dec m_Md_sumOver 16 = .ok (.iload_n 3, 1) := by decide +kernel
theorem d_Md_sumOver_17 : dec m_Md_sumOver 17 = .ok (.aload_n 0, 1) := by decide +kernel
theorem d_Md_sumOver_18 : dec m_Md_sumOver 18 = .ok (.aload_n 0, 1) := by decide +kernel
theorem d_Md_sumOver_19 : dec m_Md_sumOver 19 = .ok (.iload_n 1, 1) := by decide +kernel
theorem d_Md_sumOver_20 : dec m_Md_sumOver 20 = .ok (.iconst 5, 1) := by decide +kernel
theorem d_Md_sumOver_21 : dec m_Md_sumOver 21 = .ok (.invokevirtual 80, 3) := by decide +kernel
theorem d_Md_sumOver_24 : dec m_Md_sumOver 24 = .ok (.iload 4, 2) := by decide +kernel
theorem d_Md_sumOver_26 : dec m_Md_sumOver 26 = .ok (.iadd, 1) := by decide +kernel
theorem d_Md_sumOver_27 : dec m_Md_sumOver 27 = .ok (.iload_n 2, 1) := by decide +kernel
theorem d_Md_sumOver_28 : dec m_Md_sumOver 28 = .ok (.invokevirtual 80, 3) := by decide +kernel
theorem d_Md_sumOver_31 : dec m_Md_sumOver 31 = .ok (.iadd, 1) := by decide +kernel
theorem d_Md_sumOver_32 : dec m_Md_sumOver 32 = .ok (.istore_n 3, 1) := by decide +kernel
theorem d_Md_sumOver_33 : dec m_Md_sumOver 33 = .ok (.iinc 4 1, 3) := by decide +kernel
theorem d_Md_sumOver_36 : dec m_Md_sumOver 36 = .ok (.goto (-31), 3) := by decide +kernel
theorem d_Md_sumOver_39 : dec m_Md_sumOver 39 = .ok (.iload_n 3, 1) := by decide +kernel
theorem d_Md_sumOver_40 : dec m_Md_sumOver 40 = .ok (.sipush 9999, 3) := by decide +kernel
theorem d_Md_sumOver_43 : dec m_Md_sumOver 43 = .ok (.if_icmp .le 9, 3) := by decide +kernel
theorem d_Md_sumOver_46 : dec m_Md_sumOver 46 = .ok (.sipush 9999, 3) := by decide +kernel
theorem d_Md_sumOver_49 : dec m_Md_sumOver 49 = .ok (.goto 4, 3) := by decide +kernel
theorem d_Md_sumOver_52 : dec m_Md_sumOver 52 = .ok (.iload_n 3, 1) := by decide +kernel
theorem d_Md_sumOver_53 : dec m_Md_sumOver 53 = .ok (.ireturn, 1) := by decide +kernel
theorem d_Md_works_0 : dec m_Md_works 0 = .ok (.aload_n 0, 1) := by decide +kernel
theorem d_Md_works_1 : dec m_Md_works 1 = .ok (.iload_n 1, 1) := by decide +kernel
theorem d_Md_works_2 : dec m_Md_works 2 = .ok (.invokevirtual 91, 3) := by decide +kernel
theorem d_Md_works_5 : dec m_Md_works 5 = .ok (.ifCond .ne 7, 3) := by decide +kernel
theorem d_Md_works_8 : dec m_Md_works 8 = .ok (.iconst 2, 1) := by decide +kernel
theorem d_Md_works_9 : dec m_Md_works 9 = .ok (.goto 4, 3) := by decide +kernel
theorem d_Md_works_12 : dec m_Md_works 12 = .ok (.iconst 3, 1) := by decide +kernel
theorem d_Md_works_13 : dec m_Md_works 13 = .ok (.istore_n 2, 1) := by decide +kernel
theorem d_Md_works_14 : dec m_Md_works 14 = .ok (.iload_n 2, 1) := by decide +kernel
theorem d_Md_works_15 : dec m_Md_works 15 = .ok (.iconst 2, 1) := by decide +kernel
theorem d_Md_works_16 : dec m_Md_works 16 = .ok (.if_icmp .ne 7, 3) := by decide +kernel
theorem d_Md_works_19 : dec m_Md_works 19 = .ok (.iconst 3, 1) := by decide +kernel
theorem d_Md_works_20 : dec m_Md_works 20 = .ok (.goto 4, 3) := by decide +kernel
theorem d_Md_works_23 : dec m_Md_works 23 = .ok (.iconst 2, 1) := by decide +kernel
theorem d_Md_works_24 : dec m_Md_works 24 = .ok (.istore_n 3, 1) := by decide +kernel
theorem d_Md_works_25 : dec m_Md_works 25 = .ok (.aload_n 0, 1) := by decide +kernel
theorem d_Md_works_26 : dec m_Md_works 26 = .ok (.iload_n 1, 1) := by decide +kernel
theorem d_Md_works_27 : dec m_Md_works 27 = .ok (.iload_n 2, 1) := by decide +kernel
theorem d_Md_works_28 : dec m_Md_works 28 = .ok (.aload_n 0, 1) := by decide +kernel
theorem d_Md_works_29 : dec m_Md_works 29 = .ok (.aload_n 0, 1) := by decide +kernel
theorem d_Md_works_30 : dec m_Md_works 30 = .ok (.iload_n 1, 1) := by decide +kernel
theorem d_Md_works_31 : dec m_Md_works 31 = .ok (.iload_n 2, 1) := by decide +kernel
theorem d_Md_works_32 : dec m_Md_works 32 = .ok (.invokevirtual 94, 3) := by decide +kernel
theorem d_Md_works_35 : dec m_Md_works 35 = .ok (.iload_n 2, 1) := by decide +kernel
theorem d_Md_works_36 : dec m_Md_works 36 = .ok (.invokevirtual 80, 3) := by decide +kernel
theorem d_Md_works_39 : dec m_Md_works 39 = .ok (.invokevirtual 87, 3) := by decide +kernel
theorem d_Md_works_42 : dec m_Md_works 42 = .ok (.aload_n 0, 1) := by decide +kernel
theorem d_Md_works_43 : dec m_Md_works 43 = .ok (.iload_n 1, 1) := by decide +kernel
theorem d_Md_works_44 : dec m_Md_works 44 = .ok (.iload_n 3, 1) := by decide +kernel
theorem d_Md_works_45 : dec m_Md_works 45 = .ok (.aload_n 0, 1) := by decide +kernel
theorem d_Md_works_46 : dec m_Md_works 46 = .ok (.iload_n 1, 1) := by decide +kernel
theorem d_Md_works_47 : dec m_Md_works 47 = .ok (.iload_n 3, 1) := by decide +kernel
theorem d_Md_works_48 : dec m_Md_works 48 = .ok (.invokevirtual 97, 3) := by decide +kernel
theorem d_Md_works_51 : dec m_Md_works 51 = .ok (.invokevirtual 87, 3) := by decide +kernel
theorem d_Md_works_54 : dec m_Md_works 54 = .ok (.return_, 1) := by decide +kernel
theorem d_Md_leaf_0 : dec m_Md_leaf 0 = .ok (.iconst 0, 1) := by decide +kernel
theorem d_Md_leaf_1 : dec m_Md_leaf 1 = .ok (.istore_n 1, 1) := by decide +kernel
theorem d_Md_leaf_2 : dec m_Md_leaf 2 = .ok (.aload_n 0, 1) := by decide +kernel
theorem d_Md_leaf_3 : dec m_Md_leaf 3 = .ok (.iload_n 1, 1) := by decide +kernel
theorem d_Md_leaf_4 : dec m_Md_leaf 4 = .ok (.iconst 4, 1) := by decide +kernel
theorem d_Md_leaf_5 : dec m_Md_leaf 5 = .ok (.invokevirtual 80, 3) := by decide +kernel
theorem d_Md_leaf_8 : dec m_Md_leaf 8 = .ok (.ifCond .le 12, 3) := by decide +kernel
theorem d_Md_leaf_11 : dec m_Md_leaf 11 = .ok (.aload_n 0, 1) := by decide +kernel
theorem d_Md_leaf_12 : dec m_Md_leaf 12 = .ok (.iload_n 1, 1) := by decide +kernel
theorem d_Md_leaf_13 : dec m_Md_leaf 13 = .ok (.invokevirtual 100, 3) := by decide +kernel
theorem d_Md_leaf_16 : dec m_Md_leaf 16 = .ok (.istore_n 1, 1) := by decide +kernel
theorem d_Md_leaf_17 : dec m_Md_leaf 17 = .ok (.goto (-15), 3) := by decide +kernel
theorem d_Md_leaf_20 : dec m_Md_leaf 20 = .ok (.iload_n 1, 1) := by decide +kernel
theorem d_Md_leaf_21 : dec m_Md_leaf 21 = .ok (.ireturn, 1) := by decide +kernel
theorem d_Md_opens_0 : dec m_Md_opens 0 = .ok (.aload_n 0, 1) := by decide +kernel
theorem d_Md_opens_1 : dec m_Md_opens 1 = .ok (.invokevirtual 103, 3) := by decide +kernel
theorem d_Md_opens_4 : dec m_Md_opens 4 = .ok (.ifCond .eq 5, 3) := by decide +kernel
theorem d_Md_opens_7 : dec m_Md_opens 7 = .ok (.iconst 0, 1) := by decide +kernel
theorem d_Md_opens_8 : dec m_Md_opens 8 = .ok (.ireturn, 1) := by decide +kernel
theorem d_Md_opens_9 : dec m_Md_opens 9 = .ok (.aload_n 0, 1) := by decide +kernel
theorem d_Md_opens_10 : dec m_Md_opens 10 = .ok (.invokevirtual 107, 3) := by decide +kernel
theorem d_Md_opens_13 : dec m_Md_opens 13 = .ok (.istore_n 1, 1) := by decide +kernel
theorem d_Md_opens_14 : dec m_Md_opens 14 = .ok (.aload_n 0, 1) := by decide +kernel
theorem d_Md_opens_15 : dec m_Md_opens 15 = .ok (.iload_n 1, 1) := by decide +kernel
theorem d_Md_opens_16 : dec m_Md_opens 16 = .ok (.iconst 0, 1) := by decide +kernel
theorem d_Md_opens_17 : dec m_Md_opens 17 = .ok (.invokevirtual 80, 3) := by decide +kernel
theorem d_Md_opens_20 : dec m_Md_opens 20 = .ok (.istore_n 2, 1) := by decide +kernel
theorem d_Md_opens_21 : dec m_Md_opens 21 = .ok (.aload_n 0, 1) := by decide +kernel
theorem d_Md_opens_22 : dec m_Md_opens 22 = .ok (.iload_n 2, 1) := by decide +kernel
theorem d_Md_opens_23 : dec m_Md_opens 23 = .ok (.invokevirtual 47, 3) := by decide +kernel
theorem d_Md_opens_26 : dec m_Md_opens 26 = .ok (.istore_n 3, 1) := by decide +kernel
theorem d_Md_opens_27 : dec m_Md_opens 27 = .ok (.aload_n 0, 1) := by decide +kernel
theorem d_Md_opens_28 : dec m_Md_opens 28 = .ok (.getfield 7, 3) := by decide +kernel
theorem d_Md_opens_31 : dec m_Md_opens 31 = .ok (.iconst 1, 1) := by decide +kernel
theorem d_Md_opens_32 : dec m_Md_opens 32 = .ok (.iaload, 1) := by decide +kernel
theorem d_Md_opens_33 : dec m_Md_opens 33 = .ok (.iload_n 3, 1) := by decide +kernel
theorem d_Md_opens_34 : dec m_Md_opens 34 = .ok (.iadd, 1) := by decide +kernel
theorem d_Md_opens_35 : dec m_Md_opens 35 = .ok (.sipush 200, 3) := by decide +kernel
theorem d_Md_opens_38 : dec m_Md_opens 38 = .ok (.if_icmp .le 5, 3) := by decide +kernel
theorem d_Md_opens_41 : dec m_Md_opens 41 = .ok (.iconst 0, 1) := by decide +kernel
theorem d_Md_opens_42 : dec m_Md_opens 42 = .ok (.ireturn, 1) := by decide +kernel
theorem d_Md_opens_43 : dec m_Md_opens 43 = .ok (.aload_n 0, 1) := by decide +kernel
theorem d_Md_opens_44 : dec m_Md_opens 44 = .ok (.iload_n 1, 1) := by decide +kernel
theorem d_Md_opens_45 : dec m_Md_opens 45 = .ok (.iconst 5, 1) := by decide +kernel
theorem d_Md_opens_46 : dec m_Md_opens 46 = .ok (.aload_n 0, 1) := by decide +kernel
theorem d_Md_opens_47 : dec m_Md_opens 47 = .ok (.getfield 7, 3) := by decide +kernel
theorem d_Md_opens_50 : dec m_Md_opens 50 = .ok (.iconst 1, 1) := by decide +kernel
theorem d_Md_opens_51 : dec m_Md_opens 51 = .ok (.iaload, 1) := by decide +kernel
theorem d_Md_opens_52 : dec m_Md_opens 52 = .ok (.invokevirtual 87, 3) := by decide +kernel
theorem d_Md_opens_55 : dec m_Md_opens 55 = .ok (.aload_n 0, 1) := by decide +kernel
theorem d_Md_opens_56 : dec m_Md_opens 56 = .ok (.iload_n 1, 1) := by decide +kernel
theorem d_Md_opens_57 : dec m_Md_opens 57 = .ok (.iconst 4, 1) := by decide +kernel
theorem d_Md_opens_58 : dec m_Md_opens 58 = .ok (.iload_n 3, 1) := by decide +kernel
theorem d_Md_opens_59 : dec m_Md_opens 59 = .ok (.invokevirtual 87, 3) := by decide +kernel
theorem d_Md_opens_62 : dec m_Md_opens 62 = .ok (.iconst 0, 1) := by decide +kernel
theorem d_Md_opens_63 : dec m_Md_opens 63 = .ok (.istore 4, 2) := by decide +kernel
theorem d_Md_opens_65 : dec m_Md_opens 65 = .ok (.iload 4, 2) := by decide +kernel
theorem d_Md_opens_67 : dec m_Md_opens 67 = .ok (.iload_n 3, 1) := by decide +kernel
theorem d_Md_opens_68 : dec m_Md_opens 68 = .ok (.if_icmp .ge 21, 3) := by decide +kernel
theorem d_Md_opens_71 : dec m_Md_opens 71 = .ok (.aload_n 0, 1) := by decide +kernel
theorem d_Md_opens_72 : dec m_Md_opens 72 = .ok (.aload_n 0, 1) := by decide +kernel
theorem d_Md_opens_73 : dec m_Md_opens 73 = .ok (.iload_n 2, 1) := by decide +kernel
theorem d_Md_opens_74 : dec m_Md_opens 74 = .ok (.iload 4, 2) := by decide +kernel
theorem d_Md_opens_76 : dec m_Md_opens 76 = .ok (.invokevirtual 71, 3) := by decide +kernel
theorem d_Md_opens_79 : dec m_Md_opens 79 = .ok (.iload_n 1, 1) := by decide +kernel
theorem d_Md_opens_80 : dec m_Md_opens 80 = .ok (.invokevirtual 111, 3) := by decide +kernel
theorem d_Md_opens_83 : dec m_Md_opens 83 = .ok (.iinc 4 1, 3) := by decide +kernel
theorem d_Md_opens_86 : dec m_Md_opens 86 = .ok (.goto (-21), 3) := by decide +kernel
theorem d_Md_opens_89 : dec m_Md_opens 89 = .ok (.iload_n 1, 1) := by decide +kernel
theorem d_Md_opens_90 : dec m_Md_opens 90 = .ok (.istore 4, 2) := by decide +kernel
theorem d_Md_opens_92 : dec m_Md_opens 92 = .ok (.iload 4, 2) := by decide +kernel
theorem d_Md_opens_94 : dec m_Md_opens 94 = .ok (.bipush (-5), 2) := by decide +kernel
theorem d_Md_opens_96 : dec m_Md_opens 96 = .ok (.if_icmp .eq 21, 3) := by decide +kernel
theorem d_Md_opens_99 : dec m_Md_opens 99 = .ok (.aload_n 0, 1) := by decide +kernel
theorem d_Md_opens_100 : dec m_Md_opens 100 = .ok (.iload 4, 2) := by decide +kernel
theorem d_Md_opens_102 : dec m_Md_opens 102 = .ok (.invokevirtual 114, 3) := by decide +kernel
theorem d_Md_opens_105 : dec m_Md_opens 105 = .ok (.aload_n 0, 1) := by decide +kernel
theorem d_Md_opens_106 : dec m_Md_opens 106 = .ok (.iload 4, 2) := by decide +kernel
theorem d_Md_opens_108 : dec m_Md_opens 108 = .ok (.iconst 1, 1) := by decide +kernel
theorem d_Md_opens_109 : dec m_Md_opens 109 = .ok (.invokevirtual 80, 3) := by decide +kernel
theorem d_Md_opens_112 : dec m_Md_opens 112 = .ok (.istore 4, 2) := by decide +kernel
theorem d_Md_opens_114 : dec m_Md_opens 114 = .ok (.goto (-22), 3) := by decide +kernel
theorem d_Md_opens_117 : dec m_Md_opens 117 = .ok (.aload_n 0, 1) := by decide +kernel
theorem d_Md_opens_118 : dec m_Md_opens 118 = .ok (.getfield 7, 3) := by decide +kernel
theorem d_Md_opens_121 : dec m_Md_opens 121 = .ok (.iconst 2, 1) := by decide +kernel
theorem d_Md_opens_122 : dec m_Md_opens 122 = .ok (.dup2, 1) := by decide +kernel
theorem d_Md_opens_123 : dec m_Md_opens 123 = .ok (.iaload, 1) := by decide +kernel
theorem d_Md_opens_124 : dec m_Md_opens 124 = .ok (.iconst 1, 1) := by decide +kernel
theorem d_Md_opens_125 : dec m_Md_opens 125 = .ok (.iadd, 1) := by decide +kernel
theorem d_Md_opens_126 : dec m_Md_opens 126 = .ok (.iastore, 1) := by decide +kernel
theorem d_Md_opens_127 : dec m_Md_opens 127 = .ok (.iconst 1, 1) := by decide +kernel
theorem d_Md_opens_128 : dec m_Md_opens 128 = .ok (.ireturn, 1) := by decide +kernel
theorem d_Md_begin_0 : dec m_Md_begin 0 = .ok (.aload_n 0, 1) := by decide +kernel
theorem d_Md_begin_1 : dec m_Md_begin 1 = .ok (.iconst 0, 1) := by decide +kernel
theorem d_Md_begin_2 : dec m_Md_begin 2 = .ok (.putfield 32, 3) := by decide +kernel
theorem d_Md_begin_5 : dec m_Md_begin 5 = .ok (.iload_n 1, 1) := by decide +kernel
theorem d_Md_begin_6 : dec m_Md_begin 6 = .ok (.invokestatic 51, 3) := by decide +kernel
theorem d_Md_begin_9 : dec m_Md_begin 9 = .ok (.ifCond .ne 5, 3) := by decide +kernel
theorem d_Md_begin_12 : dec m_Md_begin 12 = .ok (.iconst (-1), 1) := by decide +kernel
theorem d_Md_begin_13 : dec m_Md_begin 13 = .ok (.ireturn, 1) := by decide +kernel
theorem d_Md_begin_14 : dec m_Md_begin 14 = .ok (.aload_n 0, 1) := by decide +kernel
theorem d_Md_begin_15 : dec m_Md_begin 15 = .ok (.invokevirtual 55, 3) := by decide +kernel
theorem d_Md_begin_18 : dec m_Md_begin 18 = .ok (.aload_n 0, 1) := by decide +kernel
theorem d_Md_begin_19 : dec m_Md_begin 19 = .ok (.invokevirtual 58, 3) := by decide +kernel
theorem d_Md_begin_22 : dec m_Md_begin 22 = .ok (.aload_n 0, 1) := by decide +kernel
theorem d_Md_begin_23 : dec m_Md_begin 23 = .ok (.iload_n 1, 1) := by decide +kernel
theorem d_Md_begin_24 : dec m_Md_begin 24 = .ok (.bipush (-5), 2) := by decide +kernel
theorem d_Md_begin_26 : dec m_Md_begin 26 = .ok (.invokevirtual 111, 3) := by decide +kernel
theorem d_Md_begin_29 : dec m_Md_begin 29 = .ok (.aload_n 0, 1) := by decide +kernel
theorem d_Md_begin_30 : dec m_Md_begin 30 = .ok (.iconst 0, 1) := by decide +kernel
theorem d_Md_begin_31 : dec m_Md_begin 31 = .ok (.iconst 2, 1) := by decide +kernel
theorem d_Md_begin_32 : dec m_Md_begin 32 = .ok (.invokevirtual 80, 3) := by decide +kernel
theorem d_Md_begin_35 : dec m_Md_begin 35 = .ok (.ireturn, 1) := by decide +kernel
theorem d_Md_canOpen_0 : dec m_Md_canOpen 0 = .ok (.aload_n 0, 1) := by decide +kernel
theorem d_Md_canOpen_1 : dec m_Md_canOpen 1 = .ok (.invokevirtual 103, 3) := by decide +kernel
theorem d_Md_canOpen_4 : dec m_Md_canOpen 4 = .ok (.ifCond .ne 33, 3) := by decide +kernel
theorem d_Md_canOpen_7 : dec m_Md_canOpen 7 = .ok (.aload_n 0, 1) := by decide +kernel
theorem d_Md_canOpen_8 : dec m_Md_canOpen 8 = .ok (.getfield 7, 3) := by decide +kernel
theorem d_Md_canOpen_11 : dec m_Md_canOpen 11 = .ok (.iconst 1, 1) := by decide +kernel
theorem d_Md_canOpen_12 : dec m_Md_canOpen 12 = .ok (.iaload, 1) := by decide +kernel
theorem d_Md_canOpen_13 : dec m_Md_canOpen 13 = .ok (.aload_n 0, 1) := by decide +kernel
theorem d_Md_canOpen_14 : dec m_Md_canOpen 14 = .ok (.aload_n 0, 1) := by decide +kernel
theorem d_Md_canOpen_15 : dec m_Md_canOpen 15 = .ok (.aload_n 0, 1) := by decide +kernel
theorem d_Md_canOpen_16 : dec m_Md_canOpen 16 = .ok (.invokevirtual 107, 3) := by decide +kernel
theorem d_Md_canOpen_19 : dec m_Md_canOpen 19 = .ok (.iconst 0, 1) := by decide +kernel
theorem d_Md_canOpen_20 : dec m_Md_canOpen 20 = .ok (.invokevirtual 80, 3) := by decide +kernel
theorem d_Md_canOpen_23 : dec m_Md_canOpen 23 = .ok (.invokevirtual 47, 3) := by decide +kernel
theorem d_Md_canOpen_26 : dec m_Md_canOpen 26 = .ok (.iadd, 1) := by decide +kernel
theorem d_Md_canOpen_27 : dec m_Md_canOpen 27 = .ok (.sipush 200, 3) := by decide +kernel
theorem d_Md_canOpen_30 : dec m_Md_canOpen 30 = .ok (.if_icmp .gt 7, 3) := by decide +kernel
theorem d_Md_canOpen_33 : dec m_Md_canOpen 33 = .ok (.iconst 1, 1) := by decide +kernel
theorem d_Md_canOpen_34 : dec m_Md_canOpen 34 = .ok (.goto 4, 3) := by decide +kernel
theorem d_Md_canOpen_37 : dec m_Md_canOpen 37 = .ok (.iconst 0, 1) := by decide +kernel
theorem d_Md_canOpen_38 : dec m_Md_canOpen 38 = .ok (.ireturn, 1) := by decide +kernel
theorem d_Md_open_0 : dec m_Md_open 0 = .ok (.aload_n 0, 1) := by decide +kernel
theorem d_Md_open_1 : dec m_Md_open 1 = .ok (.iconst 0, 1) := by decide +kernel
theorem d_Md_open_2 : dec m_Md_open 2 = .ok (.putfield 32, 3) := by decide +kernel
theorem d_Md_open_5 : dec m_Md_open 5 = .ok (.iload_n 1, 1) := by decide +kernel
theorem d_Md_open_6 : dec m_Md_open 6 = .ok (.iconst 1, 1) := by decide +kernel
theorem d_Md_open_7 : dec m_Md_open 7 = .ok (.bipush 100, 2) := by decide +kernel
theorem d_Md_open_9 : dec m_Md_open 9 = .ok (.invokestatic 36, 3) := by decide +kernel
theorem d_Md_open_12 : dec m_Md_open 12 = .ok (.ifCond .ne 6, 3) := by decide +kernel
theorem d_Md_open_15 : dec m_Md_open 15 = .ok (.bipush (-2), 2) := by decide +kernel
theorem d_Md_open_17 : dec m_Md_open 17 = .ok (.ireturn, 1) := by decide +kernel
theorem d_Md_open_18 : dec m_Md_open 18 = .ok (.aload_n 0, 1) := by decide +kernel
theorem d_Md_open_19 : dec m_Md_open 19 = .ok (.getfield 7, 3) := by decide +kernel
theorem d_Md_open_22 : dec m_Md_open 22 = .ok (.iconst 1, 1) := by decide +kernel
theorem d_Md_open_23 : dec m_Md_open 23 = .ok (.iaload, 1) := by decide +kernel
theorem d_Md_open_24 : dec m_Md_open 24 = .ok (.ifCond .ne 6, 3) := by decide +kernel
theorem d_Md_open_27 : dec m_Md_open 27 = .ok (.bipush (-4), 2) := by decide +kernel
theorem d_Md_open_29 : dec m_Md_open 29 = .ok (.ireturn, 1) := by decide +kernel
theorem d_Md_open_30 : dec m_Md_open 30 = .ok (.aload_n 0, 1) := by decide +kernel
theorem d_Md_open_31 : dec m_Md_open 31 = .ok (.invokevirtual 118, 3) := by decide +kernel
theorem d_Md_open_34 : dec m_Md_open 34 = .ok (.ifCond .ne 6, 3) := by decide +kernel
theorem d_Md_open_37 : dec m_Md_open 37 = .ok (.bipush (-5), 2) := by decide +kernel
theorem d_Md_open_39 : dec m_Md_open 39 = .ok (.ireturn, 1) := by decide +kernel
theorem d_Md_open_40 : dec m_Md_open 40 = .ok (.aload_n 0, 1) := by decide +kernel
theorem d_Md_open_41 : dec m_Md_open 41 = .ok (.invokevirtual 55, 3) := by decide +kernel
theorem d_Md_open_44 : dec m_Md_open 44 = .ok (.iconst 0, 1) := by decide +kernel
theorem d_Md_open_45 : dec m_Md_open 45 = .ok (.istore_n 2, 1) := by decide +kernel
theorem d_Md_open_46 : dec m_Md_open 46 = .ok (.iload_n 2, 1) := by decide +kernel
theorem d_Md_open_47 : dec m_Md_open 47 = .ok (.iload_n 1, 1) := by decide +kernel
theorem d_Md_open_48 : dec m_Md_open 48 = .ok (.if_icmp .ge 16, 3) := by decide +kernel
theorem d_Md_open_51 : dec m_Md_open 51 = .ok (.aload_n 0, 1) := by decide +kernel
theorem d_Md_open_52 : dec m_Md_open 52 = .ok (.invokevirtual 121, 3) := by decide +kernel
theorem d_Md_open_55 : dec m_Md_open 55 = .ok (.ifCond .eq 9, 3) := by decide +kernel
theorem d_Md_open_58 : dec m_Md_open 58 = .ok (.iinc 2 1, 3) := by decide +kernel
theorem d_Md_open_61 : dec m_Md_open 61 = .ok (.goto (-15), 3) := by decide +kernel
theorem d_Md_open_64 : dec m_Md_open 64 = .ok (.iload_n 2, 1) := by decide +kernel
theorem d_Md_open_65 : dec m_Md_open 65 = .ok (.ireturn, 1) := by decide +kernel
theorem d_Md_type_0 : dec m_Md_type 0 = .ok (.aload_n 0, 1) := by decide +kernel
theorem d_Md_type_1 : dec m_Md_type 1 = .ok (.iconst 0, 1) := by decide +kernel
theorem d_Md_type_2 : dec m_Md_type 2 = .ok (.putfield 32, 3) := by decide +kernel
theorem d_Md_type_5 : dec m_Md_type 5 = .ok (.aload_n 0, 1) := by decide +kernel
theorem d_Md_type_6 : dec m_Md_type 6 = .ok (.getfield 124, 3) := by decide +kernel
theorem d_Md_type_9 : dec m_Md_type 9 = .ok (.bipush 60, 2) := by decide +kernel
theorem d_Md_type_11 : dec m_Md_type 11 = .ok (.if_icmp .ne 6, 3) := by decide +kernel
theorem d_Md_type_14 : dec m_Md_type 14 = .ok (.bipush (-3), 2) := by decide +kernel
theorem d_Md_type_16 : dec m_Md_type 16 = .ok (.ireturn, 1) := by decide +kernel
theorem d_Md_type_17 : dec m_Md_type 17 = .ok (.aload_n 0, 1) := by decide +kernel
theorem d_Md_type_18 : dec m_Md_type 18 = .ok (.getfield 19, 3) := by decide +kernel
theorem d_Md_type_21 : dec m_Md_type 21 = .ok (.aload_n 0, 1) := by decide +kernel
theorem d_Md_type_22 : dec m_Md_type 22 = .ok (.getfield 124, 3) := by decide +kernel
theorem d_Md_type_25 : dec m_Md_type 25 = .ok (.iload_n 1, 1) := by decide +kernel
theorem d_Md_type_26 : dec m_Md_type 26 = .ok (.iastore, 1) := by decide +kernel
theorem d_Md_type_27 : dec m_Md_type 27 = .ok (.aload_n 0, 1) := by decide +kernel
theorem d_Md_type_28 : dec m_Md_type 28 = .ok (.dup, 1) := by decide +kernel
theorem d_Md_type_29 : dec m_Md_type 29 = .ok (.getfield 124, 3) := by decide +kernel
theorem d_Md_type_32 : dec m_Md_type 32 = .ok (.iconst 1, 1) := by decide +kernel
theorem d_Md_type_33 : dec m_Md_type 33 = .ok (.iadd, 1) := by decide +kernel
theorem d_Md_type_34 : dec m_Md_type 34 = .ok (.putfield 124, 3) := by decide +kernel
theorem d_Md_type_37 : dec m_Md_type 37 = .ok (.aload_n 0, 1) := by decide +kernel
theorem d_Md_type_38 : dec m_Md_type 38 = .ok (.getfield 124, 3) := by decide +kernel
theorem d_Md_type_41 : dec m_Md_type 41 = .ok (.ireturn, 1) := by decide +kernel
theorem d_Md_clearText_0 : dec m_Md_clearText 0 = .ok (.aload_n 0, 1) := by decide +kernel
theorem d_Md_clearText_1 : dec m_Md_clearText 1 = .ok (.iconst 0, 1) := by decide +kernel
theorem d_Md_clearText_2 : dec m_Md_clearText 2 = .ok (.putfield 32, 3) := by decide +kernel
theorem d_Md_clearText_5 : dec m_Md_clearText 5 = .ok (.aload_n 0, 1) := by decide +kernel
theorem d_Md_clearText_6 : dec m_Md_clearText 6 = .ok (.getfield 124, 3) := by decide +kernel
theorem d_Md_clearText_9 : dec m_Md_clearText 9 = .ok (.istore_n 1, 1) := by decide +kernel
theorem d_Md_clearText_10 : dec m_Md_clearText 10 = .ok (.aload_n 0, 1) := by decide +kernel
theorem d_Md_clearText_11 : dec m_Md_clearText 11 = .ok (.iconst 0, 1) := by decide +kernel
theorem d_Md_clearText_12 : dec m_Md_clearText 12 = .ok (.putfield 124, 3) := by decide +kernel
theorem d_Md_clearText_15 : dec m_Md_clearText 15 = .ok (.iload_n 1, 1) := by decide +kernel
theorem d_Md_clearText_16 : dec m_Md_clearText 16 = .ok (.ireturn, 1) := by decide +kernel
theorem d_Md_sign_0 : dec m_Md_sign 0 = .ok (.aload_n 0, 1) := by decide +kernel
theorem d_Md_sign_1 : dec m_Md_sign 1 = .ok (.getfield 127, 3) := by decide +kernel
theorem d_Md_sign_4 : dec m_Md_sign 4 = .ok (.aload_n 0, 1) := by decide +kernel
theorem d_Md_sign_5 : dec m_Md_sign 5 = .ok (.getfield 124, 3) := by decide +kernel
theorem d_Md_sign_8 : dec m_Md_sign 8 = .ok (.if_icmp .ge 15, 3) := by decide +kernel
theorem d_Md_sign_11 : dec m_Md_sign 11 = .ok (.aload_n 0, 1) := by decide +kernel
theorem d_Md_sign_12 : dec m_Md_sign 12 = .ok (.getfield 19, 3) := by decide +kernel
theorem d_Md_sign_15 : dec m_Md_sign 15 = .ok (.aload_n 0, 1) := by decide +kernel
theorem d_Md_sign_16 : dec m_Md_sign 16 = .ok (.getfield 127, 3) := by decide +kernel
theorem d_Md_sign_19 : dec m_Md_sign 19 = .ok (.iaload, 1) := by decide +kernel
theorem d_Md_sign_20 : dec m_Md_sign 20 = .ok (.goto 4, 3) := by decide +kernel
theorem d_Md_sign_23 : dec m_Md_sign 23 = .ok (.iconst 0, 1) := by decide +kernel
theorem d_Md_sign_24 : dec m_Md_sign 24 = .ok (.ireturn, 1) := by decide +kernel
theorem d_Md_readsPosition_0 : dec m_Md_readsPosition 0 = .ok (.aload_n 0, 1) := by decide +kernel
theorem d_Md_readsPosition_1 : dec m_Md_readsPosition 1 = .ok (.aload_n 0, 1) := by decide +kernel
theorem d_Md_readsPosition_2 : dec m_Md_readsPosition 2 = .ok (.getfield 130, 3) := by decide +kernel
theorem d_Md_readsPosition_5 : dec m_Md_readsPosition 5 = .ok (.ifCond .eq 21, 3) := by decide +kernel
theorem d_Md_readsPosition_8 : dec m_Md_readsPosition 8 = .ok (.aload_n 0, 1) := by decide +kernel
theorem d_Md_readsPosition_9 : dec m_Md_readsPosition 9 = .ok (.invokevirtual 134, 3) := by decide +kernel
theorem d_Md_readsPosition_12 : dec m_Md_readsPosition 12 = .ok (.bipush 48, 2) := by decide +kernel
theorem d_Md_readsPosition_14 : dec m_Md_readsPosition 14 = .ok (.bipush 57, 2) := by decide +kernel
theorem d_Md_readsPosition_16 : dec m_Md_readsPosition 16 = .ok (.invokestatic 36, 3) := by decide +kernel
theorem d_Md_readsPosition_19 : dec m_Md_readsPosition 19 = .ok (.ifCond .eq 7, 3) := by decide +kernel
theorem d_Md_readsPosition_22 : dec m_Md_readsPosition 22 = .ok (.iconst 1, 1) := by decide +kernel
theorem d_Md_readsPosition_23 : dec m_Md_readsPosition 23 = .ok (.goto 4, 3) := by decide +kernel
theorem d_Md_readsPosition_26 : dec m_Md_readsPosition 26 = .ok (.iconst 0, 1) := by decide +kernel
theorem d_Md_readsPosition_27 : dec m_Md_readsPosition 27 = .ok (.putfield 130, 3) := by decide +kernel
theorem d_Md_readsPosition_30 : dec m_Md_readsPosition 30 = .ok (.aload_n 0, 1) := by decide +kernel
theorem d_Md_readsPosition_31 : dec m_Md_readsPosition 31 = .ok (.invokevirtual 134, 3) := by decide +kernel
theorem d_Md_readsPosition_34 : dec m_Md_readsPosition 34 = .ok (.bipush 48, 2) := by decide +kernel
theorem d_Md_readsPosition_36 : dec m_Md_readsPosition 36 = .ok (.isub, 1) := by decide +kernel
theorem d_Md_readsPosition_37 : dec m_Md_readsPosition 37 = .ok (.istore_n 1, 1) := by decide +kernel
theorem d_Md_readsPosition_38 : dec m_Md_readsPosition 38 = .ok (.aload_n 0, 1) := by decide +kernel
theorem d_Md_readsPosition_39 : dec m_Md_readsPosition 39 = .ok (.dup, 1) := by decide +kernel
theorem d_Md_readsPosition_40 : dec m_Md_readsPosition 40 = .ok (.getfield 127, 3) := by decide +kernel
theorem d_Md_readsPosition_43 : dec m_Md_readsPosition 43 = .ok (.aload_n 0, 1) := by decide +kernel
theorem d_Md_readsPosition_44 : dec m_Md_readsPosition 44 = .ok (.getfield 130, 3) := by decide +kernel
theorem d_Md_readsPosition_47 : dec m_Md_readsPosition 47 = .ok (.ifCond .eq 7, 3) := by decide +kernel
theorem d_Md_readsPosition_50 : dec m_Md_readsPosition 50 = .ok (.iconst 1, 1) := by decide +kernel
theorem d_Md_readsPosition_51 : dec m_Md_readsPosition 51 = .ok (.goto 4, 3) := by decide +kernel
theorem d_Md_readsPosition_54 : dec m_Md_readsPosition 54 = .ok (.iconst 0, 1) := by decide +kernel
theorem d_Md_readsPosition_55 : dec m_Md_readsPosition 55 = .ok (.iadd, 1) := by decide +kernel
theorem d_Md_readsPosition_56 : dec m_Md_readsPosition 56 = .ok (.putfield 127, 3) := by decide +kernel
theorem d_Md_readsPosition_59 : dec m_Md_readsPosition 59 = .ok (.aload_n 0, 1) := by decide +kernel
theorem d_Md_readsPosition_60 : dec m_Md_readsPosition 60 = .ok (.getfield 130, 3) := by decide +kernel
theorem d_Md_readsPosition_63 : dec m_Md_readsPosition 63 = .ok (.ifCond .eq 43, 3) := by decide +kernel
theorem d_Md_readsPosition_66 : dec m_Md_readsPosition 66 = .ok (.iload_n 1, 1) := by decide +kernel
theorem d_Md_readsPosition_67 : dec m_Md_readsPosition 67 = .ok (.iconst 1, 1) := by decide +kernel
theorem d_Md_readsPosition_68 : dec m_Md_readsPosition 68 = .ok (.if_icmp .ne 38, 3) := by decide +kernel
theorem d_Md_readsPosition_71 : dec m_Md_readsPosition 71 = .ok (.aload_n 0, 1) := by decide +kernel
theorem d_Md_readsPosition_72 : dec m_Md_readsPosition 72 = .ok (.invokevirtual 134, 3) := by decide +kernel
theorem d_Md_readsPosition_75 : dec m_Md_readsPosition 75 = .ok (.bipush 48, 2) := by decide +kernel
theorem d_Md_readsPosition_77 : dec m_Md_readsPosition 77 = .ok (.bipush 57, 2) := by decide +kernel
theorem d_Md_readsPosition_79 : dec m_Md_readsPosition 79 = .ok (.invokestatic 36, 3) := by decide +kernel
theorem d_Md_readsPosition_82 : dec m_Md_readsPosition 82 = .ok (.ifCond .eq 24, 3) := by decide +kernel
theorem d_Md_readsPosition_85 : dec m_Md_readsPosition 85 = .ok (.bipush 10, 2) := by decide +kernel
theorem d_Md_readsPosition_87 : dec m_Md_readsPosition 87 = .ok (.aload_n 0, 1) := by decide +kernel
theorem d_Md_readsPosition_88 : dec m_Md_readsPosition 88 = .ok (.invokevirtual 134, 3) := by decide +kernel
theorem d_Md_readsPosition_91 : dec m_Md_readsPosition 91 = .ok (.iadd, 1) := by decide +kernel
theorem d_Md_readsPosition_92 : dec m_Md_readsPosition 92 = .ok (.bipush 48, 2) := by decide +kernel
theorem d_Md_readsPosition_94 : dec m_Md_readsPosition 94 = .ok (.isub, 1) := by decide +kernel
theorem d_Md_readsPosition_95 : dec m_Md_readsPosition 95 = .ok (.istore_n 1, 1) := by decide +kernel
theorem d_Md_readsPosition_96 : dec m_Md_readsPosition 96 = .ok (.aload_n 0, 1) := by decide +kernel
theorem d_Md_readsPosition_97 : dec m_Md_readsPosition 97 = .ok (.dup, 1) := by decide +kernel
theorem d_Md_readsPosition_98 : dec m_Md_readsPosition 98 = .ok (.getfield 127, 3) := by decide +kernel
theorem d_Md_readsPosition_101 : dec m_Md_readsPosition 101 = .ok (.iconst 1, 1) := by decide +kernel
theorem d_Md_readsPosition_102 : dec m_Md_readsPosition 102 = .ok (.iadd, 1) := by decide +kernel
theorem d_Md_readsPosition_103 : dec m_Md_readsPosition 103 = .ok (.putfield 127, 3) := by decide +kernel
theorem d_Md_readsPosition_106 : dec m_Md_readsPosition 106 = .ok (.iload_n 1, 1) := by decide +kernel
theorem d_Md_readsPosition_107 : dec m_Md_readsPosition 107 = .ok (.ireturn, 1) := by decide +kernel
theorem d_Md_tells_0 : dec m_Md_tells 0 = .ok (.aload_n 0, 1) := by decide +kernel
theorem d_Md_tells_1 : dec m_Md_tells 1 = .ok (.getfield 130, 3) := by decide +kernel
theorem d_Md_tells_4 : dec m_Md_tells 4 = .ok (.ifCond .eq 53, 3) := by decide +kernel
theorem d_Md_tells_7 : dec m_Md_tells 7 = .ok (.aload_n 0, 1) := by decide +kernel
theorem d_Md_tells_8 : dec m_Md_tells 8 = .ok (.getfield 29, 3) := by decide +kernel
theorem d_Md_tells_11 : dec m_Md_tells 11 = .ok (.iconst 3, 1) := by decide +kernel
theorem d_Md_tells_12 : dec m_Md_tells 12 = .ok (.aload_n 0, 1) := by decide +kernel
theorem d_Md_tells_13 : dec m_Md_tells 13 = .ok (.getfield 137, 3) := by decide +kernel
theorem d_Md_tells_16 : dec m_Md_tells 16 = .ok (.imul, 1) := by decide +kernel
theorem d_Md_tells_17 : dec m_Md_tells 17 = .ok (.iload_n 1, 1) := by decide +kernel
theorem d_Md_tells_18 : dec m_Md_tells 18 = .ok (.iastore, 1) := by decide +kernel
theorem d_Md_tells_19 : dec m_Md_tells 19 = .ok (.aload_n 0, 1) := by decide +kernel
theorem d_Md_tells_20 : dec m_Md_tells 20 = .ok (.getfield 29, 3) := by decide +kernel
theorem d_Md_tells_23 : dec m_Md_tells 23 = .ok (.iconst 3, 1) := by decide +kernel
theorem d_Md_tells_24 : dec m_Md_tells 24 = .ok (.aload_n 0, 1) := by decide +kernel
theorem d_Md_tells_25 : dec m_Md_tells 25 = .ok (.getfield 137, 3) := by decide +kernel
theorem d_Md_tells_28 : dec m_Md_tells 28 = .ok (.imul, 1) := by decide +kernel
theorem d_Md_tells_29 : dec m_Md_tells 29 = .ok (.iconst 1, 1) := by decide +kernel
theorem d_Md_tells_30 : dec m_Md_tells 30 = .ok (.iadd, 1) := by decide +kernel
theorem d_Md_tells_31 : dec m_Md_tells 31 = .ok (.iload_n 2, 1) := by decide +kernel
theorem d_Md_tells_32 : dec m_Md_tells 32 = .ok (.iastore, 1) := by decide +kernel
theorem d_Md_tells_33 : dec m_Md_tells 33 = .ok (.aload_n 0, 1) := by decide +kernel
theorem d_Md_tells_34 : dec m_Md_tells 34 = .ok (.getfield 29, 3) := by decide +kernel
theorem d_Md_tells_37 : dec m_Md_tells 37 = .ok (.iconst 3, 1) := by decide +kernel
theorem d_Md_tells_38 : dec m_Md_tells 38 = .ok (.aload_n 0, 1) := by decide +kernel
theorem d_Md_tells_39 : dec m_Md_tells 39 = .ok (.getfield 137, 3) := by decide +kernel
theorem d_Md_tells_42 : dec m_Md_tells 42 = .ok (.imul, 1) := by decide +kernel
theorem d_Md_tells_43 : dec m_Md_tells 43 = .ok (.iconst 2, 1) := by decide +kernel
theorem d_Md_tells_44 : dec m_Md_tells 44 = .ok (.iadd, 1) := by decide +kernel
theorem d_Md_tells_45 : dec m_Md_tells 45 = .ok (.iload_n 3, 1) := by decide +kernel
theorem d_Md_tells_46 : dec m_Md_tells 46 = .ok (.iastore, 1) := by decide +kernel
theorem d_Md_tells_47 : dec m_Md_tells 47 = .ok (.aload_n 0, 1) := by decide +kernel
theorem d_Md_tells_48 : dec m_Md_tells 48 = .ok (.dup, 1) := by decide +kernel
theorem d_Md_tells_49 : dec m_Md_tells 49 = .ok (.getfield 137, 3) := by decide +kernel
theorem d_Md_tells_52 : dec m_Md_tells 52 = .ok (.iconst 1, 1) := by decide +kernel
theorem d_Md_tells_53 : dec m_Md_tells 53 = .ok (.iadd, 1) := by decide +kernel
theorem d_Md_tells_54 : dec m_Md_tells 54 = .ok (.putfield 137, 3) := by decide +kernel
theorem d_Md_tells_57 : dec m_Md_tells 57 = .ok (.return_, 1) := by decide +kernel
theorem d_Md_readsEntry_0 : dec m_Md_readsEntry 0 = .ok (.aload_n 0, 1) := by decide +kernel
theorem d_Md_readsEntry_1 : dec m_Md_readsEntry 1 = .ok (.invokevirtual 140, 3) := by decide +kernel
theorem d_Md_readsEntry_4 : dec m_Md_readsEntry 4 = .ok (.istore_n 1, 1) := by decide +kernel
theorem d_Md_readsEntry_5 : dec m_Md_readsEntry 5 = .ok (.aload_n 0, 1) := by decide +kernel
theorem d_Md_readsEntry_6 : dec m_Md_readsEntry 6 = .ok (.invokevirtual 134, 3) := by decide +kernel
theorem d_Md_readsEntry_9 : dec m_Md_readsEntry 9 = .ok (.istore_n 2, 1) := by decide +kernel
theorem d_Md_readsEntry_10 : dec m_Md_readsEntry 10 = .ok (.aload_n 0, 1) := by decide +kernel
theorem d_Md_readsEntry_11 : dec m_Md_readsEntry 11 = .ok (.aload_n 0, 1) := by decide +kernel
theorem d_Md_readsEntry_12 : dec m_Md_readsEntry 12 = .ok (.getfield 130, 3) := by decide +kernel
theorem d_Md_readsEntry_15 : dec m_Md_readsEntry 15 = .ok (.ifCond .eq 31, 3) := by decide +kernel
theorem d_Md_readsEntry_18 : dec m_Md_readsEntry 18 = .ok (.iload_n 2, 1) := by decide +kernel
theorem d_Md_readsEntry_19 : dec m_Md_readsEntry 19 = .ok (.bipush 62, 2) := by decide +kernel
theorem d_Md_readsEntry_21 : dec m_Md_readsEntry 21 = .ok (.if_icmp .eq 21, 3) := by decide +kernel
theorem d_Md_readsEntry_24 : dec m_Md_readsEntry 24 = .ok (.iload_n 2, 1) := by decide +kernel
theorem d_Md_readsEntry_25 : dec m_Md_readsEntry 25 = .ok (.bipush 119, 2) := by decide +kernel
theorem d_Md_readsEntry_27 : dec m_Md_readsEntry 27 = .ok (.if_icmp .eq 15, 3) := by decide +kernel
theorem d_Md_readsEntry_30 : dec m_Md_readsEntry 30 = .ok (.iload_n 2, 1) := by decide +kernel
theorem d_Md_readsEntry_31 : dec m_Md_readsEntry 31 = .ok (.bipush 108, 2) := by decide +kernel
theorem d_Md_readsEntry_33 : dec m_Md_readsEntry 33 = .ok (.if_icmp .eq 9, 3) := by decide +kernel
theorem d_Md_readsEntry_36 : dec m_Md_readsEntry 36 = .ok (.iload_n 2, 1) := by decide +kernel
theorem d_Md_readsEntry_37 : dec m_Md_readsEntry 37 = .ok (.bipush 100, 2) := by decide +kernel
theorem d_Md_readsEntry_39 : dec m_Md_readsEntry 39 = .ok (.if_icmp .ne 7, 3) := by decide +kernel
theorem d_Md_readsEntry_42 : dec m_Md_readsEntry 42 = .ok (.iconst 1, 1) := by decide +kernel
theorem d_Md_readsEntry_43 : dec m_Md_readsEntry 43 = .ok (.goto 4, 3) := by decide +kernel
theorem d_Md_readsEntry_46 : dec m_Md_readsEntry 46 = .ok (.iconst 0, 1) := by decide +kernel
theorem d_Md_readsEntry_47 : dec m_Md_readsEntry 47 = .ok (.putfield 130, 3) := by decide +kernel
theorem d_Md_readsEntry_50 : dec m_Md_readsEntry 50 = .ok (.aload_n 0, 1) := by decide +kernel
theorem d_Md_readsEntry_51 : dec m_Md_readsEntry 51 = .ok (.dup, 1) := by decide +kernel
theorem d_Md_readsEntry_52 : dec m_Md_readsEntry 52 = .ok (.getfield 127, 3) := by decide +kernel
theorem d_Md_readsEntry_55 : dec m_Md_readsEntry 55 = .ok (.aload_n 0, 1) := by decide +kernel
theorem d_Md_readsEntry_56 : dec m_Md_readsEntry 56 = .ok (.getfield 130, 3) := by decide +kernel
theorem d_Md_readsEntry_59 : dec m_Md_readsEntry 59 = .ok (.ifCond .eq 7, 3) := by decide +kernel
theorem d_Md_readsEntry_62 : dec m_Md_readsEntry 62 = .ok (.iconst 1, 1) := by decide +kernel
theorem d_Md_readsEntry_63 : dec m_Md_readsEntry 63 = .ok (.goto 4, 3) := by decide +kernel
theorem d_Md_readsEntry_66 : dec m_Md_readsEntry 66 = .ok (.iconst 0, 1) := by decide +kernel
theorem d_Md_readsEntry_67 : dec m_Md_readsEntry 67 = .ok (.iadd, 1) := by decide +kernel
theorem d_Md_readsEntry_68 : dec m_Md_readsEntry 68 = .ok (.putfield 127, 3) := by decide +kernel
theorem d_Md_readsEntry_71 : dec m_Md_readsEntry 71 = .ok (.iload_n 2, 1) := by decide +kernel
theorem d_Md_readsEntry_72 : dec m_Md_readsEntry 72 = .ok (.bipush 62, 2) := by decide +kernel
theorem d_Md_readsEntry_74 : dec m_Md_readsEntry 74 = .ok (.if_icmp .eq 11, 3) := by decide +kernel
theorem d_Md_readsEntry_77 : dec m_Md_readsEntry 77 = .ok (.aload_n 0, 1) := by decide +kernel
theorem d_Md_readsEntry_78 : dec m_Md_readsEntry 78 = .ok (.iload_n 2, 1) := by decide +kernel
theorem d_Md_readsEntry_79 : dec m_Md_readsEntry 79 = .ok (.iload_n 1, 1) := by decide +kernel
theorem d_Md_readsEntry_80 : dec m_Md_readsEntry 80 = .ok (.iconst 0, 1) := by decide +kernel
theorem d_Md_readsEntry_81 : dec m_Md_readsEntry 81 = .ok (.invokevirtual 143, 3) := by decide +kernel
theorem d_Md_readsEntry_84 : dec m_Md_readsEntry 84 = .ok (.return_, 1) := by decide +kernel
theorem d_Md_readsEntry_85 : dec m_Md_readsEntry 85 = .ok (.aload_n 0, 1) := by decide +kernel
theorem d_Md_readsEntry_86 : dec m_Md_readsEntry 86 = .ok (.getfield 130, 3) := by decide +kernel
theorem d_Md_readsEntry_89 : dec m_Md_readsEntry 89 = .ok (.istore_n 3, 1) := by decide +kernel
theorem d_Md_readsEntry_90 : dec m_Md_readsEntry 90 = .ok (.iload_n 3, 1) := by decide +kernel
theorem d_Md_readsEntry_91 : dec m_Md_readsEntry 91 = .ok (.ifCond .eq 57, 3) := by decide +kernel
theorem d_Md_readsEntry_94 : dec m_Md_readsEntry 94 = .ok (.aload_n 0, 1) := by decide +kernel
theorem d_Md_readsEntry_95 : dec m_Md_readsEntry 95 = .ok (.bipush 62, 2) := by decide +kernel
theorem d_Md_readsEntry_97 : dec m_Md_readsEntry 97 = .ok (.iload_n 1, 1) := by decide +kernel
theorem d_Md_readsEntry_98 : dec m_Md_readsEntry 98 = .ok (.aload_n 0, 1) := by decide +kernel
theorem d_Md_readsEntry_99 : dec m_Md_readsEntry 99 = .ok (.invokevirtual 140, 3) := by decide +kernel
theorem d_Md_readsEntry_102 : dec m_Md_readsEntry 102 = .ok (.invokevirtual 143, 3) := by decide +kernel
theorem d_Md_readsEntry_105 : dec m_Md_readsEntry 105 = .ok (.aload_n 0, 1) := by decide +kernel
theorem d_Md_readsEntry_106 : dec m_Md_readsEntry 106 = .ok (.getfield 130, 3) := by decide +kernel
theorem d_Md_readsEntry_109 : dec m_Md_readsEntry 109 = .ok (.ifCond .eq 16, 3) := by decide +kernel
theorem d_Md_readsEntry_112 : dec m_Md_readsEntry 112 = .ok (.aload_n 0, 1) := by decide +kernel
theorem d_Md_readsEntry_113 : dec m_Md_readsEntry 113 = .ok (.invokevirtual 134, 3) := by decide +kernel
theorem d_Md_readsEntry_116 : dec m_Md_readsEntry 116 = .ok (.bipush 46, 2) := by decide +kernel
theorem d_Md_readsEntry_118 : dec m_Md_readsEntry 118 = .ok (.if_icmp .ne 7, 3) := by decide +kernel
theorem d_Md_readsEntry_121 : dec m_Md_readsEntry 121 = .ok (.iconst 1, 1) := by decide +kernel
theorem d_Md_readsEntry_122 : dec m_Md_readsEntry 122 = .ok (.goto 4, 3) := by decide +kernel
theorem d_Md_readsEntry_125 : dec m_Md_readsEntry 125 = .ok (.iconst 0, 1) := by decide +kernel
theorem d_Md_readsEntry_126 : dec m_Md_readsEntry 126 = .ok (.istore_n 3, 1) := by decide +kernel
theorem d_Md_readsEntry_127 : dec m_Md_readsEntry 127 = .ok (.aload_n 0, 1) := by decide +kernel
theorem d_Md_readsEntry_128 : dec m_Md_readsEntry 128 = .ok (.dup, 1) := by decide +kernel
theorem d_Md_readsEntry_129 : dec m_Md_readsEntry 129 = .ok (.getfield 127, 3) := by decide +kernel
theorem d_Md_readsEntry_132 : dec m_Md_readsEntry 132 = .ok (.iload_n 3, 1) := by decide +kernel
theorem d_Md_readsEntry_133 : dec m_Md_readsEntry 133 = .ok (.ifCond .eq 7, 3) := by decide +kernel
theorem d_Md_readsEntry_136 : dec m_Md_readsEntry 136 = .ok (.iconst 1, 1) := by decide +kernel
theorem d_Md_readsEntry_137 : dec m_Md_readsEntry 137 = .ok (.goto 4, 3) := by decide +kernel
theorem d_Md_readsEntry_140 : dec m_Md_readsEntry 140 = .ok (.iconst 0, 1) := by decide +kernel
theorem d_Md_readsEntry_141 : dec m_Md_readsEntry 141 = .ok (.iadd, 1) := by decide +kernel
theorem d_Md_readsEntry_142 : dec m_Md_readsEntry 142 = .ok (.putfield 127, 3) := by decide +kernel
theorem d_Md_readsEntry_145 : dec m_Md_readsEntry 145 = .ok (.goto (-55), 3) := by decide +kernel
theorem d_Md_readsEntry_148 : dec m_Md_readsEntry 148 = .ok (.return_, 1) := by decide +kernel
theorem d_Md_reads_0 : dec m_Md_reads 0 = .ok (.aload_n 0, 1) := by decide +kernel
theorem d_Md_reads_1 : dec m_Md_reads 1 = .ok (.iconst 0, 1) := by decide +kernel
theorem d_Md_reads_2 : dec m_Md_reads 2 = .ok (.putfield 127, 3) := by decide +kernel
theorem d_Md_reads_5 : dec m_Md_reads 5 = .ok (.aload_n 0, 1) := by decide +kernel
theorem d_Md_reads_6 : dec m_Md_reads 6 = .ok (.iconst 1, 1) := by decide +kernel
theorem d_Md_reads_7 : dec m_Md_reads 7 = .ok (.putfield 130, 3) := by decide +kernel
theorem d_Md_reads_10 : dec m_Md_reads 10 = .ok (.aload_n 0, 1) := by decide +kernel
theorem d_Md_reads_11 : dec m_Md_reads 11 = .ok (.iconst 0, 1) := by decide +kernel
theorem d_Md_reads_12 : dec m_Md_reads 12 = .ok (.putfield 137, 3) := by decide +kernel
theorem d_Md_reads_15 : dec m_Md_reads 15 = .ok (.aload_n 0, 1) := by decide +kernel
theorem d_Md_reads_16 : dec m_Md_reads 16 = .ok (.invokevirtual 146, 3) := by decide +kernel
theorem d_Md_reads_19 : dec m_Md_reads 19 = .ok (.aload_n 0, 1) := by decide +kernel
theorem d_Md_reads_20 : dec m_Md_reads 20 = .ok (.getfield 130, 3) := by decide +kernel
theorem d_Md_reads_23 : dec m_Md_reads 23 = .ok (.ifCond .eq 67, 3) := by decide +kernel
theorem d_Md_reads_26 : dec m_Md_reads 26 = .ok (.aload_n 0, 1) := by decide +kernel
theorem d_Md_reads_27 : dec m_Md_reads 27 = .ok (.getfield 127, 3) := by decide +kernel
theorem d_Md_reads_30 : dec m_Md_reads 30 = .ok (.aload_n 0, 1) := by decide +kernel
theorem d_Md_reads_31 : dec m_Md_reads 31 = .ok (.getfield 124, 3) := by decide +kernel
theorem d_Md_reads_34 : dec m_Md_reads 34 = .ok (.if_icmp .ge 56, 3) := by decide +kernel
theorem d_Md_reads_37 : dec m_Md_reads 37 = .ok (.aload_n 0, 1) := by decide +kernel
theorem d_Md_reads_38 : dec m_Md_reads 38 = .ok (.aload_n 0, 1) := by decide +kernel
theorem d_Md_reads_39 : dec m_Md_reads 39 = .ok (.invokevirtual 134, 3) := by decide +kernel
theorem d_Md_reads_42 : dec m_Md_reads 42 = .ok (.bipush 44, 2) := by decide +kernel
theorem d_Md_reads_44 : dec m_Md_reads 44 = .ok (.if_icmp .ne 7, 3) := by decide +kernel
theorem d_Md_reads_47 : dec m_Md_reads 47 = .ok (.iconst 1, 1) := by decide +kernel
theorem d_Md_reads_48 : dec m_Md_reads 48 = .ok (.goto 4, 3) := by decide +kernel
theorem d_Md_reads_51 : dec m_Md_reads 51 = .ok (.iconst 0, 1) := by decide +kernel
theorem d_Md_reads_52 : dec m_Md_reads 52 = .ok (.putfield 130, 3) := by decide +kernel
theorem d_Md_reads_55 : dec m_Md_reads 55 = .ok (.aload_n 0, 1) := by decide +kernel
theorem d_Md_reads_56 : dec m_Md_reads 56 = .ok (.dup, 1) := by decide +kernel
theorem d_Md_reads_57 : dec m_Md_reads 57 = .ok (.getfield 127, 3) := by decide +kernel
theorem d_Md_reads_60 : dec m_Md_reads 60 = .ok (.aload_n 0, 1) := by decide +kernel
theorem d_Md_reads_61 : dec m_Md_reads 61 = .ok (.getfield 130, 3) := by decide +kernel
theorem d_Md_reads_64 : dec m_Md_reads 64 = .ok (.ifCond .eq 7, 3) := by decide +kernel
theorem d_Md_reads_67 : dec m_Md_reads 67 = .ok (.iconst 1, 1) := by decide +kernel
theorem d_Md_reads_68 : dec m_Md_reads 68 = .ok (.goto 4, 3) := by decide +kernel
theorem d_Md_reads_71 : dec m_Md_reads 71 = .ok (.iconst 0, 1) := by decide +kernel
theorem d_Md_reads_72 : dec m_Md_reads 72 = .ok (.iadd, 1) := by decide +kernel
theorem d_Md_reads_73 : dec m_Md_reads 73 = .ok (.putfield 127, 3) := by decide +kernel
theorem d_Md_reads_76 : dec m_Md_reads 76 = .ok (.aload_n 0, 1) := by decide +kernel
theorem d_Md_reads_77 : dec m_Md_reads 77 = .ok (.getfield 130, 3) := by decide +kernel
theorem d_Md_reads_80 : dec m_Md_reads 80 = .ok (.ifCond .eq (-61), 3) := by decide +kernel
theorem d_Md_reads_83 : dec m_Md_reads 83 = .ok (.aload_n 0, 1) := by decide +kernel
theorem d_Md_reads_84 : dec m_Md_reads 84 = .ok (.invokevirtual 146, 3) := by decide +kernel
theorem d_Md_reads_87 : dec m_Md_reads 87 = .ok (.goto (-68), 3) := by decide +kernel
theorem d_Md_reads_90 : dec m_Md_reads 90 = .ok (.aload_n 0, 1) := by decide +kernel
theorem d_Md_reads_91 : dec m_Md_reads 91 = .ok (.getfield 130, 3) := by decide +kernel
theorem d_Md_reads_94 : dec m_Md_reads 94 = .ok (.ifCond .eq 8, 3) := by decide +kernel
theorem d_Md_reads_97 : dec m_Md_reads 97 = .ok (.bipush (-5), 2) := by decide +kernel
theorem d_Md_reads_99 : dec m_Md_reads 99 = .ok (.goto 7, 3) := by decide +kernel
theorem d_Md_reads_102 : dec m_Md_reads 102 = .ok (.aload_n 0, 1) := by decide +kernel
theorem d_Md_reads_103 : dec m_Md_reads 103 = .ok (.getfield 127, 3) := by decide +kernel
theorem d_Md_reads_106 : dec m_Md_reads 106 = .ok (.ireturn, 1) := by decide +kernel
theorem d_Md_movesTold_0 : dec m_Md_movesTold 0 = .ok (.iconst 0, 1) := by decide +kernel
theorem d_Md_movesTold_1 : dec m_Md_movesTold 1 = .ok (.istore_n 1, 1) := by decide +kernel
theorem d_Md_movesTold_2 : dec m_Md_movesTold 2 = .ok (.iconst 0, 1) := by decide +kernel
theorem d_Md_movesTold_3 : dec m_Md_movesTold 3 = .ok (.istore_n 2, 1) := by decide +kernel
theorem d_Md_movesTold_4 : dec m_Md_movesTold 4 = .ok (.iload_n 2, 1) := by decide +kernel
theorem d_Md_movesTold_5 : dec m_Md_movesTold 5 = .ok (.aload_n 0, 1) := by decide +kernel
theorem d_Md_movesTold_6 : dec m_Md_movesTold 6 = .ok (.getfield 137, 3) := by decide +kernel
theorem d_Md_movesTold_9 : dec m_Md_movesTold 9 = .ok (.if_icmp .ge 127, 3) := by decide +kernel
theorem d_Md_movesTold_12 : dec m_Md_movesTold 12 = .ok (.aload_n 0, 1) := by decide +kernel
theorem d_Md_movesTold_13 : dec m_Md_movesTold 13 = .ok (.getfield 29, 3) := by decide +kernel
theorem d_Md_movesTold_16 : dec m_Md_movesTold 16 = .ok (.iconst 3, 1) := by decide +kernel
theorem d_Md_movesTold_17 : dec m_Md_movesTold 17 = .ok (.iload_n 2, 1) := by decide +kernel
theorem d_Md_movesTold_18 : dec m_Md_movesTold 18 = .ok (.imul, 1) := by decide +kernel
theorem d_Md_movesTold_19 : dec m_Md_movesTold 19 = .ok (.iaload, 1) := by decide +kernel
theorem d_Md_movesTold_20 : dec m_Md_movesTold 20 = .ok (.bipush 62, 2) := by decide +kernel
theorem d_Md_movesTold_22 : dec m_Md_movesTold 22 = .ok (.if_icmp .ne 7, 3) := by decide +kernel
theorem d_Md_movesTold_25 : dec m_Md_movesTold 25 = .ok (.iconst 1, 1) := by decide +kernel
theorem d_Md_movesTold_26 : dec m_Md_movesTold 26 = .ok (.goto 4, 3) := by decide +kernel
theorem d_Md_movesTold_29 : dec m_Md_movesTold 29 = .ok (.iconst 0, 1) := by decide +kernel
theorem d_Md_movesTold_30 : dec m_Md_movesTold 30 = .ok (.istore_n 3, 1) := by decide +kernel
theorem d_Md_movesTold_31 : dec m_Md_movesTold 31 = .ok (.iconst 0, 1) := by decide +kernel
theorem d_Md_movesTold_32 : dec m_Md_movesTold 32 = .ok (.istore 4, 2) := by decide +kernel
theorem d_Md_movesTold_34 : dec m_Md_movesTold 34 = .ok (.iload 4, 2) := by decide +kernel
theorem d_Md_movesTold_36 : dec m_Md_movesTold 36 = .ok (.iload_n 2, 1) := by decide +kernel
theorem d_Md_movesTold_37 : dec m_Md_movesTold 37 = .ok (.if_icmp .ge 81, 3) := by decide +kernel
theorem d_Md_movesTold_40 : dec m_Md_movesTold 40 = .ok (.iload_n 3, 1) := by decide +kernel
theorem d_Md_movesTold_41 : dec m_Md_movesTold 41 = .ok (.ifCond .eq 69, 3) := by decide +kernel
theorem d_Md_movesTold_44 : dec m_Md_movesTold 44 = .ok (.aload_n 0, 1) := by decide +kernel
theorem d_Md_movesTold_45 : dec m_Md_movesTold 45 = .ok (.getfield 29, 3) := by decide +kernel
theorem d_Md_movesTold_48 : dec m_Md_movesTold 48 = .ok (.iconst 3, 1) := by decide +kernel
theorem d_Md_movesTold_49 : dec m_Md_movesTold 49 = .ok (.iload 4, 2) := by decide +kernel
theorem d_Md_movesTold_51 : dec m_Md_movesTold 51 = .ok (.imul, 1) := by decide +kernel
theorem d_Md_movesTold_52 : dec m_Md_movesTold 52 = .ok (.iaload, 1) := by decide +kernel
theorem d_Md_movesTold_53 : dec m_Md_movesTold 53 = .ok (.bipush 62, 2) := by decide +kernel
theorem d_Md_movesTold_55 : dec m_Md_movesTold 55 = .ok (.if_icmp .ne 51, 3) := by decide +kernel
theorem d_Md_movesTold_58 : dec m_Md_movesTold 58 = .ok (.aload_n 0, 1) := by decide +kernel
theorem d_Md_movesTold_59 : dec m_Md_movesTold 59 = .ok (.getfield 29, 3) := by decide +kernel
theorem d_Md_movesTold_62 : dec m_Md_movesTold 62 = .ok (.iconst 3, 1) := by decide +kernel
theorem d_Md_movesTold_63 : dec m_Md_movesTold 63 = .ok (.iload 4, 2) := by decide +kernel
theorem d_Md_movesTold_65 : dec m_Md_movesTold 65 = .ok (.imul, 1) := by decide +kernel
theorem d_Md_movesTold_66 : dec m_Md_movesTold 66 = .ok (.iconst 1, 1) := by decide +kernel
theorem d_Md_movesTold_67 : dec m_Md_movesTold 67 = .ok (.iadd, 1) := by decide +kernel
theorem d_Md_movesTold_68 : dec m_Md_movesTold 68 = .ok (.iaload, 1) := by decide +kernel
theorem d_Md_movesTold_69 : dec m_Md_movesTold 69 = .ok (.aload_n 0, 1) := by decide +kernel
theorem d_Md_movesTold_70 : dec m_Md_movesTold 70 = .ok (.getfield 29, 3) := by decide +kernel
theorem d_Md_movesTold_73 : dec m_Md_movesTold 73 = .ok (.iconst 3, 1) := by decide +kernel
theorem d_Md_movesTold_74 : dec m_Md_movesTold 74 = .ok (.iload_n 2, 1) := by decide +kernel
theorem d_Md_movesTold_75 : dec m_Md_movesTold 75 = .ok (.imul, 1) := by decide +kernel
theorem d_Md_movesTold_76 : dec m_Md_movesTold 76 = .ok (.iconst 1, 1) := by decide +kernel
theorem d_Md_movesTold_77 : dec m_Md_movesTold 77 = .ok (.iadd, 1) := by decide +kernel
theorem d_Md_movesTold_78 : dec m_Md_movesTold 78 = .ok (.iaload, 1) := by decide +kernel
theorem d_Md_movesTold_79 : dec m_Md_movesTold 79 = .ok (.if_icmp .ne 27, 3) := by decide +kernel
theorem d_Md_movesTold_82 : dec m_Md_movesTold 82 = .ok (.aload_n 0, 1) := by decide +kernel
theorem d_Md_movesTold_83 : dec m_Md_movesTold 83 = .ok (.getfield 29, 3) := by decide +kernel
theorem d_Md_movesTold_86 : dec m_Md_movesTold 86 = .ok (.iconst 3, 1) := by decide +kernel
theorem d_Md_movesTold_87 : dec m_Md_movesTold 87 = .ok (.iload 4, 2) := by decide +kernel
theorem d_Md_movesTold_89 : dec m_Md_movesTold 89 = .ok (.imul, 1) := by decide +kernel
theorem d_Md_movesTold_90 : dec m_Md_movesTold 90 = .ok (.iconst 2, 1) := by decide +kernel
theorem d_Md_movesTold_91 : dec m_Md_movesTold 91 = .ok (.iadd, 1) := by decide +kernel
theorem d_Md_movesTold_92 : dec m_Md_movesTold 92 = .ok (.iaload, 1) := by decide +kernel
theorem d_Md_movesTold_93 : dec m_Md_movesTold 93 = .ok (.aload_n 0, 1) := by decide +kernel
theorem d_Md_movesTold_94 : dec m_Md_movesTold 94 = .ok (.getfield 29, 3) := by decide +kernel
theorem d_Md_movesTold_97 : dec m_Md_movesTold 97 = .ok (.iconst 3, 1) := by decide +kernel
theorem d_Md_movesTold_98 : dec m_Md_movesTold 98 = .ok (.iload_n 2, 1) := by decide +kernel
theorem d_Md_movesTold_99 : dec m_Md_movesTold 99 = .ok (.imul, 1) := by decide +kernel
theorem d_Md_movesTold_100 : dec m_Md_movesTold 100 = .ok (.iconst 2, 1) := by decide +kernel
theorem d_Md_movesTold_101 : dec m_Md_movesTold 101 = .ok (.iadd, 1) := by decide +kernel
theorem d_Md_movesTold_102 : dec m_Md_movesTold 102 = .ok (.iaload, 1) := by decide +kernel
theorem d_Md_movesTold_103 : dec m_Md_movesTold 103 = .ok (.if_icmp .eq 7, 3) := by decide +kernel
theorem d_Md_movesTold_106 : dec m_Md_movesTold 106 = .ok (.iconst 1, 1) := by decide +kernel
theorem d_Md_movesTold_107 : dec m_Md_movesTold 107 = .ok (.goto 4, 3) := by decide +kernel
theorem d_Md_movesTold_110 : dec m_Md_movesTold 110 = .ok (.iconst 0, 1) := by decide +kernel
theorem d_Md_movesTold_111 : dec m_Md_movesTold 111 = .ok (.istore_n 3, 1) := by decide +kernel
theorem d_Md_movesTold_112 : dec m_Md_movesTold 112 = .ok (.iinc 4 1, 3) := by decide +kernel
theorem d_Md_movesTold_115 : dec m_Md_movesTold 115 = .ok (.goto (-81), 3) := by decide +kernel
theorem d_Md_movesTold_118 : dec m_Md_movesTold 118 = .ok (.iload_n 1, 1) := by decide +kernel
theorem d_Md_movesTold_119 : dec m_Md_movesTold 119 = .ok (.iload_n 3, 1) := by decide +kernel
theorem d_Md_movesTold_120 : dec m_Md_movesTold 120 = .ok (.ifCond .eq 7, 3) := by decide +kernel
theorem d_Md_movesTold_123 : dec m_Md_movesTold 123 = .ok (.iconst 1, 1) := by decide +kernel
theorem d_Md_movesTold_124 : dec m_Md_movesTold 124 = .ok (.goto 4, 3) := by decide +kernel
theorem d_Md_movesTold_127 : dec m_Md_movesTold 127 = .ok (.iconst 0, 1) := by decide +kernel
theorem d_Md_movesTold_128 : dec m_Md_movesTold 128 = .ok (.iadd, 1) := by decide +kernel
theorem d_Md_movesTold_129 : dec m_Md_movesTold 129 = .ok (.istore_n 1, 1) := by decide +kernel
theorem d_Md_movesTold_130 : dec m_Md_movesTold 130 = .ok (.iinc 2 1, 3) := by decide +kernel
theorem d_Md_movesTold_133 : dec m_Md_movesTold 133 = .ok (.goto (-129), 3) := by decide +kernel
theorem d_Md_movesTold_136 : dec m_Md_movesTold 136 = .ok (.iload_n 1, 1) := by decide +kernel
theorem d_Md_movesTold_137 : dec m_Md_movesTold 137 = .ok (.ireturn, 1) := by decide +kernel
theorem d_Md_does_0 : dec m_Md_does 0 = .ok (.iload_n 1, 1) := by decide +kernel
theorem d_Md_does_1 : dec m_Md_does 1 = .ok (.bipush 62, 2) := by decide +kernel
theorem d_Md_does_3 : dec m_Md_does 3 = .ok (.if_icmp .ne 23, 3) := by decide +kernel
theorem d_Md_does_6 : dec m_Md_does 6 = .ok (.aload_n 0, 1) := by decide +kernel
theorem d_Md_does_7 : dec m_Md_does 7 = .ok (.iload_n 2, 1) := by decide +kernel
theorem d_Md_does_8 : dec m_Md_does 8 = .ok (.iload_n 3, 1) := by decide +kernel
theorem d_Md_does_9 : dec m_Md_does 9 = .ok (.invokevirtual 61, 3) := by decide +kernel
theorem d_Md_does_12 : dec m_Md_does 12 = .ok (.bipush (-5), 2) := by decide +kernel
theorem d_Md_does_14 : dec m_Md_does 14 = .ok (.if_icmp .ne 57, 3) := by decide +kernel
theorem d_Md_does_17 : dec m_Md_does 17 = .ok (.aload_n 0, 1) := by decide +kernel
theorem d_Md_does_18 : dec m_Md_does 18 = .ok (.iload_n 2, 1) := by decide +kernel
theorem d_Md_does_19 : dec m_Md_does 19 = .ok (.iload_n 3, 1) := by decide +kernel
theorem d_Md_does_20 : dec m_Md_does 20 = .ok (.invokevirtual 64, 3) := by decide +kernel
theorem d_Md_does_23 : dec m_Md_does 23 = .ok (.goto 48, 3) := by decide +kernel
theorem d_Md_does_26 : dec m_Md_does 26 = .ok (.iload_n 1, 1) := by decide +kernel
theorem d_Md_does_27 : dec m_Md_does 27 = .ok (.bipush 100, 2) := by decide +kernel
theorem d_Md_does_29 : dec m_Md_does 29 = .ok (.if_icmp .ne 19, 3) := by decide +kernel
theorem d_Md_does_32 : dec m_Md_does 32 = .ok (.aload_n 0, 1) := by decide +kernel
theorem d_Md_does_33 : dec m_Md_does 33 = .ok (.getfield 7, 3) := by decide +kernel
theorem d_Md_does_36 : dec m_Md_does 36 = .ok (.iconst 3, 1) := by decide +kernel
theorem d_Md_does_37 : dec m_Md_does 37 = .ok (.iconst 5, 1) := by decide +kernel
theorem d_Md_does_38 : dec m_Md_does 38 = .ok (.iload_n 2, 1) := by decide +kernel
theorem d_Md_does_39 : dec m_Md_does 39 = .ok (.imul, 1) := by decide +kernel
theorem d_Md_does_40 : dec m_Md_does 40 = .ok (.iadd, 1) := by decide +kernel
theorem d_Md_does_41 : dec m_Md_does 41 = .ok (.iconst 0, 1) := by decide +kernel
theorem d_Md_does_42 : dec m_Md_does 42 = .ok (.iadd, 1) := by decide +kernel
theorem d_Md_does_43 : dec m_Md_does 43 = .ok (.iconst 1, 1) := by decide +kernel
theorem d_Md_does_44 : dec m_Md_does 44 = .ok (.iastore, 1) := by decide +kernel
theorem d_Md_does_45 : dec m_Md_does 45 = .ok (.goto 26, 3) := by decide +kernel
theorem d_Md_does_48 : dec m_Md_does 48 = .ok (.aload_n 0, 1) := by decide +kernel
theorem d_Md_does_49 : dec m_Md_does 49 = .ok (.getfield 7, 3) := by decide +kernel
theorem d_Md_does_52 : dec m_Md_does 52 = .ok (.iconst 3, 1) := by decide +kernel
theorem d_Md_does_53 : dec m_Md_does 53 = .ok (.iconst 5, 1) := by decide +kernel
theorem d_Md_does_54 : dec m_Md_does 54 = .ok (.iload_n 2, 1) := by decide +kernel
theorem d_Md_does_55 : dec m_Md_does 55 = .ok (.imul, 1) := by decide +kernel
theorem d_Md_does_56 : dec m_Md_does 56 = .ok (.iadd, 1) := by decide +kernel
theorem d_Md_does_57 : dec m_Md_does 57 = .ok (.iconst 1, 1) := by decide +kernel
theorem d_Md_does_58 : dec m_Md_does 58 = .ok (.iadd, 1) := by decide +kernel
theorem d_Md_does_59 : dec m_Md_does 59 = .ok (.iload_n 1, 1) := by decide +kernel
theorem d_Md_does_60 : dec m_Md_does 60 = .ok (.bipush 119, 2) := by decide +kernel
theorem d_Md_does_62 : dec m_Md_does 62 = .ok (.if_icmp .ne 7, 3) := by decide +kernel
theorem d_Md_does_65 : dec m_Md_does 65 = .ok (.iconst 1, 1) := by decide +kernel
theorem d_Md_does_66 : dec m_Md_does 66 = .ok (.goto 4, 3) := by decide +kernel
theorem d_Md_does_69 : dec m_Md_does 69 = .ok (.iconst 2, 1) := by decide +kernel
theorem d_Md_does_70 : dec m_Md_does 70 = .ok (.iastore, 1) := by decide +kernel
theorem d_Md_does_71 : dec m_Md_does 71 = .ok (.return_, 1) := by decide +kernel
theorem d_Md_readGame_0 : dec m_Md_readGame 0 = .ok (.aload_n 0, 1) := by decide +kernel
theorem d_Md_readGame_1 : dec m_Md_readGame 1 = .ok (.iconst 0, 1) := by decide +kernel
theorem d_Md_readGame_2 : dec m_Md_readGame 2 = .ok (.putfield 32, 3) := by decide +kernel
theorem d_Md_readGame_5 : dec m_Md_readGame 5 = .ok (.aload_n 0, 1) := by decide +kernel
theorem d_Md_readGame_6 : dec m_Md_readGame 6 = .ok (.invokevirtual 149, 3) := by decide +kernel
theorem d_Md_readGame_9 : dec m_Md_readGame 9 = .ok (.istore_n 1, 1) := by decide +kernel
theorem d_Md_readGame_10 : dec m_Md_readGame 10 = .ok (.iload_n 1, 1) := by decide +kernel
theorem d_Md_readGame_11 : dec m_Md_readGame 11 = .ok (.bipush (-5), 2) := by decide +kernel
theorem d_Md_readGame_13 : dec m_Md_readGame 13 = .ok (.if_icmp .eq 8, 3) := by decide +kernel
theorem d_Md_readGame_16 : dec m_Md_readGame 16 = .ok (.bipush (-100), 2) := by decide +kernel
theorem d_Md_readGame_18 : dec m_Md_readGame 18 = .ok (.iload_n 1, 1) := by decide +kernel
theorem d_Md_readGame_19 : dec m_Md_readGame 19 = .ok (.isub, 1) := by decide +kernel
theorem d_Md_readGame_20 : dec m_Md_readGame 20 = .ok (.ireturn, 1) := by decide +kernel
theorem d_Md_readGame_21 : dec m_Md_readGame 21 = .ok (.aload_n 0, 1) := by decide +kernel
theorem d_Md_readGame_22 : dec m_Md_readGame 22 = .ok (.invokevirtual 152, 3) := by decide +kernel
theorem d_Md_readGame_25 : dec m_Md_readGame 25 = .ok (.bipush 60, 2) := by decide +kernel
theorem d_Md_readGame_27 : dec m_Md_readGame 27 = .ok (.if_icmp .le 6, 3) := by decide +kernel
theorem d_Md_readGame_30 : dec m_Md_readGame 30 = .ok (.bipush (-3), 2) := by decide +kernel
theorem d_Md_readGame_32 : dec m_Md_readGame 32 = .ok (.ireturn, 1) := by decide +kernel
theorem d_Md_readGame_33 : dec m_Md_readGame 33 = .ok (.aload_n 0, 1) := by decide +kernel
theorem d_Md_readGame_34 : dec m_Md_readGame 34 = .ok (.invokevirtual 55, 3) := by decide +kernel
theorem d_Md_readGame_37 : dec m_Md_readGame 37 = .ok (.iconst 0, 1) := by decide +kernel
theorem d_Md_readGame_38 : dec m_Md_readGame 38 = .ok (.istore_n 2, 1) := by decide +kernel
theorem d_Md_readGame_39 : dec m_Md_readGame 39 = .ok (.iload_n 2, 1) := by decide +kernel
theorem d_Md_readGame_40 : dec m_Md_readGame 40 = .ok (.bipush 20, 2) := by decide +kernel
theorem d_Md_readGame_42 : dec m_Md_readGame 42 = .ok (.if_icmp .ge 35, 3) := by decide +kernel
theorem d_Md_readGame_45 : dec m_Md_readGame 45 = .ok (.aload_n 0, 1) := by decide +kernel
theorem d_Md_readGame_46 : dec m_Md_readGame 46 = .ok (.getfield 7, 3) := by decide +kernel
theorem d_Md_readGame_49 : dec m_Md_readGame 49 = .ok (.iconst 3, 1) := by decide +kernel
theorem d_Md_readGame_50 : dec m_Md_readGame 50 = .ok (.iconst 5, 1) := by decide +kernel
theorem d_Md_readGame_51 : dec m_Md_readGame 51 = .ok (.iload_n 2, 1) := by decide +kernel
theorem d_Md_readGame_52 : dec m_Md_readGame 52 = .ok (.imul, 1) := by decide +kernel
theorem d_Md_readGame_53 : dec m_Md_readGame 53 = .ok (.iadd, 1) := by decide +kernel
theorem d_Md_readGame_54 : dec m_Md_readGame 54 = .ok (.iconst 0, 1) := by decide +kernel
theorem d_Md_readGame_55 : dec m_Md_readGame 55 = .ok (.iadd, 1) := by decide +kernel
theorem d_Md_readGame_56 : dec m_Md_readGame 56 = .ok (.iconst 0, 1) := by decide +kernel
theorem d_Md_readGame_57 : dec m_Md_readGame 57 = .ok (.iastore, 1) := by decide +kernel
theorem d_Md_readGame_58 : dec m_Md_readGame 58 = .ok (.aload_n 0, 1) := by decide +kernel
theorem d_Md_readGame_59 : dec m_Md_readGame 59 = .ok (.getfield 7, 3) := by decide +kernel
theorem d_Md_readGame_62 : dec m_Md_readGame 62 = .ok (.iconst 3, 1) := by decide +kernel
theorem d_Md_readGame_63 : dec m_Md_readGame 63 = .ok (.iconst 5, 1) := by decide +kernel
theorem d_Md_readGame_64 : dec m_Md_readGame 64 = .ok (.iload_n 2, 1) := by decide +kernel
theorem d_Md_readGame_65 : dec m_Md_readGame 65 = .ok (.imul, 1) := by decide +kernel
theorem d_Md_readGame_66 : dec m_Md_readGame 66 = .ok (.iadd, 1) := by decide +kernel
theorem d_Md_readGame_67 : dec m_Md_readGame 67 = .ok (.iconst 1, 1) := by decide +kernel
theorem d_Md_readGame_68 : dec m_Md_readGame 68 = .ok (.iadd, 1) := by decide +kernel
theorem d_Md_readGame_69 : dec m_Md_readGame 69 = .ok (.iconst 0, 1) := by decide +kernel
theorem d_Md_readGame_70 : dec m_Md_readGame 70 = .ok (.iastore, 1) := by decide +kernel
theorem d_Md_readGame_71 : dec m_Md_readGame 71 = .ok (.iinc 2 1, 3) := by decide +kernel
theorem d_Md_readGame_74 : dec m_Md_readGame 74 = .ok (.goto (-35), 3) := by decide +kernel
theorem d_Md_readGame_77 : dec m_Md_readGame 77 = .ok (.iconst 0, 1) := by decide +kernel
theorem d_Md_readGame_78 : dec m_Md_readGame 78 = .ok (.istore_n 2, 1) := by decide +kernel
theorem d_Md_readGame_79 : dec m_Md_readGame 79 = .ok (.iload_n 2, 1) := by decide +kernel
theorem d_Md_readGame_80 : dec m_Md_readGame 80 = .ok (.bipush 120, 2) := by decide +kernel
theorem d_Md_readGame_82 : dec m_Md_readGame 82 = .ok (.if_icmp .ge 19, 3) := by decide +kernel
theorem d_Md_readGame_85 : dec m_Md_readGame 85 = .ok (.aload_n 0, 1) := by decide +kernel
theorem d_Md_readGame_86 : dec m_Md_readGame 86 = .ok (.getfield 7, 3) := by decide +kernel
theorem d_Md_readGame_89 : dec m_Md_readGame 89 = .ok (.bipush 103, 2) := by decide +kernel
theorem d_Md_readGame_91 : dec m_Md_readGame 91 = .ok (.iload_n 2, 1) := by decide +kernel
theorem d_Md_readGame_92 : dec m_Md_readGame 92 = .ok (.iadd, 1) := by decide +kernel
theorem d_Md_readGame_93 : dec m_Md_readGame 93 = .ok (.iconst 0, 1) := by decide +kernel
theorem d_Md_readGame_94 : dec m_Md_readGame 94 = .ok (.iastore, 1) := by decide +kernel
theorem d_Md_readGame_95 : dec m_Md_readGame 95 = .ok (.iinc 2 1, 3) := by decide +kernel
theorem d_Md_readGame_98 : dec m_Md_readGame 98 = .ok (.goto (-19), 3) := by decide +kernel
theorem d_Md_readGame_101 : dec m_Md_readGame 101 = .ok (.aload_n 0, 1) := by decide +kernel
theorem d_Md_readGame_102 : dec m_Md_readGame 102 = .ok (.getfield 7, 3) := by decide +kernel
theorem d_Md_readGame_105 : dec m_Md_readGame 105 = .ok (.iconst 0, 1) := by decide +kernel
theorem d_Md_readGame_106 : dec m_Md_readGame 106 = .ok (.iconst 0, 1) := by decide +kernel
theorem d_Md_readGame_107 : dec m_Md_readGame 107 = .ok (.iastore, 1) := by decide +kernel
theorem d_Md_readGame_108 : dec m_Md_readGame 108 = .ok (.iconst 0, 1) := by decide +kernel
theorem d_Md_readGame_109 : dec m_Md_readGame 109 = .ok (.istore_n 2, 1) := by decide +kernel
theorem d_Md_readGame_110 : dec m_Md_readGame 110 = .ok (.iload_n 2, 1) := by decide +kernel
theorem d_Md_readGame_111 : dec m_Md_readGame 111 = .ok (.aload_n 0, 1) := by decide +kernel
theorem d_Md_readGame_112 : dec m_Md_readGame 112 = .ok (.getfield 137, 3) := by decide +kernel
theorem d_Md_readGame_115 : dec m_Md_readGame 115 = .ok (.if_icmp .ge 41, 3) := by decide +kernel
theorem d_Md_readGame_118 : dec m_Md_readGame 118 = .ok (.aload_n 0, 1) := by decide +kernel
theorem d_Md_readGame_119 : dec m_Md_readGame 119 = .ok (.aload_n 0, 1) := by decide +kernel
theorem d_Md_readGame_120 : dec m_Md_readGame 120 = .ok (.getfield 29, 3) := by decide +kernel
theorem d_Md_readGame_123 : dec m_Md_readGame 123 = .ok (.iconst 3, 1) := by decide +kernel
theorem d_Md_readGame_124 : dec m_Md_readGame 124 = .ok (.iload_n 2, 1) := by decide +kernel
theorem d_Md_readGame_125 : dec m_Md_readGame 125 = .ok (.imul, 1) := by decide +kernel
theorem d_Md_readGame_126 : dec m_Md_readGame 126 = .ok (.iaload, 1) := by decide +kernel
theorem d_Md_readGame_127 : dec m_Md_readGame 127 = .ok (.aload_n 0, 1) := by decide +kernel
theorem d_Md_readGame_128 : dec m_Md_readGame 128 = .ok (.getfield 29, 3) := by decide +kernel
theorem d_Md_readGame_131 : dec m_Md_readGame 131 = .ok (.iconst 3, 1) := by decide +kernel
theorem d_Md_readGame_132 : dec m_Md_readGame 132 = .ok (.iload_n 2, 1) := by decide +kernel
theorem d_Md_readGame_133 : dec m_Md_readGame 133 = .ok (.imul, 1) := by decide +kernel
theorem d_Md_readGame_134 : dec m_Md_readGame 134 = .ok (.iconst 1, 1) := by decide +kernel
theorem d_Md_readGame_135 : dec m_Md_readGame 135 = .ok (.iadd, 1) := by decide +kernel
theorem d_Md_readGame_136 : dec m_Md_readGame 136 = .ok (.iaload, 1) := by decide +kernel
theorem d_Md_readGame_137 : dec m_Md_readGame 137 = .ok (.aload_n 0, 1) := by decide +kernel
theorem d_Md_readGame_138 : dec m_Md_readGame 138 = .ok (.getfield 29, 3) := by decide +kernel
theorem d_Md_readGame_141 : dec m_Md_readGame 141 = .ok (.iconst 3, 1) := by decide +kernel
theorem d_Md_readGame_142 : dec m_Md_readGame 142 = .ok (.iload_n 2, 1) := by decide +kernel
theorem d_Md_readGame_143 : dec m_Md_readGame 143 = .ok (.imul, 1) := by decide +kernel
theorem d_Md_readGame_144 : dec m_Md_readGame 144 = .ok (.iconst 2, 1) := by decide +kernel
theorem d_Md_readGame_145 : dec m_Md_readGame 145 = .ok (.iadd, 1) := by decide +kernel
theorem d_Md_readGame_146 : dec m_Md_readGame 146 = .ok (.iaload, 1) := by decide +kernel
theorem d_Md_readGame_147 : dec m_Md_readGame 147 = .ok (.invokevirtual 155, 3) := by decide +kernel
theorem d_Md_readGame_150 : dec m_Md_readGame 150 = .ok (.iinc 2 1, 3) := by decide +kernel
theorem d_Md_readGame_153 : dec m_Md_readGame 153 = .ok (.goto (-43), 3) := by decide +kernel
theorem d_Md_readGame_156 : dec m_Md_readGame 156 = .ok (.aload_n 0, 1) := by decide +kernel
theorem d_Md_readGame_157 : dec m_Md_readGame 157 = .ok (.invokevirtual 58, 3) := by decide +kernel
theorem d_Md_readGame_160 : dec m_Md_readGame 160 = .ok (.aload_n 0, 1) := by decide +kernel
theorem d_Md_readGame_161 : dec m_Md_readGame 161 = .ok (.getfield 7, 3) := by decide +kernel
theorem d_Md_readGame_164 : dec m_Md_readGame 164 = .ok (.iconst 0, 1) := by decide +kernel
theorem d_Md_readGame_165 : dec m_Md_readGame 165 = .ok (.iaload, 1) := by decide +kernel
theorem d_Md_readGame_166 : dec m_Md_readGame 166 = .ok (.ireturn, 1) := by decide +kernel
theorem d_Md_undo_0 : dec m_Md_undo 0 = .ok (.aload_n 0, 1) := by decide +kernel
theorem d_Md_undo_1 : dec m_Md_undo 1 = .ok (.iconst 0, 1) := by decide +kernel
theorem d_Md_undo_2 : dec m_Md_undo 2 = .ok (.putfield 32, 3) := by decide +kernel
theorem d_Md_undo_5 : dec m_Md_undo 5 = .ok (.aload_n 0, 1) := by decide +kernel
theorem d_Md_undo_6 : dec m_Md_undo 6 = .ok (.getfield 40, 3) := by decide +kernel
theorem d_Md_undo_9 : dec m_Md_undo 9 = .ok (.ifCond .ne 6, 3) := by decide +kernel
theorem d_Md_undo_12 : dec m_Md_undo 12 = .ok (.bipush (-5), 2) := by decide +kernel
theorem d_Md_undo_14 : dec m_Md_undo 14 = .ok (.ireturn, 1) := by decide +kernel
theorem d_Md_undo_15 : dec m_Md_undo 15 = .ok (.aload_n 0, 1) := by decide +kernel
theorem d_Md_undo_16 : dec m_Md_undo 16 = .ok (.dup, 1) := by decide +kernel
theorem d_Md_undo_17 : dec m_Md_undo 17 = .ok (.getfield 40, 3) := by decide +kernel
theorem d_Md_undo_20 : dec m_Md_undo 20 = .ok (.iconst 1, 1) := by decide +kernel
theorem d_Md_undo_21 : dec m_Md_undo 21 = .ok (.isub, 1) := by decide +kernel
theorem d_Md_undo_22 : dec m_Md_undo 22 = .ok (.putfield 40, 3) := by decide +kernel
theorem d_Md_undo_25 : dec m_Md_undo 25 = .ok (.iconst 0, 1) := by decide +kernel
theorem d_Md_undo_26 : dec m_Md_undo 26 = .ok (.istore_n 1, 1) := by decide +kernel
theorem d_Md_undo_27 : dec m_Md_undo 27 = .ok (.iload_n 1, 1) := by decide +kernel
theorem d_Md_undo_28 : dec m_Md_undo 28 = .ok (.sipush 1624, 3) := by decide +kernel
theorem d_Md_undo_31 : dec m_Md_undo 31 = .ok (.if_icmp .ge 30, 3) := by decide +kernel
theorem d_Md_undo_34 : dec m_Md_undo 34 = .ok (.aload_n 0, 1) := by decide +kernel
theorem d_Md_undo_35 : dec m_Md_undo 35 = .ok (.getfield 7, 3) := by decide +kernel
theorem d_Md_undo_38 : dec m_Md_undo 38 = .ok (.iload_n 1, 1) := by decide +kernel
theorem d_Md_undo_39 : dec m_Md_undo 39 = .ok (.aload_n 0, 1) := by decide +kernel
theorem d_Md_undo_40 : dec m_Md_undo 40 = .ok (.getfield 13, 3) := by decide +kernel
theorem d_Md_undo_43 : dec m_Md_undo 43 = .ok (.sipush 1624, 3) := by decide +kernel
theorem d_Md_undo_46 : dec m_Md_undo 46 = .ok (.aload_n 0, 1) := by decide +kernel
theorem d_Md_undo_47 : dec m_Md_undo 47 = .ok (.getfield 40, 3) := by decide +kernel
theorem d_Md_undo_50 : dec m_Md_undo 50 = .ok (.imul, 1) := by decide +kernel
theorem d_Md_undo_51 : dec m_Md_undo 51 = .ok (.iload_n 1, 1) := by decide +kernel
theorem d_Md_undo_52 : dec m_Md_undo 52 = .ok (.iadd, 1) := by decide +kernel
theorem d_Md_undo_53 : dec m_Md_undo 53 = .ok (.iaload, 1) := by decide +kernel
theorem d_Md_undo_54 : dec m_Md_undo 54 = .ok (.iastore, 1) := by decide +kernel
theorem d_Md_undo_55 : dec m_Md_undo 55 = .ok (.iinc 1 1, 3) := by decide +kernel
theorem d_Md_undo_58 : dec m_Md_undo 58 = .ok (.goto (-31), 3) := by decide +kernel
theorem d_Md_undo_61 : dec m_Md_undo 61 = .ok (.aload_n 0, 1) := by decide +kernel
theorem d_Md_undo_62 : dec m_Md_undo 62 = .ok (.getfield 40, 3) := by decide +kernel
theorem d_Md_undo_65 : dec m_Md_undo 65 = .ok (.ireturn, 1) := by decide +kernel
theorem d_Md_keep_0 : dec m_Md_keep 0 = .ok (.aload_n 0, 1) := by decide +kernel
theorem d_Md_keep_1 : dec m_Md_keep 1 = .ok (.iconst 0, 1) := by decide +kernel
theorem d_Md_keep_2 : dec m_Md_keep 2 = .ok (.putfield 32, 3) := by decide +kernel
theorem d_Md_keep_5 : dec m_Md_keep 5 = .ok (.iconst 0, 1) := by decide +kernel
theorem d_Md_keep_6 : dec m_Md_keep 6 = .ok (.istore_n 1, 1) := by decide +kernel
theorem d_Md_keep_7 : dec m_Md_keep 7 = .ok (.iload_n 1, 1) := by decide +kernel
theorem d_Md_keep_8 : dec m_Md_keep 8 = .ok (.sipush 1624, 3) := by decide +kernel
theorem d_Md_keep_11 : dec m_Md_keep 11 = .ok (.if_icmp .ge 21, 3) := by decide +kernel
theorem d_Md_keep_14 : dec m_Md_keep 14 = .ok (.aload_n 0, 1) := by decide +kernel
theorem d_Md_keep_15 : dec m_Md_keep 15 = .ok (.getfield 16, 3) := by decide +kernel
theorem d_Md_keep_18 : dec m_Md_keep 18 = .ok (.iload_n 1, 1) := by decide +kernel
theorem d_Md_keep_19 : dec m_Md_keep 19 = .ok (.aload_n 0, 1) := by decide +kernel
theorem d_Md_keep_20 : dec m_Md_keep 20 = .ok (.getfield 7, 3) := by decide +kernel
theorem d_Md_keep_23 : dec m_Md_keep 23 = .ok (.iload_n 1, 1) := by decide +kernel
theorem d_Md_keep_24 : dec m_Md_keep 24 = .ok (.iaload, 1) := by decide +kernel
theorem d_Md_keep_25 : dec m_Md_keep 25 = .ok (.iastore, 1) := by decide +kernel
theorem d_Md_keep_26 : dec m_Md_keep 26 = .ok (.iinc 1 1, 3) := by decide +kernel
theorem d_Md_keep_29 : dec m_Md_keep 29 = .ok (.goto (-22), 3) := by decide +kernel
theorem d_Md_keep_32 : dec m_Md_keep 32 = .ok (.aload_n 0, 1) := by decide +kernel
theorem d_Md_keep_33 : dec m_Md_keep 33 = .ok (.iconst 1, 1) := by decide +kernel
theorem d_Md_keep_34 : dec m_Md_keep 34 = .ok (.putfield 158, 3) := by decide +kernel
theorem d_Md_keep_37 : dec m_Md_keep 37 = .ok (.aload_n 0, 1) := by decide +kernel
theorem d_Md_keep_38 : dec m_Md_keep 38 = .ok (.getfield 7, 3) := by decide +kernel
theorem d_Md_keep_41 : dec m_Md_keep 41 = .ok (.iconst 0, 1) := by decide +kernel
theorem d_Md_keep_42 : dec m_Md_keep 42 = .ok (.iaload, 1) := by decide +kernel
theorem d_Md_keep_43 : dec m_Md_keep 43 = .ok (.ireturn, 1) := by decide +kernel
theorem d_Md_restore_0 : dec m_Md_restore 0 = .ok (.aload_n 0, 1) := by decide +kernel
theorem d_Md_restore_1 : dec m_Md_restore 1 = .ok (.iconst 0, 1) := by decide +kernel
theorem d_Md_restore_2 : dec m_Md_restore 2 = .ok (.putfield 32, 3) := by decide +kernel
theorem d_Md_restore_5 : dec m_Md_restore 5 = .ok (.aload_n 0, 1) := by decide +kernel
theorem d_Md_restore_6 : dec m_Md_restore 6 = .ok (.getfield 158, 3) := by decide +kernel
theorem d_Md_restore_9 : dec m_Md_restore 9 = .ok (.ifCond .ne 6, 3) := by decide +kernel
theorem d_Md_restore_12 : dec m_Md_restore 12 = .ok (.bipush (-5), 2) := by decide +kernel
theorem d_Md_restore_14 : dec m_Md_restore 14 = .ok (.ireturn, 1) := by decide +kernel
theorem d_Md_restore_15 : dec m_Md_restore 15 = .ok (.aload_n 0, 1) := by decide +kernel
theorem d_Md_restore_16 : dec m_Md_restore 16 = .ok (.invokevirtual 55, 3) := by decide +kernel
theorem d_Md_restore_19 : dec m_Md_restore 19 = .ok (.iconst 0, 1) := by decide +kernel
theorem d_Md_restore_20 : dec m_Md_restore 20 = .ok (.istore_n 1, 1) := by decide +kernel
theorem d_Md_restore_21 : dec m_Md_restore 21 = .ok (.iload_n 1, 1) := by decide +kernel
theorem d_Md_restore_22 : dec m_Md_restore 22 = .ok (.sipush 1624, 3) := by decide +kernel
theorem d_Md_restore_25 : dec m_Md_restore 25 = .ok (.if_icmp .ge 21, 3) := by decide +kernel
theorem d_Md_restore_28 : dec m_Md_restore 28 = .ok (.aload_n 0, 1) := by decide +kernel
theorem d_Md_restore_29 : dec m_Md_restore 29 = .ok (.getfield 7, 3) := by decide +kernel
theorem d_Md_restore_32 : dec m_Md_restore 32 = .ok (.iload_n 1, 1) := by decide +kernel
theorem d_Md_restore_33 : dec m_Md_restore 33 = .ok (.aload_n 0, 1) := by decide +kernel
theorem d_Md_restore_34 : dec m_Md_restore 34 = .ok (.getfield 16, 3) := by decide +kernel
theorem d_Md_restore_37 : dec m_Md_restore 37 = .ok (.iload_n 1, 1) := by decide +kernel
theorem d_Md_restore_38 : dec m_Md_restore 38 = .ok (.iaload, 1) := by decide +kernel
theorem d_Md_restore_39 : dec m_Md_restore 39 = .ok (.iastore, 1) := by decide +kernel
theorem d_Md_restore_40 : dec m_Md_restore 40 = .ok (.iinc 1 1, 3) := by decide +kernel
theorem d_Md_restore_43 : dec m_Md_restore 43 = .ok (.goto (-22), 3) := by decide +kernel
theorem d_Md_restore_46 : dec m_Md_restore 46 = .ok (.aload_n 0, 1) := by decide +kernel
theorem d_Md_restore_47 : dec m_Md_restore 47 = .ok (.getfield 7, 3) := by decide +kernel
theorem d_Md_restore_50 : dec m_Md_restore 50 = .ok (.iconst 0, 1) := by decide +kernel
theorem d_Md_restore_51 : dec m_Md_restore 51 = .ok (.iaload, 1) := by decide +kernel
theorem d_Md_restore_52 : dec m_Md_restore 52 = .ok (.ireturn, 1) := by decide +kernel
theorem d_Md_position_0 : dec m_Md_position 0 = .ok (.aload_n 0, 1) := by decide +kernel
theorem d_Md_position_1 : dec m_Md_position 1 = .ok (.iconst 0, 1) := by decide +kernel
theorem d_Md_position_2 : dec m_Md_position 2 = .ok (.putfield 32, 3) := by decide +kernel
theorem d_Md_position_5 : dec m_Md_position 5 = .ok (.iload_n 1, 1) := by decide +kernel
theorem d_Md_position_6 : dec m_Md_position 6 = .ok (.invokestatic 51, 3) := by decide +kernel
theorem d_Md_position_9 : dec m_Md_position 9 = .ok (.ifCond .ne 5, 3) := by decide +kernel
theorem d_Md_position_12 : dec m_Md_position 12 = .ok (.iconst (-1), 1) := by decide +kernel
theorem d_Md_position_13 : dec m_Md_position 13 = .ok (.ireturn, 1) := by decide +kernel
theorem d_Md_position_14 : dec m_Md_position 14 = .ok (.iload_n 2, 1) := by decide +kernel
theorem d_Md_position_15 : dec m_Md_position 15 = .ok (.tableswitch 79 4 7 #[29, 35, 49, 68], 29) := by decide +kernel
theorem d_Md_position_44 : dec m_Md_position 44 = .ok (.aload_n 0, 1) := by decide +kernel
theorem d_Md_position_45 : dec m_Md_position 45 = .ok (.iload_n 1, 1) := by decide +kernel
theorem d_Md_position_46 : dec m_Md_position 46 = .ok (.invokevirtual 47, 3) := by decide +kernel
theorem d_Md_position_49 : dec m_Md_position 49 = .ok (.ireturn, 1) := by decide +kernel
theorem d_Md_position_50 : dec m_Md_position 50 = .ok (.aload_n 0, 1) := by decide +kernel
theorem d_Md_position_51 : dec m_Md_position 51 = .ok (.iload_n 1, 1) := by decide +kernel
theorem d_Md_position_52 : dec m_Md_position 52 = .ok (.invokevirtual 68, 3) := by decide +kernel
theorem d_Md_position_55 : dec m_Md_position 55 = .ok (.ifCond .eq 7, 3) := by decide +kernel
theorem d_Md_position_58 : dec m_Md_position 58 = .ok (.iconst 1, 1) := by decide +kernel
theorem d_Md_position_59 : dec m_Md_position 59 = .ok (.goto 4, 3) := by decide +kernel
theorem d_Md_position_62 : dec m_Md_position 62 = .ok (.iconst 0, 1) := by decide +kernel
theorem d_Md_position_63 : dec m_Md_position 63 = .ok (.ireturn, 1) := by decide +kernel
theorem d_Md_position_64 : dec m_Md_position 64 = .ok (.aload_n 0, 1) := by decide +kernel
theorem d_Md_position_65 : dec m_Md_position 65 = .ok (.invokevirtual 77, 3) := by decide +kernel
theorem d_Md_position_68 : dec m_Md_position 68 = .ok (.aload_n 0, 1) := by decide +kernel
theorem d_Md_position_69 : dec m_Md_position 69 = .ok (.getfield 22, 3) := by decide +kernel
theorem d_Md_position_72 : dec m_Md_position 72 = .ok (.iload_n 1, 1) := by decide +kernel
theorem d_Md_position_73 : dec m_Md_position 73 = .ok (.iaload, 1) := by decide +kernel
theorem d_Md_position_74 : dec m_Md_position 74 = .ok (.ifCond .lt 7, 3) := by decide +kernel
theorem d_Md_position_77 : dec m_Md_position 77 = .ok (.iconst 1, 1) := by decide +kernel
theorem d_Md_position_78 : dec m_Md_position 78 = .ok (.goto 4, 3) := by decide +kernel
theorem d_Md_position_81 : dec m_Md_position 81 = .ok (.iconst 0, 1) := by decide +kernel
theorem d_Md_position_82 : dec m_Md_position 82 = .ok (.ireturn, 1) := by decide +kernel
theorem d_Md_position_83 : dec m_Md_position 83 = .ok (.aload_n 0, 1) := by decide +kernel
theorem d_Md_position_84 : dec m_Md_position 84 = .ok (.invokevirtual 77, 3) := by decide +kernel
theorem d_Md_position_87 : dec m_Md_position 87 = .ok (.aload_n 0, 1) := by decide +kernel
theorem d_Md_position_88 : dec m_Md_position 88 = .ok (.getfield 22, 3) := by decide +kernel
theorem d_Md_position_91 : dec m_Md_position 91 = .ok (.iload_n 1, 1) := by decide +kernel
theorem d_Md_position_92 : dec m_Md_position 92 = .ok (.iaload, 1) := by decide +kernel
theorem d_Md_position_93 : dec m_Md_position 93 = .ok (.ireturn, 1) := by decide +kernel
theorem d_Md_position_94 : dec m_Md_position 94 = .ok (.iload_n 2, 1) := by decide +kernel
theorem d_Md_position_95 : dec m_Md_position 95 = .ok (.iconst 0, 1) := by decide +kernel
theorem d_Md_position_96 : dec m_Md_position 96 = .ok (.iconst 3, 1) := by decide +kernel
theorem d_Md_position_97 : dec m_Md_position 97 = .ok (.invokestatic 36, 3) := by decide +kernel
theorem d_Md_position_100 : dec m_Md_position 100 = .ok (.ifCond .eq 12, 3) := by decide +kernel
theorem d_Md_position_103 : dec m_Md_position 103 = .ok (.aload_n 0, 1) := by decide +kernel
theorem d_Md_position_104 : dec m_Md_position 104 = .ok (.iload_n 1, 1) := by decide +kernel
theorem d_Md_position_105 : dec m_Md_position 105 = .ok (.iload_n 2, 1) := by decide +kernel
theorem d_Md_position_106 : dec m_Md_position 106 = .ok (.invokevirtual 43, 3) := by decide +kernel
theorem d_Md_position_109 : dec m_Md_position 109 = .ok (.goto 5, 3) := by decide +kernel
theorem d_Md_position_112 : dec m_Md_position 112 = .ok (.bipush (-2), 2) := by decide +kernel
theorem d_Md_position_114 : dec m_Md_position 114 = .ok (.ireturn, 1) := by decide +kernel
theorem d_Md_move_0 : dec m_Md_move 0 = .ok (.aload_n 0, 1) := by decide +kernel
theorem d_Md_move_1 : dec m_Md_move 1 = .ok (.iconst 0, 1) := by decide +kernel
theorem d_Md_move_2 : dec m_Md_move 2 = .ok (.putfield 32, 3) := by decide +kernel
theorem d_Md_move_5 : dec m_Md_move 5 = .ok (.iload_n 1, 1) := by decide +kernel
theorem d_Md_move_6 : dec m_Md_move 6 = .ok (.invokestatic 51, 3) := by decide +kernel
theorem d_Md_move_9 : dec m_Md_move 9 = .ok (.ifCond .ne 5, 3) := by decide +kernel
theorem d_Md_move_12 : dec m_Md_move 12 = .ok (.iconst (-1), 1) := by decide +kernel
theorem d_Md_move_13 : dec m_Md_move 13 = .ok (.ireturn, 1) := by decide +kernel
theorem d_Md_move_14 : dec m_Md_move 14 = .ok (.iload_n 2, 1) := by decide +kernel
theorem d_Md_move_15 : dec m_Md_move 15 = .ok (.ifCond .ge 8, 3) := by decide +kernel
theorem d_Md_move_18 : dec m_Md_move 18 = .ok (.bipush (-2), 2) := by decide +kernel
theorem d_Md_move_20 : dec m_Md_move 20 = .ok (.goto 9, 3) := by decide +kernel
theorem d_Md_move_23 : dec m_Md_move 23 = .ok (.aload_n 0, 1) := by decide +kernel
theorem d_Md_move_24 : dec m_Md_move 24 = .ok (.iload_n 1, 1) := by decide +kernel
theorem d_Md_move_25 : dec m_Md_move 25 = .ok (.iload_n 2, 1) := by decide +kernel
theorem d_Md_move_26 : dec m_Md_move 26 = .ok (.invokevirtual 71, 3) := by decide +kernel
theorem d_Md_move_29 : dec m_Md_move 29 = .ok (.ireturn, 1) := by decide +kernel
theorem d_Md_node_0 : dec m_Md_node 0 = .ok (.aload_n 0, 1) := by decide +kernel
theorem d_Md_node_1 : dec m_Md_node 1 = .ok (.iconst 0, 1) := by decide +kernel
theorem d_Md_node_2 : dec m_Md_node 2 = .ok (.putfield 32, 3) := by decide +kernel
theorem d_Md_node_5 : dec m_Md_node 5 = .ok (.iload_n 1, 1) := by decide +kernel
theorem d_Md_node_6 : dec m_Md_node 6 = .ok (.iconst 0, 1) := by decide +kernel
theorem d_Md_node_7 : dec m_Md_node 7 = .ok (.aload_n 0, 1) := by decide +kernel
theorem d_Md_node_8 : dec m_Md_node 8 = .ok (.getfield 7, 3) := by decide +kernel
theorem d_Md_node_11 : dec m_Md_node 11 = .ok (.iconst 1, 1) := by decide +kernel
theorem d_Md_node_12 : dec m_Md_node 12 = .ok (.iaload, 1) := by decide +kernel
theorem d_Md_node_13 : dec m_Md_node 13 = .ok (.iconst 1, 1) := by decide +kernel
theorem d_Md_node_14 : dec m_Md_node 14 = .ok (.isub, 1) := by decide +kernel
theorem d_Md_node_15 : dec m_Md_node 15 = .ok (.invokestatic 36, 3) := by decide +kernel
theorem d_Md_node_18 : dec m_Md_node 18 = .ok (.ifCond .ne 5, 3) := by decide +kernel
theorem d_Md_node_21 : dec m_Md_node 21 = .ok (.iconst (-1), 1) := by decide +kernel
theorem d_Md_node_22 : dec m_Md_node 22 = .ok (.ireturn, 1) := by decide +kernel
theorem d_Md_node_23 : dec m_Md_node 23 = .ok (.iload_n 2, 1) := by decide +kernel
theorem d_Md_node_24 : dec m_Md_node 24 = .ok (.bipush 6, 2) := by decide +kernel
theorem d_Md_node_26 : dec m_Md_node 26 = .ok (.if_icmp .ne 9, 3) := by decide +kernel
theorem d_Md_node_29 : dec m_Md_node 29 = .ok (.aload_n 0, 1) := by decide +kernel
theorem d_Md_node_30 : dec m_Md_node 30 = .ok (.iload_n 1, 1) := by decide +kernel
theorem d_Md_node_31 : dec m_Md_node 31 = .ok (.invokevirtual 161, 3) := by decide +kernel
theorem d_Md_node_34 : dec m_Md_node 34 = .ok (.ireturn, 1) := by decide +kernel
theorem d_Md_node_35 : dec m_Md_node 35 = .ok (.iload_n 2, 1) := by decide +kernel
theorem d_Md_node_36 : dec m_Md_node 36 = .ok (.iconst 0, 1) := by decide +kernel
theorem d_Md_node_37 : dec m_Md_node 37 = .ok (.bipush 7, 2) := by decide +kernel
theorem d_Md_node_39 : dec m_Md_node 39 = .ok (.invokestatic 36, 3) := by decide +kernel
theorem d_Md_node_42 : dec m_Md_node 42 = .ok (.ifCond .eq 23, 3) := by decide +kernel
theorem d_Md_node_45 : dec m_Md_node 45 = .ok (.aload_n 0, 1) := by decide +kernel
theorem d_Md_node_46 : dec m_Md_node 46 = .ok (.iload_n 1, 1) := by decide +kernel
theorem d_Md_node_47 : dec m_Md_node 47 = .ok (.iload_n 2, 1) := by decide +kernel
theorem d_Md_node_48 : dec m_Md_node 48 = .ok (.bipush 7, 2) := by decide +kernel
theorem d_Md_node_50 : dec m_Md_node 50 = .ok (.if_icmp .ne 8, 3) := by decide +kernel
theorem d_Md_node_53 : dec m_Md_node 53 = .ok (.bipush 6, 2) := by decide +kernel
theorem d_Md_node_55 : dec m_Md_node 55 = .ok (.goto 4, 3) := by decide +kernel
theorem d_Md_node_58 : dec m_Md_node 58 = .ok (.iload_n 2, 1) := by decide +kernel
theorem d_Md_node_59 : dec m_Md_node 59 = .ok (.invokevirtual 80, 3) := by decide +kernel
theorem d_Md_node_62 : dec m_Md_node 62 = .ok (.goto 5, 3) := by decide +kernel
theorem d_Md_node_65 : dec m_Md_node 65 = .ok (.bipush (-2), 2) := by decide +kernel
theorem d_Md_node_67 : dec m_Md_node 67 = .ok (.ireturn, 1) := by decide +kernel
theorem d_Md_way_0 : dec m_Md_way 0 = .ok (.aload_n 0, 1) := by decide +kernel
theorem d_Md_way_1 : dec m_Md_way 1 = .ok (.iconst 0, 1) := by decide +kernel
theorem d_Md_way_2 : dec m_Md_way 2 = .ok (.putfield 32, 3) := by decide +kernel
theorem d_Md_way_5 : dec m_Md_way 5 = .ok (.iload_n 1, 1) := by decide +kernel
theorem d_Md_way_6 : dec m_Md_way 6 = .ok (.ifCond .ge 6, 3) := by decide +kernel
theorem d_Md_way_9 : dec m_Md_way 9 = .ok (.bipush (-2), 2) := by decide +kernel
theorem d_Md_way_11 : dec m_Md_way 11 = .ok (.ireturn, 1) := by decide +kernel
theorem d_Md_way_12 : dec m_Md_way 12 = .ok (.aload_n 0, 1) := by decide +kernel
theorem d_Md_way_13 : dec m_Md_way 13 = .ok (.getfield 7, 3) := by decide +kernel
theorem d_Md_way_16 : dec m_Md_way 16 = .ok (.iconst 1, 1) := by decide +kernel
theorem d_Md_way_17 : dec m_Md_way 17 = .ok (.iaload, 1) := by decide +kernel
theorem d_Md_way_18 : dec m_Md_way 18 = .ok (.ifCond .eq 10, 3) := by decide +kernel
theorem d_Md_way_21 : dec m_Md_way 21 = .ok (.aload_n 0, 1) := by decide +kernel
theorem d_Md_way_22 : dec m_Md_way 22 = .ok (.invokevirtual 103, 3) := by decide +kernel
theorem d_Md_way_25 : dec m_Md_way 25 = .ok (.ifCond .eq 6, 3) := by decide +kernel
theorem d_Md_way_28 : dec m_Md_way 28 = .ok (.bipush (-5), 2) := by decide +kernel
theorem d_Md_way_30 : dec m_Md_way 30 = .ok (.ireturn, 1) := by decide +kernel
theorem d_Md_way_31 : dec m_Md_way 31 = .ok (.iconst 0, 1) := by decide +kernel
theorem d_Md_way_32 : dec m_Md_way 32 = .ok (.istore_n 2, 1) := by decide +kernel
theorem d_Md_way_33 : dec m_Md_way 33 = .ok (.iload_n 1, 1) := by decide +kernel
theorem d_Md_way_34 : dec m_Md_way 34 = .ok (.istore_n 3, 1) := by decide +kernel
theorem d_Md_way_35 : dec m_Md_way 35 = .ok (.iload_n 3, 1) := by decide +kernel
theorem d_Md_way_36 : dec m_Md_way 36 = .ok (.ifCond .le 24, 3) := by decide +kernel
theorem d_Md_way_39 : dec m_Md_way 39 = .ok (.aload_n 0, 1) := by decide +kernel
theorem d_Md_way_40 : dec m_Md_way 40 = .ok (.iload_n 2, 1) := by decide +kernel
theorem d_Md_way_41 : dec m_Md_way 41 = .ok (.iconst 4, 1) := by decide +kernel
theorem d_Md_way_42 : dec m_Md_way 42 = .ok (.invokevirtual 80, 3) := by decide +kernel
theorem d_Md_way_45 : dec m_Md_way 45 = .ok (.ifCond .le 15, 3) := by decide +kernel
theorem d_Md_way_48 : dec m_Md_way 48 = .ok (.aload_n 0, 1) := by decide +kernel
theorem d_Md_way_49 : dec m_Md_way 49 = .ok (.iload_n 2, 1) := by decide +kernel
theorem d_Md_way_50 : dec m_Md_way 50 = .ok (.invokevirtual 100, 3) := by decide +kernel
theorem d_Md_way_53 : dec m_Md_way 53 = .ok (.istore_n 2, 1) := by decide +kernel
theorem d_Md_way_54 : dec m_Md_way 54 = .ok (.iinc 3 (-1), 3) := by decide +kernel
theorem d_Md_way_57 : dec m_Md_way 57 = .ok (.goto (-22), 3) := by decide +kernel
theorem d_Md_way_60 : dec m_Md_way 60 = .ok (.iload_n 3, 1) := by decide +kernel
theorem d_Md_way_61 : dec m_Md_way 61 = .ok (.ifCond .ne 7, 3) := by decide +kernel
theorem d_Md_way_64 : dec m_Md_way 64 = .ok (.iload_n 2, 1) := by decide +kernel
theorem d_Md_way_65 : dec m_Md_way 65 = .ok (.goto 5, 3) := by decide +kernel
theorem d_Md_way_68 : dec m_Md_way 68 = .ok (.bipush (-5), 2) := by decide +kernel
theorem d_Md_way_70 : dec m_Md_way 70 = .ok (.ireturn, 1) := by decide +kernel
theorem d_Md_owner_0 : dec m_Md_owner 0 = .ok (.aload_n 0, 1) := by decide +kernel
theorem d_Md_owner_1 : dec m_Md_owner 1 = .ok (.iconst 0, 1) := by decide +kernel
theorem d_Md_owner_2 : dec m_Md_owner 2 = .ok (.iconst 2, 1) := by decide +kernel
theorem d_Md_owner_3 : dec m_Md_owner 3 = .ok (.invokevirtual 80, 3) := by decide +kernel
theorem d_Md_owner_6 : dec m_Md_owner 6 = .ok (.ifCond .ne 7, 3) := by decide +kernel
theorem d_Md_owner_9 : dec m_Md_owner 9 = .ok (.iconst 0, 1) := by decide +kernel
theorem d_Md_owner_10 : dec m_Md_owner 10 = .ok (.goto 4, 3) := by decide +kernel
theorem d_Md_owner_13 : dec m_Md_owner 13 = .ok (.iconst 1, 1) := by decide +kernel
theorem d_Md_owner_14 : dec m_Md_owner 14 = .ok (.ireturn, 1) := by decide +kernel
theorem d_Md_playOut_0 : dec m_Md_playOut 0 = .ok (.aload_n 0, 1) := by decide +kernel
theorem d_Md_playOut_1 : dec m_Md_playOut 1 = .ok (.iconst 0, 1) := by decide +kernel
theorem d_Md_playOut_2 : dec m_Md_playOut 2 = .ok (.putfield 32, 3) := by decide +kernel
theorem d_Md_playOut_5 : dec m_Md_playOut 5 = .ok (.iload_n 1, 1) := by decide +kernel
theorem d_Md_playOut_6 : dec m_Md_playOut 6 = .ok (.ifCond .lt 12, 3) := by decide +kernel
theorem d_Md_playOut_9 : dec m_Md_playOut 9 = .ok (.iload_n 2, 1) := by decide +kernel
theorem d_Md_playOut_10 : dec m_Md_playOut 10 = .ok (.iconst 0, 1) := by decide +kernel
theorem d_Md_playOut_11 : dec m_Md_playOut 11 = .ok (.iconst 2, 1) := by decide +kernel
theorem d_Md_playOut_12 : dec m_Md_playOut 12 = .ok (.invokestatic 36, 3) := by decide +kernel
theorem d_Md_playOut_15 : dec m_Md_playOut 15 = .ok (.ifCond .ne 6, 3) := by decide +kernel
theorem d_Md_playOut_18 : dec m_Md_playOut 18 = .ok (.bipush (-2), 2) := by decide +kernel
theorem d_Md_playOut_20 : dec m_Md_playOut 20 = .ok (.ireturn, 1) := by decide +kernel
theorem d_Md_playOut_21 : dec m_Md_playOut 21 = .ok (.aload_n 0, 1) := by decide +kernel
theorem d_Md_playOut_22 : dec m_Md_playOut 22 = .ok (.getfield 7, 3) := by decide +kernel
theorem d_Md_playOut_25 : dec m_Md_playOut 25 = .ok (.iconst 1, 1) := by decide +kernel
theorem d_Md_playOut_26 : dec m_Md_playOut 26 = .ok (.iaload, 1) := by decide +kernel
theorem d_Md_playOut_27 : dec m_Md_playOut 27 = .ok (.ifCond .eq 10, 3) := by decide +kernel
theorem d_Md_playOut_30 : dec m_Md_playOut 30 = .ok (.aload_n 0, 1) := by decide +kernel
theorem d_Md_playOut_31 : dec m_Md_playOut 31 = .ok (.invokevirtual 103, 3) := by decide +kernel
theorem d_Md_playOut_34 : dec m_Md_playOut 34 = .ok (.ifCond .ne 6, 3) := by decide +kernel
theorem d_Md_playOut_37 : dec m_Md_playOut 37 = .ok (.bipush (-4), 2) := by decide +kernel
theorem d_Md_playOut_39 : dec m_Md_playOut 39 = .ok (.ireturn, 1) := by decide +kernel
theorem d_Md_playOut_40 : dec m_Md_playOut 40 = .ok (.iconst 0, 1) := by decide +kernel
theorem d_Md_playOut_41 : dec m_Md_playOut 41 = .ok (.istore_n 3, 1) := by decide +kernel
theorem d_Md_playOut_42 : dec m_Md_playOut 42 = .ok (.iconst 0, 1) := by decide +kernel
theorem d_Md_playOut_43 : dec m_Md_playOut 43 = .ok (.istore 4, 2) := by decide +kernel
theorem d_Md_playOut_45 : dec m_Md_playOut 45 = .ok (.iload_n 1, 1) := by decide +kernel
theorem d_Md_playOut_46 : dec m_Md_playOut 46 = .ok (.istore 5, 2) := by decide +kernel
theorem d_Md_playOut_48 : dec m_Md_playOut 48 = .ok (.aload_n 0, 1) := by decide +kernel
theorem d_Md_playOut_49 : dec m_Md_playOut 49 = .ok (.iload_n 3, 1) := by decide +kernel
theorem d_Md_playOut_50 : dec m_Md_playOut 50 = .ok (.iconst 4, 1) := by decide +kernel
theorem d_Md_playOut_51 : dec m_Md_playOut 51 = .ok (.invokevirtual 80, 3) := by decide +kernel
theorem d_Md_playOut_54 : dec m_Md_playOut 54 = .ok (.ifCond .le 58, 3) := by decide +kernel
theorem d_Md_playOut_57 : dec m_Md_playOut 57 = .ok (.aload_n 0, 1) := by decide +kernel
theorem d_Md_playOut_58 : dec m_Md_playOut 58 = .ok (.iload_n 3, 1) := by decide +kernel
theorem d_Md_playOut_59 : dec m_Md_playOut 59 = .ok (.invokevirtual 91, 3) := by decide +kernel
theorem d_Md_playOut_62 : dec m_Md_playOut 62 = .ok (.aload_n 0, 1) := by decide +kernel
theorem d_Md_playOut_63 : dec m_Md_playOut 63 = .ok (.invokevirtual 164, 3) := by decide +kernel
theorem d_Md_playOut_66 : dec m_Md_playOut 66 = .ok (.if_icmp .ne 12, 3) := by decide +kernel
theorem d_Md_playOut_69 : dec m_Md_playOut 69 = .ok (.aload_n 0, 1) := by decide +kernel
theorem d_Md_playOut_70 : dec m_Md_playOut 70 = .ok (.iload_n 3, 1) := by decide +kernel
theorem d_Md_playOut_71 : dec m_Md_playOut 71 = .ok (.invokevirtual 100, 3) := by decide +kernel
theorem d_Md_playOut_74 : dec m_Md_playOut 74 = .ok (.istore_n 3, 1) := by decide +kernel
theorem d_Md_playOut_75 : dec m_Md_playOut 75 = .ok (.goto 31, 3) := by decide +kernel
theorem d_Md_playOut_78 : dec m_Md_playOut 78 = .ok (.aload_n 0, 1) := by decide +kernel
theorem d_Md_playOut_79 : dec m_Md_playOut 79 = .ok (.iload_n 3, 1) := by decide +kernel
theorem d_Md_playOut_80 : dec m_Md_playOut 80 = .ok (.iconst 4, 1) := by decide +kernel
theorem d_Md_playOut_81 : dec m_Md_playOut 81 = .ok (.invokevirtual 80, 3) := by decide +kernel
theorem d_Md_playOut_84 : dec m_Md_playOut 84 = .ok (.istore 6, 2) := by decide +kernel
theorem d_Md_playOut_86 : dec m_Md_playOut 86 = .ok (.aload_n 0, 1) := by decide +kernel
theorem d_Md_playOut_87 : dec m_Md_playOut 87 = .ok (.iload_n 3, 1) := by decide +kernel
theorem d_Md_playOut_88 : dec m_Md_playOut 88 = .ok (.iconst 5, 1) := by decide +kernel
theorem d_Md_playOut_89 : dec m_Md_playOut 89 = .ok (.invokevirtual 80, 3) := by decide +kernel
theorem d_Md_playOut_92 : dec m_Md_playOut 92 = .ok (.iload 5, 2) := by decide +kernel
theorem d_Md_playOut_94 : dec m_Md_playOut 94 = .ok (.iload 6, 2) := by decide +kernel
theorem d_Md_playOut_96 : dec m_Md_playOut 96 = .ok (.irem, 1) := by decide +kernel
theorem d_Md_playOut_97 : dec m_Md_playOut 97 = .ok (.iadd, 1) := by decide +kernel
theorem d_Md_playOut_98 : dec m_Md_playOut 98 = .ok (.istore_n 3, 1) := by decide +kernel
theorem d_Md_playOut_99 : dec m_Md_playOut 99 = .ok (.iload 5, 2) := by decide +kernel
theorem d_Md_playOut_101 : dec m_Md_playOut 101 = .ok (.iload 6, 2) := by decide +kernel
theorem d_Md_playOut_103 : dec m_Md_playOut 103 = .ok (.idiv, 1) := by decide +kernel
theorem d_Md_playOut_104 : dec m_Md_playOut 104 = .ok (.istore 5, 2) := by decide +kernel
theorem d_Md_playOut_106 : dec m_Md_playOut 106 = .ok (.iinc 4 1, 3) := by decide +kernel
theorem d_Md_playOut_109 : dec m_Md_playOut 109 = .ok (.goto (-61), 3) := by decide +kernel
theorem d_Md_playOut_112 : dec m_Md_playOut 112 = .ok (.iload_n 2, 1) := by decide +kernel
theorem d_Md_playOut_113 : dec m_Md_playOut 113 = .ok (.ifCond .ne 8, 3) := by decide +kernel
theorem d_Md_playOut_116 : dec m_Md_playOut 116 = .ok (.iload 4, 2) := by decide +kernel
theorem d_Md_playOut_118 : dec m_Md_playOut 118 = .ok (.goto 18, 3) := by decide +kernel
theorem d_Md_playOut_121 : dec m_Md_playOut 121 = .ok (.iload_n 2, 1) := by decide +kernel
theorem d_Md_playOut_122 : dec m_Md_playOut 122 = .ok (.iconst 1, 1) := by decide +kernel
theorem d_Md_playOut_123 : dec m_Md_playOut 123 = .ok (.if_icmp .ne 12, 3) := by decide +kernel
theorem d_Md_playOut_126 : dec m_Md_playOut 126 = .ok (.aload_n 0, 1) := by decide +kernel
theorem d_Md_playOut_127 : dec m_Md_playOut 127 = .ok (.iload_n 3, 1) := by decide +kernel
theorem d_Md_playOut_128 : dec m_Md_playOut 128 = .ok (.iconst 0, 1) := by decide +kernel
theorem d_Md_playOut_129 : dec m_Md_playOut 129 = .ok (.invokevirtual 80, 3) := by decide +kernel
theorem d_Md_playOut_132 : dec m_Md_playOut 132 = .ok (.goto 4, 3) := by decide +kernel
theorem d_Md_playOut_135 : dec m_Md_playOut 135 = .ok (.iload_n 3, 1) := by decide +kernel
theorem d_Md_playOut_136 : dec m_Md_playOut 136 = .ok (.ireturn, 1) := by decide +kernel
theorem d_Md_proofSize_0 : dec m_Md_proofSize 0 = .ok (.aload_n 0, 1) := by decide +kernel
theorem d_Md_proofSize_1 : dec m_Md_proofSize 1 = .ok (.iconst 0, 1) := by decide +kernel
theorem d_Md_proofSize_2 : dec m_Md_proofSize 2 = .ok (.putfield 32, 3) := by decide +kernel
theorem d_Md_proofSize_5 : dec m_Md_proofSize 5 = .ok (.aload_n 0, 1) := by decide +kernel
theorem d_Md_proofSize_6 : dec m_Md_proofSize 6 = .ok (.getfield 7, 3) := by decide +kernel
theorem d_Md_proofSize_9 : dec m_Md_proofSize 9 = .ok (.iconst 1, 1) := by decide +kernel
theorem d_Md_proofSize_10 : dec m_Md_proofSize 10 = .ok (.iaload, 1) := by decide +kernel
theorem d_Md_proofSize_11 : dec m_Md_proofSize 11 = .ok (.ifCond .eq 10, 3) := by decide +kernel
theorem d_Md_proofSize_14 : dec m_Md_proofSize 14 = .ok (.aload_n 0, 1) := by decide +kernel
theorem d_Md_proofSize_15 : dec m_Md_proofSize 15 = .ok (.invokevirtual 103, 3) := by decide +kernel
theorem d_Md_proofSize_18 : dec m_Md_proofSize 18 = .ok (.ifCond .ne 6, 3) := by decide +kernel
theorem d_Md_proofSize_21 : dec m_Md_proofSize 21 = .ok (.bipush (-4), 2) := by decide +kernel
theorem d_Md_proofSize_23 : dec m_Md_proofSize 23 = .ok (.ireturn, 1) := by decide +kernel
theorem d_Md_proofSize_24 : dec m_Md_proofSize 24 = .ok (.iconst 0, 1) := by decide +kernel
theorem d_Md_proofSize_25 : dec m_Md_proofSize 25 = .ok (.istore_n 1, 1) := by decide +kernel
theorem d_Md_proofSize_26 : dec m_Md_proofSize 26 = .ok (.iconst 0, 1) := by decide +kernel
theorem d_Md_proofSize_27 : dec m_Md_proofSize 27 = .ok (.istore_n 2, 1) := by decide +kernel
theorem d_Md_proofSize_28 : dec m_Md_proofSize 28 = .ok (.iload_n 2, 1) := by decide +kernel
theorem d_Md_proofSize_29 : dec m_Md_proofSize 29 = .ok (.aload_n 0, 1) := by decide +kernel
theorem d_Md_proofSize_30 : dec m_Md_proofSize 30 = .ok (.getfield 7, 3) := by decide +kernel
theorem d_Md_proofSize_33 : dec m_Md_proofSize 33 = .ok (.iconst 1, 1) := by decide +kernel
theorem d_Md_proofSize_34 : dec m_Md_proofSize 34 = .ok (.iaload, 1) := by decide +kernel
theorem d_Md_proofSize_35 : dec m_Md_proofSize 35 = .ok (.if_icmp .ge 80, 3) := by decide +kernel
theorem d_Md_proofSize_38 : dec m_Md_proofSize 38 = .ok (.aload_n 0, 1) := by decide +kernel
theorem d_Md_proofSize_39 : dec m_Md_proofSize 39 = .ok (.iload_n 2, 1) := by decide +kernel
theorem d_Md_proofSize_40 : dec m_Md_proofSize 40 = .ok (.iconst 1, 1) := by decide +kernel
theorem d_Md_proofSize_41 : dec m_Md_proofSize 41 = .ok (.invokevirtual 80, 3) := by decide +kernel
theorem d_Md_proofSize_44 : dec m_Md_proofSize 44 = .ok (.istore_n 3, 1) := by decide +kernel
theorem d_Md_proofSize_45 : dec m_Md_proofSize 45 = .ok (.aload_n 0, 1) := by decide +kernel
theorem d_Md_proofSize_46 : dec m_Md_proofSize 46 = .ok (.getfield 25, 3) := by decide +kernel
theorem d_Md_proofSize_49 : dec m_Md_proofSize 49 = .ok (.iload_n 2, 1) := by decide +kernel
theorem d_Md_proofSize_50 : dec m_Md_proofSize 50 = .ok (.iload_n 3, 1) := by decide +kernel
theorem d_Md_proofSize_51 : dec m_Md_proofSize 51 = .ok (.bipush (-5), 2) := by decide +kernel
theorem d_Md_proofSize_53 : dec m_Md_proofSize 53 = .ok (.if_icmp .eq 33, 3) := by decide +kernel
theorem d_Md_proofSize_56 : dec m_Md_proofSize 56 = .ok (.aload_n 0, 1) := by decide +kernel
theorem d_Md_proofSize_57 : dec m_Md_proofSize 57 = .ok (.getfield 25, 3) := by decide +kernel
theorem d_Md_proofSize_60 : dec m_Md_proofSize 60 = .ok (.iload_n 3, 1) := by decide +kernel
theorem d_Md_proofSize_61 : dec m_Md_proofSize 61 = .ok (.baload, 1) := by decide +kernel
theorem d_Md_proofSize_62 : dec m_Md_proofSize 62 = .ok (.ifCond .eq 28, 3) := by decide +kernel
theorem d_Md_proofSize_65 : dec m_Md_proofSize 65 = .ok (.aload_n 0, 1) := by decide +kernel
theorem d_Md_proofSize_66 : dec m_Md_proofSize 66 = .ok (.iload_n 3, 1) := by decide +kernel
theorem d_Md_proofSize_67 : dec m_Md_proofSize 67 = .ok (.invokevirtual 91, 3) := by decide +kernel
theorem d_Md_proofSize_70 : dec m_Md_proofSize 70 = .ok (.aload_n 0, 1) := by decide +kernel
theorem d_Md_proofSize_71 : dec m_Md_proofSize 71 = .ok (.invokevirtual 164, 3) := by decide +kernel
theorem d_Md_proofSize_74 : dec m_Md_proofSize 74 = .ok (.if_icmp .ne 12, 3) := by decide +kernel
theorem d_Md_proofSize_77 : dec m_Md_proofSize 77 = .ok (.aload_n 0, 1) := by decide +kernel
theorem d_Md_proofSize_78 : dec m_Md_proofSize 78 = .ok (.iload_n 3, 1) := by decide +kernel
theorem d_Md_proofSize_79 : dec m_Md_proofSize 79 = .ok (.invokevirtual 100, 3) := by decide +kernel
theorem d_Md_proofSize_82 : dec m_Md_proofSize 82 = .ok (.iload_n 2, 1) := by decide +kernel
theorem d_Md_proofSize_83 : dec m_Md_proofSize 83 = .ok (.if_icmp .ne 7, 3) := by decide +kernel
theorem d_Md_proofSize_86 : dec m_Md_proofSize 86 = .ok (.iconst 1, 1) := by decide +kernel
theorem d_Md_proofSize_87 : dec m_Md_proofSize 87 = .ok (.goto 4, 3) := by decide +kernel
theorem d_Md_proofSize_90 : dec m_Md_proofSize 90 = .ok (.iconst 0, 1) := by decide +kernel
theorem d_Md_proofSize_91 : dec m_Md_proofSize 91 = .ok (.bastore, 1) := by decide +kernel
theorem d_Md_proofSize_92 : dec m_Md_proofSize 92 = .ok (.iload_n 1, 1) := by decide +kernel
theorem d_Md_proofSize_93 : dec m_Md_proofSize 93 = .ok (.aload_n 0, 1) := by decide +kernel
theorem d_Md_proofSize_94 : dec m_Md_proofSize 94 = .ok (.getfield 25, 3) := by decide +kernel
theorem d_Md_proofSize_97 : dec m_Md_proofSize 97 = .ok (.iload_n 2, 1) := by decide +kernel
theorem d_Md_proofSize_98 : dec m_Md_proofSize 98 = .ok (.baload, 1) := by decide +kernel
theorem d_Md_proofSize_99 : dec m_Md_proofSize 99 = .ok (.ifCond .eq 7, 3) := by decide +kernel
theorem d_Md_proofSize_102 : dec m_Md_proofSize 102 = .ok (.iconst 1, 1) := by decide +kernel
theorem d_Md_proofSize_103 : dec m_Md_proofSize 103 = .ok (.goto 4, 3) := by decide +kernel
theorem d_Md_proofSize_106 : dec m_Md_proofSize 106 = .ok (.iconst 0, 1) := by decide +kernel
theorem d_Md_proofSize_107 : dec m_Md_proofSize 107 = .ok (.iadd, 1) := by decide +kernel
theorem d_Md_proofSize_108 : dec m_Md_proofSize 108 = .ok (.istore_n 1, 1) := by decide +kernel
theorem d_Md_proofSize_109 : dec m_Md_proofSize 109 = .ok (.iinc 2 1, 3) := by decide +kernel
theorem d_Md_proofSize_112 : dec m_Md_proofSize 112 = .ok (.goto (-84), 3) := by decide +kernel
theorem d_Md_proofSize_115 : dec m_Md_proofSize 115 = .ok (.iload_n 1, 1) := by decide +kernel
theorem d_Md_proofSize_116 : dec m_Md_proofSize 116 = .ok (.ireturn, 1) := by decide +kernel
theorem d_Md_loops_0 : dec m_Md_loops 0 = .ok (.iconst 0, 1) := by decide +kernel
theorem d_Md_loops_1 : dec m_Md_loops 1 = .ok (.istore_n 1, 1) := by decide +kernel
theorem d_Md_loops_2 : dec m_Md_loops 2 = .ok (.iconst 0, 1) := by decide +kernel
theorem d_Md_loops_3 : dec m_Md_loops 3 = .ok (.istore_n 2, 1) := by decide +kernel
theorem d_Md_loops_4 : dec m_Md_loops 4 = .ok (.iload_n 2, 1) := by decide +kernel
theorem d_Md_loops_5 : dec m_Md_loops 5 = .ok (.aload_n 0, 1) := by decide +kernel
theorem d_Md_loops_6 : dec m_Md_loops 6 = .ok (.getfield 7, 3) := by decide +kernel
theorem d_Md_loops_9 : dec m_Md_loops 9 = .ok (.iconst 1, 1) := by decide +kernel
theorem d_Md_loops_10 : dec m_Md_loops 10 = .ok (.iaload, 1) := by decide +kernel
theorem d_Md_loops_11 : dec m_Md_loops 11 = .ok (.if_icmp .ge 19, 3) := by decide +kernel
theorem d_Md_loops_14 : dec m_Md_loops 14 = .ok (.iload_n 1, 1) := by decide +kernel
theorem d_Md_loops_15 : dec m_Md_loops 15 = .ok (.aload_n 0, 1) := by decide +kernel
theorem d_Md_loops_16 : dec m_Md_loops 16 = .ok (.iload_n 2, 1) := by decide +kernel
theorem d_Md_loops_17 : dec m_Md_loops 17 = .ok (.bipush 6, 2) := by decide +kernel
theorem d_Md_loops_19 : dec m_Md_loops 19 = .ok (.invokevirtual 80, 3) := by decide +kernel
theorem d_Md_loops_22 : dec m_Md_loops 22 = .ok (.iadd, 1) := by decide +kernel
theorem d_Md_loops_23 : dec m_Md_loops 23 = .ok (.istore_n 1, 1) := by decide +kernel
theorem d_Md_loops_24 : dec m_Md_loops 24 = .ok (.iinc 2 1, 3) := by decide +kernel
theorem d_Md_loops_27 : dec m_Md_loops 27 = .ok (.goto (-23), 3) := by decide +kernel
theorem d_Md_loops_30 : dec m_Md_loops 30 = .ok (.iload_n 1, 1) := by decide +kernel
theorem d_Md_loops_31 : dec m_Md_loops 31 = .ok (.ireturn, 1) := by decide +kernel
theorem d_Md_deepest_0 : dec m_Md_deepest 0 = .ok (.iconst 0, 1) := by decide +kernel
theorem d_Md_deepest_1 : dec m_Md_deepest 1 = .ok (.istore_n 1, 1) := by decide +kernel
theorem d_Md_deepest_2 : dec m_Md_deepest 2 = .ok (.iconst 0, 1) := by decide +kernel
theorem d_Md_deepest_3 : dec m_Md_deepest 3 = .ok (.istore_n 2, 1) := by decide +kernel
theorem d_Md_deepest_4 : dec m_Md_deepest 4 = .ok (.iload_n 2, 1) := by decide +kernel
theorem d_Md_deepest_5 : dec m_Md_deepest 5 = .ok (.aload_n 0, 1) := by decide +kernel
theorem d_Md_deepest_6 : dec m_Md_deepest 6 = .ok (.getfield 7, 3) := by decide +kernel
theorem d_Md_deepest_9 : dec m_Md_deepest 9 = .ok (.iconst 1, 1) := by decide +kernel
theorem d_Md_deepest_10 : dec m_Md_deepest 10 = .ok (.iaload, 1) := by decide +kernel
theorem d_Md_deepest_11 : dec m_Md_deepest 11 = .ok (.if_icmp .ge 28, 3) := by decide +kernel
theorem d_Md_deepest_14 : dec m_Md_deepest 14 = .ok (.aload_n 0, 1) := by decide +kernel
theorem d_Md_deepest_15 : dec m_Md_deepest 15 = .ok (.iload_n 2, 1) := by decide +kernel
theorem d_Md_deepest_16 : dec m_Md_deepest 16 = .ok (.invokevirtual 161, 3) := by decide +kernel
theorem d_Md_deepest_19 : dec m_Md_deepest 19 = .ok (.iload_n 1, 1) := by decide +kernel
theorem d_Md_deepest_20 : dec m_Md_deepest 20 = .ok (.if_icmp .le 11, 3) := by decide +kernel
theorem d_Md_deepest_23 : dec m_Md_deepest 23 = .ok (.aload_n 0, 1) := by decide +kernel
theorem d_Md_deepest_24 : dec m_Md_deepest 24 = .ok (.iload_n 2, 1) := by decide +kernel
theorem d_Md_deepest_25 : dec m_Md_deepest 25 = .ok (.invokevirtual 161, 3) := by decide +kernel
theorem d_Md_deepest_28 : dec m_Md_deepest 28 = .ok (.goto 4, 3) := by decide +kernel
theorem d_Md_deepest_31 : dec m_Md_deepest 31 = .ok (.iload_n 1, 1) := by decide +kernel
theorem d_Md_deepest_32 : dec m_Md_deepest 32 = .ok (.istore_n 1, 1) := by decide +kernel
theorem d_Md_deepest_33 : dec m_Md_deepest 33 = .ok (.iinc 2 1, 3) := by decide +kernel
theorem d_Md_deepest_36 : dec m_Md_deepest 36 = .ok (.goto (-32), 3) := by decide +kernel
theorem d_Md_deepest_39 : dec m_Md_deepest 39 = .ok (.iload_n 1, 1) := by decide +kernel
theorem d_Md_deepest_40 : dec m_Md_deepest 40 = .ok (.ireturn, 1) := by decide +kernel
theorem d_Md_ofTree_0 : dec m_Md_ofTree 0 = .ok (.iload_n 1, 1) := by decide +kernel
theorem d_Md_ofTree_1 : dec m_Md_ofTree 1 = .ok (.tableswitch 82 2 6 #[35, 35, 42, 70, 75], 35) := by decide +kernel
theorem d_Md_ofTree_36 : dec m_Md_ofTree 36 = .ok (.aload_n 0, 1) := by decide +kernel
theorem d_Md_ofTree_37 : dec m_Md_ofTree 37 = .ok (.iconst 0, 1) := by decide +kernel
theorem d_Md_ofTree_38 : dec m_Md_ofTree 38 = .ok (.iload_n 1, 1) := by decide +kernel
theorem d_Md_ofTree_39 : dec m_Md_ofTree 39 = .ok (.invokevirtual 80, 3) := by decide +kernel
theorem d_Md_ofTree_42 : dec m_Md_ofTree 42 = .ok (.ireturn, 1) := by decide +kernel
theorem d_Md_ofTree_43 : dec m_Md_ofTree 43 = .ok (.aload_n 0, 1) := by decide +kernel
theorem d_Md_ofTree_44 : dec m_Md_ofTree 44 = .ok (.iconst 0, 1) := by decide +kernel
theorem d_Md_ofTree_45 : dec m_Md_ofTree 45 = .ok (.iconst 2, 1) := by decide +kernel
theorem d_Md_ofTree_46 : dec m_Md_ofTree 46 = .ok (.invokevirtual 80, 3) := by decide +kernel
theorem d_Md_ofTree_49 : dec m_Md_ofTree 49 = .ok (.ifCond .ne 7, 3) := by decide +kernel
theorem d_Md_ofTree_52 : dec m_Md_ofTree 52 = .ok (.iconst 1, 1) := by decide +kernel
theorem d_Md_ofTree_53 : dec m_Md_ofTree 53 = .ok (.goto 17, 3) := by decide +kernel
theorem d_Md_ofTree_56 : dec m_Md_ofTree 56 = .ok (.aload_n 0, 1) := by decide +kernel
theorem d_Md_ofTree_57 : dec m_Md_ofTree 57 = .ok (.iconst 0, 1) := by decide +kernel
theorem d_Md_ofTree_58 : dec m_Md_ofTree 58 = .ok (.iconst 3, 1) := by decide +kernel
theorem d_Md_ofTree_59 : dec m_Md_ofTree 59 = .ok (.invokevirtual 80, 3) := by decide +kernel
theorem d_Md_ofTree_62 : dec m_Md_ofTree 62 = .ok (.ifCond .ne 7, 3) := by decide +kernel
theorem d_Md_ofTree_65 : dec m_Md_ofTree 65 = .ok (.iconst 2, 1) := by decide +kernel
theorem d_Md_ofTree_66 : dec m_Md_ofTree 66 = .ok (.goto 4, 3) := by decide +kernel
theorem d_Md_ofTree_69 : dec m_Md_ofTree 69 = .ok (.iconst 0, 1) := by decide +kernel
theorem d_Md_ofTree_70 : dec m_Md_ofTree 70 = .ok (.ireturn, 1) := by decide +kernel
theorem d_Md_ofTree_71 : dec m_Md_ofTree 71 = .ok (.aload_n 0, 1) := by decide +kernel
theorem d_Md_ofTree_72 : dec m_Md_ofTree 72 = .ok (.invokevirtual 167, 3) := by decide +kernel
theorem d_Md_ofTree_75 : dec m_Md_ofTree 75 = .ok (.ireturn, 1) := by decide +kernel
theorem d_Md_ofTree_76 : dec m_Md_ofTree 76 = .ok (.aload_n 0, 1) := by decide +kernel
theorem d_Md_ofTree_77 : dec m_Md_ofTree 77 = .ok (.getfield 7, 3) := by decide +kernel
theorem d_Md_ofTree_80 : dec m_Md_ofTree 80 = .ok (.iconst 2, 1) := by decide +kernel
theorem d_Md_ofTree_81 : dec m_Md_ofTree 81 = .ok (.iaload, 1) := by decide +kernel
theorem d_Md_ofTree_82 : dec m_Md_ofTree 82 = .ok (.ireturn, 1) := by decide +kernel
theorem d_Md_ofTree_83 : dec m_Md_ofTree 83 = .ok (.aload_n 0, 1) := by decide +kernel
theorem d_Md_ofTree_84 : dec m_Md_ofTree 84 = .ok (.invokevirtual 170, 3) := by decide +kernel
theorem d_Md_ofTree_87 : dec m_Md_ofTree 87 = .ok (.ireturn, 1) := by decide +kernel
theorem d_Md_count_0 : dec m_Md_count 0 = .ok (.aload_n 0, 1) := by decide +kernel
theorem d_Md_count_1 : dec m_Md_count 1 = .ok (.iconst 0, 1) := by decide +kernel
theorem d_Md_count_2 : dec m_Md_count 2 = .ok (.putfield 32, 3) := by decide +kernel
theorem d_Md_count_5 : dec m_Md_count 5 = .ok (.iload_n 1, 1) := by decide +kernel
theorem d_Md_count_6 : dec m_Md_count 6 = .ok (.tableswitch 87 0 10 #[58, 65, 87, 87, 87, 87, 87, 87, 72, 77, 82], 58) := by decide +kernel
theorem d_Md_count_64 : dec m_Md_count 64 = .ok (.aload_n 0, 1) := by decide +kernel
theorem d_Md_count_65 : dec m_Md_count 65 = .ok (.getfield 7, 3) := by decide +kernel
theorem d_Md_count_68 : dec m_Md_count 68 = .ok (.iconst 0, 1) := by decide +kernel
theorem d_Md_count_69 : dec m_Md_count 69 = .ok (.iaload, 1) := by decide +kernel
theorem d_Md_count_70 : dec m_Md_count 70 = .ok (.ireturn, 1) := by decide +kernel
theorem d_Md_count_71 : dec m_Md_count 71 = .ok (.aload_n 0, 1) := by decide +kernel
theorem d_Md_count_72 : dec m_Md_count 72 = .ok (.getfield 7, 3) := by decide +kernel
theorem d_Md_count_75 : dec m_Md_count 75 = .ok (.iconst 1, 1) := by decide +kernel
theorem d_Md_count_76 : dec m_Md_count 76 = .ok (.iaload, 1) := by decide +kernel
theorem d_Md_count_77 : dec m_Md_count 77 = .ok (.ireturn, 1) := by decide +kernel
theorem d_Md_count_78 : dec m_Md_count 78 = .ok (.aload_n 0, 1) := by decide +kernel
theorem d_Md_count_79 : dec m_Md_count 79 = .ok (.invokevirtual 173, 3) := by decide +kernel
theorem d_Md_count_82 : dec m_Md_count 82 = .ok (.ireturn, 1) := by decide +kernel
theorem d_Md_count_83 : dec m_Md_count 83 = .ok (.aload_n 0, 1) := by decide +kernel
theorem d_Md_count_84 : dec m_Md_count 84 = .ok (.getfield 40, 3) := by decide +kernel
theorem d_Md_count_87 : dec m_Md_count 87 = .ok (.ireturn, 1) := by decide +kernel
theorem d_Md_count_88 : dec m_Md_count 88 = .ok (.aload_n 0, 1) := by decide +kernel
theorem d_Md_count_89 : dec m_Md_count 89 = .ok (.getfield 124, 3) := by decide +kernel
theorem d_Md_count_92 : dec m_Md_count 92 = .ok (.ireturn, 1) := by decide +kernel
theorem d_Md_count_93 : dec m_Md_count 93 = .ok (.iload_n 1, 1) := by decide +kernel
theorem d_Md_count_94 : dec m_Md_count 94 = .ok (.iconst 2, 1) := by decide +kernel
theorem d_Md_count_95 : dec m_Md_count 95 = .ok (.bipush 7, 2) := by decide +kernel
theorem d_Md_count_97 : dec m_Md_count 97 = .ok (.invokestatic 36, 3) := by decide +kernel
theorem d_Md_count_100 : dec m_Md_count 100 = .ok (.ifCond .ne 8, 3) := by decide +kernel
theorem d_Md_count_103 : dec m_Md_count 103 = .ok (.bipush (-2), 2) := by decide +kernel
theorem d_Md_count_105 : dec m_Md_count 105 = .ok (.goto 22, 3) := by decide +kernel
theorem d_Md_count_108 : dec m_Md_count 108 = .ok (.aload_n 0, 1) := by decide +kernel
theorem d_Md_count_109 : dec m_Md_count 109 = .ok (.getfield 7, 3) := by decide +kernel
theorem d_Md_count_112 : dec m_Md_count 112 = .ok (.iconst 1, 1) := by decide +kernel
theorem d_Md_count_113 : dec m_Md_count 113 = .ok (.iaload, 1) := by decide +kernel
theorem d_Md_count_114 : dec m_Md_count 114 = .ok (.ifCond .ne 8, 3) := by decide +kernel
theorem d_Md_count_117 : dec m_Md_count 117 = .ok (.bipush (-5), 2) := by decide +kernel
theorem d_Md_count_119 : dec m_Md_count 119 = .ok (.goto 8, 3) := by decide +kernel
theorem d_Md_count_122 : dec m_Md_count 122 = .ok (.aload_n 0, 1) := by decide +kernel
theorem d_Md_count_123 : dec m_Md_count 123 = .ok (.iload_n 1, 1) := by decide +kernel
theorem d_Md_count_124 : dec m_Md_count 124 = .ok (.invokevirtual 176, 3) := by decide +kernel
theorem d_Md_count_127 : dec m_Md_count 127 = .ok (.ireturn, 1) := by decide +kernel
theorem d_Lw_law_0 : dec m_Lw_law 0 = .ok (.new 7, 3) := by decide +kernel
theorem d_Lw_law_3 : dec m_Lw_law 3 = .ok (.dup, 1) := by decide +kernel
theorem d_Lw_law_4 : dec m_Lw_law 4 = .ok (.invokespecial 9, 3) := by decide +kernel
theorem d_Lw_law_7 : dec m_Lw_law 7 = .ok (.astore_n 1, 1) := by decide +kernel
theorem d_Lw_law_8 : dec m_Lw_law 8 = .ok (.new 10, 3) := by decide +kernel
theorem d_Lw_law_11 : dec m_Lw_law 11 = .ok (.dup, 1) := by decide +kernel
theorem d_Lw_law_12 : dec m_Lw_law 12 = .ok (.invokespecial 12, 3) := by decide +kernel
theorem d_Lw_law_15 : dec m_Lw_law 15 = .ok (.astore_n 2, 1) := by decide +kernel
theorem d_Lw_law_16 : dec m_Lw_law 16 = .ok (.iconst 0, 1) := by decide +kernel
theorem d_Lw_law_17 : dec m_Lw_law 17 = .ok (.istore_n 3, 1) := by decide +kernel
theorem d_Lw_law_18 : dec m_Lw_law 18 = .ok (.iload_n 3, 1) := by decide +kernel
theorem d_Lw_law_19 : dec m_Lw_law 19 = .ok (.aload_n 0, 1) := by decide +kernel
theorem d_Lw_law_20 : dec m_Lw_law 20 = .ok (.arraylength, 1) := by decide +kernel
theorem d_Lw_law_21 : dec m_Lw_law 21 = .ok (.iconst 4, 1) := by decide +kernel
theorem d_Lw_law_22 : dec m_Lw_law 22 = .ok (.isub, 1) := by decide +kernel
theorem d_Lw_law_23 : dec m_Lw_law 23 = .ok (.if_icmp .gt 586, 3) := by decide +kernel
theorem d_Lw_law_26 : dec m_Lw_law 26 = .ok (.aload_n 0, 1) := by decide +kernel
theorem d_Lw_law_27 : dec m_Lw_law 27 = .ok (.iload_n 3, 1) := by decide +kernel
theorem d_Lw_law_28 : dec m_Lw_law 28 = .ok (.iaload, 1) := by decide +kernel
theorem d_Lw_law_29 : dec m_Lw_law 29 = .ok (.bipush 31, 2) := by decide +kernel
theorem d_Lw_law_31 : dec m_Lw_law 31 = .ok (.iand, 1) := by decide +kernel
theorem d_Lw_law_32 : dec m_Lw_law 32 = .ok (.tableswitch 571 0 18 #[92, 135, 178, 211, 244, 257, 280, 303, 328, 341, 354, 367, 380, 413, 446, 479, 502, 535, 548], 92) := by decide +kernel
theorem d_Lw_law_124 : dec m_Lw_law 124 = .ok (.aload_n 1, 1) := by decide +kernel
theorem d_Lw_law_125 : dec m_Lw_law 125 = .ok (.aload_n 0, 1) := by decide +kernel
theorem d_Lw_law_126 : dec m_Lw_law 126 = .ok (.iload_n 3, 1) := by decide +kernel
theorem d_Lw_law_127 : dec m_Lw_law 127 = .ok (.iconst 1, 1) := by decide +kernel
theorem d_Lw_law_128 : dec m_Lw_law 128 = .ok (.iadd, 1) := by decide +kernel
theorem d_Lw_law_129 : dec m_Lw_law 129 = .ok (.iaload, 1) := by decide +kernel
theorem d_Lw_law_130 : dec m_Lw_law 130 = .ok (.aload_n 0, 1) := by decide +kernel
theorem d_Lw_law_131 : dec m_Lw_law 131 = .ok (.iload_n 3, 1) := by decide +kernel
theorem d_Lw_law_132 : dec m_Lw_law 132 = .ok (.iconst 2, 1) := by decide +kernel
theorem d_Lw_law_133 : dec m_Lw_law 133 = .ok (.iadd, 1) := by decide +kernel
theorem d_Lw_law_134 : dec m_Lw_law 134 = .ok (.iaload, 1) := by decide +kernel
theorem d_Lw_law_135 : dec m_Lw_law 135 = .ok (.aload_n 0, 1) := by decide +kernel
theorem d_Lw_law_136 : dec m_Lw_law 136 = .ok (.iload_n 3, 1) := by decide +kernel
theorem d_Lw_law_137 : dec m_Lw_law 137 = .ok (.iconst 3, 1) := by decide +kernel
theorem d_Lw_law_138 : dec m_Lw_law 138 = .ok (.iadd, 1) := by decide +kernel
theorem d_Lw_law_139 : dec m_Lw_law 139 = .ok (.iaload, 1) := by decide +kernel
theorem d_Lw_law_140 : dec m_Lw_law 140 = .ok (.invokevirtual 13, 3) := by decide +kernel
theorem d_Lw_law_143 : dec m_Lw_law 143 = .ok (.aload_n 2, 1) := by decide +kernel
theorem d_Lw_law_144 : dec m_Lw_law 144 = .ok (.aload_n 0, 1) := by decide +kernel
theorem d_Lw_law_145 : dec m_Lw_law 145 = .ok (.iload_n 3, 1) := by decide +kernel
theorem d_Lw_law_146 : dec m_Lw_law 146 = .ok (.iconst 1, 1) := by decide +kernel
theorem d_Lw_law_147 : dec m_Lw_law 147 = .ok (.iadd, 1) := by decide +kernel
theorem d_Lw_law_148 : dec m_Lw_law 148 = .ok (.iaload, 1) := by decide +kernel
theorem d_Lw_law_149 : dec m_Lw_law 149 = .ok (.aload_n 0, 1) := by decide +kernel
theorem d_Lw_law_150 : dec m_Lw_law 150 = .ok (.iload_n 3, 1) := by decide +kernel
theorem d_Lw_law_151 : dec m_Lw_law 151 = .ok (.iconst 2, 1) := by decide +kernel
theorem d_Lw_law_152 : dec m_Lw_law 152 = .ok (.iadd, 1) := by decide +kernel
theorem d_Lw_law_153 : dec m_Lw_law 153 = .ok (.iaload, 1) := by decide +kernel
theorem d_Lw_law_154 : dec m_Lw_law 154 = .ok (.aload_n 0, 1) := by decide +kernel
theorem d_Lw_law_155 : dec m_Lw_law 155 = .ok (.iload_n 3, 1) := by decide +kernel
theorem d_Lw_law_156 : dec m_Lw_law 156 = .ok (.iconst 3, 1) := by decide +kernel
theorem d_Lw_law_157 : dec m_Lw_law 157 = .ok (.iadd, 1) := by decide +kernel
theorem d_Lw_law_158 : dec m_Lw_law 158 = .ok (.iaload, 1) := by decide +kernel
theorem d_Lw_law_159 : dec m_Lw_law 159 = .ok (.invokevirtual 17, 3) := by decide +kernel
theorem d_Lw_law_162 : dec m_Lw_law 162 = .ok (.if_icmp .eq 441, 3) := by decide +kernel
theorem d_Lw_law_165 : dec m_Lw_law 165 = .ok (.iconst 0, 1) := by decide +kernel
theorem d_Lw_law_166 : dec m_Lw_law 166 = .ok (.ireturn, 1) := by decide +kernel
theorem d_Lw_law_167 : dec m_Lw_law 167 = .ok (.aload_n 1, 1) := by decide +kernel
theorem d_Lw_law_168 : dec m_Lw_law 168 = .ok (.aload_n 0, 1) := by decide +kernel
theorem d_Lw_law_169 : dec m_Lw_law 169 = .ok (.iload_n 3, 1) := by decide +kernel
theorem d_Lw_law_170 : dec m_Lw_law 170 = .ok (.iconst 1, 1) := by decide +kernel
theorem d_Lw_law_171 : dec m_Lw_law 171 = .ok (.iadd, 1) := by decide +kernel
theorem d_Lw_law_172 : dec m_Lw_law 172 = .ok (.iaload, 1) := by decide +kernel
theorem d_Lw_law_173 : dec m_Lw_law 173 = .ok (.aload_n 0, 1) := by decide +kernel
theorem d_Lw_law_174 : dec m_Lw_law 174 = .ok (.iload_n 3, 1) := by decide +kernel
theorem d_Lw_law_175 : dec m_Lw_law 175 = .ok (.iconst 2, 1) := by decide +kernel
theorem d_Lw_law_176 : dec m_Lw_law 176 = .ok (.iadd, 1) := by decide +kernel
theorem d_Lw_law_177 : dec m_Lw_law 177 = .ok (.iaload, 1) := by decide +kernel
theorem d_Lw_law_178 : dec m_Lw_law 178 = .ok (.aload_n 0, 1) := by decide +kernel
theorem d_Lw_law_179 : dec m_Lw_law 179 = .ok (.iload_n 3, 1) := by decide +kernel
theorem d_Lw_law_180 : dec m_Lw_law 180 = .ok (.iconst 3, 1) := by decide +kernel
theorem d_Lw_law_181 : dec m_Lw_law 181 = .ok (.iadd, 1) := by decide +kernel
theorem d_Lw_law_182 : dec m_Lw_law 182 = .ok (.iaload, 1) := by decide +kernel
theorem d_Lw_law_183 : dec m_Lw_law 183 = .ok (.invokevirtual 18, 3) := by decide +kernel
theorem d_Lw_law_186 : dec m_Lw_law 186 = .ok (.aload_n 2, 1) := by decide +kernel
theorem d_Lw_law_187 : dec m_Lw_law 187 = .ok (.aload_n 0, 1) := by decide +kernel
theorem d_Lw_law_188 : dec m_Lw_law 188 = .ok (.iload_n 3, 1) := by decide +kernel
theorem d_Lw_law_189 : dec m_Lw_law 189 = .ok (.iconst 1, 1) := by decide +kernel
theorem d_Lw_law_190 : dec m_Lw_law 190 = .ok (.iadd, 1) := by decide +kernel
theorem d_Lw_law_191 : dec m_Lw_law 191 = .ok (.iaload, 1) := by decide +kernel
theorem d_Lw_law_192 : dec m_Lw_law 192 = .ok (.aload_n 0, 1) := by decide +kernel
theorem d_Lw_law_193 : dec m_Lw_law 193 = .ok (.iload_n 3, 1) := by decide +kernel
theorem d_Lw_law_194 : dec m_Lw_law 194 = .ok (.iconst 2, 1) := by decide +kernel
theorem d_Lw_law_195 : dec m_Lw_law 195 = .ok (.iadd, 1) := by decide +kernel
theorem d_Lw_law_196 : dec m_Lw_law 196 = .ok (.iaload, 1) := by decide +kernel
theorem d_Lw_law_197 : dec m_Lw_law 197 = .ok (.aload_n 0, 1) := by decide +kernel
theorem d_Lw_law_198 : dec m_Lw_law 198 = .ok (.iload_n 3, 1) := by decide +kernel
theorem d_Lw_law_199 : dec m_Lw_law 199 = .ok (.iconst 3, 1) := by decide +kernel
theorem d_Lw_law_200 : dec m_Lw_law 200 = .ok (.iadd, 1) := by decide +kernel
theorem d_Lw_law_201 : dec m_Lw_law 201 = .ok (.iaload, 1) := by decide +kernel
theorem d_Lw_law_202 : dec m_Lw_law 202 = .ok (.invokevirtual 21, 3) := by decide +kernel
theorem d_Lw_law_205 : dec m_Lw_law 205 = .ok (.if_icmp .eq 398, 3) := by decide +kernel
theorem d_Lw_law_208 : dec m_Lw_law 208 = .ok (.iconst 0, 1) := by decide +kernel
theorem d_Lw_law_209 : dec m_Lw_law 209 = .ok (.ireturn, 1) := by decide +kernel
theorem d_Lw_law_210 : dec m_Lw_law 210 = .ok (.aload_n 1, 1) := by decide +kernel
theorem d_Lw_law_211 : dec m_Lw_law 211 = .ok (.aload_n 0, 1) := by decide +kernel
theorem d_Lw_law_212 : dec m_Lw_law 212 = .ok (.iload_n 3, 1) := by decide +kernel
theorem d_Lw_law_213 : dec m_Lw_law 213 = .ok (.iconst 1, 1) := by decide +kernel
theorem d_Lw_law_214 : dec m_Lw_law 214 = .ok (.iadd, 1) := by decide +kernel
theorem d_Lw_law_215 : dec m_Lw_law 215 = .ok (.iaload, 1) := by decide +kernel
theorem d_Lw_law_216 : dec m_Lw_law 216 = .ok (.aload_n 0, 1) := by decide +kernel
theorem d_Lw_law_217 : dec m_Lw_law 217 = .ok (.iload_n 3, 1) := by decide +kernel
theorem d_Lw_law_218 : dec m_Lw_law 218 = .ok (.iconst 2, 1) := by decide +kernel
theorem d_Lw_law_219 : dec m_Lw_law 219 = .ok (.iadd, 1) := by decide +kernel
theorem d_Lw_law_220 : dec m_Lw_law 220 = .ok (.iaload, 1) := by decide +kernel
theorem d_Lw_law_221 : dec m_Lw_law 221 = .ok (.invokevirtual 22, 3) := by decide +kernel
theorem d_Lw_law_224 : dec m_Lw_law 224 = .ok (.aload_n 2, 1) := by decide +kernel
theorem d_Lw_law_225 : dec m_Lw_law 225 = .ok (.aload_n 0, 1) := by decide +kernel
theorem d_Lw_law_226 : dec m_Lw_law 226 = .ok (.iload_n 3, 1) := by decide +kernel
theorem d_Lw_law_227 : dec m_Lw_law 227 = .ok (.iconst 1, 1) := by decide +kernel
theorem d_Lw_law_228 : dec m_Lw_law 228 = .ok (.iadd, 1) := by decide +kernel
theorem d_Lw_law_229 : dec m_Lw_law 229 = .ok (.iaload, 1) := by decide +kernel
theorem d_Lw_law_230 : dec m_Lw_law 230 = .ok (.aload_n 0, 1) := by decide +kernel
theorem d_Lw_law_231 : dec m_Lw_law 231 = .ok (.iload_n 3, 1) := by decide +kernel
theorem d_Lw_law_232 : dec m_Lw_law 232 = .ok (.iconst 2, 1) := by decide +kernel
theorem d_Lw_law_233 : dec m_Lw_law 233 = .ok (.iadd, 1) := by decide +kernel
theorem d_Lw_law_234 : dec m_Lw_law 234 = .ok (.iaload, 1) := by decide +kernel
theorem d_Lw_law_235 : dec m_Lw_law 235 = .ok (.invokevirtual 26, 3) := by decide +kernel
theorem d_Lw_law_238 : dec m_Lw_law 238 = .ok (.if_icmp .eq 365, 3) := by decide +kernel
theorem d_Lw_law_241 : dec m_Lw_law 241 = .ok (.iconst 0, 1) := by decide +kernel
theorem d_Lw_law_242 : dec m_Lw_law 242 = .ok (.ireturn, 1) := by decide +kernel
theorem d_Lw_law_243 : dec m_Lw_law 243 = .ok (.aload_n 1, 1) := by decide +kernel
theorem d_Lw_law_244 : dec m_Lw_law 244 = .ok (.aload_n 0, 1) := by decide +kernel
theorem d_Lw_law_245 : dec m_Lw_law 245 = .ok (.iload_n 3, 1) := by decide +kernel
theorem d_Lw_law_246 : dec m_Lw_law 246 = .ok (.iconst 1, 1) := by decide +kernel
theorem d_Lw_law_247 : dec m_Lw_law 247 = .ok (.iadd, 1) := by decide +kernel
theorem d_Lw_law_248 : dec m_Lw_law 248 = .ok (.iaload, 1) := by decide +kernel
theorem d_Lw_law_249 : dec m_Lw_law 249 = .ok (.aload_n 0, 1) := by decide +kernel
theorem d_Lw_law_250 : dec m_Lw_law 250 = .ok (.iload_n 3, 1) := by decide +kernel
theorem d_Lw_law_251 : dec m_Lw_law 251 = .ok (.iconst 2, 1) := by decide +kernel
theorem d_Lw_law_252 : dec m_Lw_law 252 = .ok (.iadd, 1) := by decide +kernel
theorem d_Lw_law_253 : dec m_Lw_law 253 = .ok (.iaload, 1) := by decide +kernel
theorem d_Lw_law_254 : dec m_Lw_law 254 = .ok (.invokevirtual 27, 3) := by decide +kernel
theorem d_Lw_law_257 : dec m_Lw_law 257 = .ok (.aload_n 2, 1) := by decide +kernel
theorem d_Lw_law_258 : dec m_Lw_law 258 = .ok (.aload_n 0, 1) := by decide +kernel
theorem d_Lw_law_259 : dec m_Lw_law 259 = .ok (.iload_n 3, 1) := by decide +kernel
theorem d_Lw_law_260 : dec m_Lw_law 260 = .ok (.iconst 1, 1) := by decide +kernel
theorem d_Lw_law_261 : dec m_Lw_law 261 = .ok (.iadd, 1) := by decide +kernel
theorem d_Lw_law_262 : dec m_Lw_law 262 = .ok (.iaload, 1) := by decide +kernel
theorem d_Lw_law_263 : dec m_Lw_law 263 = .ok (.aload_n 0, 1) := by decide +kernel
theorem d_Lw_law_264 : dec m_Lw_law 264 = .ok (.iload_n 3, 1) := by decide +kernel
theorem d_Lw_law_265 : dec m_Lw_law 265 = .ok (.iconst 2, 1) := by decide +kernel
theorem d_Lw_law_266 : dec m_Lw_law 266 = .ok (.iadd, 1) := by decide +kernel
theorem d_Lw_law_267 : dec m_Lw_law 267 = .ok (.iaload, 1) := by decide +kernel
theorem d_Lw_law_268 : dec m_Lw_law 268 = .ok (.invokevirtual 30, 3) := by decide +kernel
theorem d_Lw_law_271 : dec m_Lw_law 271 = .ok (.if_icmp .eq 332, 3) := by decide +kernel
theorem d_Lw_law_274 : dec m_Lw_law 274 = .ok (.iconst 0, 1) := by decide +kernel
theorem d_Lw_law_275 : dec m_Lw_law 275 = .ok (.ireturn, 1) := by decide +kernel
theorem d_Lw_law_276 : dec m_Lw_law 276 = .ok (.aload_n 1, 1) := by decide +kernel
theorem d_Lw_law_277 : dec m_Lw_law 277 = .ok (.invokevirtual 31, 3) := by decide +kernel
theorem d_Lw_law_280 : dec m_Lw_law 280 = .ok (.aload_n 2, 1) := by decide +kernel
theorem d_Lw_law_281 : dec m_Lw_law 281 = .ok (.invokevirtual 35, 3) := by decide +kernel
theorem d_Lw_law_284 : dec m_Lw_law 284 = .ok (.if_icmp .eq 319, 3) := by decide +kernel
theorem d_Lw_law_287 : dec m_Lw_law 287 = .ok (.iconst 0, 1) := by decide +kernel
theorem d_Lw_law_288 : dec m_Lw_law 288 = .ok (.ireturn, 1) := by decide +kernel
theorem d_Lw_law_289 : dec m_Lw_law 289 = .ok (.aload_n 1, 1) := by decide +kernel
theorem d_Lw_law_290 : dec m_Lw_law 290 = .ok (.aload_n 0, 1) := by decide +kernel
theorem d_Lw_law_291 : dec m_Lw_law 291 = .ok (.iload_n 3, 1) := by decide +kernel
theorem d_Lw_law_292 : dec m_Lw_law 292 = .ok (.iconst 1, 1) := by decide +kernel
theorem d_Lw_law_293 : dec m_Lw_law 293 = .ok (.iadd, 1) := by decide +kernel
theorem d_Lw_law_294 : dec m_Lw_law 294 = .ok (.iaload, 1) := by decide +kernel
theorem d_Lw_law_295 : dec m_Lw_law 295 = .ok (.invokevirtual 36, 3) := by decide +kernel
theorem d_Lw_law_298 : dec m_Lw_law 298 = .ok (.aload_n 2, 1) := by decide +kernel
theorem d_Lw_law_299 : dec m_Lw_law 299 = .ok (.aload_n 0, 1) := by decide +kernel
theorem d_Lw_law_300 : dec m_Lw_law 300 = .ok (.iload_n 3, 1) := by decide +kernel
theorem d_Lw_law_301 : dec m_Lw_law 301 = .ok (.iconst 1, 1) := by decide +kernel
theorem d_Lw_law_302 : dec m_Lw_law 302 = .ok (.iadd, 1) := by decide +kernel
theorem d_Lw_law_303 : dec m_Lw_law 303 = .ok (.iaload, 1) := by decide +kernel
theorem d_Lw_law_304 : dec m_Lw_law 304 = .ok (.invokevirtual 40, 3) := by decide +kernel
theorem d_Lw_law_307 : dec m_Lw_law 307 = .ok (.if_icmp .eq 296, 3) := by decide +kernel
theorem d_Lw_law_310 : dec m_Lw_law 310 = .ok (.iconst 0, 1) := by decide +kernel
theorem d_Lw_law_311 : dec m_Lw_law 311 = .ok (.ireturn, 1) := by decide +kernel
theorem d_Lw_law_312 : dec m_Lw_law 312 = .ok (.aload_n 1, 1) := by decide +kernel
theorem d_Lw_law_313 : dec m_Lw_law 313 = .ok (.aload_n 0, 1) := by decide +kernel
theorem d_Lw_law_314 : dec m_Lw_law 314 = .ok (.iload_n 3, 1) := by decide +kernel
theorem d_Lw_law_315 : dec m_Lw_law 315 = .ok (.iconst 1, 1) := by decide +kernel
theorem d_Lw_law_316 : dec m_Lw_law 316 = .ok (.iadd, 1) := by decide +kernel
theorem d_Lw_law_317 : dec m_Lw_law 317 = .ok (.iaload, 1) := by decide +kernel
theorem d_Lw_law_318 : dec m_Lw_law 318 = .ok (.invokevirtual 41, 3) := by decide +kernel
theorem d_Lw_law_321 : dec m_Lw_law 321 = .ok (.aload_n 2, 1) := by decide +kernel
theorem d_Lw_law_322 : dec m_Lw_law 322 = .ok (.aload_n 0, 1) := by decide +kernel
theorem d_Lw_law_323 : dec m_Lw_law 323 = .ok (.iload_n 3, 1) := by decide +kernel
theorem d_Lw_law_324 : dec m_Lw_law 324 = .ok (.iconst 1, 1) := by decide +kernel
theorem d_Lw_law_325 : dec m_Lw_law 325 = .ok (.iadd, 1) := by decide +kernel
theorem d_Lw_law_326 : dec m_Lw_law 326 = .ok (.iaload, 1) := by decide +kernel
theorem d_Lw_law_327 : dec m_Lw_law 327 = .ok (.invokevirtual 44, 3) := by decide +kernel
theorem d_Lw_law_330 : dec m_Lw_law 330 = .ok (.if_icmp .eq 273, 3) := by decide +kernel
theorem d_Lw_law_333 : dec m_Lw_law 333 = .ok (.iconst 0, 1) := by decide +kernel
theorem d_Lw_law_334 : dec m_Lw_law 334 = .ok (.ireturn, 1) := by decide +kernel
theorem d_Lw_law_335 : dec m_Lw_law 335 = .ok (.aload_n 1, 1) := by decide +kernel
theorem d_Lw_law_336 : dec m_Lw_law 336 = .ok (.aload_n 0, 1) := by decide +kernel
theorem d_Lw_law_337 : dec m_Lw_law 337 = .ok (.iload_n 3, 1) := by decide +kernel
theorem d_Lw_law_338 : dec m_Lw_law 338 = .ok (.iconst 1, 1) := by decide +kernel
theorem d_Lw_law_339 : dec m_Lw_law 339 = .ok (.iadd, 1) := by decide +kernel
theorem d_Lw_law_340 : dec m_Lw_law 340 = .ok (.iaload, 1) := by decide +kernel
theorem d_Lw_law_341 : dec m_Lw_law 341 = .ok (.i2c, 1) := by decide +kernel
theorem d_Lw_law_342 : dec m_Lw_law 342 = .ok (.invokevirtual 45, 3) := by decide +kernel
theorem d_Lw_law_345 : dec m_Lw_law 345 = .ok (.aload_n 2, 1) := by decide +kernel
theorem d_Lw_law_346 : dec m_Lw_law 346 = .ok (.aload_n 0, 1) := by decide +kernel
theorem d_Lw_law_347 : dec m_Lw_law 347 = .ok (.iload_n 3, 1) := by decide +kernel
theorem d_Lw_law_348 : dec m_Lw_law 348 = .ok (.iconst 1, 1) := by decide +kernel
theorem d_Lw_law_349 : dec m_Lw_law 349 = .ok (.iadd, 1) := by decide +kernel
theorem d_Lw_law_350 : dec m_Lw_law 350 = .ok (.iaload, 1) := by decide +kernel
theorem d_Lw_law_351 : dec m_Lw_law 351 = .ok (.i2c, 1) := by decide +kernel
theorem d_Lw_law_352 : dec m_Lw_law 352 = .ok (.invokevirtual 49, 3) := by decide +kernel
theorem d_Lw_law_355 : dec m_Lw_law 355 = .ok (.if_icmp .eq 248, 3) := by decide +kernel
theorem d_Lw_law_358 : dec m_Lw_law 358 = .ok (.iconst 0, 1) := by decide +kernel
theorem d_Lw_law_359 : dec m_Lw_law 359 = .ok (.ireturn, 1) := by decide +kernel
theorem d_Lw_law_360 : dec m_Lw_law 360 = .ok (.aload_n 1, 1) := by decide +kernel
theorem d_Lw_law_361 : dec m_Lw_law 361 = .ok (.invokevirtual 50, 3) := by decide +kernel
theorem d_Lw_law_364 : dec m_Lw_law 364 = .ok (.aload_n 2, 1) := by decide +kernel
theorem d_Lw_law_365 : dec m_Lw_law 365 = .ok (.invokevirtual 53, 3) := by decide +kernel
theorem d_Lw_law_368 : dec m_Lw_law 368 = .ok (.if_icmp .eq 235, 3) := by decide +kernel
theorem d_Lw_law_371 : dec m_Lw_law 371 = .ok (.iconst 0, 1) := by decide +kernel
theorem d_Lw_law_372 : dec m_Lw_law 372 = .ok (.ireturn, 1) := by decide +kernel
theorem d_Lw_law_373 : dec m_Lw_law 373 = .ok (.aload_n 1, 1) := by decide +kernel
theorem d_Lw_law_374 : dec m_Lw_law 374 = .ok (.invokevirtual 54, 3) := by decide +kernel
theorem d_Lw_law_377 : dec m_Lw_law 377 = .ok (.aload_n 2, 1) := by decide +kernel
theorem d_Lw_law_378 : dec m_Lw_law 378 = .ok (.invokevirtual 57, 3) := by decide +kernel
theorem d_Lw_law_381 : dec m_Lw_law 381 = .ok (.if_icmp .eq 222, 3) := by decide +kernel
theorem d_Lw_law_384 : dec m_Lw_law 384 = .ok (.iconst 0, 1) := by decide +kernel
theorem d_Lw_law_385 : dec m_Lw_law 385 = .ok (.ireturn, 1) := by decide +kernel
theorem d_Lw_law_386 : dec m_Lw_law 386 = .ok (.aload_n 1, 1) := by decide +kernel
theorem d_Lw_law_387 : dec m_Lw_law 387 = .ok (.invokevirtual 58, 3) := by decide +kernel
theorem d_Lw_law_390 : dec m_Lw_law 390 = .ok (.aload_n 2, 1) := by decide +kernel
theorem d_Lw_law_391 : dec m_Lw_law 391 = .ok (.invokevirtual 61, 3) := by decide +kernel
theorem d_Lw_law_394 : dec m_Lw_law 394 = .ok (.if_icmp .eq 209, 3) := by decide +kernel
theorem d_Lw_law_397 : dec m_Lw_law 397 = .ok (.iconst 0, 1) := by decide +kernel
theorem d_Lw_law_398 : dec m_Lw_law 398 = .ok (.ireturn, 1) := by decide +kernel
theorem d_Lw_law_399 : dec m_Lw_law 399 = .ok (.aload_n 1, 1) := by decide +kernel
theorem d_Lw_law_400 : dec m_Lw_law 400 = .ok (.invokevirtual 62, 3) := by decide +kernel
theorem d_Lw_law_403 : dec m_Lw_law 403 = .ok (.aload_n 2, 1) := by decide +kernel
theorem d_Lw_law_404 : dec m_Lw_law 404 = .ok (.invokevirtual 65, 3) := by decide +kernel
theorem d_Lw_law_407 : dec m_Lw_law 407 = .ok (.if_icmp .eq 196, 3) := by decide +kernel
theorem d_Lw_law_410 : dec m_Lw_law 410 = .ok (.iconst 0, 1) := by decide +kernel
theorem d_Lw_law_411 : dec m_Lw_law 411 = .ok (.ireturn, 1) := by decide +kernel
theorem d_Lw_law_412 : dec m_Lw_law 412 = .ok (.aload_n 1, 1) := by decide +kernel
theorem d_Lw_law_413 : dec m_Lw_law 413 = .ok (.aload_n 0, 1) := by decide +kernel
theorem d_Lw_law_414 : dec m_Lw_law 414 = .ok (.iload_n 3, 1) := by decide +kernel
theorem d_Lw_law_415 : dec m_Lw_law 415 = .ok (.iconst 1, 1) := by decide +kernel
theorem d_Lw_law_416 : dec m_Lw_law 416 = .ok (.iadd, 1) := by decide +kernel
theorem d_Lw_law_417 : dec m_Lw_law 417 = .ok (.iaload, 1) := by decide +kernel
theorem d_Lw_law_418 : dec m_Lw_law 418 = .ok (.aload_n 0, 1) := by decide +kernel
theorem d_Lw_law_419 : dec m_Lw_law 419 = .ok (.iload_n 3, 1) := by decide +kernel
theorem d_Lw_law_420 : dec m_Lw_law 420 = .ok (.iconst 2, 1) := by decide +kernel
theorem d_Lw_law_421 : dec m_Lw_law 421 = .ok (.iadd, 1) := by decide +kernel
theorem d_Lw_law_422 : dec m_Lw_law 422 = .ok (.iaload, 1) := by decide +kernel
theorem d_Lw_law_423 : dec m_Lw_law 423 = .ok (.invokevirtual 66, 3) := by decide +kernel
theorem d_Lw_law_426 : dec m_Lw_law 426 = .ok (.aload_n 2, 1) := by decide +kernel
theorem d_Lw_law_427 : dec m_Lw_law 427 = .ok (.aload_n 0, 1) := by decide +kernel
theorem d_Lw_law_428 : dec m_Lw_law 428 = .ok (.iload_n 3, 1) := by decide +kernel
theorem d_Lw_law_429 : dec m_Lw_law 429 = .ok (.iconst 1, 1) := by decide +kernel
theorem d_Lw_law_430 : dec m_Lw_law 430 = .ok (.iadd, 1) := by decide +kernel
theorem d_Lw_law_431 : dec m_Lw_law 431 = .ok (.iaload, 1) := by decide +kernel
theorem d_Lw_law_432 : dec m_Lw_law 432 = .ok (.aload_n 0, 1) := by decide +kernel
theorem d_Lw_law_433 : dec m_Lw_law 433 = .ok (.iload_n 3, 1) := by decide +kernel
theorem d_Lw_law_434 : dec m_Lw_law 434 = .ok (.iconst 2, 1) := by decide +kernel
theorem d_Lw_law_435 : dec m_Lw_law 435 = .ok (.iadd, 1) := by decide +kernel
theorem d_Lw_law_436 : dec m_Lw_law 436 = .ok (.iaload, 1) := by decide +kernel
theorem d_Lw_law_437 : dec m_Lw_law 437 = .ok (.invokevirtual 69, 3) := by decide +kernel
theorem d_Lw_law_440 : dec m_Lw_law 440 = .ok (.if_icmp .eq 163, 3) := by decide +kernel
theorem d_Lw_law_443 : dec m_Lw_law 443 = .ok (.iconst 0, 1) := by decide +kernel
theorem d_Lw_law_444 : dec m_Lw_law 444 = .ok (.ireturn, 1) := by decide +kernel
theorem d_Lw_law_445 : dec m_Lw_law 445 = .ok (.aload_n 1, 1) := by decide +kernel
theorem d_Lw_law_446 : dec m_Lw_law 446 = .ok (.aload_n 0, 1) := by decide +kernel
theorem d_Lw_law_447 : dec m_Lw_law 447 = .ok (.iload_n 3, 1) := by decide +kernel
theorem d_Lw_law_448 : dec m_Lw_law 448 = .ok (.iconst 1, 1) := by decide +kernel
theorem d_Lw_law_449 : dec m_Lw_law 449 = .ok (.iadd, 1) := by decide +kernel
theorem d_Lw_law_450 : dec m_Lw_law 450 = .ok (.iaload, 1) := by decide +kernel
theorem d_Lw_law_451 : dec m_Lw_law 451 = .ok (.aload_n 0, 1) := by decide +kernel
theorem d_Lw_law_452 : dec m_Lw_law 452 = .ok (.iload_n 3, 1) := by decide +kernel
theorem d_Lw_law_453 : dec m_Lw_law 453 = .ok (.iconst 2, 1) := by decide +kernel
theorem d_Lw_law_454 : dec m_Lw_law 454 = .ok (.iadd, 1) := by decide +kernel
theorem d_Lw_law_455 : dec m_Lw_law 455 = .ok (.iaload, 1) := by decide +kernel
theorem d_Lw_law_456 : dec m_Lw_law 456 = .ok (.invokevirtual 70, 3) := by decide +kernel
theorem d_Lw_law_459 : dec m_Lw_law 459 = .ok (.aload_n 2, 1) := by decide +kernel
theorem d_Lw_law_460 : dec m_Lw_law 460 = .ok (.aload_n 0, 1) := by decide +kernel
theorem d_Lw_law_461 : dec m_Lw_law 461 = .ok (.iload_n 3, 1) := by decide +kernel
theorem d_Lw_law_462 : dec m_Lw_law 462 = .ok (.iconst 1, 1) := by decide +kernel
theorem d_Lw_law_463 : dec m_Lw_law 463 = .ok (.iadd, 1) := by decide +kernel
theorem d_Lw_law_464 : dec m_Lw_law 464 = .ok (.iaload, 1) := by decide +kernel
theorem d_Lw_law_465 : dec m_Lw_law 465 = .ok (.aload_n 0, 1) := by decide +kernel
theorem d_Lw_law_466 : dec m_Lw_law 466 = .ok (.iload_n 3, 1) := by decide +kernel
theorem d_Lw_law_467 : dec m_Lw_law 467 = .ok (.iconst 2, 1) := by decide +kernel
theorem d_Lw_law_468 : dec m_Lw_law 468 = .ok (.iadd, 1) := by decide +kernel
theorem d_Lw_law_469 : dec m_Lw_law 469 = .ok (.iaload, 1) := by decide +kernel
theorem d_Lw_law_470 : dec m_Lw_law 470 = .ok (.invokevirtual 73, 3) := by decide +kernel
theorem d_Lw_law_473 : dec m_Lw_law 473 = .ok (.if_icmp .eq 130, 3) := by decide +kernel
theorem d_Lw_law_476 : dec m_Lw_law 476 = .ok (.iconst 0, 1) := by decide +kernel
theorem d_Lw_law_477 : dec m_Lw_law 477 = .ok (.ireturn, 1) := by decide +kernel
theorem d_Lw_law_478 : dec m_Lw_law 478 = .ok (.aload_n 1, 1) := by decide +kernel
theorem d_Lw_law_479 : dec m_Lw_law 479 = .ok (.aload_n 0, 1) := by decide +kernel
theorem d_Lw_law_480 : dec m_Lw_law 480 = .ok (.iload_n 3, 1) := by decide +kernel
theorem d_Lw_law_481 : dec m_Lw_law 481 = .ok (.iconst 1, 1) := by decide +kernel
theorem d_Lw_law_482 : dec m_Lw_law 482 = .ok (.iadd, 1) := by decide +kernel
theorem d_Lw_law_483 : dec m_Lw_law 483 = .ok (.iaload, 1) := by decide +kernel
theorem d_Lw_law_484 : dec m_Lw_law 484 = .ok (.aload_n 0, 1) := by decide +kernel
theorem d_Lw_law_485 : dec m_Lw_law 485 = .ok (.iload_n 3, 1) := by decide +kernel
theorem d_Lw_law_486 : dec m_Lw_law 486 = .ok (.iconst 2, 1) := by decide +kernel
theorem d_Lw_law_487 : dec m_Lw_law 487 = .ok (.iadd, 1) := by decide +kernel
theorem d_Lw_law_488 : dec m_Lw_law 488 = .ok (.iaload, 1) := by decide +kernel
theorem d_Lw_law_489 : dec m_Lw_law 489 = .ok (.invokevirtual 74, 3) := by decide +kernel
theorem d_Lw_law_492 : dec m_Lw_law 492 = .ok (.aload_n 2, 1) := by decide +kernel
theorem d_Lw_law_493 : dec m_Lw_law 493 = .ok (.aload_n 0, 1) := by decide +kernel
theorem d_Lw_law_494 : dec m_Lw_law 494 = .ok (.iload_n 3, 1) := by decide +kernel
theorem d_Lw_law_495 : dec m_Lw_law 495 = .ok (.iconst 1, 1) := by decide +kernel
theorem d_Lw_law_496 : dec m_Lw_law 496 = .ok (.iadd, 1) := by decide +kernel
theorem d_Lw_law_497 : dec m_Lw_law 497 = .ok (.iaload, 1) := by decide +kernel
theorem d_Lw_law_498 : dec m_Lw_law 498 = .ok (.aload_n 0, 1) := by decide +kernel
theorem d_Lw_law_499 : dec m_Lw_law 499 = .ok (.iload_n 3, 1) := by decide +kernel
theorem d_Lw_law_500 : dec m_Lw_law 500 = .ok (.iconst 2, 1) := by decide +kernel
theorem d_Lw_law_501 : dec m_Lw_law 501 = .ok (.iadd, 1) := by decide +kernel
theorem d_Lw_law_502 : dec m_Lw_law 502 = .ok (.iaload, 1) := by decide +kernel
theorem d_Lw_law_503 : dec m_Lw_law 503 = .ok (.invokevirtual 77, 3) := by decide +kernel
theorem d_Lw_law_506 : dec m_Lw_law 506 = .ok (.if_icmp .eq 97, 3) := by decide +kernel
theorem d_Lw_law_509 : dec m_Lw_law 509 = .ok (.iconst 0, 1) := by decide +kernel
theorem d_Lw_law_510 : dec m_Lw_law 510 = .ok (.ireturn, 1) := by decide +kernel
theorem d_Lw_law_511 : dec m_Lw_law 511 = .ok (.aload_n 1, 1) := by decide +kernel
theorem d_Lw_law_512 : dec m_Lw_law 512 = .ok (.aload_n 0, 1) := by decide +kernel
theorem d_Lw_law_513 : dec m_Lw_law 513 = .ok (.iload_n 3, 1) := by decide +kernel
theorem d_Lw_law_514 : dec m_Lw_law 514 = .ok (.iconst 1, 1) := by decide +kernel
theorem d_Lw_law_515 : dec m_Lw_law 515 = .ok (.iadd, 1) := by decide +kernel
theorem d_Lw_law_516 : dec m_Lw_law 516 = .ok (.iaload, 1) := by decide +kernel
theorem d_Lw_law_517 : dec m_Lw_law 517 = .ok (.invokevirtual 78, 3) := by decide +kernel
theorem d_Lw_law_520 : dec m_Lw_law 520 = .ok (.aload_n 2, 1) := by decide +kernel
theorem d_Lw_law_521 : dec m_Lw_law 521 = .ok (.aload_n 0, 1) := by decide +kernel
theorem d_Lw_law_522 : dec m_Lw_law 522 = .ok (.iload_n 3, 1) := by decide +kernel
theorem d_Lw_law_523 : dec m_Lw_law 523 = .ok (.iconst 1, 1) := by decide +kernel
theorem d_Lw_law_524 : dec m_Lw_law 524 = .ok (.iadd, 1) := by decide +kernel
theorem d_Lw_law_525 : dec m_Lw_law 525 = .ok (.iaload, 1) := by decide +kernel
theorem d_Lw_law_526 : dec m_Lw_law 526 = .ok (.invokevirtual 81, 3) := by decide +kernel
theorem d_Lw_law_529 : dec m_Lw_law 529 = .ok (.if_icmp .eq 74, 3) := by decide +kernel
theorem d_Lw_law_532 : dec m_Lw_law 532 = .ok (.iconst 0, 1) := by decide +kernel
theorem d_Lw_law_533 : dec m_Lw_law 533 = .ok (.ireturn, 1) := by decide +kernel
theorem d_Lw_law_534 : dec m_Lw_law 534 = .ok (.aload_n 1, 1) := by decide +kernel
theorem d_Lw_law_535 : dec m_Lw_law 535 = .ok (.aload_n 0, 1) := by decide +kernel
theorem d_Lw_law_536 : dec m_Lw_law 536 = .ok (.iload_n 3, 1) := by decide +kernel
theorem d_Lw_law_537 : dec m_Lw_law 537 = .ok (.iconst 1, 1) := by decide +kernel
theorem d_Lw_law_538 : dec m_Lw_law 538 = .ok (.iadd, 1) := by decide +kernel
theorem d_Lw_law_539 : dec m_Lw_law 539 = .ok (.iaload, 1) := by decide +kernel
theorem d_Lw_law_540 : dec m_Lw_law 540 = .ok (.aload_n 0, 1) := by decide +kernel
theorem d_Lw_law_541 : dec m_Lw_law 541 = .ok (.iload_n 3, 1) := by decide +kernel
theorem d_Lw_law_542 : dec m_Lw_law 542 = .ok (.iconst 2, 1) := by decide +kernel
theorem d_Lw_law_543 : dec m_Lw_law 543 = .ok (.iadd, 1) := by decide +kernel
theorem d_Lw_law_544 : dec m_Lw_law 544 = .ok (.iaload, 1) := by decide +kernel
theorem d_Lw_law_545 : dec m_Lw_law 545 = .ok (.invokevirtual 82, 3) := by decide +kernel
theorem d_Lw_law_548 : dec m_Lw_law 548 = .ok (.aload_n 2, 1) := by decide +kernel
theorem d_Lw_law_549 : dec m_Lw_law 549 = .ok (.aload_n 0, 1) := by decide +kernel
theorem d_Lw_law_550 : dec m_Lw_law 550 = .ok (.iload_n 3, 1) := by decide +kernel
theorem d_Lw_law_551 : dec m_Lw_law 551 = .ok (.iconst 1, 1) := by decide +kernel
theorem d_Lw_law_552 : dec m_Lw_law 552 = .ok (.iadd, 1) := by decide +kernel
theorem d_Lw_law_553 : dec m_Lw_law 553 = .ok (.iaload, 1) := by decide +kernel
theorem d_Lw_law_554 : dec m_Lw_law 554 = .ok (.aload_n 0, 1) := by decide +kernel
theorem d_Lw_law_555 : dec m_Lw_law 555 = .ok (.iload_n 3, 1) := by decide +kernel
theorem d_Lw_law_556 : dec m_Lw_law 556 = .ok (.iconst 2, 1) := by decide +kernel
theorem d_Lw_law_557 : dec m_Lw_law 557 = .ok (.iadd, 1) := by decide +kernel
theorem d_Lw_law_558 : dec m_Lw_law 558 = .ok (.iaload, 1) := by decide +kernel
theorem d_Lw_law_559 : dec m_Lw_law 559 = .ok (.invokevirtual 85, 3) := by decide +kernel
theorem d_Lw_law_562 : dec m_Lw_law 562 = .ok (.if_icmp .eq 41, 3) := by decide +kernel
theorem d_Lw_law_565 : dec m_Lw_law 565 = .ok (.iconst 0, 1) := by decide +kernel
theorem d_Lw_law_566 : dec m_Lw_law 566 = .ok (.ireturn, 1) := by decide +kernel
theorem d_Lw_law_567 : dec m_Lw_law 567 = .ok (.aload_n 1, 1) := by decide +kernel
theorem d_Lw_law_568 : dec m_Lw_law 568 = .ok (.invokevirtual 86, 3) := by decide +kernel
theorem d_Lw_law_571 : dec m_Lw_law 571 = .ok (.aload_n 2, 1) := by decide +kernel
theorem d_Lw_law_572 : dec m_Lw_law 572 = .ok (.invokevirtual 89, 3) := by decide +kernel
theorem d_Lw_law_575 : dec m_Lw_law 575 = .ok (.if_icmp .eq 28, 3) := by decide +kernel
theorem d_Lw_law_578 : dec m_Lw_law 578 = .ok (.iconst 0, 1) := by decide +kernel
theorem d_Lw_law_579 : dec m_Lw_law 579 = .ok (.ireturn, 1) := by decide +kernel
theorem d_Lw_law_580 : dec m_Lw_law 580 = .ok (.aload_n 1, 1) := by decide +kernel
theorem d_Lw_law_581 : dec m_Lw_law 581 = .ok (.aload_n 0, 1) := by decide +kernel
theorem d_Lw_law_582 : dec m_Lw_law 582 = .ok (.iload_n 3, 1) := by decide +kernel
theorem d_Lw_law_583 : dec m_Lw_law 583 = .ok (.iconst 1, 1) := by decide +kernel
theorem d_Lw_law_584 : dec m_Lw_law 584 = .ok (.iadd, 1) := by decide +kernel
theorem d_Lw_law_585 : dec m_Lw_law 585 = .ok (.iaload, 1) := by decide +kernel
theorem d_Lw_law_586 : dec m_Lw_law 586 = .ok (.invokevirtual 90, 3) := by decide +kernel
theorem d_Lw_law_589 : dec m_Lw_law 589 = .ok (.aload_n 2, 1) := by decide +kernel
theorem d_Lw_law_590 : dec m_Lw_law 590 = .ok (.aload_n 0, 1) := by decide +kernel
theorem d_Lw_law_591 : dec m_Lw_law 591 = .ok (.iload_n 3, 1) := by decide +kernel
theorem d_Lw_law_592 : dec m_Lw_law 592 = .ok (.iconst 1, 1) := by decide +kernel
theorem d_Lw_law_593 : dec m_Lw_law 593 = .ok (.iadd, 1) := by decide +kernel
theorem d_Lw_law_594 : dec m_Lw_law 594 = .ok (.iaload, 1) := by decide +kernel
theorem d_Lw_law_595 : dec m_Lw_law 595 = .ok (.invokevirtual 93, 3) := by decide +kernel
theorem d_Lw_law_598 : dec m_Lw_law 598 = .ok (.if_icmp .eq 5, 3) := by decide +kernel
theorem d_Lw_law_601 : dec m_Lw_law 601 = .ok (.iconst 0, 1) := by decide +kernel
theorem d_Lw_law_602 : dec m_Lw_law 602 = .ok (.ireturn, 1) := by decide +kernel
theorem d_Lw_law_603 : dec m_Lw_law 603 = .ok (.iinc 3 4, 3) := by decide +kernel
theorem d_Lw_law_606 : dec m_Lw_law 606 = .ok (.goto (-588), 3) := by decide +kernel
theorem d_Lw_law_609 : dec m_Lw_law 609 = .ok (.iconst 1, 1) := by decide +kernel
theorem d_Lw_law_610 : dec m_Lw_law 610 = .ok (.ireturn, 1) := by decide +kernel
end
section
/-! the words that a nest mate's links are -/
def isNest : Cond → Bool
  | .fieldLinkNest .. => true
  | .methodLinkNest .. => true
  | _ => false
abbrev nw : List Cond := lw_tbl.filter isNest
theorem nw_of {w : Cond} (i : Nat) (h : lw_tbl[i]? = some w) (hg : isNest w = true) : w ∈ nw := List.mem_filter.mpr ⟨List.mem_of_getElem? h, hg⟩
/-! the classes: their layouts are words -/
theorem in_of {C : String} {T : u_T} {N : Nat} (L : List Nat) (h : (u_ws C T N).map some = L.map (fun i => lw_tbl[i]?)) (hg : (u_ws C T N).all goodWord = true) : ∀ w ∈ u_ws C T N, w ∈ gw := by
  intro w hw
  have h1 : some w ∈ (u_ws C T N).map some := List.mem_map.mpr ⟨w, hw, rfl⟩
  rw [h] at h1
  obtain ⟨i, -, hi⟩ := List.mem_map.mp h1
  exact gw_of i hi (List.all_eq_true.mp hg w hw)
theorem in_Gm : ∀ w ∈ u_ws RX0 TX0 7, w ∈ gw := in_of [128, 130, 132, 134, 136, 138, 140] (by decide +kernel) (by decide +kernel)
theorem in_Hi : ∀ w ∈ u_ws RX1 TX1 2, w ∈ gw := in_of [215, 217] (by decide +kernel) (by decide +kernel)
theorem in_Pf : ∀ w ∈ u_ws RX2 TX2 1, w ∈ gw := in_of [275] (by decide +kernel) (by decide +kernel)
theorem in_Rd : ∀ w ∈ u_ws RX3 TX3 3, w ∈ gw := in_of [247, 249, 251] (by decide +kernel) (by decide +kernel)
theorem in_Ro : ∀ w ∈ u_ws RX4 TX4 1, w ∈ gw := in_of [263] (by decide +kernel) (by decide +kernel)
theorem in_Rw : ∀ w ∈ u_ws RX5 TX5 1, w ∈ gw := in_of [99] (by decide +kernel) (by decide +kernel)
theorem in_St : ∀ w ∈ u_ws RX6 TX6 2, w ∈ gw := in_of [198, 200] (by decide +kernel) (by decide +kernel)
theorem in_Tx : ∀ w ∈ u_ws RX7 TX7 2, w ∈ gw := in_of [229, 231] (by decide +kernel) (by decide +kernel)
theorem in_Tr : ∀ w ∈ u_ws RX8 TX8 10, w ∈ gw := in_of [173, 175, 177, 179, 181, 183, 185, 187, 189, 191] (by decide +kernel) (by decide +kernel)
theorem in_Cp : ∀ w ∈ u_ws RX9 TX9 8, w ∈ gw := in_of [286, 288, 290, 292, 294, 296, 298, 300] (by decide +kernel) (by decide +kernel)
theorem in_Md : ∀ w ∈ u_ws RX10 TX10 14, w ∈ gw := in_of [699, 701, 703, 705, 707, 709, 711, 713, 715, 717, 719, 721, 723, 725] (by decide +kernel) (by decide +kernel)
theorem cls_ok : ∀ (ci : Nat) (C : String) (T : u_T) (N : Nat), vwCl[ci]? = some (C, T, N) → (∀ w ∈ u_ws C T N, w ∈ gw) ∧ (∃ ty : Nat → FieldType, ∀ k, k < N → parseFieldDescriptor (T k).2.2.1 = some (ty k)) ∧ (∀ a, a < N → ∀ b, b < N → a ≠ b → (T a).2.1 ≠ (T b).2.1) := by
  intro ci C T N h
  match ci, h with
  | 0, h => cases h; exact ⟨in_Gm, ⟨_, tyX0_ok⟩, nmX0⟩
  | 1, h => cases h; exact ⟨in_Hi, ⟨_, tyX1_ok⟩, nmX1⟩
  | 2, h => cases h; exact ⟨in_Pf, ⟨_, tyX2_ok⟩, nmX2⟩
  | 3, h => cases h; exact ⟨in_Rd, ⟨_, tyX3_ok⟩, nmX3⟩
  | 4, h => cases h; exact ⟨in_Ro, ⟨_, tyX4_ok⟩, nmX4⟩
  | 5, h => cases h; exact ⟨in_Rw, ⟨_, tyX5_ok⟩, nmX5⟩
  | 6, h => cases h; exact ⟨in_St, ⟨_, tyX6_ok⟩, nmX6⟩
  | 7, h => cases h; exact ⟨in_Tx, ⟨_, tyX7_ok⟩, nmX7⟩
  | 8, h => cases h; exact ⟨in_Tr, ⟨_, tyX8_ok⟩, nmX8⟩
  | 9, h => cases h; exact ⟨in_Cp, ⟨_, tyX9_ok⟩, nmX9⟩
  | 10, h => cases h; exact ⟨in_Md, ⟨_, tyX10_ok⟩, nmX10⟩
  | k + 11, h => simp [vwCl] at h
/-- the field that entry idx of own's pool names is field k of class ci -/
def FL (own : String) (idx ci k : Nat) (kz : Int) : Prop := ∃ (C : String) (T : u_T) (N : Nat), vwCl[ci]? = some (C, T, N) ∧ k < N ∧ kz = (k : Int) ∧ (Cond.fieldLink own idx (T k).1 (T k).2.1 (T k).2.2.1 ∈ gw ∨ ∃ host, Cond.fieldLinkNest own idx (T k).1 (T k).2.1 (T k).2.2.1 host ∈ nw)
/-- what kind field k of class ci is of -/
def FTY (ci k : Nat) (ty : FieldType) (fin : Bool) : Prop := ∃ (C : String) (T : u_T) (N : Nat), vwCl[ci]? = some (C, T, N) ∧ k < N ∧ parseFieldDescriptor (T k).2.2.1 = some ty ∧ (T k).2.2.2 = fin ∧ (T k).1 = C
theorem t_Gm_turns : FTY 0 0 (tyX0 0) true := ⟨RX0, TX0, 7, rfl, by decide, by decide +kernel, rfl, rfl⟩
theorem t_Gm_marks : FTY 0 1 (tyX0 1) true := ⟨RX0, TX0, 7, rfl, by decide, by decide +kernel, rfl, rfl⟩
theorem t_Gm_proveGuesses : FTY 0 2 (tyX0 2) true := ⟨RX0, TX0, 7, rfl, by decide, by decide +kernel, rfl, rfl⟩
theorem t_Gm_disproveGuesses : FTY 0 3 (tyX0 3) true := ⟨RX0, TX0, 7, rfl, by decide, by decide +kernel, rfl, rfl⟩
theorem t_Gm_moveCounts : FTY 0 4 (tyX0 4) true := ⟨RX0, TX0, 7, rfl, by decide, by decide +kernel, rfl, rfl⟩
theorem t_Gm_targets : FTY 0 5 (tyX0 5) true := ⟨RX0, TX0, 7, rfl, by decide, by decide +kernel, rfl, rfl⟩
theorem t_Gm_moves : FTY 0 6 (tyX0 6) false := ⟨RX0, TX0, 7, rfl, by decide, by decide +kernel, rfl, rfl⟩
theorem t_Hi_states : FTY 1 0 (tyX1 0) true := ⟨RX1, TX1, 2, rfl, by decide, by decide +kernel, rfl, rfl⟩
theorem t_Hi_size : FTY 1 1 (tyX1 1) false := ⟨RX1, TX1, 2, rfl, by decide, by decide +kernel, rfl, rfl⟩
theorem t_Pf_members : FTY 2 0 (tyX2 0) true := ⟨RX2, TX2, 1, rfl, by decide, by decide +kernel, rfl, rfl⟩
theorem t_Rd_text : FTY 3 0 (tyX3 0) true := ⟨RX3, TX3, 3, rfl, by decide, by decide +kernel, rfl, rfl⟩
theorem t_Rd_draft : FTY 3 1 (tyX3 1) true := ⟨RX3, TX3, 3, rfl, by decide, by decide +kernel, rfl, rfl⟩
theorem t_Rd_at : FTY 3 2 (tyX3 2) false := ⟨RX3, TX3, 3, rfl, by decide, by decide +kernel, rfl, rfl⟩
theorem t_Ro_wonIn : FTY 4 0 (tyX4 0) true := ⟨RX4, TX4, 1, rfl, by decide, by decide +kernel, rfl, rfl⟩
theorem t_Rw_cells : FTY 5 0 (tyX5 0) true := ⟨RX5, TX5, 1, rfl, by decide, by decide +kernel, rfl, rfl⟩
theorem t_St_game : FTY 6 0 (tyX6 0) true := ⟨RX6, TX6, 2, rfl, by decide, by decide +kernel, rfl, rfl⟩
theorem t_St_tree : FTY 6 1 (tyX6 1) true := ⟨RX6, TX6, 2, rfl, by decide, by decide +kernel, rfl, rfl⟩
theorem t_Tx_signs : FTY 7 0 (tyX7 0) true := ⟨RX7, TX7, 2, rfl, by decide, by decide +kernel, rfl, rfl⟩
theorem t_Tx_length : FTY 7 1 (tyX7 1) false := ⟨RX7, TX7, 2, rfl, by decide, by decide +kernel, rfl, rfl⟩
theorem t_Tr_game : FTY 8 0 (tyX8 0) true := ⟨RX8, TX8, 10, rfl, by decide, by decide +kernel, rfl, rfl⟩
theorem t_Tr_positions : FTY 8 1 (tyX8 1) true := ⟨RX8, TX8, 10, rfl, by decide, by decide +kernel, rfl, rfl⟩
theorem t_Tr_parents : FTY 8 2 (tyX8 2) true := ⟨RX8, TX8, 10, rfl, by decide, by decide +kernel, rfl, rfl⟩
theorem t_Tr_depths : FTY 8 3 (tyX8 3) true := ⟨RX8, TX8, 10, rfl, by decide, by decide +kernel, rfl, rfl⟩
theorem t_Tr_proves : FTY 8 4 (tyX8 4) true := ⟨RX8, TX8, 10, rfl, by decide, by decide +kernel, rfl, rfl⟩
theorem t_Tr_disproves : FTY 8 5 (tyX8 5) true := ⟨RX8, TX8, 10, rfl, by decide, by decide +kernel, rfl, rfl⟩
theorem t_Tr_childCounts : FTY 8 6 (tyX8 6) true := ⟨RX8, TX8, 10, rfl, by decide, by decide +kernel, rfl, rfl⟩
theorem t_Tr_firstChildren : FTY 8 7 (tyX8 7) true := ⟨RX8, TX8, 10, rfl, by decide, by decide +kernel, rfl, rfl⟩
theorem t_Tr_loops : FTY 8 8 (tyX8 8) true := ⟨RX8, TX8, 10, rfl, by decide, by decide +kernel, rfl, rfl⟩
theorem t_Tr_size : FTY 8 9 (tyX8 9) false := ⟨RX8, TX8, 10, rfl, by decide, by decide +kernel, rfl, rfl⟩
theorem t_Cp_now : FTY 9 0 (tyX9 0) true := ⟨RX9, TX9, 8, rfl, by decide, by decide +kernel, rfl, rfl⟩
theorem t_Cp_snapshot : FTY 9 1 (tyX9 1) true := ⟨RX9, TX9, 8, rfl, by decide, by decide +kernel, rfl, rfl⟩
theorem t_Cp_hasSnapshot : FTY 9 2 (tyX9 2) false := ⟨RX9, TX9, 8, rfl, by decide, by decide +kernel, rfl, rfl⟩
theorem t_Cp_history : FTY 9 3 (tyX9 3) true := ⟨RX9, TX9, 8, rfl, by decide, by decide +kernel, rfl, rfl⟩
theorem t_Cp_text : FTY 9 4 (tyX9 4) true := ⟨RX9, TX9, 8, rfl, by decide, by decide +kernel, rfl, rfl⟩
theorem t_Cp_reader : FTY 9 5 (tyX9 5) true := ⟨RX9, TX9, 8, rfl, by decide, by decide +kernel, rfl, rfl⟩
theorem t_Cp_rounds : FTY 9 6 (tyX9 6) true := ⟨RX9, TX9, 8, rfl, by decide, by decide +kernel, rfl, rfl⟩
theorem t_Cp_proof : FTY 9 7 (tyX9 7) true := ⟨RX9, TX9, 8, rfl, by decide, by decide +kernel, rfl, rfl⟩
theorem t_Md_thrown : FTY 10 0 (tyX10 0) false := ⟨RX10, TX10, 14, rfl, by decide, by decide +kernel, rfl, rfl⟩
theorem t_Md_s : FTY 10 1 (tyX10 1) true := ⟨RX10, TX10, 14, rfl, by decide, by decide +kernel, rfl, rfl⟩
theorem t_Md_saved : FTY 10 2 (tyX10 2) true := ⟨RX10, TX10, 14, rfl, by decide, by decide +kernel, rfl, rfl⟩
theorem t_Md_savedMany : FTY 10 3 (tyX10 3) false := ⟨RX10, TX10, 14, rfl, by decide, by decide +kernel, rfl, rfl⟩
theorem t_Md_snapshot : FTY 10 4 (tyX10 4) true := ⟨RX10, TX10, 14, rfl, by decide, by decide +kernel, rfl, rfl⟩
theorem t_Md_hasSnapshot : FTY 10 5 (tyX10 5) false := ⟨RX10, TX10, 14, rfl, by decide, by decide +kernel, rfl, rfl⟩
theorem t_Md_text : FTY 10 6 (tyX10 6) true := ⟨RX10, TX10, 14, rfl, by decide, by decide +kernel, rfl, rfl⟩
theorem t_Md_length : FTY 10 7 (tyX10 7) false := ⟨RX10, TX10, 14, rfl, by decide, by decide +kernel, rfl, rfl⟩
theorem t_Md_rounds : FTY 10 8 (tyX10 8) true := ⟨RX10, TX10, 14, rfl, by decide, by decide +kernel, rfl, rfl⟩
theorem t_Md_isIn : FTY 10 9 (tyX10 9) true := ⟨RX10, TX10, 14, rfl, by decide, by decide +kernel, rfl, rfl⟩
theorem t_Md_at : FTY 10 10 (tyX10 10) false := ⟨RX10, TX10, 14, rfl, by decide, by decide +kernel, rfl, rfl⟩
theorem t_Md_isWell : FTY 10 11 (tyX10 11) false := ⟨RX10, TX10, 14, rfl, by decide, by decide +kernel, rfl, rfl⟩
theorem t_Md_entries : FTY 10 12 (tyX10 12) true := ⟨RX10, TX10, 14, rfl, by decide, by decide +kernel, rfl, rfl⟩
theorem t_Md_entryMany : FTY 10 13 (tyX10 13) false := ⟨RX10, TX10, 14, rfl, by decide, by decide +kernel, rfl, rfl⟩
theorem f_Rw_13 : FL RX5 13 5 0 0 := ⟨RX5, TX5, 1, rfl, by decide, rfl, Or.inl (gw_of 98 (by decide +kernel) (by decide +kernel))⟩
theorem f_Gm_14 : FL RX0 14 0 0 0 := ⟨RX0, TX0, 7, rfl, by decide, rfl, Or.inl (gw_of 107 (by decide +kernel) (by decide +kernel))⟩
theorem f_Cp_80 : FL RX9 80 0 0 0 := ⟨RX0, TX0, 7, rfl, by decide, rfl, Or.inr ⟨"CheapProofs", nw_of 108 (by decide +kernel) (by decide +kernel)⟩⟩
theorem f_Rd_57 : FL RX3 57 0 0 0 := ⟨RX0, TX0, 7, rfl, by decide, rfl, Or.inr ⟨"CheapProofs", nw_of 109 (by decide +kernel) (by decide +kernel)⟩⟩
theorem f_Ro_61 : FL RX4 61 0 0 0 := ⟨RX0, TX0, 7, rfl, by decide, rfl, Or.inr ⟨"CheapProofs", nw_of 110 (by decide +kernel) (by decide +kernel)⟩⟩
theorem f_Tr_57 : FL RX8 57 0 0 0 := ⟨RX0, TX0, 7, rfl, by decide, rfl, Or.inr ⟨"CheapProofs", nw_of 111 (by decide +kernel) (by decide +kernel)⟩⟩
theorem f_Gm_20 : FL RX0 20 0 1 1 := ⟨RX0, TX0, 7, rfl, by decide, rfl, Or.inl (gw_of 112 (by decide +kernel) (by decide +kernel))⟩
theorem f_Cp_68 : FL RX9 68 0 1 1 := ⟨RX0, TX0, 7, rfl, by decide, rfl, Or.inr ⟨"CheapProofs", nw_of 113 (by decide +kernel) (by decide +kernel)⟩⟩
theorem f_Rd_47 : FL RX3 47 0 1 1 := ⟨RX0, TX0, 7, rfl, by decide, rfl, Or.inr ⟨"CheapProofs", nw_of 114 (by decide +kernel) (by decide +kernel)⟩⟩
theorem f_Gm_23 : FL RX0 23 0 2 2 := ⟨RX0, TX0, 7, rfl, by decide, rfl, Or.inl (gw_of 115 (by decide +kernel) (by decide +kernel))⟩
theorem f_Cp_103 : FL RX9 103 0 2 2 := ⟨RX0, TX0, 7, rfl, by decide, rfl, Or.inr ⟨"CheapProofs", nw_of 116 (by decide +kernel) (by decide +kernel)⟩⟩
theorem f_Tr_97 : FL RX8 97 0 2 2 := ⟨RX0, TX0, 7, rfl, by decide, rfl, Or.inr ⟨"CheapProofs", nw_of 117 (by decide +kernel) (by decide +kernel)⟩⟩
theorem f_Gm_26 : FL RX0 26 0 3 3 := ⟨RX0, TX0, 7, rfl, by decide, rfl, Or.inl (gw_of 118 (by decide +kernel) (by decide +kernel))⟩
theorem f_Cp_106 : FL RX9 106 0 3 3 := ⟨RX0, TX0, 7, rfl, by decide, rfl, Or.inr ⟨"CheapProofs", nw_of 119 (by decide +kernel) (by decide +kernel)⟩⟩
theorem f_Tr_100 : FL RX8 100 0 3 3 := ⟨RX0, TX0, 7, rfl, by decide, rfl, Or.inr ⟨"CheapProofs", nw_of 120 (by decide +kernel) (by decide +kernel)⟩⟩
theorem f_Gm_29 : FL RX0 29 0 4 4 := ⟨RX0, TX0, 7, rfl, by decide, rfl, Or.inl (gw_of 121 (by decide +kernel) (by decide +kernel))⟩
theorem f_Ro_47 : FL RX4 47 0 4 4 := ⟨RX0, TX0, 7, rfl, by decide, rfl, Or.inr ⟨"CheapProofs", nw_of 122 (by decide +kernel) (by decide +kernel)⟩⟩
theorem f_Cp_120 : FL RX9 120 0 4 4 := ⟨RX0, TX0, 7, rfl, by decide, rfl, Or.inr ⟨"CheapProofs", nw_of 123 (by decide +kernel) (by decide +kernel)⟩⟩
theorem f_Tr_119 : FL RX8 119 0 4 4 := ⟨RX0, TX0, 7, rfl, by decide, rfl, Or.inr ⟨"CheapProofs", nw_of 124 (by decide +kernel) (by decide +kernel)⟩⟩
theorem f_Gm_32 : FL RX0 32 0 5 5 := ⟨RX0, TX0, 7, rfl, by decide, rfl, Or.inl (gw_of 125 (by decide +kernel) (by decide +kernel))⟩
theorem f_Gm_46 : FL RX0 46 0 6 6 := ⟨RX0, TX0, 7, rfl, by decide, rfl, Or.inl (gw_of 126 (by decide +kernel) (by decide +kernel))⟩
theorem f_Cp_113 : FL RX9 113 0 6 6 := ⟨RX0, TX0, 7, rfl, by decide, rfl, Or.inr ⟨"CheapProofs", nw_of 127 (by decide +kernel) (by decide +kernel)⟩⟩
theorem f_Tr_41 : FL RX8 41 8 0 0 := ⟨RX8, TX8, 10, rfl, by decide, rfl, Or.inl (gw_of 151 (by decide +kernel) (by decide +kernel))⟩
theorem f_Tr_14 : FL RX8 14 8 1 1 := ⟨RX8, TX8, 10, rfl, by decide, rfl, Or.inl (gw_of 152 (by decide +kernel) (by decide +kernel))⟩
theorem f_Cp_191 : FL RX9 191 8 1 1 := ⟨RX8, TX8, 10, rfl, by decide, rfl, Or.inr ⟨"CheapProofs", nw_of 153 (by decide +kernel) (by decide +kernel)⟩⟩
theorem f_Tr_20 : FL RX8 20 8 2 2 := ⟨RX8, TX8, 10, rfl, by decide, rfl, Or.inl (gw_of 154 (by decide +kernel) (by decide +kernel))⟩
theorem f_Cp_194 : FL RX9 194 8 2 2 := ⟨RX8, TX8, 10, rfl, by decide, rfl, Or.inr ⟨"CheapProofs", nw_of 155 (by decide +kernel) (by decide +kernel)⟩⟩
theorem f_Tr_23 : FL RX8 23 8 3 3 := ⟨RX8, TX8, 10, rfl, by decide, rfl, Or.inl (gw_of 156 (by decide +kernel) (by decide +kernel))⟩
theorem f_Cp_206 : FL RX9 206 8 3 3 := ⟨RX8, TX8, 10, rfl, by decide, rfl, Or.inr ⟨"CheapProofs", nw_of 157 (by decide +kernel) (by decide +kernel)⟩⟩
theorem f_Tr_26 : FL RX8 26 8 4 4 := ⟨RX8, TX8, 10, rfl, by decide, rfl, Or.inl (gw_of 158 (by decide +kernel) (by decide +kernel))⟩
theorem f_Cp_141 : FL RX9 141 8 4 4 := ⟨RX8, TX8, 10, rfl, by decide, rfl, Or.inr ⟨"CheapProofs", nw_of 159 (by decide +kernel) (by decide +kernel)⟩⟩
theorem f_Tr_29 : FL RX8 29 8 5 5 := ⟨RX8, TX8, 10, rfl, by decide, rfl, Or.inl (gw_of 160 (by decide +kernel) (by decide +kernel))⟩
theorem f_Cp_197 : FL RX9 197 8 5 5 := ⟨RX8, TX8, 10, rfl, by decide, rfl, Or.inr ⟨"CheapProofs", nw_of 161 (by decide +kernel) (by decide +kernel)⟩⟩
theorem f_Tr_32 : FL RX8 32 8 6 6 := ⟨RX8, TX8, 10, rfl, by decide, rfl, Or.inl (gw_of 162 (by decide +kernel) (by decide +kernel))⟩
theorem f_Pf_30 : FL RX2 30 8 6 6 := ⟨RX8, TX8, 10, rfl, by decide, rfl, Or.inr ⟨"CheapProofs", nw_of 163 (by decide +kernel) (by decide +kernel)⟩⟩
theorem f_Cp_200 : FL RX9 200 8 6 6 := ⟨RX8, TX8, 10, rfl, by decide, rfl, Or.inr ⟨"CheapProofs", nw_of 164 (by decide +kernel) (by decide +kernel)⟩⟩
theorem f_Tr_35 : FL RX8 35 8 7 7 := ⟨RX8, TX8, 10, rfl, by decide, rfl, Or.inl (gw_of 165 (by decide +kernel) (by decide +kernel))⟩
theorem f_Pf_43 : FL RX2 43 8 7 7 := ⟨RX8, TX8, 10, rfl, by decide, rfl, Or.inr ⟨"CheapProofs", nw_of 166 (by decide +kernel) (by decide +kernel)⟩⟩
theorem f_Cp_203 : FL RX9 203 8 7 7 := ⟨RX8, TX8, 10, rfl, by decide, rfl, Or.inr ⟨"CheapProofs", nw_of 167 (by decide +kernel) (by decide +kernel)⟩⟩
theorem f_Tr_38 : FL RX8 38 8 8 8 := ⟨RX8, TX8, 10, rfl, by decide, rfl, Or.inl (gw_of 168 (by decide +kernel) (by decide +kernel))⟩
theorem f_Cp_209 : FL RX9 209 8 8 8 := ⟨RX8, TX8, 10, rfl, by decide, rfl, Or.inr ⟨"CheapProofs", nw_of 169 (by decide +kernel) (by decide +kernel)⟩⟩
theorem f_Tr_49 : FL RX8 49 8 9 9 := ⟨RX8, TX8, 10, rfl, by decide, rfl, Or.inl (gw_of 170 (by decide +kernel) (by decide +kernel))⟩
theorem f_Pf_53 : FL RX2 53 8 9 9 := ⟨RX8, TX8, 10, rfl, by decide, rfl, Or.inr ⟨"CheapProofs", nw_of 171 (by decide +kernel) (by decide +kernel)⟩⟩
theorem f_Cp_229 : FL RX9 229 8 9 9 := ⟨RX8, TX8, 10, rfl, by decide, rfl, Or.inr ⟨"CheapProofs", nw_of 172 (by decide +kernel) (by decide +kernel)⟩⟩
theorem f_St_10 : FL RX6 10 6 0 0 := ⟨RX6, TX6, 2, rfl, by decide, rfl, Or.inl (gw_of 194 (by decide +kernel) (by decide +kernel))⟩
theorem f_Cp_64 : FL RX9 64 6 0 0 := ⟨RX6, TX6, 2, rfl, by decide, rfl, Or.inr ⟨"CheapProofs", nw_of 195 (by decide +kernel) (by decide +kernel)⟩⟩
theorem f_St_21 : FL RX6 21 6 1 1 := ⟨RX6, TX6, 2, rfl, by decide, rfl, Or.inl (gw_of 196 (by decide +kernel) (by decide +kernel))⟩
theorem f_Cp_91 : FL RX9 91 6 1 1 := ⟨RX6, TX6, 2, rfl, by decide, rfl, Or.inr ⟨"CheapProofs", nw_of 197 (by decide +kernel) (by decide +kernel)⟩⟩
theorem f_Hi_11 : FL RX1 11 1 0 0 := ⟨RX1, TX1, 2, rfl, by decide, rfl, Or.inl (gw_of 212 (by decide +kernel) (by decide +kernel))⟩
theorem f_Hi_18 : FL RX1 18 1 1 1 := ⟨RX1, TX1, 2, rfl, by decide, rfl, Or.inl (gw_of 213 (by decide +kernel) (by decide +kernel))⟩
theorem f_Cp_164 : FL RX9 164 1 1 1 := ⟨RX1, TX1, 2, rfl, by decide, rfl, Or.inr ⟨"CheapProofs", nw_of 214 (by decide +kernel) (by decide +kernel)⟩⟩
theorem f_Tx_9 : FL RX7 9 7 0 0 := ⟨RX7, TX7, 2, rfl, by decide, rfl, Or.inl (gw_of 226 (by decide +kernel) (by decide +kernel))⟩
theorem f_Tx_15 : FL RX7 15 7 1 1 := ⟨RX7, TX7, 2, rfl, by decide, rfl, Or.inl (gw_of 227 (by decide +kernel) (by decide +kernel))⟩
theorem f_Cp_160 : FL RX9 160 7 1 1 := ⟨RX7, TX7, 2, rfl, by decide, rfl, Or.inr ⟨"CheapProofs", nw_of 228 (by decide +kernel) (by decide +kernel)⟩⟩
theorem f_Rd_18 : FL RX3 18 3 0 0 := ⟨RX3, TX3, 3, rfl, by decide, rfl, Or.inl (gw_of 243 (by decide +kernel) (by decide +kernel))⟩
theorem f_Rd_12 : FL RX3 12 3 1 1 := ⟨RX3, TX3, 3, rfl, by decide, rfl, Or.inl (gw_of 244 (by decide +kernel) (by decide +kernel))⟩
theorem f_Cp_130 : FL RX9 130 3 1 1 := ⟨RX3, TX3, 3, rfl, by decide, rfl, Or.inr ⟨"CheapProofs", nw_of 245 (by decide +kernel) (by decide +kernel)⟩⟩
theorem f_Rd_25 : FL RX3 25 3 2 2 := ⟨RX3, TX3, 3, rfl, by decide, rfl, Or.inl (gw_of 246 (by decide +kernel) (by decide +kernel))⟩
theorem f_Ro_14 : FL RX4 14 4 0 0 := ⟨RX4, TX4, 1, rfl, by decide, rfl, Or.inl (gw_of 262 (by decide +kernel) (by decide +kernel))⟩
theorem f_Pf_14 : FL RX2 14 2 0 0 := ⟨RX2, TX2, 1, rfl, by decide, rfl, Or.inl (gw_of 274 (by decide +kernel) (by decide +kernel))⟩
theorem f_Cp_10 : FL RX9 10 9 0 0 := ⟨RX9, TX9, 8, rfl, by decide, rfl, Or.inl (gw_of 278 (by decide +kernel) (by decide +kernel))⟩
theorem f_Cp_16 : FL RX9 16 9 1 1 := ⟨RX9, TX9, 8, rfl, by decide, rfl, Or.inl (gw_of 279 (by decide +kernel) (by decide +kernel))⟩
theorem f_Cp_19 : FL RX9 19 9 2 2 := ⟨RX9, TX9, 8, rfl, by decide, rfl, Or.inl (gw_of 280 (by decide +kernel) (by decide +kernel))⟩
theorem f_Cp_26 : FL RX9 26 9 3 3 := ⟨RX9, TX9, 8, rfl, by decide, rfl, Or.inl (gw_of 281 (by decide +kernel) (by decide +kernel))⟩
theorem f_Cp_33 : FL RX9 33 9 4 4 := ⟨RX9, TX9, 8, rfl, by decide, rfl, Or.inl (gw_of 282 (by decide +kernel) (by decide +kernel))⟩
theorem f_Cp_42 : FL RX9 42 9 5 5 := ⟨RX9, TX9, 8, rfl, by decide, rfl, Or.inl (gw_of 283 (by decide +kernel) (by decide +kernel))⟩
theorem f_Cp_49 : FL RX9 49 9 6 6 := ⟨RX9, TX9, 8, rfl, by decide, rfl, Or.inl (gw_of 284 (by decide +kernel) (by decide +kernel))⟩
theorem f_Cp_56 : FL RX9 56 9 7 7 := ⟨RX9, TX9, 8, rfl, by decide, rfl, Or.inl (gw_of 285 (by decide +kernel) (by decide +kernel))⟩
theorem f_Md_32 : FL RX10 32 10 0 0 := ⟨RX10, TX10, 14, rfl, by decide, rfl, Or.inl (gw_of 685 (by decide +kernel) (by decide +kernel))⟩
theorem f_Md_7 : FL RX10 7 10 1 1 := ⟨RX10, TX10, 14, rfl, by decide, rfl, Or.inl (gw_of 686 (by decide +kernel) (by decide +kernel))⟩
theorem f_Md_13 : FL RX10 13 10 2 2 := ⟨RX10, TX10, 14, rfl, by decide, rfl, Or.inl (gw_of 687 (by decide +kernel) (by decide +kernel))⟩
theorem f_Md_40 : FL RX10 40 10 3 3 := ⟨RX10, TX10, 14, rfl, by decide, rfl, Or.inl (gw_of 688 (by decide +kernel) (by decide +kernel))⟩
theorem f_Md_16 : FL RX10 16 10 4 4 := ⟨RX10, TX10, 14, rfl, by decide, rfl, Or.inl (gw_of 689 (by decide +kernel) (by decide +kernel))⟩
theorem f_Md_158 : FL RX10 158 10 5 5 := ⟨RX10, TX10, 14, rfl, by decide, rfl, Or.inl (gw_of 690 (by decide +kernel) (by decide +kernel))⟩
theorem f_Md_19 : FL RX10 19 10 6 6 := ⟨RX10, TX10, 14, rfl, by decide, rfl, Or.inl (gw_of 691 (by decide +kernel) (by decide +kernel))⟩
theorem f_Md_124 : FL RX10 124 10 7 7 := ⟨RX10, TX10, 14, rfl, by decide, rfl, Or.inl (gw_of 692 (by decide +kernel) (by decide +kernel))⟩
theorem f_Md_22 : FL RX10 22 10 8 8 := ⟨RX10, TX10, 14, rfl, by decide, rfl, Or.inl (gw_of 693 (by decide +kernel) (by decide +kernel))⟩
theorem f_Md_25 : FL RX10 25 10 9 9 := ⟨RX10, TX10, 14, rfl, by decide, rfl, Or.inl (gw_of 694 (by decide +kernel) (by decide +kernel))⟩
theorem f_Md_127 : FL RX10 127 10 10 10 := ⟨RX10, TX10, 14, rfl, by decide, rfl, Or.inl (gw_of 695 (by decide +kernel) (by decide +kernel))⟩
theorem f_Md_130 : FL RX10 130 10 11 11 := ⟨RX10, TX10, 14, rfl, by decide, rfl, Or.inl (gw_of 696 (by decide +kernel) (by decide +kernel))⟩
theorem f_Md_29 : FL RX10 29 10 12 12 := ⟨RX10, TX10, 14, rfl, by decide, rfl, Or.inl (gw_of 697 (by decide +kernel) (by decide +kernel))⟩
theorem f_Md_137 : FL RX10 137 10 13 13 := ⟨RX10, TX10, 14, rfl, by decide, rfl, Or.inl (gw_of 698 (by decide +kernel) (by decide +kernel))⟩
/-! the methods: what the tables say of each -/
def MB (my : MR) (n : Nat) : Prop := Cond.code my.2.1 my.2.2.1 my.2.2.2.1 my.2.2.2.2 ∈ gw ∧ Cond.initialized my.2.1.cls ∈ gw ∧ my.2.1.cls = my.1 ∧ (my.2.1.cls ≠ "java/lang/invoke/MethodHandle" ∧ my.2.1.cls ≠ "java/lang/invoke/VarHandle" ∧ (parseMethodDescriptor my.2.1.desc).map (fun d => d.parameters.length) = some n) ∧ plainName my.2.1.cls = true
def MV (my : MR) (n : Nat) : Prop := MB my n ∧ Cond.instanceMethod my.2.1 ∈ gw ∧ Cond.selects my.1 my.2.1 my.2.1 ∈ gw
def MI (my : MR) (n : Nat) : Prop := MB my n ∧ Cond.instanceMethod my.2.1 ∈ gw ∧ my.2.1.name = "<init>"
def MS (my : MR) (n : Nat) : Prop := MB my n ∧ Cond.static my.2.1 ∈ gw
theorem q_Gm_init : MI m_Gm_init 0 := ⟨⟨gw_of 87 (by decide +kernel) (by decide +kernel), gw_of 58 (by decide +kernel) (by decide +kernel), rfl, ⟨by decide +kernel, by decide +kernel, by decide +kernel⟩, by decide +kernel⟩, gw_of 86 (by decide +kernel) (by decide +kernel), by decide +kernel⟩
theorem q_Gm_copyFrom : MV m_Gm_copyFrom 1 := ⟨⟨gw_of 336 (by decide +kernel) (by decide +kernel), gw_of 58 (by decide +kernel) (by decide +kernel), rfl, ⟨by decide +kernel, by decide +kernel, by decide +kernel⟩, by decide +kernel⟩, gw_of 334 (by decide +kernel) (by decide +kernel), gw_of 335 (by decide +kernel) (by decide +kernel)⟩
theorem q_Gm_copyAllButGuesses : MV m_Gm_copyAllButGuesses 1 := ⟨⟨gw_of 340 (by decide +kernel) (by decide +kernel), gw_of 58 (by decide +kernel) (by decide +kernel), rfl, ⟨by decide +kernel, by decide +kernel, by decide +kernel⟩, by decide +kernel⟩, gw_of 338 (by decide +kernel) (by decide +kernel), gw_of 339 (by decide +kernel) (by decide +kernel)⟩
theorem q_Gm_clearAllButGuesses : MV m_Gm_clearAllButGuesses 0 := ⟨⟨gw_of 408 (by decide +kernel) (by decide +kernel), gw_of 58 (by decide +kernel) (by decide +kernel), rfl, ⟨by decide +kernel, by decide +kernel, by decide +kernel⟩, by decide +kernel⟩, gw_of 406 (by decide +kernel) (by decide +kernel), gw_of 407 (by decide +kernel) (by decide +kernel)⟩
theorem q_Gm_isEnd : MV m_Gm_isEnd 1 := ⟨⟨gw_of 463 (by decide +kernel) (by decide +kernel), gw_of 58 (by decide +kernel) (by decide +kernel), rfl, ⟨by decide +kernel, by decide +kernel, by decide +kernel⟩, by decide +kernel⟩, gw_of 461 (by decide +kernel) (by decide +kernel), gw_of 462 (by decide +kernel) (by decide +kernel)⟩
theorem q_Gm_isWonEnd : MV m_Gm_isWonEnd 1 := ⟨⟨gw_of 467 (by decide +kernel) (by decide +kernel), gw_of 58 (by decide +kernel) (by decide +kernel), rfl, ⟨by decide +kernel, by decide +kernel, by decide +kernel⟩, by decide +kernel⟩, gw_of 465 (by decide +kernel) (by decide +kernel), gw_of 466 (by decide +kernel) (by decide +kernel)⟩
theorem q_Gm_targetOf : MV m_Gm_targetOf 2 := ⟨⟨gw_of 383 (by decide +kernel) (by decide +kernel), gw_of 58 (by decide +kernel) (by decide +kernel), rfl, ⟨by decide +kernel, by decide +kernel, by decide +kernel⟩, by decide +kernel⟩, gw_of 381 (by decide +kernel) (by decide +kernel), gw_of 382 (by decide +kernel) (by decide +kernel)⟩
theorem q_Gm_rankOf : MV m_Gm_rankOf 2 := ⟨⟨gw_of 378 (by decide +kernel) (by decide +kernel), gw_of 58 (by decide +kernel) (by decide +kernel), rfl, ⟨by decide +kernel, by decide +kernel, by decide +kernel⟩, by decide +kernel⟩, gw_of 376 (by decide +kernel) (by decide +kernel), gw_of 377 (by decide +kernel) (by decide +kernel)⟩
theorem q_Gm_append : MV m_Gm_append 2 := ⟨⟨gw_of 387 (by decide +kernel) (by decide +kernel), gw_of 58 (by decide +kernel) (by decide +kernel), rfl, ⟨by decide +kernel, by decide +kernel, by decide +kernel⟩, by decide +kernel⟩, gw_of 385 (by decide +kernel) (by decide +kernel), gw_of 386 (by decide +kernel) (by decide +kernel)⟩
theorem q_Gm_removeAt : MV m_Gm_removeAt 2 := ⟨⟨gw_of 396 (by decide +kernel) (by decide +kernel), gw_of 58 (by decide +kernel) (by decide +kernel), rfl, ⟨by decide +kernel, by decide +kernel, by decide +kernel⟩, by decide +kernel⟩, gw_of 394 (by decide +kernel) (by decide +kernel), gw_of 395 (by decide +kernel) (by decide +kernel)⟩
theorem q_Hi_init : MI m_Hi_init 0 := ⟨⟨gw_of 207 (by decide +kernel) (by decide +kernel), gw_of 62 (by decide +kernel) (by decide +kernel), rfl, ⟨by decide +kernel, by decide +kernel, by decide +kernel⟩, by decide +kernel⟩, gw_of 206 (by decide +kernel) (by decide +kernel), by decide +kernel⟩
theorem q_Hi_remember : MV m_Hi_remember 1 := ⟨⟨gw_of 317 (by decide +kernel) (by decide +kernel), gw_of 62 (by decide +kernel) (by decide +kernel), rfl, ⟨by decide +kernel, by decide +kernel, by decide +kernel⟩, by decide +kernel⟩, gw_of 315 (by decide +kernel) (by decide +kernel), gw_of 316 (by decide +kernel) (by decide +kernel)⟩
theorem q_Hi_takeLatest : MV m_Hi_takeLatest 1 := ⟨⟨gw_of 562 (by decide +kernel) (by decide +kernel), gw_of 62 (by decide +kernel) (by decide +kernel), rfl, ⟨by decide +kernel, by decide +kernel, by decide +kernel⟩, by decide +kernel⟩, gw_of 560 (by decide +kernel) (by decide +kernel), gw_of 561 (by decide +kernel) (by decide +kernel)⟩
theorem q_Hi_stateAt : MV m_Hi_stateAt 1 := ⟨⟨gw_of 325 (by decide +kernel) (by decide +kernel), gw_of 62 (by decide +kernel) (by decide +kernel), rfl, ⟨by decide +kernel, by decide +kernel, by decide +kernel⟩, by decide +kernel⟩, gw_of 324 (by decide +kernel) (by decide +kernel), gw_of 1 (by decide +kernel) (by decide +kernel)⟩
theorem q_Hi_copy : MS m_Hi_copy 2 := ⟨⟨gw_of 328 (by decide +kernel) (by decide +kernel), gw_of 62 (by decide +kernel) (by decide +kernel), rfl, ⟨by decide +kernel, by decide +kernel, by decide +kernel⟩, by decide +kernel⟩, gw_of 327 (by decide +kernel) (by decide +kernel)⟩
theorem q_Hi_dropOldest : MV m_Hi_dropOldest 0 := ⟨⟨gw_of 321 (by decide +kernel) (by decide +kernel), gw_of 62 (by decide +kernel) (by decide +kernel), rfl, ⟨by decide +kernel, by decide +kernel, by decide +kernel⟩, by decide +kernel⟩, gw_of 320 (by decide +kernel) (by decide +kernel), gw_of 0 (by decide +kernel) (by decide +kernel)⟩
theorem q_Pf_init : MI m_Pf_init 0 := ⟨⟨gw_of 270 (by decide +kernel) (by decide +kernel), gw_of 66 (by decide +kernel) (by decide +kernel), rfl, ⟨by decide +kernel, by decide +kernel, by decide +kernel⟩, by decide +kernel⟩, gw_of 269 (by decide +kernel) (by decide +kernel), by decide +kernel⟩
theorem q_Pf_winnerOf : MS m_Pf_winnerOf 1 := ⟨⟨gw_of 634 (by decide +kernel) (by decide +kernel), gw_of 66 (by decide +kernel) (by decide +kernel), rfl, ⟨by decide +kernel, by decide +kernel, by decide +kernel⟩, by decide +kernel⟩, gw_of 633 (by decide +kernel) (by decide +kernel)⟩
theorem q_Pf_endOf : MV m_Pf_endOf 2 := ⟨⟨gw_of 631 (by decide +kernel) (by decide +kernel), gw_of 66 (by decide +kernel) (by decide +kernel), rfl, ⟨by decide +kernel, by decide +kernel, by decide +kernel⟩, by decide +kernel⟩, gw_of 629 (by decide +kernel) (by decide +kernel), gw_of 630 (by decide +kernel) (by decide +kernel)⟩
theorem q_Pf_sizeOf : MV m_Pf_sizeOf 1 := ⟨⟨gw_of 646 (by decide +kernel) (by decide +kernel), gw_of 66 (by decide +kernel) (by decide +kernel), rfl, ⟨by decide +kernel, by decide +kernel, by decide +kernel⟩, by decide +kernel⟩, gw_of 644 (by decide +kernel) (by decide +kernel), gw_of 645 (by decide +kernel) (by decide +kernel)⟩
theorem q_Pf_takeChildren : MV m_Pf_takeChildren 3 := ⟨⟨gw_of 652 (by decide +kernel) (by decide +kernel), gw_of 66 (by decide +kernel) (by decide +kernel), rfl, ⟨by decide +kernel, by decide +kernel, by decide +kernel⟩, by decide +kernel⟩, gw_of 651 (by decide +kernel) (by decide +kernel), gw_of 18 (by decide +kernel) (by decide +kernel)⟩
theorem q_Rd_init : MI m_Rd_init 1 := ⟨⟨gw_of 239 (by decide +kernel) (by decide +kernel), gw_of 64 (by decide +kernel) (by decide +kernel), rfl, ⟨by decide +kernel, by decide +kernel, by decide +kernel⟩, by decide +kernel⟩, gw_of 238 (by decide +kernel) (by decide +kernel), by decide +kernel⟩
theorem q_Rd_readText : MV m_Rd_readText 0 := ⟨⟨gw_of 404 (by decide +kernel) (by decide +kernel), gw_of 64 (by decide +kernel) (by decide +kernel), rfl, ⟨by decide +kernel, by decide +kernel, by decide +kernel⟩, by decide +kernel⟩, gw_of 402 (by decide +kernel) (by decide +kernel), gw_of 403 (by decide +kernel) (by decide +kernel)⟩
theorem q_Rd_readEntry : MV m_Rd_readEntry 0 := ⟨⟨gw_of 412 (by decide +kernel) (by decide +kernel), gw_of 64 (by decide +kernel) (by decide +kernel), rfl, ⟨by decide +kernel, by decide +kernel, by decide +kernel⟩, by decide +kernel⟩, gw_of 411 (by decide +kernel) (by decide +kernel), gw_of 2 (by decide +kernel) (by decide +kernel)⟩
theorem q_Rd_readTargets : MV m_Rd_readTargets 1 := ⟨⟨gw_of 433 (by decide +kernel) (by decide +kernel), gw_of 64 (by decide +kernel) (by decide +kernel), rfl, ⟨by decide +kernel, by decide +kernel, by decide +kernel⟩, by decide +kernel⟩, gw_of 432 (by decide +kernel) (by decide +kernel), gw_of 6 (by decide +kernel) (by decide +kernel)⟩
theorem q_Rd_readPosition : MV m_Rd_readPosition 0 := ⟨⟨gw_of 416 (by decide +kernel) (by decide +kernel), gw_of 64 (by decide +kernel) (by decide +kernel), rfl, ⟨by decide +kernel, by decide +kernel, by decide +kernel⟩, by decide +kernel⟩, gw_of 415 (by decide +kernel) (by decide +kernel), gw_of 3 (by decide +kernel) (by decide +kernel)⟩
theorem q_Rd_digit : MV m_Rd_digit 0 := ⟨⟨gw_of 420 (by decide +kernel) (by decide +kernel), gw_of 64 (by decide +kernel) (by decide +kernel), rfl, ⟨by decide +kernel, by decide +kernel, by decide +kernel⟩, by decide +kernel⟩, gw_of 419 (by decide +kernel) (by decide +kernel), gw_of 4 (by decide +kernel) (by decide +kernel)⟩
theorem q_Rd_skip : MV m_Rd_skip 1 := ⟨⟨gw_of 428 (by decide +kernel) (by decide +kernel), gw_of 64 (by decide +kernel) (by decide +kernel), rfl, ⟨by decide +kernel, by decide +kernel, by decide +kernel⟩, by decide +kernel⟩, gw_of 427 (by decide +kernel) (by decide +kernel), gw_of 5 (by decide +kernel) (by decide +kernel)⟩
theorem q_Ro_init : MI m_Ro_init 0 := ⟨⟨gw_of 258 (by decide +kernel) (by decide +kernel), gw_of 65 (by decide +kernel) (by decide +kernel), rfl, ⟨by decide +kernel, by decide +kernel, by decide +kernel⟩, by decide +kernel⟩, gw_of 257 (by decide +kernel) (by decide +kernel), by decide +kernel⟩
theorem q_Ro_workOut : MV m_Ro_workOut 1 := ⟨⟨gw_of 580 (by decide +kernel) (by decide +kernel), gw_of 65 (by decide +kernel) (by decide +kernel), rfl, ⟨by decide +kernel, by decide +kernel, by decide +kernel⟩, by decide +kernel⟩, gw_of 578 (by decide +kernel) (by decide +kernel), gw_of 579 (by decide +kernel) (by decide +kernel)⟩
theorem q_Ro_playRound : MV m_Ro_playRound 2 := ⟨⟨gw_of 587 (by decide +kernel) (by decide +kernel), gw_of 65 (by decide +kernel) (by decide +kernel), rfl, ⟨by decide +kernel, by decide +kernel, by decide +kernel⟩, by decide +kernel⟩, gw_of 586 (by decide +kernel) (by decide +kernel), gw_of 16 (by decide +kernel) (by decide +kernel)⟩
theorem q_Ro_isWonBy : MV m_Ro_isWonBy 3 := ⟨⟨gw_of 597 (by decide +kernel) (by decide +kernel), gw_of 65 (by decide +kernel) (by decide +kernel), rfl, ⟨by decide +kernel, by decide +kernel, by decide +kernel⟩, by decide +kernel⟩, gw_of 596 (by decide +kernel) (by decide +kernel), gw_of 17 (by decide +kernel) (by decide +kernel)⟩
theorem q_Ro_isWon : MV m_Ro_isWon 1 := ⟨⟨gw_of 591 (by decide +kernel) (by decide +kernel), gw_of 65 (by decide +kernel) (by decide +kernel), rfl, ⟨by decide +kernel, by decide +kernel, by decide +kernel⟩, by decide +kernel⟩, gw_of 589 (by decide +kernel) (by decide +kernel), gw_of 590 (by decide +kernel) (by decide +kernel)⟩
theorem q_Ro_roundOf : MV m_Ro_roundOf 1 := ⟨⟨gw_of 602 (by decide +kernel) (by decide +kernel), gw_of 65 (by decide +kernel) (by decide +kernel), rfl, ⟨by decide +kernel, by decide +kernel, by decide +kernel⟩, by decide +kernel⟩, gw_of 600 (by decide +kernel) (by decide +kernel), gw_of 601 (by decide +kernel) (by decide +kernel)⟩
theorem q_Ro_wonPositions : MV m_Ro_wonPositions 0 := ⟨⟨gw_of 678 (by decide +kernel) (by decide +kernel), gw_of 65 (by decide +kernel) (by decide +kernel), rfl, ⟨by decide +kernel, by decide +kernel, by decide +kernel⟩, by decide +kernel⟩, gw_of 676 (by decide +kernel) (by decide +kernel), gw_of 677 (by decide +kernel) (by decide +kernel)⟩
theorem q_Rw_init : MI m_Rw_init 1 := ⟨⟨gw_of 93 (by decide +kernel) (by decide +kernel), gw_of 59 (by decide +kernel) (by decide +kernel), rfl, ⟨by decide +kernel, by decide +kernel, by decide +kernel⟩, by decide +kernel⟩, gw_of 92 (by decide +kernel) (by decide +kernel), by decide +kernel⟩
theorem q_Rw_get : MV m_Rw_get 1 := ⟨⟨gw_of 313 (by decide +kernel) (by decide +kernel), gw_of 59 (by decide +kernel) (by decide +kernel), rfl, ⟨by decide +kernel, by decide +kernel, by decide +kernel⟩, by decide +kernel⟩, gw_of 311 (by decide +kernel) (by decide +kernel), gw_of 312 (by decide +kernel) (by decide +kernel)⟩
theorem q_Rw_set : MV m_Rw_set 2 := ⟨⟨gw_of 359 (by decide +kernel) (by decide +kernel), gw_of 59 (by decide +kernel) (by decide +kernel), rfl, ⟨by decide +kernel, by decide +kernel, by decide +kernel⟩, by decide +kernel⟩, gw_of 357 (by decide +kernel) (by decide +kernel), gw_of 358 (by decide +kernel) (by decide +kernel)⟩
theorem q_Rw_fill : MV m_Rw_fill 1 := ⟨⟨gw_of 106 (by decide +kernel) (by decide +kernel), gw_of 59 (by decide +kernel) (by decide +kernel), rfl, ⟨by decide +kernel, by decide +kernel, by decide +kernel⟩, by decide +kernel⟩, gw_of 104 (by decide +kernel) (by decide +kernel), gw_of 105 (by decide +kernel) (by decide +kernel)⟩
theorem q_Rw_copyFrom : MV m_Rw_copyFrom 1 := ⟨⟨gw_of 344 (by decide +kernel) (by decide +kernel), gw_of 59 (by decide +kernel) (by decide +kernel), rfl, ⟨by decide +kernel, by decide +kernel, by decide +kernel⟩, by decide +kernel⟩, gw_of 342 (by decide +kernel) (by decide +kernel), gw_of 343 (by decide +kernel) (by decide +kernel)⟩
theorem q_St_init : MI m_St_init 0 := ⟨⟨gw_of 81 (by decide +kernel) (by decide +kernel), gw_of 57 (by decide +kernel) (by decide +kernel), rfl, ⟨by decide +kernel, by decide +kernel, by decide +kernel⟩, by decide +kernel⟩, gw_of 80 (by decide +kernel) (by decide +kernel), by decide +kernel⟩
theorem q_St_copyFrom : MV m_St_copyFrom 1 := ⟨⟨gw_of 332 (by decide +kernel) (by decide +kernel), gw_of 57 (by decide +kernel) (by decide +kernel), rfl, ⟨by decide +kernel, by decide +kernel, by decide +kernel⟩, by decide +kernel⟩, gw_of 330 (by decide +kernel) (by decide +kernel), gw_of 331 (by decide +kernel) (by decide +kernel)⟩
theorem q_Tx_init : MI m_Tx_init 0 := ⟨⟨gw_of 224 (by decide +kernel) (by decide +kernel), gw_of 63 (by decide +kernel) (by decide +kernel), rfl, ⟨by decide +kernel, by decide +kernel, by decide +kernel⟩, by decide +kernel⟩, gw_of 223 (by decide +kernel) (by decide +kernel), by decide +kernel⟩
theorem q_Tx_isFull : MV m_Tx_isFull 0 := ⟨⟨gw_of 542 (by decide +kernel) (by decide +kernel), gw_of 63 (by decide +kernel) (by decide +kernel), rfl, ⟨by decide +kernel, by decide +kernel, by decide +kernel⟩, by decide +kernel⟩, gw_of 540 (by decide +kernel) (by decide +kernel), gw_of 541 (by decide +kernel) (by decide +kernel)⟩
theorem q_Tx_append : MV m_Tx_append 1 := ⟨⟨gw_of 546 (by decide +kernel) (by decide +kernel), gw_of 63 (by decide +kernel) (by decide +kernel), rfl, ⟨by decide +kernel, by decide +kernel, by decide +kernel⟩, by decide +kernel⟩, gw_of 544 (by decide +kernel) (by decide +kernel), gw_of 545 (by decide +kernel) (by decide +kernel)⟩
theorem q_Tx_clear : MV m_Tx_clear 0 := ⟨⟨gw_of 554 (by decide +kernel) (by decide +kernel), gw_of 63 (by decide +kernel) (by decide +kernel), rfl, ⟨by decide +kernel, by decide +kernel, by decide +kernel⟩, by decide +kernel⟩, gw_of 552 (by decide +kernel) (by decide +kernel), gw_of 553 (by decide +kernel) (by decide +kernel)⟩
theorem q_Tx_signAt : MV m_Tx_signAt 1 := ⟨⟨gw_of 424 (by decide +kernel) (by decide +kernel), gw_of 63 (by decide +kernel) (by decide +kernel), rfl, ⟨by decide +kernel, by decide +kernel, by decide +kernel⟩, by decide +kernel⟩, gw_of 422 (by decide +kernel) (by decide +kernel), gw_of 423 (by decide +kernel) (by decide +kernel)⟩
theorem q_Tr_init : MI m_Tr_init 1 := ⟨⟨gw_of 147 (by decide +kernel) (by decide +kernel), gw_of 61 (by decide +kernel) (by decide +kernel), rfl, ⟨by decide +kernel, by decide +kernel, by decide +kernel⟩, by decide +kernel⟩, gw_of 146 (by decide +kernel) (by decide +kernel), by decide +kernel⟩
theorem q_Tr_copyFrom : MV m_Tr_copyFrom 1 := ⟨⟨gw_of 354 (by decide +kernel) (by decide +kernel), gw_of 61 (by decide +kernel) (by decide +kernel), rfl, ⟨by decide +kernel, by decide +kernel, by decide +kernel⟩, by decide +kernel⟩, gw_of 352 (by decide +kernel) (by decide +kernel), gw_of 353 (by decide +kernel) (by decide +kernel)⟩
theorem q_Tr_clear : MV m_Tr_clear 0 := ⟨⟨gw_of 363 (by decide +kernel) (by decide +kernel), gw_of 61 (by decide +kernel) (by decide +kernel), rfl, ⟨by decide +kernel, by decide +kernel, by decide +kernel⟩, by decide +kernel⟩, gw_of 361 (by decide +kernel) (by decide +kernel), gw_of 362 (by decide +kernel) (by decide +kernel)⟩
theorem q_Tr_isEmpty : MV m_Tr_isEmpty 0 := ⟨⟨gw_of 483 (by decide +kernel) (by decide +kernel), gw_of 61 (by decide +kernel) (by decide +kernel), rfl, ⟨by decide +kernel, by decide +kernel, by decide +kernel⟩, by decide +kernel⟩, gw_of 481 (by decide +kernel) (by decide +kernel), gw_of 482 (by decide +kernel) (by decide +kernel)⟩
theorem q_Tr_has : MV m_Tr_has 1 := ⟨⟨gw_of 454 (by decide +kernel) (by decide +kernel), gw_of 61 (by decide +kernel) (by decide +kernel), rfl, ⟨by decide +kernel, by decide +kernel, by decide +kernel⟩, by decide +kernel⟩, gw_of 452 (by decide +kernel) (by decide +kernel), gw_of 453 (by decide +kernel) (by decide +kernel)⟩
theorem q_Tr_isLeaf : MV m_Tr_isLeaf 1 := ⟨⟨gw_of 500 (by decide +kernel) (by decide +kernel), gw_of 61 (by decide +kernel) (by decide +kernel), rfl, ⟨by decide +kernel, by decide +kernel, by decide +kernel⟩, by decide +kernel⟩, gw_of 498 (by decide +kernel) (by decide +kernel), gw_of 499 (by decide +kernel) (by decide +kernel)⟩
theorem q_Tr_endOfChildren : MV m_Tr_endOfChildren 1 := ⟨⟨gw_of 512 (by decide +kernel) (by decide +kernel), gw_of 61 (by decide +kernel) (by decide +kernel), rfl, ⟨by decide +kernel, by decide +kernel, by decide +kernel⟩, by decide +kernel⟩, gw_of 510 (by decide +kernel) (by decide +kernel), gw_of 511 (by decide +kernel) (by decide +kernel)⟩
theorem q_Tr_turnAt : MV m_Tr_turnAt 1 := ⟨⟨gw_of 508 (by decide +kernel) (by decide +kernel), gw_of 61 (by decide +kernel) (by decide +kernel), rfl, ⟨by decide +kernel, by decide +kernel, by decide +kernel⟩, by decide +kernel⟩, gw_of 506 (by decide +kernel) (by decide +kernel), gw_of 507 (by decide +kernel) (by decide +kernel)⟩
theorem q_Tr_outcome : MV m_Tr_outcome 0 := ⟨⟨gw_of 492 (by decide +kernel) (by decide +kernel), gw_of 61 (by decide +kernel) (by decide +kernel), rfl, ⟨by decide +kernel, by decide +kernel, by decide +kernel⟩, by decide +kernel⟩, gw_of 490 (by decide +kernel) (by decide +kernel), gw_of 491 (by decide +kernel) (by decide +kernel)⟩
theorem q_Tr_plant : MV m_Tr_plant 1 := ⟨⟨gw_of 444 (by decide +kernel) (by decide +kernel), gw_of 61 (by decide +kernel) (by decide +kernel), rfl, ⟨by decide +kernel, by decide +kernel, by decide +kernel⟩, by decide +kernel⟩, gw_of 442 (by decide +kernel) (by decide +kernel), gw_of 443 (by decide +kernel) (by decide +kernel)⟩
theorem q_Tr_addLeaf : MV m_Tr_addLeaf 2 := ⟨⟨gw_of 449 (by decide +kernel) (by decide +kernel), gw_of 61 (by decide +kernel) (by decide +kernel), rfl, ⟨by decide +kernel, by decide +kernel, by decide +kernel⟩, by decide +kernel⟩, gw_of 448 (by decide +kernel) (by decide +kernel), gw_of 7 (by decide +kernel) (by decide +kernel)⟩
theorem q_Tr_setLeafCosts : MV m_Tr_setLeafCosts 3 := ⟨⟨gw_of 459 (by decide +kernel) (by decide +kernel), gw_of 61 (by decide +kernel) (by decide +kernel), rfl, ⟨by decide +kernel, by decide +kernel, by decide +kernel⟩, by decide +kernel⟩, gw_of 458 (by decide +kernel) (by decide +kernel), gw_of 8 (by decide +kernel) (by decide +kernel)⟩
theorem q_Tr_setCosts : MV m_Tr_setCosts 3 := ⟨⟨gw_of 471 (by decide +kernel) (by decide +kernel), gw_of 61 (by decide +kernel) (by decide +kernel), rfl, ⟨by decide +kernel, by decide +kernel, by decide +kernel⟩, by decide +kernel⟩, gw_of 470 (by decide +kernel) (by decide +kernel), gw_of 9 (by decide +kernel) (by decide +kernel)⟩
theorem q_Tr_isOnWayTo : MV m_Tr_isOnWayTo 2 := ⟨⟨gw_of 475 (by decide +kernel) (by decide +kernel), gw_of 61 (by decide +kernel) (by decide +kernel), rfl, ⟨by decide +kernel, by decide +kernel, by decide +kernel⟩, by decide +kernel⟩, gw_of 474 (by decide +kernel) (by decide +kernel), gw_of 10 (by decide +kernel) (by decide +kernel)⟩
theorem q_Tr_cheapestChild : MV m_Tr_cheapestChild 1 := ⟨⟨gw_of 504 (by decide +kernel) (by decide +kernel), gw_of 61 (by decide +kernel) (by decide +kernel), rfl, ⟨by decide +kernel, by decide +kernel, by decide +kernel⟩, by decide +kernel⟩, gw_of 502 (by decide +kernel) (by decide +kernel), gw_of 503 (by decide +kernel) (by decide +kernel)⟩
theorem q_Tr_leafOnWay : MV m_Tr_leafOnWay 0 := ⟨⟨gw_of 496 (by decide +kernel) (by decide +kernel), gw_of 61 (by decide +kernel) (by decide +kernel), rfl, ⟨by decide +kernel, by decide +kernel, by decide +kernel⟩, by decide +kernel⟩, gw_of 495 (by decide +kernel) (by decide +kernel), gw_of 11 (by decide +kernel) (by decide +kernel)⟩
theorem q_Tr_nodeOnWay : MV m_Tr_nodeOnWay 1 := ⟨⟨gw_of 622 (by decide +kernel) (by decide +kernel), gw_of 61 (by decide +kernel) (by decide +kernel), rfl, ⟨by decide +kernel, by decide +kernel, by decide +kernel⟩, by decide +kernel⟩, gw_of 620 (by decide +kernel) (by decide +kernel), gw_of 621 (by decide +kernel) (by decide +kernel)⟩
theorem q_Tr_canGrow : MV m_Tr_canGrow 0 := ⟨⟨gw_of 487 (by decide +kernel) (by decide +kernel), gw_of 61 (by decide +kernel) (by decide +kernel), rfl, ⟨by decide +kernel, by decide +kernel, by decide +kernel⟩, by decide +kernel⟩, gw_of 485 (by decide +kernel) (by decide +kernel), gw_of 486 (by decide +kernel) (by decide +kernel)⟩
theorem q_Tr_grow : MV m_Tr_grow 0 := ⟨⟨gw_of 516 (by decide +kernel) (by decide +kernel), gw_of 61 (by decide +kernel) (by decide +kernel), rfl, ⟨by decide +kernel, by decide +kernel, by decide +kernel⟩, by decide +kernel⟩, gw_of 514 (by decide +kernel) (by decide +kernel), gw_of 515 (by decide +kernel) (by decide +kernel)⟩
theorem q_Tr_workOutFrom : MV m_Tr_workOutFrom 1 := ⟨⟨gw_of 521 (by decide +kernel) (by decide +kernel), gw_of 61 (by decide +kernel) (by decide +kernel), rfl, ⟨by decide +kernel, by decide +kernel, by decide +kernel⟩, by decide +kernel⟩, gw_of 520 (by decide +kernel) (by decide +kernel), gw_of 12 (by decide +kernel) (by decide +kernel)⟩
theorem q_Tr_workOut : MV m_Tr_workOut 1 := ⟨⟨gw_of 525 (by decide +kernel) (by decide +kernel), gw_of 61 (by decide +kernel) (by decide +kernel), rfl, ⟨by decide +kernel, by decide +kernel, by decide +kernel⟩, by decide +kernel⟩, gw_of 524 (by decide +kernel) (by decide +kernel), gw_of 13 (by decide +kernel) (by decide +kernel)⟩
theorem q_Tr_leastOfChildren : MV m_Tr_leastOfChildren 2 := ⟨⟨gw_of 529 (by decide +kernel) (by decide +kernel), gw_of 61 (by decide +kernel) (by decide +kernel), rfl, ⟨by decide +kernel, by decide +kernel, by decide +kernel⟩, by decide +kernel⟩, gw_of 528 (by decide +kernel) (by decide +kernel), gw_of 14 (by decide +kernel) (by decide +kernel)⟩
theorem q_Tr_sumOfChildren : MV m_Tr_sumOfChildren 2 := ⟨⟨gw_of 534 (by decide +kernel) (by decide +kernel), gw_of 61 (by decide +kernel) (by decide +kernel), rfl, ⟨by decide +kernel, by decide +kernel, by decide +kernel⟩, by decide +kernel⟩, gw_of 533 (by decide +kernel) (by decide +kernel), gw_of 15 (by decide +kernel) (by decide +kernel)⟩
theorem q_Tr_loopCount : MV m_Tr_loopCount 0 := ⟨⟨gw_of 665 (by decide +kernel) (by decide +kernel), gw_of 61 (by decide +kernel) (by decide +kernel), rfl, ⟨by decide +kernel, by decide +kernel, by decide +kernel⟩, by decide +kernel⟩, gw_of 663 (by decide +kernel) (by decide +kernel), gw_of 664 (by decide +kernel) (by decide +kernel)⟩
theorem q_Tr_openedCount : MV m_Tr_openedCount 0 := ⟨⟨gw_of 669 (by decide +kernel) (by decide +kernel), gw_of 61 (by decide +kernel) (by decide +kernel), rfl, ⟨by decide +kernel, by decide +kernel, by decide +kernel⟩, by decide +kernel⟩, gw_of 667 (by decide +kernel) (by decide +kernel), gw_of 668 (by decide +kernel) (by decide +kernel)⟩
theorem q_Tr_greatestDepth : MV m_Tr_greatestDepth 0 := ⟨⟨gw_of 673 (by decide +kernel) (by decide +kernel), gw_of 61 (by decide +kernel) (by decide +kernel), rfl, ⟨by decide +kernel, by decide +kernel, by decide +kernel⟩, by decide +kernel⟩, gw_of 671 (by decide +kernel) (by decide +kernel), gw_of 672 (by decide +kernel) (by decide +kernel)⟩
theorem q_Cp_init : MI m_Cp_init 0 := ⟨⟨gw_of 73 (by decide +kernel) (by decide +kernel), gw_of 56 (by decide +kernel) (by decide +kernel), rfl, ⟨by decide +kernel, by decide +kernel, by decide +kernel⟩, by decide +kernel⟩, gw_of 72 (by decide +kernel) (by decide +kernel), by decide +kernel⟩
theorem q_Cp_setPosition : MV m_Cp_setPosition 3 := ⟨⟨gw_of 306 (by decide +kernel) (by decide +kernel), gw_of 56 (by decide +kernel) (by decide +kernel), rfl, ⟨by decide +kernel, by decide +kernel, by decide +kernel⟩, by decide +kernel⟩, gw_of 304 (by decide +kernel) (by decide +kernel), gw_of 305 (by decide +kernel) (by decide +kernel)⟩
theorem q_Cp_guess : MV m_Cp_guess 3 := ⟨⟨gw_of 367 (by decide +kernel) (by decide +kernel), gw_of 56 (by decide +kernel) (by decide +kernel), rfl, ⟨by decide +kernel, by decide +kernel, by decide +kernel⟩, by decide +kernel⟩, gw_of 365 (by decide +kernel) (by decide +kernel), gw_of 366 (by decide +kernel) (by decide +kernel)⟩
theorem q_Cp_addMove : MV m_Cp_addMove 2 := ⟨⟨gw_of 374 (by decide +kernel) (by decide +kernel), gw_of 56 (by decide +kernel) (by decide +kernel), rfl, ⟨by decide +kernel, by decide +kernel, by decide +kernel⟩, by decide +kernel⟩, gw_of 372 (by decide +kernel) (by decide +kernel), gw_of 373 (by decide +kernel) (by decide +kernel)⟩
theorem q_Cp_removeMove : MV m_Cp_removeMove 2 := ⟨⟨gw_of 392 (by decide +kernel) (by decide +kernel), gw_of 56 (by decide +kernel) (by decide +kernel), rfl, ⟨by decide +kernel, by decide +kernel, by decide +kernel⟩, by decide +kernel⟩, gw_of 390 (by decide +kernel) (by decide +kernel), gw_of 391 (by decide +kernel) (by decide +kernel)⟩
theorem q_Cp_readGame : MV m_Cp_readGame 0 := ⟨⟨gw_of 400 (by decide +kernel) (by decide +kernel), gw_of 56 (by decide +kernel) (by decide +kernel), rfl, ⟨by decide +kernel, by decide +kernel, by decide +kernel⟩, by decide +kernel⟩, gw_of 398 (by decide +kernel) (by decide +kernel), gw_of 399 (by decide +kernel) (by decide +kernel)⟩
theorem q_Cp_begin : MV m_Cp_begin 1 := ⟨⟨gw_of 440 (by decide +kernel) (by decide +kernel), gw_of 56 (by decide +kernel) (by decide +kernel), rfl, ⟨by decide +kernel, by decide +kernel, by decide +kernel⟩, by decide +kernel⟩, gw_of 438 (by decide +kernel) (by decide +kernel), gw_of 439 (by decide +kernel) (by decide +kernel)⟩
theorem q_Cp_open : MV m_Cp_open 1 := ⟨⟨gw_of 479 (by decide +kernel) (by decide +kernel), gw_of 56 (by decide +kernel) (by decide +kernel), rfl, ⟨by decide +kernel, by decide +kernel, by decide +kernel⟩, by decide +kernel⟩, gw_of 477 (by decide +kernel) (by decide +kernel), gw_of 478 (by decide +kernel) (by decide +kernel)⟩
theorem q_Cp_type : MV m_Cp_type 1 := ⟨⟨gw_of 538 (by decide +kernel) (by decide +kernel), gw_of 56 (by decide +kernel) (by decide +kernel), rfl, ⟨by decide +kernel, by decide +kernel, by decide +kernel⟩, by decide +kernel⟩, gw_of 536 (by decide +kernel) (by decide +kernel), gw_of 537 (by decide +kernel) (by decide +kernel)⟩
theorem q_Cp_clearText : MV m_Cp_clearText 0 := ⟨⟨gw_of 550 (by decide +kernel) (by decide +kernel), gw_of 56 (by decide +kernel) (by decide +kernel), rfl, ⟨by decide +kernel, by decide +kernel, by decide +kernel⟩, by decide +kernel⟩, gw_of 548 (by decide +kernel) (by decide +kernel), gw_of 549 (by decide +kernel) (by decide +kernel)⟩
theorem q_Cp_undo : MV m_Cp_undo 0 := ⟨⟨gw_of 558 (by decide +kernel) (by decide +kernel), gw_of 56 (by decide +kernel) (by decide +kernel), rfl, ⟨by decide +kernel, by decide +kernel, by decide +kernel⟩, by decide +kernel⟩, gw_of 556 (by decide +kernel) (by decide +kernel), gw_of 557 (by decide +kernel) (by decide +kernel)⟩
theorem q_Cp_keep : MV m_Cp_keep 0 := ⟨⟨gw_of 566 (by decide +kernel) (by decide +kernel), gw_of 56 (by decide +kernel) (by decide +kernel), rfl, ⟨by decide +kernel, by decide +kernel, by decide +kernel⟩, by decide +kernel⟩, gw_of 564 (by decide +kernel) (by decide +kernel), gw_of 565 (by decide +kernel) (by decide +kernel)⟩
theorem q_Cp_restore : MV m_Cp_restore 0 := ⟨⟨gw_of 571 (by decide +kernel) (by decide +kernel), gw_of 56 (by decide +kernel) (by decide +kernel), rfl, ⟨by decide +kernel, by decide +kernel, by decide +kernel⟩, by decide +kernel⟩, gw_of 569 (by decide +kernel) (by decide +kernel), gw_of 570 (by decide +kernel) (by decide +kernel)⟩
theorem q_Cp_position : MV m_Cp_position 2 := ⟨⟨gw_of 575 (by decide +kernel) (by decide +kernel), gw_of 56 (by decide +kernel) (by decide +kernel), rfl, ⟨by decide +kernel, by decide +kernel, by decide +kernel⟩, by decide +kernel⟩, gw_of 573 (by decide +kernel) (by decide +kernel), gw_of 574 (by decide +kernel) (by decide +kernel)⟩
theorem q_Cp_move : MV m_Cp_move 2 := ⟨⟨gw_of 608 (by decide +kernel) (by decide +kernel), gw_of 56 (by decide +kernel) (by decide +kernel), rfl, ⟨by decide +kernel, by decide +kernel, by decide +kernel⟩, by decide +kernel⟩, gw_of 606 (by decide +kernel) (by decide +kernel), gw_of 607 (by decide +kernel) (by decide +kernel)⟩
theorem q_Cp_node : MV m_Cp_node 2 := ⟨⟨gw_of 613 (by decide +kernel) (by decide +kernel), gw_of 56 (by decide +kernel) (by decide +kernel), rfl, ⟨by decide +kernel, by decide +kernel, by decide +kernel⟩, by decide +kernel⟩, gw_of 611 (by decide +kernel) (by decide +kernel), gw_of 612 (by decide +kernel) (by decide +kernel)⟩
theorem q_Cp_way : MV m_Cp_way 1 := ⟨⟨gw_of 618 (by decide +kernel) (by decide +kernel), gw_of 56 (by decide +kernel) (by decide +kernel), rfl, ⟨by decide +kernel, by decide +kernel, by decide +kernel⟩, by decide +kernel⟩, gw_of 616 (by decide +kernel) (by decide +kernel), gw_of 617 (by decide +kernel) (by decide +kernel)⟩
theorem q_Cp_playOut : MV m_Cp_playOut 2 := ⟨⟨gw_of 626 (by decide +kernel) (by decide +kernel), gw_of 56 (by decide +kernel) (by decide +kernel), rfl, ⟨by decide +kernel, by decide +kernel, by decide +kernel⟩, by decide +kernel⟩, gw_of 624 (by decide +kernel) (by decide +kernel), gw_of 625 (by decide +kernel) (by decide +kernel)⟩
theorem q_Cp_proofSize : MV m_Cp_proofSize 0 := ⟨⟨gw_of 642 (by decide +kernel) (by decide +kernel), gw_of 56 (by decide +kernel) (by decide +kernel), rfl, ⟨by decide +kernel, by decide +kernel, by decide +kernel⟩, by decide +kernel⟩, gw_of 640 (by decide +kernel) (by decide +kernel), gw_of 641 (by decide +kernel) (by decide +kernel)⟩
theorem q_Cp_count : MV m_Cp_count 1 := ⟨⟨gw_of 658 (by decide +kernel) (by decide +kernel), gw_of 56 (by decide +kernel) (by decide +kernel), rfl, ⟨by decide +kernel, by decide +kernel, by decide +kernel⟩, by decide +kernel⟩, gw_of 656 (by decide +kernel) (by decide +kernel), gw_of 657 (by decide +kernel) (by decide +kernel)⟩
theorem q_Cp_tellTree : MS m_Cp_tellTree 2 := ⟨⟨gw_of 661 (by decide +kernel) (by decide +kernel), gw_of 56 (by decide +kernel) (by decide +kernel), rfl, ⟨by decide +kernel, by decide +kernel, by decide +kernel⟩, by decide +kernel⟩, gw_of 660 (by decide +kernel) (by decide +kernel)⟩
theorem q_Cp_isPosition : MS m_Cp_isPosition 1 := ⟨⟨gw_of 309 (by decide +kernel) (by decide +kernel), gw_of 56 (by decide +kernel) (by decide +kernel), rfl, ⟨by decide +kernel, by decide +kernel, by decide +kernel⟩, by decide +kernel⟩, gw_of 308 (by decide +kernel) (by decide +kernel)⟩
theorem q_Cp_isGuess : MS m_Cp_isGuess 1 := ⟨⟨gw_of 370 (by decide +kernel) (by decide +kernel), gw_of 56 (by decide +kernel) (by decide +kernel), rfl, ⟨by decide +kernel, by decide +kernel, by decide +kernel⟩, by decide +kernel⟩, gw_of 369 (by decide +kernel) (by decide +kernel)⟩
theorem q_Md_init : MI m_Md_init 0 := ⟨⟨gw_of 683 (by decide +kernel) (by decide +kernel), gw_of 67 (by decide +kernel) (by decide +kernel), rfl, ⟨by decide +kernel, by decide +kernel, by decide +kernel⟩, by decide +kernel⟩, gw_of 682 (by decide +kernel) (by decide +kernel), by decide +kernel⟩
theorem q_Md_in : MS m_Md_in 3 := ⟨⟨gw_of 738 (by decide +kernel) (by decide +kernel), gw_of 67 (by decide +kernel) (by decide +kernel), rfl, ⟨by decide +kernel, by decide +kernel, by decide +kernel⟩, by decide +kernel⟩, gw_of 737 (by decide +kernel) (by decide +kernel)⟩
theorem q_Md_isPosition : MS m_Md_isPosition 1 := ⟨⟨gw_of 735 (by decide +kernel) (by decide +kernel), gw_of 67 (by decide +kernel) (by decide +kernel), rfl, ⟨by decide +kernel, by decide +kernel, by decide +kernel⟩, by decide +kernel⟩, gw_of 734 (by decide +kernel) (by decide +kernel)⟩
theorem q_Md_of : MV m_Md_of 2 := ⟨⟨gw_of 742 (by decide +kernel) (by decide +kernel), gw_of 67 (by decide +kernel) (by decide +kernel), rfl, ⟨by decide +kernel, by decide +kernel, by decide +kernel⟩, by decide +kernel⟩, gw_of 741 (by decide +kernel) (by decide +kernel), gw_of 19 (by decide +kernel) (by decide +kernel)⟩
theorem q_Md_get : MV m_Md_get 2 := ⟨⟨gw_of 794 (by decide +kernel) (by decide +kernel), gw_of 67 (by decide +kernel) (by decide +kernel), rfl, ⟨by decide +kernel, by decide +kernel, by decide +kernel⟩, by decide +kernel⟩, gw_of 793 (by decide +kernel) (by decide +kernel), gw_of 28 (by decide +kernel) (by decide +kernel)⟩
theorem q_Md_lay : MV m_Md_lay 3 := ⟨⟨gw_of 798 (by decide +kernel) (by decide +kernel), gw_of 67 (by decide +kernel) (by decide +kernel), rfl, ⟨by decide +kernel, by decide +kernel, by decide +kernel⟩, by decide +kernel⟩, gw_of 797 (by decide +kernel) (by decide +kernel), gw_of 29 (by decide +kernel) (by decide +kernel)⟩
theorem q_Md_records : MV m_Md_records 0 := ⟨⟨gw_of 746 (by decide +kernel) (by decide +kernel), gw_of 67 (by decide +kernel) (by decide +kernel), rfl, ⟨by decide +kernel, by decide +kernel, by decide +kernel⟩, by decide +kernel⟩, gw_of 745 (by decide +kernel) (by decide +kernel), gw_of 20 (by decide +kernel) (by decide +kernel)⟩
theorem q_Md_movesOf : MV m_Md_movesOf 1 := ⟨⟨gw_of 770 (by decide +kernel) (by decide +kernel), gw_of 67 (by decide +kernel) (by decide +kernel), rfl, ⟨by decide +kernel, by decide +kernel, by decide +kernel⟩, by decide +kernel⟩, gw_of 769 (by decide +kernel) (by decide +kernel), gw_of 24 (by decide +kernel) (by decide +kernel)⟩
theorem q_Md_moveAt : MV m_Md_moveAt 2 := ⟨⟨gw_of 834 (by decide +kernel) (by decide +kernel), gw_of 67 (by decide +kernel) (by decide +kernel), rfl, ⟨by decide +kernel, by decide +kernel, by decide +kernel⟩, by decide +kernel⟩, gw_of 833 (by decide +kernel) (by decide +kernel), gw_of 37 (by decide +kernel) (by decide +kernel)⟩
theorem q_Md_placeOf : MV m_Md_placeOf 2 := ⟨⟨gw_of 762 (by decide +kernel) (by decide +kernel), gw_of 67 (by decide +kernel) (by decide +kernel), rfl, ⟨by decide +kernel, by decide +kernel, by decide +kernel⟩, by decide +kernel⟩, gw_of 761 (by decide +kernel) (by decide +kernel), gw_of 22 (by decide +kernel) (by decide +kernel)⟩
theorem q_Md_isEnd : MV m_Md_isEnd 1 := ⟨⟨gw_of 786 (by decide +kernel) (by decide +kernel), gw_of 67 (by decide +kernel) (by decide +kernel), rfl, ⟨by decide +kernel, by decide +kernel, by decide +kernel⟩, by decide +kernel⟩, gw_of 785 (by decide +kernel) (by decide +kernel), gw_of 26 (by decide +kernel) (by decide +kernel)⟩
theorem q_Md_noTree : MV m_Md_noTree 0 := ⟨⟨gw_of 750 (by decide +kernel) (by decide +kernel), gw_of 67 (by decide +kernel) (by decide +kernel), rfl, ⟨by decide +kernel, by decide +kernel, by decide +kernel⟩, by decide +kernel⟩, gw_of 749 (by decide +kernel) (by decide +kernel), gw_of 21 (by decide +kernel) (by decide +kernel)⟩
theorem q_Md_setPosition : MV m_Md_setPosition 3 := ⟨⟨gw_of 732 (by decide +kernel) (by decide +kernel), gw_of 67 (by decide +kernel) (by decide +kernel), rfl, ⟨by decide +kernel, by decide +kernel, by decide +kernel⟩, by decide +kernel⟩, gw_of 730 (by decide +kernel) (by decide +kernel), gw_of 731 (by decide +kernel) (by decide +kernel)⟩
theorem q_Md_guess : MV m_Md_guess 3 := ⟨⟨gw_of 754 (by decide +kernel) (by decide +kernel), gw_of 67 (by decide +kernel) (by decide +kernel), rfl, ⟨by decide +kernel, by decide +kernel, by decide +kernel⟩, by decide +kernel⟩, gw_of 752 (by decide +kernel) (by decide +kernel), gw_of 753 (by decide +kernel) (by decide +kernel)⟩
theorem q_Md_comes : MV m_Md_comes 2 := ⟨⟨gw_of 766 (by decide +kernel) (by decide +kernel), gw_of 67 (by decide +kernel) (by decide +kernel), rfl, ⟨by decide +kernel, by decide +kernel, by decide +kernel⟩, by decide +kernel⟩, gw_of 765 (by decide +kernel) (by decide +kernel), gw_of 23 (by decide +kernel) (by decide +kernel)⟩
theorem q_Md_addMove : MV m_Md_addMove 2 := ⟨⟨gw_of 758 (by decide +kernel) (by decide +kernel), gw_of 67 (by decide +kernel) (by decide +kernel), rfl, ⟨by decide +kernel, by decide +kernel, by decide +kernel⟩, by decide +kernel⟩, gw_of 756 (by decide +kernel) (by decide +kernel), gw_of 757 (by decide +kernel) (by decide +kernel)⟩
theorem q_Md_removeMove : MV m_Md_removeMove 2 := ⟨⟨gw_of 774 (by decide +kernel) (by decide +kernel), gw_of 67 (by decide +kernel) (by decide +kernel), rfl, ⟨by decide +kernel, by decide +kernel, by decide +kernel⟩, by decide +kernel⟩, gw_of 772 (by decide +kernel) (by decide +kernel), gw_of 773 (by decide +kernel) (by decide +kernel)⟩
theorem q_Md_isWonNow : MV m_Md_isWonNow 1 := ⟨⟨gw_of 906 (by decide +kernel) (by decide +kernel), gw_of 67 (by decide +kernel) (by decide +kernel), rfl, ⟨by decide +kernel, by decide +kernel, by decide +kernel⟩, by decide +kernel⟩, gw_of 905 (by decide +kernel) (by decide +kernel), gw_of 48 (by decide +kernel) (by decide +kernel)⟩
theorem q_Md_laysRounds : MV m_Md_laysRounds 0 := ⟨⟨gw_of 902 (by decide +kernel) (by decide +kernel), gw_of 67 (by decide +kernel) (by decide +kernel), rfl, ⟨by decide +kernel, by decide +kernel, by decide +kernel⟩, by decide +kernel⟩, gw_of 901 (by decide +kernel) (by decide +kernel), gw_of 47 (by decide +kernel) (by decide +kernel)⟩
theorem q_Md_wonMany : MV m_Md_wonMany 0 := ⟨⟨gw_of 942 (by decide +kernel) (by decide +kernel), gw_of 67 (by decide +kernel) (by decide +kernel), rfl, ⟨by decide +kernel, by decide +kernel, by decide +kernel⟩, by decide +kernel⟩, gw_of 941 (by decide +kernel) (by decide +kernel), gw_of 51 (by decide +kernel) (by decide +kernel)⟩
theorem q_Md_depthOf : MV m_Md_depthOf 1 := ⟨⟨gw_of 918 (by decide +kernel) (by decide +kernel), gw_of 67 (by decide +kernel) (by decide +kernel), rfl, ⟨by decide +kernel, by decide +kernel, by decide +kernel⟩, by decide +kernel⟩, gw_of 917 (by decide +kernel) (by decide +kernel), gw_of 49 (by decide +kernel) (by decide +kernel)⟩
theorem q_Md_isOnWay : MV m_Md_isOnWay 2 := ⟨⟨gw_of 790 (by decide +kernel) (by decide +kernel), gw_of 67 (by decide +kernel) (by decide +kernel), rfl, ⟨by decide +kernel, by decide +kernel, by decide +kernel⟩, by decide +kernel⟩, gw_of 789 (by decide +kernel) (by decide +kernel), gw_of 27 (by decide +kernel) (by decide +kernel)⟩
theorem q_Md_makes : MV m_Md_makes 2 := ⟨⟨gw_of 782 (by decide +kernel) (by decide +kernel), gw_of 67 (by decide +kernel) (by decide +kernel), rfl, ⟨by decide +kernel, by decide +kernel, by decide +kernel⟩, by decide +kernel⟩, gw_of 781 (by decide +kernel) (by decide +kernel), gw_of 25 (by decide +kernel) (by decide +kernel)⟩
theorem q_Md_isDecided : MV m_Md_isDecided 0 := ⟨⟨gw_of 810 (by decide +kernel) (by decide +kernel), gw_of 67 (by decide +kernel) (by decide +kernel), rfl, ⟨by decide +kernel, by decide +kernel, by decide +kernel⟩, by decide +kernel⟩, gw_of 809 (by decide +kernel) (by decide +kernel), gw_of 31 (by decide +kernel) (by decide +kernel)⟩
theorem q_Md_turnOf : MV m_Md_turnOf 1 := ⟨⟨gw_of 822 (by decide +kernel) (by decide +kernel), gw_of 67 (by decide +kernel) (by decide +kernel), rfl, ⟨by decide +kernel, by decide +kernel, by decide +kernel⟩, by decide +kernel⟩, gw_of 821 (by decide +kernel) (by decide +kernel), gw_of 34 (by decide +kernel) (by decide +kernel)⟩
theorem q_Md_cheapest : MV m_Md_cheapest 2 := ⟨⟨gw_of 826 (by decide +kernel) (by decide +kernel), gw_of 67 (by decide +kernel) (by decide +kernel), rfl, ⟨by decide +kernel, by decide +kernel, by decide +kernel⟩, by decide +kernel⟩, gw_of 825 (by decide +kernel) (by decide +kernel), gw_of 35 (by decide +kernel) (by decide +kernel)⟩
theorem q_Md_nextOf : MV m_Md_nextOf 1 := ⟨⟨gw_of 818 (by decide +kernel) (by decide +kernel), gw_of 67 (by decide +kernel) (by decide +kernel), rfl, ⟨by decide +kernel, by decide +kernel, by decide +kernel⟩, by decide +kernel⟩, gw_of 817 (by decide +kernel) (by decide +kernel), gw_of 33 (by decide +kernel) (by decide +kernel)⟩
theorem q_Md_sumOver : MV m_Md_sumOver 2 := ⟨⟨gw_of 842 (by decide +kernel) (by decide +kernel), gw_of 67 (by decide +kernel) (by decide +kernel), rfl, ⟨by decide +kernel, by decide +kernel, by decide +kernel⟩, by decide +kernel⟩, gw_of 841 (by decide +kernel) (by decide +kernel), gw_of 39 (by decide +kernel) (by decide +kernel)⟩
theorem q_Md_works : MV m_Md_works 1 := ⟨⟨gw_of 838 (by decide +kernel) (by decide +kernel), gw_of 67 (by decide +kernel) (by decide +kernel), rfl, ⟨by decide +kernel, by decide +kernel, by decide +kernel⟩, by decide +kernel⟩, gw_of 837 (by decide +kernel) (by decide +kernel), gw_of 38 (by decide +kernel) (by decide +kernel)⟩
theorem q_Md_leaf : MV m_Md_leaf 0 := ⟨⟨gw_of 814 (by decide +kernel) (by decide +kernel), gw_of 67 (by decide +kernel) (by decide +kernel), rfl, ⟨by decide +kernel, by decide +kernel, by decide +kernel⟩, by decide +kernel⟩, gw_of 813 (by decide +kernel) (by decide +kernel), gw_of 32 (by decide +kernel) (by decide +kernel)⟩
theorem q_Md_opens : MV m_Md_opens 0 := ⟨⟨gw_of 830 (by decide +kernel) (by decide +kernel), gw_of 67 (by decide +kernel) (by decide +kernel), rfl, ⟨by decide +kernel, by decide +kernel, by decide +kernel⟩, by decide +kernel⟩, gw_of 829 (by decide +kernel) (by decide +kernel), gw_of 36 (by decide +kernel) (by decide +kernel)⟩
theorem q_Md_begin : MV m_Md_begin 1 := ⟨⟨gw_of 778 (by decide +kernel) (by decide +kernel), gw_of 67 (by decide +kernel) (by decide +kernel), rfl, ⟨by decide +kernel, by decide +kernel, by decide +kernel⟩, by decide +kernel⟩, gw_of 776 (by decide +kernel) (by decide +kernel), gw_of 777 (by decide +kernel) (by decide +kernel)⟩
theorem q_Md_canOpen : MV m_Md_canOpen 0 := ⟨⟨gw_of 806 (by decide +kernel) (by decide +kernel), gw_of 67 (by decide +kernel) (by decide +kernel), rfl, ⟨by decide +kernel, by decide +kernel, by decide +kernel⟩, by decide +kernel⟩, gw_of 805 (by decide +kernel) (by decide +kernel), gw_of 30 (by decide +kernel) (by decide +kernel)⟩
theorem q_Md_open : MV m_Md_open 1 := ⟨⟨gw_of 802 (by decide +kernel) (by decide +kernel), gw_of 67 (by decide +kernel) (by decide +kernel), rfl, ⟨by decide +kernel, by decide +kernel, by decide +kernel⟩, by decide +kernel⟩, gw_of 800 (by decide +kernel) (by decide +kernel), gw_of 801 (by decide +kernel) (by decide +kernel)⟩
theorem q_Md_type : MV m_Md_type 1 := ⟨⟨gw_of 846 (by decide +kernel) (by decide +kernel), gw_of 67 (by decide +kernel) (by decide +kernel), rfl, ⟨by decide +kernel, by decide +kernel, by decide +kernel⟩, by decide +kernel⟩, gw_of 844 (by decide +kernel) (by decide +kernel), gw_of 845 (by decide +kernel) (by decide +kernel)⟩
theorem q_Md_clearText : MV m_Md_clearText 0 := ⟨⟨gw_of 850 (by decide +kernel) (by decide +kernel), gw_of 67 (by decide +kernel) (by decide +kernel), rfl, ⟨by decide +kernel, by decide +kernel, by decide +kernel⟩, by decide +kernel⟩, gw_of 848 (by decide +kernel) (by decide +kernel), gw_of 849 (by decide +kernel) (by decide +kernel)⟩
theorem q_Md_sign : MV m_Md_sign 0 := ⟨⟨gw_of 870 (by decide +kernel) (by decide +kernel), gw_of 67 (by decide +kernel) (by decide +kernel), rfl, ⟨by decide +kernel, by decide +kernel, by decide +kernel⟩, by decide +kernel⟩, gw_of 869 (by decide +kernel) (by decide +kernel), gw_of 43 (by decide +kernel) (by decide +kernel)⟩
theorem q_Md_readsPosition : MV m_Md_readsPosition 0 := ⟨⟨gw_of 866 (by decide +kernel) (by decide +kernel), gw_of 67 (by decide +kernel) (by decide +kernel), rfl, ⟨by decide +kernel, by decide +kernel, by decide +kernel⟩, by decide +kernel⟩, gw_of 865 (by decide +kernel) (by decide +kernel), gw_of 42 (by decide +kernel) (by decide +kernel)⟩
theorem q_Md_tells : MV m_Md_tells 3 := ⟨⟨gw_of 874 (by decide +kernel) (by decide +kernel), gw_of 67 (by decide +kernel) (by decide +kernel), rfl, ⟨by decide +kernel, by decide +kernel, by decide +kernel⟩, by decide +kernel⟩, gw_of 873 (by decide +kernel) (by decide +kernel), gw_of 44 (by decide +kernel) (by decide +kernel)⟩
theorem q_Md_readsEntry : MV m_Md_readsEntry 0 := ⟨⟨gw_of 862 (by decide +kernel) (by decide +kernel), gw_of 67 (by decide +kernel) (by decide +kernel), rfl, ⟨by decide +kernel, by decide +kernel, by decide +kernel⟩, by decide +kernel⟩, gw_of 861 (by decide +kernel) (by decide +kernel), gw_of 41 (by decide +kernel) (by decide +kernel)⟩
theorem q_Md_reads : MV m_Md_reads 0 := ⟨⟨gw_of 858 (by decide +kernel) (by decide +kernel), gw_of 67 (by decide +kernel) (by decide +kernel), rfl, ⟨by decide +kernel, by decide +kernel, by decide +kernel⟩, by decide +kernel⟩, gw_of 857 (by decide +kernel) (by decide +kernel), gw_of 40 (by decide +kernel) (by decide +kernel)⟩
theorem q_Md_movesTold : MV m_Md_movesTold 0 := ⟨⟨gw_of 878 (by decide +kernel) (by decide +kernel), gw_of 67 (by decide +kernel) (by decide +kernel), rfl, ⟨by decide +kernel, by decide +kernel, by decide +kernel⟩, by decide +kernel⟩, gw_of 877 (by decide +kernel) (by decide +kernel), gw_of 45 (by decide +kernel) (by decide +kernel)⟩
theorem q_Md_does : MV m_Md_does 3 := ⟨⟨gw_of 882 (by decide +kernel) (by decide +kernel), gw_of 67 (by decide +kernel) (by decide +kernel), rfl, ⟨by decide +kernel, by decide +kernel, by decide +kernel⟩, by decide +kernel⟩, gw_of 881 (by decide +kernel) (by decide +kernel), gw_of 46 (by decide +kernel) (by decide +kernel)⟩
theorem q_Md_readGame : MV m_Md_readGame 0 := ⟨⟨gw_of 854 (by decide +kernel) (by decide +kernel), gw_of 67 (by decide +kernel) (by decide +kernel), rfl, ⟨by decide +kernel, by decide +kernel, by decide +kernel⟩, by decide +kernel⟩, gw_of 852 (by decide +kernel) (by decide +kernel), gw_of 853 (by decide +kernel) (by decide +kernel)⟩
theorem q_Md_undo : MV m_Md_undo 0 := ⟨⟨gw_of 886 (by decide +kernel) (by decide +kernel), gw_of 67 (by decide +kernel) (by decide +kernel), rfl, ⟨by decide +kernel, by decide +kernel, by decide +kernel⟩, by decide +kernel⟩, gw_of 884 (by decide +kernel) (by decide +kernel), gw_of 885 (by decide +kernel) (by decide +kernel)⟩
theorem q_Md_keep : MV m_Md_keep 0 := ⟨⟨gw_of 890 (by decide +kernel) (by decide +kernel), gw_of 67 (by decide +kernel) (by decide +kernel), rfl, ⟨by decide +kernel, by decide +kernel, by decide +kernel⟩, by decide +kernel⟩, gw_of 888 (by decide +kernel) (by decide +kernel), gw_of 889 (by decide +kernel) (by decide +kernel)⟩
theorem q_Md_restore : MV m_Md_restore 0 := ⟨⟨gw_of 894 (by decide +kernel) (by decide +kernel), gw_of 67 (by decide +kernel) (by decide +kernel), rfl, ⟨by decide +kernel, by decide +kernel, by decide +kernel⟩, by decide +kernel⟩, gw_of 892 (by decide +kernel) (by decide +kernel), gw_of 893 (by decide +kernel) (by decide +kernel)⟩
theorem q_Md_position : MV m_Md_position 2 := ⟨⟨gw_of 898 (by decide +kernel) (by decide +kernel), gw_of 67 (by decide +kernel) (by decide +kernel), rfl, ⟨by decide +kernel, by decide +kernel, by decide +kernel⟩, by decide +kernel⟩, gw_of 896 (by decide +kernel) (by decide +kernel), gw_of 897 (by decide +kernel) (by decide +kernel)⟩
theorem q_Md_move : MV m_Md_move 2 := ⟨⟨gw_of 910 (by decide +kernel) (by decide +kernel), gw_of 67 (by decide +kernel) (by decide +kernel), rfl, ⟨by decide +kernel, by decide +kernel, by decide +kernel⟩, by decide +kernel⟩, gw_of 908 (by decide +kernel) (by decide +kernel), gw_of 909 (by decide +kernel) (by decide +kernel)⟩
theorem q_Md_node : MV m_Md_node 2 := ⟨⟨gw_of 914 (by decide +kernel) (by decide +kernel), gw_of 67 (by decide +kernel) (by decide +kernel), rfl, ⟨by decide +kernel, by decide +kernel, by decide +kernel⟩, by decide +kernel⟩, gw_of 912 (by decide +kernel) (by decide +kernel), gw_of 913 (by decide +kernel) (by decide +kernel)⟩
theorem q_Md_way : MV m_Md_way 1 := ⟨⟨gw_of 922 (by decide +kernel) (by decide +kernel), gw_of 67 (by decide +kernel) (by decide +kernel), rfl, ⟨by decide +kernel, by decide +kernel, by decide +kernel⟩, by decide +kernel⟩, gw_of 920 (by decide +kernel) (by decide +kernel), gw_of 921 (by decide +kernel) (by decide +kernel)⟩
theorem q_Md_owner : MV m_Md_owner 0 := ⟨⟨gw_of 930 (by decide +kernel) (by decide +kernel), gw_of 67 (by decide +kernel) (by decide +kernel), rfl, ⟨by decide +kernel, by decide +kernel, by decide +kernel⟩, by decide +kernel⟩, gw_of 929 (by decide +kernel) (by decide +kernel), gw_of 50 (by decide +kernel) (by decide +kernel)⟩
theorem q_Md_playOut : MV m_Md_playOut 2 := ⟨⟨gw_of 926 (by decide +kernel) (by decide +kernel), gw_of 67 (by decide +kernel) (by decide +kernel), rfl, ⟨by decide +kernel, by decide +kernel, by decide +kernel⟩, by decide +kernel⟩, gw_of 924 (by decide +kernel) (by decide +kernel), gw_of 925 (by decide +kernel) (by decide +kernel)⟩
theorem q_Md_proofSize : MV m_Md_proofSize 0 := ⟨⟨gw_of 934 (by decide +kernel) (by decide +kernel), gw_of 67 (by decide +kernel) (by decide +kernel), rfl, ⟨by decide +kernel, by decide +kernel, by decide +kernel⟩, by decide +kernel⟩, gw_of 932 (by decide +kernel) (by decide +kernel), gw_of 933 (by decide +kernel) (by decide +kernel)⟩
theorem q_Md_loops : MV m_Md_loops 0 := ⟨⟨gw_of 950 (by decide +kernel) (by decide +kernel), gw_of 67 (by decide +kernel) (by decide +kernel), rfl, ⟨by decide +kernel, by decide +kernel, by decide +kernel⟩, by decide +kernel⟩, gw_of 949 (by decide +kernel) (by decide +kernel), gw_of 53 (by decide +kernel) (by decide +kernel)⟩
theorem q_Md_deepest : MV m_Md_deepest 0 := ⟨⟨gw_of 954 (by decide +kernel) (by decide +kernel), gw_of 67 (by decide +kernel) (by decide +kernel), rfl, ⟨by decide +kernel, by decide +kernel, by decide +kernel⟩, by decide +kernel⟩, gw_of 953 (by decide +kernel) (by decide +kernel), gw_of 54 (by decide +kernel) (by decide +kernel)⟩
theorem q_Md_ofTree : MV m_Md_ofTree 1 := ⟨⟨gw_of 946 (by decide +kernel) (by decide +kernel), gw_of 67 (by decide +kernel) (by decide +kernel), rfl, ⟨by decide +kernel, by decide +kernel, by decide +kernel⟩, by decide +kernel⟩, gw_of 945 (by decide +kernel) (by decide +kernel), gw_of 52 (by decide +kernel) (by decide +kernel)⟩
theorem q_Md_count : MV m_Md_count 1 := ⟨⟨gw_of 938 (by decide +kernel) (by decide +kernel), gw_of 67 (by decide +kernel) (by decide +kernel), rfl, ⟨by decide +kernel, by decide +kernel, by decide +kernel⟩, by decide +kernel⟩, gw_of 936 (by decide +kernel) (by decide +kernel), gw_of 937 (by decide +kernel) (by decide +kernel)⟩
theorem k_Lw_9 : Cond.methodLink RL 9 m_Cp_init.2.1 ∈ gw := gw_of 71 (by decide +kernel) (by decide +kernel)
theorem k_Cp_1 : Cond.methodLink RX9 1 objectInit ∈ gw := gw_of 74 (by decide +kernel) (by decide +kernel)
theorem k_Cp_9 : Cond.methodLink RX9 9 m_St_init.2.1 ∈ gw := gw_of 79 (by decide +kernel) (by decide +kernel)
theorem k_St_1 : Cond.methodLink RX6 1 objectInit ∈ gw := gw_of 82 (by decide +kernel) (by decide +kernel)
theorem k_St_9 : Cond.methodLink RX6 9 m_Gm_init.2.1 ∈ gw := gw_of 85 (by decide +kernel) (by decide +kernel)
theorem k_Gm_3 : Cond.methodLink RX0 3 objectInit ∈ gw := gw_of 88 (by decide +kernel) (by decide +kernel)
theorem k_Gm_11 : Cond.methodLink RX0 11 m_Rw_init.2.1 ∈ gw := gw_of 91 (by decide +kernel) (by decide +kernel)
theorem k_Rw_1 : Cond.methodLink RX5 1 objectInit ∈ gw := gw_of 94 (by decide +kernel) (by decide +kernel)
theorem k_Rw_7 : Cond.methodLink RX5 7 Lib.Math.max.name ∈ gw := gw_of 95 (by decide +kernel) (by decide +kernel)
theorem k_Gm_35 : Cond.methodLink RX0 35 m_Rw_fill.2.1 ∈ gw := gw_of 103 (by decide +kernel) (by decide +kernel)
theorem k_St_18 : Cond.methodLink RX6 18 m_Tr_init.2.1 ∈ gw := gw_of 145 (by decide +kernel) (by decide +kernel)
theorem k_Tr_3 : Cond.methodLink RX8 3 objectInit ∈ gw := gw_of 148 (by decide +kernel) (by decide +kernel)
theorem k_Tr_11 : Cond.methodLink RX8 11 m_Rw_init.2.1 ∈ gw := gw_of 150 (by decide +kernel) (by decide +kernel)
theorem k_Cp_25 : Cond.methodLink RX9 25 m_Hi_init.2.1 ∈ gw := gw_of 205 (by decide +kernel) (by decide +kernel)
theorem k_Hi_3 : Cond.methodLink RX1 3 objectInit ∈ gw := gw_of 208 (by decide +kernel) (by decide +kernel)
theorem k_Hi_17 : Cond.methodLink RX1 17 m_St_init.2.1 ∈ gw := gw_of 211 (by decide +kernel) (by decide +kernel)
theorem k_Cp_32 : Cond.methodLinkNest RX9 32 m_Tx_init.2.1 "CheapProofs" ∈ nw := nw_of 222 (by decide +kernel) (by decide +kernel)
theorem k_Tx_3 : Cond.methodLink RX7 3 objectInit ∈ gw := gw_of 225 (by decide +kernel) (by decide +kernel)
theorem k_Cp_39 : Cond.methodLink RX9 39 m_Rd_init.2.1 ∈ gw := gw_of 237 (by decide +kernel) (by decide +kernel)
theorem k_Rd_3 : Cond.methodLink RX3 3 objectInit ∈ gw := gw_of 240 (by decide +kernel) (by decide +kernel)
theorem k_Rd_11 : Cond.methodLink RX3 11 m_Gm_init.2.1 ∈ gw := gw_of 242 (by decide +kernel) (by decide +kernel)
theorem k_Cp_48 : Cond.methodLinkNest RX9 48 m_Ro_init.2.1 "CheapProofs" ∈ nw := nw_of 256 (by decide +kernel) (by decide +kernel)
theorem k_Ro_3 : Cond.methodLink RX4 3 objectInit ∈ gw := gw_of 259 (by decide +kernel) (by decide +kernel)
theorem k_Ro_11 : Cond.methodLink RX4 11 m_Rw_init.2.1 ∈ gw := gw_of 261 (by decide +kernel) (by decide +kernel)
theorem k_Cp_55 : Cond.methodLinkNest RX9 55 m_Pf_init.2.1 "CheapProofs" ∈ nw := nw_of 268 (by decide +kernel) (by decide +kernel)
theorem k_Pf_3 : Cond.methodLink RX2 3 objectInit ∈ gw := gw_of 271 (by decide +kernel) (by decide +kernel)
theorem k_Pf_11 : Cond.methodLink RX2 11 m_Rw_init.2.1 ∈ gw := gw_of 273 (by decide +kernel) (by decide +kernel)
theorem k_Lw_13 : Cond.methodLink RL 13 m_Cp_setPosition.2.1 ∈ gw := gw_of 303 (by decide +kernel) (by decide +kernel)
theorem k_Cp_60 : Cond.methodLink RX9 60 m_Cp_isPosition.2.1 ∈ gw := gw_of 307 (by decide +kernel) (by decide +kernel)
theorem k_Cp_74 : Cond.methodLink RX9 74 m_Rw_get.2.1 ∈ gw := gw_of 310 (by decide +kernel) (by decide +kernel)
theorem k_Cp_83 : Cond.methodLink RX9 83 m_Hi_remember.2.1 ∈ gw := gw_of 314 (by decide +kernel) (by decide +kernel)
theorem k_Hi_22 : Cond.methodLink RX1 22 m_Hi_dropOldest.2.1 ∈ gw := gw_of 318 (by decide +kernel) (by decide +kernel)
theorem k_Hi_25 : Cond.methodLink RX1 25 m_Hi_stateAt.2.1 ∈ gw := gw_of 322 (by decide +kernel) (by decide +kernel)
theorem k_Hi_29 : Cond.methodLink RX1 29 m_Hi_copy.2.1 ∈ gw := gw_of 326 (by decide +kernel) (by decide +kernel)
theorem k_Hi_33 : Cond.methodLink RX1 33 m_St_copyFrom.2.1 ∈ gw := gw_of 329 (by decide +kernel) (by decide +kernel)
theorem k_St_25 : Cond.methodLink RX6 25 m_Gm_copyFrom.2.1 ∈ gw := gw_of 333 (by decide +kernel) (by decide +kernel)
theorem k_Gm_38 : Cond.methodLink RX0 38 m_Gm_copyAllButGuesses.2.1 ∈ gw := gw_of 337 (by decide +kernel) (by decide +kernel)
theorem k_Gm_42 : Cond.methodLink RX0 42 m_Rw_copyFrom.2.1 ∈ gw := gw_of 341 (by decide +kernel) (by decide +kernel)
theorem k_Rw_19 : Cond.methodLink RX5 19 Lib.Math.min.name ∈ gw := gw_of 345 (by decide +kernel) (by decide +kernel)
theorem k_Rw_22 : Cond.methodLink RX5 22 arraycopyName ∈ gw := gw_of 348 (by decide +kernel) (by decide +kernel)
theorem k_St_28 : Cond.methodLink RX6 28 m_Tr_copyFrom.2.1 ∈ gw := gw_of 351 (by decide +kernel) (by decide +kernel)
theorem k_Tr_45 : Cond.methodLink RX8 45 m_Rw_copyFrom.2.1 ∈ gw := gw_of 355 (by decide +kernel) (by decide +kernel)
theorem k_Cp_87 : Cond.methodLink RX9 87 m_Rw_set.2.1 ∈ gw := gw_of 356 (by decide +kernel) (by decide +kernel)
theorem k_Cp_95 : Cond.methodLink RX9 95 m_Tr_clear.2.1 ∈ gw := gw_of 360 (by decide +kernel) (by decide +kernel)
theorem k_Lw_18 : Cond.methodLink RL 18 m_Cp_guess.2.1 ∈ gw := gw_of 364 (by decide +kernel) (by decide +kernel)
theorem k_Cp_100 : Cond.methodLink RX9 100 m_Cp_isGuess.2.1 ∈ gw := gw_of 368 (by decide +kernel) (by decide +kernel)
theorem k_Lw_22 : Cond.methodLink RL 22 m_Cp_addMove.2.1 ∈ gw := gw_of 371 (by decide +kernel) (by decide +kernel)
theorem k_Cp_109 : Cond.methodLink RX9 109 m_Gm_rankOf.2.1 ∈ gw := gw_of 375 (by decide +kernel) (by decide +kernel)
theorem k_Gm_50 : Cond.methodLink RX0 50 m_Rw_get.2.1 ∈ gw := gw_of 379 (by decide +kernel) (by decide +kernel)
theorem k_Gm_54 : Cond.methodLink RX0 54 m_Gm_targetOf.2.1 ∈ gw := gw_of 380 (by decide +kernel) (by decide +kernel)
theorem k_Cp_117 : Cond.methodLink RX9 117 m_Gm_append.2.1 ∈ gw := gw_of 384 (by decide +kernel) (by decide +kernel)
theorem k_Gm_58 : Cond.methodLink RX0 58 m_Rw_set.2.1 ∈ gw := gw_of 388 (by decide +kernel) (by decide +kernel)
theorem k_Lw_27 : Cond.methodLink RL 27 m_Cp_removeMove.2.1 ∈ gw := gw_of 389 (by decide +kernel) (by decide +kernel)
theorem k_Cp_123 : Cond.methodLink RX9 123 m_Gm_removeAt.2.1 ∈ gw := gw_of 393 (by decide +kernel) (by decide +kernel)
theorem k_Lw_31 : Cond.methodLink RL 31 m_Cp_readGame.2.1 ∈ gw := gw_of 397 (by decide +kernel) (by decide +kernel)
theorem k_Cp_126 : Cond.methodLink RX9 126 m_Rd_readText.2.1 ∈ gw := gw_of 401 (by decide +kernel) (by decide +kernel)
theorem k_Rd_22 : Cond.methodLink RX3 22 m_Gm_clearAllButGuesses.2.1 ∈ gw := gw_of 405 (by decide +kernel) (by decide +kernel)
theorem k_Rd_29 : Cond.methodLink RX3 29 m_Rd_readEntry.2.1 ∈ gw := gw_of 409 (by decide +kernel) (by decide +kernel)
theorem k_Rd_43 : Cond.methodLink RX3 43 m_Rd_readPosition.2.1 ∈ gw := gw_of 413 (by decide +kernel) (by decide +kernel)
theorem k_Rd_71 : Cond.methodLink RX3 71 m_Rd_digit.2.1 ∈ gw := gw_of 417 (by decide +kernel) (by decide +kernel)
theorem k_Rd_33 : Cond.methodLink RX3 33 m_Tx_signAt.2.1 ∈ gw := gw_of 421 (by decide +kernel) (by decide +kernel)
theorem k_Rd_39 : Cond.methodLink RX3 39 m_Rd_skip.2.1 ∈ gw := gw_of 425 (by decide +kernel) (by decide +kernel)
theorem k_Rd_51 : Cond.methodLink RX3 51 m_Rw_set.2.1 ∈ gw := gw_of 429 (by decide +kernel) (by decide +kernel)
theorem k_Rd_60 : Cond.methodLink RX3 60 m_Rd_readTargets.2.1 ∈ gw := gw_of 430 (by decide +kernel) (by decide +kernel)
theorem k_Rd_64 : Cond.methodLink RX3 64 m_Gm_rankOf.2.1 ∈ gw := gw_of 434 (by decide +kernel) (by decide +kernel)
theorem k_Rd_68 : Cond.methodLink RX3 68 m_Gm_append.2.1 ∈ gw := gw_of 435 (by decide +kernel) (by decide +kernel)
theorem k_Cp_133 : Cond.methodLink RX9 133 m_Gm_copyAllButGuesses.2.1 ∈ gw := gw_of 436 (by decide +kernel) (by decide +kernel)
theorem k_Lw_36 : Cond.methodLink RL 36 m_Cp_begin.2.1 ∈ gw := gw_of 437 (by decide +kernel) (by decide +kernel)
theorem k_Cp_137 : Cond.methodLink RX9 137 m_Tr_plant.2.1 ∈ gw := gw_of 441 (by decide +kernel) (by decide +kernel)
theorem k_Tr_66 : Cond.methodLink RX8 66 m_Tr_clear.2.1 ∈ gw := gw_of 445 (by decide +kernel) (by decide +kernel)
theorem k_Tr_69 : Cond.methodLink RX8 69 m_Tr_addLeaf.2.1 ∈ gw := gw_of 446 (by decide +kernel) (by decide +kernel)
theorem k_Tr_73 : Cond.methodLink RX8 73 m_Rw_set.2.1 ∈ gw := gw_of 450 (by decide +kernel) (by decide +kernel)
theorem k_Tr_76 : Cond.methodLink RX8 76 m_Tr_has.2.1 ∈ gw := gw_of 451 (by decide +kernel) (by decide +kernel)
theorem k_Tr_53 : Cond.methodLink RX8 53 m_Rw_get.2.1 ∈ gw := gw_of 455 (by decide +kernel) (by decide +kernel)
theorem k_Tr_80 : Cond.methodLink RX8 80 m_Tr_setLeafCosts.2.1 ∈ gw := gw_of 456 (by decide +kernel) (by decide +kernel)
theorem k_Tr_84 : Cond.methodLink RX8 84 m_Gm_isEnd.2.1 ∈ gw := gw_of 460 (by decide +kernel) (by decide +kernel)
theorem k_Tr_87 : Cond.methodLink RX8 87 m_Gm_isWonEnd.2.1 ∈ gw := gw_of 464 (by decide +kernel) (by decide +kernel)
theorem k_Tr_90 : Cond.methodLink RX8 90 m_Tr_setCosts.2.1 ∈ gw := gw_of 468 (by decide +kernel) (by decide +kernel)
theorem k_Tr_93 : Cond.methodLink RX8 93 m_Tr_isOnWayTo.2.1 ∈ gw := gw_of 472 (by decide +kernel) (by decide +kernel)
theorem k_Lw_41 : Cond.methodLink RL 41 m_Cp_open.2.1 ∈ gw := gw_of 476 (by decide +kernel) (by decide +kernel)
theorem k_Cp_144 : Cond.methodLink RX9 144 m_Tr_isEmpty.2.1 ∈ gw := gw_of 480 (by decide +kernel) (by decide +kernel)
theorem k_Cp_148 : Cond.methodLink RX9 148 m_Tr_canGrow.2.1 ∈ gw := gw_of 484 (by decide +kernel) (by decide +kernel)
theorem k_Tr_62 : Cond.methodLink RX8 62 m_Tr_isEmpty.2.1 ∈ gw := gw_of 488 (by decide +kernel) (by decide +kernel)
theorem k_Tr_115 : Cond.methodLink RX8 115 m_Tr_outcome.2.1 ∈ gw := gw_of 489 (by decide +kernel) (by decide +kernel)
theorem k_Tr_122 : Cond.methodLink RX8 122 m_Tr_leafOnWay.2.1 ∈ gw := gw_of 493 (by decide +kernel) (by decide +kernel)
theorem k_Tr_109 : Cond.methodLink RX8 109 m_Tr_isLeaf.2.1 ∈ gw := gw_of 497 (by decide +kernel) (by decide +kernel)
theorem k_Tr_112 : Cond.methodLink RX8 112 m_Tr_cheapestChild.2.1 ∈ gw := gw_of 501 (by decide +kernel) (by decide +kernel)
theorem k_Tr_103 : Cond.methodLink RX8 103 m_Tr_turnAt.2.1 ∈ gw := gw_of 505 (by decide +kernel) (by decide +kernel)
theorem k_Tr_106 : Cond.methodLink RX8 106 m_Tr_endOfChildren.2.1 ∈ gw := gw_of 509 (by decide +kernel) (by decide +kernel)
theorem k_Cp_151 : Cond.methodLink RX9 151 m_Tr_grow.2.1 ∈ gw := gw_of 513 (by decide +kernel) (by decide +kernel)
theorem k_Tr_125 : Cond.methodLink RX8 125 m_Gm_targetOf.2.1 ∈ gw := gw_of 517 (by decide +kernel) (by decide +kernel)
theorem k_Tr_129 : Cond.methodLink RX8 129 m_Tr_workOutFrom.2.1 ∈ gw := gw_of 518 (by decide +kernel) (by decide +kernel)
theorem k_Tr_132 : Cond.methodLink RX8 132 m_Tr_workOut.2.1 ∈ gw := gw_of 522 (by decide +kernel) (by decide +kernel)
theorem k_Tr_135 : Cond.methodLink RX8 135 m_Tr_leastOfChildren.2.1 ∈ gw := gw_of 526 (by decide +kernel) (by decide +kernel)
theorem k_Tr_142 : Cond.methodLink RX8 142 Lib.Math.min.name ∈ gw := gw_of 530 (by decide +kernel) (by decide +kernel)
theorem k_Tr_139 : Cond.methodLink RX8 139 m_Tr_sumOfChildren.2.1 ∈ gw := gw_of 531 (by decide +kernel) (by decide +kernel)
theorem k_Lw_45 : Cond.methodLink RL 45 m_Cp_type.2.1 ∈ gw := gw_of 535 (by decide +kernel) (by decide +kernel)
theorem k_Cp_154 : Cond.methodLink RX9 154 m_Tx_isFull.2.1 ∈ gw := gw_of 539 (by decide +kernel) (by decide +kernel)
theorem k_Cp_157 : Cond.methodLink RX9 157 m_Tx_append.2.1 ∈ gw := gw_of 543 (by decide +kernel) (by decide +kernel)
theorem k_Lw_50 : Cond.methodLink RL 50 m_Cp_clearText.2.1 ∈ gw := gw_of 547 (by decide +kernel) (by decide +kernel)
theorem k_Cp_163 : Cond.methodLink RX9 163 m_Tx_clear.2.1 ∈ gw := gw_of 551 (by decide +kernel) (by decide +kernel)
theorem k_Lw_54 : Cond.methodLink RL 54 m_Cp_undo.2.1 ∈ gw := gw_of 555 (by decide +kernel) (by decide +kernel)
theorem k_Cp_167 : Cond.methodLink RX9 167 m_Hi_takeLatest.2.1 ∈ gw := gw_of 559 (by decide +kernel) (by decide +kernel)
theorem k_Lw_58 : Cond.methodLink RL 58 m_Cp_keep.2.1 ∈ gw := gw_of 563 (by decide +kernel) (by decide +kernel)
theorem k_Cp_170 : Cond.methodLink RX9 170 m_St_copyFrom.2.1 ∈ gw := gw_of 567 (by decide +kernel) (by decide +kernel)
theorem k_Lw_62 : Cond.methodLink RL 62 m_Cp_restore.2.1 ∈ gw := gw_of 568 (by decide +kernel) (by decide +kernel)
theorem k_Lw_66 : Cond.methodLink RL 66 m_Cp_position.2.1 ∈ gw := gw_of 572 (by decide +kernel) (by decide +kernel)
theorem k_Cp_173 : Cond.methodLink RX9 173 m_Gm_isEnd.2.1 ∈ gw := gw_of 576 (by decide +kernel) (by decide +kernel)
theorem k_Cp_176 : Cond.methodLink RX9 176 m_Ro_workOut.2.1 ∈ gw := gw_of 577 (by decide +kernel) (by decide +kernel)
theorem k_Ro_20 : Cond.methodLink RX4 20 m_Rw_fill.2.1 ∈ gw := gw_of 581 (by decide +kernel) (by decide +kernel)
theorem k_Ro_23 : Cond.methodLink RX4 23 m_Gm_isWonEnd.2.1 ∈ gw := gw_of 582 (by decide +kernel) (by decide +kernel)
theorem k_Ro_29 : Cond.methodLink RX4 29 m_Rw_set.2.1 ∈ gw := gw_of 583 (by decide +kernel) (by decide +kernel)
theorem k_Ro_33 : Cond.methodLink RX4 33 m_Ro_playRound.2.1 ∈ gw := gw_of 584 (by decide +kernel) (by decide +kernel)
theorem k_Ro_37 : Cond.methodLink RX4 37 m_Ro_isWon.2.1 ∈ gw := gw_of 588 (by decide +kernel) (by decide +kernel)
theorem k_Ro_50 : Cond.methodLink RX4 50 m_Rw_get.2.1 ∈ gw := gw_of 592 (by decide +kernel) (by decide +kernel)
theorem k_Ro_40 : Cond.methodLink RX4 40 m_Gm_isEnd.2.1 ∈ gw := gw_of 593 (by decide +kernel) (by decide +kernel)
theorem k_Ro_43 : Cond.methodLink RX4 43 m_Ro_isWonBy.2.1 ∈ gw := gw_of 594 (by decide +kernel) (by decide +kernel)
theorem k_Ro_54 : Cond.methodLink RX4 54 m_Gm_targetOf.2.1 ∈ gw := gw_of 598 (by decide +kernel) (by decide +kernel)
theorem k_Ro_58 : Cond.methodLink RX4 58 m_Ro_roundOf.2.1 ∈ gw := gw_of 599 (by decide +kernel) (by decide +kernel)
theorem k_Cp_179 : Cond.methodLink RX9 179 m_Ro_isWon.2.1 ∈ gw := gw_of 603 (by decide +kernel) (by decide +kernel)
theorem k_Cp_182 : Cond.methodLink RX9 182 m_Ro_roundOf.2.1 ∈ gw := gw_of 604 (by decide +kernel) (by decide +kernel)
theorem k_Lw_70 : Cond.methodLink RL 70 m_Cp_move.2.1 ∈ gw := gw_of 605 (by decide +kernel) (by decide +kernel)
theorem k_Cp_185 : Cond.methodLink RX9 185 m_Gm_targetOf.2.1 ∈ gw := gw_of 609 (by decide +kernel) (by decide +kernel)
theorem k_Lw_74 : Cond.methodLink RL 74 m_Cp_node.2.1 ∈ gw := gw_of 610 (by decide +kernel) (by decide +kernel)
theorem k_Cp_188 : Cond.methodLink RX9 188 m_Tr_has.2.1 ∈ gw := gw_of 614 (by decide +kernel) (by decide +kernel)
theorem k_Lw_78 : Cond.methodLink RL 78 m_Cp_way.2.1 ∈ gw := gw_of 615 (by decide +kernel) (by decide +kernel)
theorem k_Cp_212 : Cond.methodLink RX9 212 m_Tr_nodeOnWay.2.1 ∈ gw := gw_of 619 (by decide +kernel) (by decide +kernel)
theorem k_Lw_82 : Cond.methodLink RL 82 m_Cp_playOut.2.1 ∈ gw := gw_of 623 (by decide +kernel) (by decide +kernel)
theorem k_Cp_215 : Cond.methodLink RX9 215 m_Tr_outcome.2.1 ∈ gw := gw_of 627 (by decide +kernel) (by decide +kernel)
theorem k_Cp_218 : Cond.methodLink RX9 218 m_Pf_endOf.2.1 ∈ gw := gw_of 628 (by decide +kernel) (by decide +kernel)
theorem k_Pf_26 : Cond.methodLink RX2 26 m_Pf_winnerOf.2.1 ∈ gw := gw_of 632 (by decide +kernel) (by decide +kernel)
theorem k_Pf_20 : Cond.methodLink RX2 20 m_Tr_outcome.2.1 ∈ gw := gw_of 635 (by decide +kernel) (by decide +kernel)
theorem k_Pf_33 : Cond.methodLink RX2 33 m_Rw_get.2.1 ∈ gw := gw_of 636 (by decide +kernel) (by decide +kernel)
theorem k_Pf_37 : Cond.methodLink RX2 37 m_Tr_turnAt.2.1 ∈ gw := gw_of 637 (by decide +kernel) (by decide +kernel)
theorem k_Pf_40 : Cond.methodLink RX2 40 m_Tr_cheapestChild.2.1 ∈ gw := gw_of 638 (by decide +kernel) (by decide +kernel)
theorem k_Lw_86 : Cond.methodLink RL 86 m_Cp_proofSize.2.1 ∈ gw := gw_of 639 (by decide +kernel) (by decide +kernel)
theorem k_Cp_222 : Cond.methodLink RX9 222 m_Pf_sizeOf.2.1 ∈ gw := gw_of 643 (by decide +kernel) (by decide +kernel)
theorem k_Pf_46 : Cond.methodLink RX2 46 m_Rw_fill.2.1 ∈ gw := gw_of 647 (by decide +kernel) (by decide +kernel)
theorem k_Pf_49 : Cond.methodLink RX2 49 m_Rw_set.2.1 ∈ gw := gw_of 648 (by decide +kernel) (by decide +kernel)
theorem k_Pf_57 : Cond.methodLink RX2 57 m_Pf_takeChildren.2.1 ∈ gw := gw_of 649 (by decide +kernel) (by decide +kernel)
theorem k_Pf_61 : Cond.methodLink RX2 61 m_Tr_isLeaf.2.1 ∈ gw := gw_of 653 (by decide +kernel) (by decide +kernel)
theorem k_Pf_65 : Cond.methodLink RX2 65 m_Tr_endOfChildren.2.1 ∈ gw := gw_of 654 (by decide +kernel) (by decide +kernel)
theorem k_Lw_90 : Cond.methodLink RL 90 m_Cp_count.2.1 ∈ gw := gw_of 655 (by decide +kernel) (by decide +kernel)
theorem k_Cp_226 : Cond.methodLink RX9 226 m_Cp_tellTree.2.1 ∈ gw := gw_of 659 (by decide +kernel) (by decide +kernel)
theorem k_Cp_233 : Cond.methodLink RX9 233 m_Tr_loopCount.2.1 ∈ gw := gw_of 662 (by decide +kernel) (by decide +kernel)
theorem k_Cp_236 : Cond.methodLink RX9 236 m_Tr_openedCount.2.1 ∈ gw := gw_of 666 (by decide +kernel) (by decide +kernel)
theorem k_Cp_239 : Cond.methodLink RX9 239 m_Tr_greatestDepth.2.1 ∈ gw := gw_of 670 (by decide +kernel) (by decide +kernel)
theorem k_Tr_147 : Cond.methodLink RX8 147 Lib.Math.max.name ∈ gw := gw_of 674 (by decide +kernel) (by decide +kernel)
theorem k_Cp_230 : Cond.methodLink RX9 230 m_Ro_wonPositions.2.1 ∈ gw := gw_of 675 (by decide +kernel) (by decide +kernel)
theorem k_Lw_12 : Cond.methodLink RL 12 m_Md_init.2.1 ∈ gw := gw_of 681 (by decide +kernel) (by decide +kernel)
theorem k_Md_1 : Cond.methodLink RX10 1 objectInit ∈ gw := gw_of 684 (by decide +kernel) (by decide +kernel)
theorem k_Lw_17 : Cond.methodLink RL 17 m_Md_setPosition.2.1 ∈ gw := gw_of 729 (by decide +kernel) (by decide +kernel)
theorem k_Md_51 : Cond.methodLink RX10 51 m_Md_isPosition.2.1 ∈ gw := gw_of 733 (by decide +kernel) (by decide +kernel)
theorem k_Md_36 : Cond.methodLink RX10 36 m_Md_in.2.1 ∈ gw := gw_of 736 (by decide +kernel) (by decide +kernel)
theorem k_Md_43 : Cond.methodLink RX10 43 m_Md_of.2.1 ∈ gw := gw_of 739 (by decide +kernel) (by decide +kernel)
theorem k_Md_55 : Cond.methodLink RX10 55 m_Md_records.2.1 ∈ gw := gw_of 743 (by decide +kernel) (by decide +kernel)
theorem k_Md_58 : Cond.methodLink RX10 58 m_Md_noTree.2.1 ∈ gw := gw_of 747 (by decide +kernel) (by decide +kernel)
theorem k_Lw_21 : Cond.methodLink RL 21 m_Md_guess.2.1 ∈ gw := gw_of 751 (by decide +kernel) (by decide +kernel)
theorem k_Lw_26 : Cond.methodLink RL 26 m_Md_addMove.2.1 ∈ gw := gw_of 755 (by decide +kernel) (by decide +kernel)
theorem k_Md_61 : Cond.methodLink RX10 61 m_Md_placeOf.2.1 ∈ gw := gw_of 759 (by decide +kernel) (by decide +kernel)
theorem k_Md_64 : Cond.methodLink RX10 64 m_Md_comes.2.1 ∈ gw := gw_of 763 (by decide +kernel) (by decide +kernel)
theorem k_Md_47 : Cond.methodLink RX10 47 m_Md_movesOf.2.1 ∈ gw := gw_of 767 (by decide +kernel) (by decide +kernel)
theorem k_Lw_30 : Cond.methodLink RL 30 m_Md_removeMove.2.1 ∈ gw := gw_of 771 (by decide +kernel) (by decide +kernel)
theorem k_Lw_40 : Cond.methodLink RL 40 m_Md_begin.2.1 ∈ gw := gw_of 775 (by decide +kernel) (by decide +kernel)
theorem k_Md_111 : Cond.methodLink RX10 111 m_Md_makes.2.1 ∈ gw := gw_of 779 (by decide +kernel) (by decide +kernel)
theorem k_Md_68 : Cond.methodLink RX10 68 m_Md_isEnd.2.1 ∈ gw := gw_of 783 (by decide +kernel) (by decide +kernel)
theorem k_Md_83 : Cond.methodLink RX10 83 m_Md_isOnWay.2.1 ∈ gw := gw_of 787 (by decide +kernel) (by decide +kernel)
theorem k_Md_80 : Cond.methodLink RX10 80 m_Md_get.2.1 ∈ gw := gw_of 791 (by decide +kernel) (by decide +kernel)
theorem k_Md_87 : Cond.methodLink RX10 87 m_Md_lay.2.1 ∈ gw := gw_of 795 (by decide +kernel) (by decide +kernel)
theorem k_Lw_44 : Cond.methodLink RL 44 m_Md_open.2.1 ∈ gw := gw_of 799 (by decide +kernel) (by decide +kernel)
theorem k_Md_118 : Cond.methodLink RX10 118 m_Md_canOpen.2.1 ∈ gw := gw_of 803 (by decide +kernel) (by decide +kernel)
theorem k_Md_103 : Cond.methodLink RX10 103 m_Md_isDecided.2.1 ∈ gw := gw_of 807 (by decide +kernel) (by decide +kernel)
theorem k_Md_107 : Cond.methodLink RX10 107 m_Md_leaf.2.1 ∈ gw := gw_of 811 (by decide +kernel) (by decide +kernel)
theorem k_Md_100 : Cond.methodLink RX10 100 m_Md_nextOf.2.1 ∈ gw := gw_of 815 (by decide +kernel) (by decide +kernel)
theorem k_Md_91 : Cond.methodLink RX10 91 m_Md_turnOf.2.1 ∈ gw := gw_of 819 (by decide +kernel) (by decide +kernel)
theorem k_Md_94 : Cond.methodLink RX10 94 m_Md_cheapest.2.1 ∈ gw := gw_of 823 (by decide +kernel) (by decide +kernel)
theorem k_Md_121 : Cond.methodLink RX10 121 m_Md_opens.2.1 ∈ gw := gw_of 827 (by decide +kernel) (by decide +kernel)
theorem k_Md_71 : Cond.methodLink RX10 71 m_Md_moveAt.2.1 ∈ gw := gw_of 831 (by decide +kernel) (by decide +kernel)
theorem k_Md_114 : Cond.methodLink RX10 114 m_Md_works.2.1 ∈ gw := gw_of 835 (by decide +kernel) (by decide +kernel)
theorem k_Md_97 : Cond.methodLink RX10 97 m_Md_sumOver.2.1 ∈ gw := gw_of 839 (by decide +kernel) (by decide +kernel)
theorem k_Lw_49 : Cond.methodLink RL 49 m_Md_type.2.1 ∈ gw := gw_of 843 (by decide +kernel) (by decide +kernel)
theorem k_Lw_53 : Cond.methodLink RL 53 m_Md_clearText.2.1 ∈ gw := gw_of 847 (by decide +kernel) (by decide +kernel)
theorem k_Lw_35 : Cond.methodLink RL 35 m_Md_readGame.2.1 ∈ gw := gw_of 851 (by decide +kernel) (by decide +kernel)
theorem k_Md_149 : Cond.methodLink RX10 149 m_Md_reads.2.1 ∈ gw := gw_of 855 (by decide +kernel) (by decide +kernel)
theorem k_Md_146 : Cond.methodLink RX10 146 m_Md_readsEntry.2.1 ∈ gw := gw_of 859 (by decide +kernel) (by decide +kernel)
theorem k_Md_140 : Cond.methodLink RX10 140 m_Md_readsPosition.2.1 ∈ gw := gw_of 863 (by decide +kernel) (by decide +kernel)
theorem k_Md_134 : Cond.methodLink RX10 134 m_Md_sign.2.1 ∈ gw := gw_of 867 (by decide +kernel) (by decide +kernel)
theorem k_Md_143 : Cond.methodLink RX10 143 m_Md_tells.2.1 ∈ gw := gw_of 871 (by decide +kernel) (by decide +kernel)
theorem k_Md_152 : Cond.methodLink RX10 152 m_Md_movesTold.2.1 ∈ gw := gw_of 875 (by decide +kernel) (by decide +kernel)
theorem k_Md_155 : Cond.methodLink RX10 155 m_Md_does.2.1 ∈ gw := gw_of 879 (by decide +kernel) (by decide +kernel)
theorem k_Lw_57 : Cond.methodLink RL 57 m_Md_undo.2.1 ∈ gw := gw_of 883 (by decide +kernel) (by decide +kernel)
theorem k_Lw_61 : Cond.methodLink RL 61 m_Md_keep.2.1 ∈ gw := gw_of 887 (by decide +kernel) (by decide +kernel)
theorem k_Lw_65 : Cond.methodLink RL 65 m_Md_restore.2.1 ∈ gw := gw_of 891 (by decide +kernel) (by decide +kernel)
theorem k_Lw_69 : Cond.methodLink RL 69 m_Md_position.2.1 ∈ gw := gw_of 895 (by decide +kernel) (by decide +kernel)
theorem k_Md_77 : Cond.methodLink RX10 77 m_Md_laysRounds.2.1 ∈ gw := gw_of 899 (by decide +kernel) (by decide +kernel)
theorem k_Md_74 : Cond.methodLink RX10 74 m_Md_isWonNow.2.1 ∈ gw := gw_of 903 (by decide +kernel) (by decide +kernel)
theorem k_Lw_73 : Cond.methodLink RL 73 m_Md_move.2.1 ∈ gw := gw_of 907 (by decide +kernel) (by decide +kernel)
theorem k_Lw_77 : Cond.methodLink RL 77 m_Md_node.2.1 ∈ gw := gw_of 911 (by decide +kernel) (by decide +kernel)
theorem k_Md_161 : Cond.methodLink RX10 161 m_Md_depthOf.2.1 ∈ gw := gw_of 915 (by decide +kernel) (by decide +kernel)
theorem k_Lw_81 : Cond.methodLink RL 81 m_Md_way.2.1 ∈ gw := gw_of 919 (by decide +kernel) (by decide +kernel)
theorem k_Lw_85 : Cond.methodLink RL 85 m_Md_playOut.2.1 ∈ gw := gw_of 923 (by decide +kernel) (by decide +kernel)
theorem k_Md_164 : Cond.methodLink RX10 164 m_Md_owner.2.1 ∈ gw := gw_of 927 (by decide +kernel) (by decide +kernel)
theorem k_Lw_89 : Cond.methodLink RL 89 m_Md_proofSize.2.1 ∈ gw := gw_of 931 (by decide +kernel) (by decide +kernel)
theorem k_Lw_93 : Cond.methodLink RL 93 m_Md_count.2.1 ∈ gw := gw_of 935 (by decide +kernel) (by decide +kernel)
theorem k_Md_173 : Cond.methodLink RX10 173 m_Md_wonMany.2.1 ∈ gw := gw_of 939 (by decide +kernel) (by decide +kernel)
theorem k_Md_176 : Cond.methodLink RX10 176 m_Md_ofTree.2.1 ∈ gw := gw_of 943 (by decide +kernel) (by decide +kernel)
theorem k_Md_167 : Cond.methodLink RX10 167 m_Md_loops.2.1 ∈ gw := gw_of 947 (by decide +kernel) (by decide +kernel)
theorem k_Md_170 : Cond.methodLink RX10 170 m_Md_deepest.2.1 ∈ gw := gw_of 951 (by decide +kernel) (by decide +kernel)
theorem c_Lw_7 : Cond.classLink RL 7 RX9 ∈ gw := gw_of 69 (by decide +kernel) (by decide +kernel)
theorem c_Cp_7 : Cond.classLink RX9 7 RX6 ∈ gw := gw_of 77 (by decide +kernel) (by decide +kernel)
theorem c_St_7 : Cond.classLink RX6 7 RX0 ∈ gw := gw_of 83 (by decide +kernel) (by decide +kernel)
theorem c_Gm_9 : Cond.classLink RX0 9 RX5 ∈ gw := gw_of 89 (by decide +kernel) (by decide +kernel)
theorem c_St_16 : Cond.classLink RX6 16 RX8 ∈ gw := gw_of 143 (by decide +kernel) (by decide +kernel)
theorem c_Tr_9 : Cond.classLink RX8 9 RX5 ∈ gw := gw_of 149 (by decide +kernel) (by decide +kernel)
theorem c_Cp_23 : Cond.classLink RX9 23 RX1 ∈ gw := gw_of 203 (by decide +kernel) (by decide +kernel)
theorem c_Hi_9 : Cond.classLink RX1 9 RX6 ∈ gw := gw_of 209 (by decide +kernel) (by decide +kernel)
theorem c_Cp_30 : Cond.classLink RX9 30 RX7 ∈ gw := gw_of 220 (by decide +kernel) (by decide +kernel)
theorem c_Cp_37 : Cond.classLink RX9 37 RX3 ∈ gw := gw_of 235 (by decide +kernel) (by decide +kernel)
theorem c_Rd_9 : Cond.classLink RX3 9 RX0 ∈ gw := gw_of 241 (by decide +kernel) (by decide +kernel)
theorem c_Cp_46 : Cond.classLink RX9 46 RX4 ∈ gw := gw_of 254 (by decide +kernel) (by decide +kernel)
theorem c_Ro_9 : Cond.classLink RX4 9 RX5 ∈ gw := gw_of 260 (by decide +kernel) (by decide +kernel)
theorem c_Cp_53 : Cond.classLink RX9 53 RX2 ∈ gw := gw_of 266 (by decide +kernel) (by decide +kernel)
theorem c_Pf_9 : Cond.classLink RX2 9 RX5 ∈ gw := gw_of 272 (by decide +kernel) (by decide +kernel)
theorem c_Lw_10 : Cond.classLink RL 10 RX10 ∈ gw := gw_of 679 (by decide +kernel) (by decide +kernel)
theorem i_Cp : Cond.instantiable RX9 8 ∈ gw := gw_of 70 (by decide +kernel) (by decide +kernel)
theorem ini_Cp : Cond.initialized RX9 ∈ gw := gw_of 56 (by decide +kernel) (by decide +kernel)
theorem i_St : Cond.instantiable RX6 2 ∈ gw := gw_of 78 (by decide +kernel) (by decide +kernel)
theorem ini_St : Cond.initialized RX6 ∈ gw := gw_of 57 (by decide +kernel) (by decide +kernel)
theorem i_Gm : Cond.instantiable RX0 7 ∈ gw := gw_of 84 (by decide +kernel) (by decide +kernel)
theorem ini_Gm : Cond.initialized RX0 ∈ gw := gw_of 58 (by decide +kernel) (by decide +kernel)
theorem i_Rw : Cond.instantiable RX5 1 ∈ gw := gw_of 90 (by decide +kernel) (by decide +kernel)
theorem ini_Rw : Cond.initialized RX5 ∈ gw := gw_of 59 (by decide +kernel) (by decide +kernel)
theorem i_Tr : Cond.instantiable RX8 10 ∈ gw := gw_of 144 (by decide +kernel) (by decide +kernel)
theorem ini_Tr : Cond.initialized RX8 ∈ gw := gw_of 61 (by decide +kernel) (by decide +kernel)
theorem i_Hi : Cond.instantiable RX1 2 ∈ gw := gw_of 204 (by decide +kernel) (by decide +kernel)
theorem ini_Hi : Cond.initialized RX1 ∈ gw := gw_of 62 (by decide +kernel) (by decide +kernel)
theorem i_Tx : Cond.instantiable RX7 2 ∈ gw := gw_of 221 (by decide +kernel) (by decide +kernel)
theorem ini_Tx : Cond.initialized RX7 ∈ gw := gw_of 63 (by decide +kernel) (by decide +kernel)
theorem i_Rd : Cond.instantiable RX3 3 ∈ gw := gw_of 236 (by decide +kernel) (by decide +kernel)
theorem ini_Rd : Cond.initialized RX3 ∈ gw := gw_of 64 (by decide +kernel) (by decide +kernel)
theorem i_Ro : Cond.instantiable RX4 1 ∈ gw := gw_of 255 (by decide +kernel) (by decide +kernel)
theorem ini_Ro : Cond.initialized RX4 ∈ gw := gw_of 65 (by decide +kernel) (by decide +kernel)
theorem i_Pf : Cond.instantiable RX2 1 ∈ gw := gw_of 267 (by decide +kernel) (by decide +kernel)
theorem ini_Pf : Cond.initialized RX2 ∈ gw := gw_of 66 (by decide +kernel) (by decide +kernel)
theorem i_Md : Cond.instantiable RX10 14 ∈ gw := gw_of 680 (by decide +kernel) (by decide +kernel)
theorem ini_Md : Cond.initialized RX10 ∈ gw := gw_of 67 (by decide +kernel) (by decide +kernel)
end
section
/-! THE CLEAN MACHINE: memory is numbers (MU), its shapes stand apart (GG); one judgement V over the kit's W -/
/-- a cell's shape: an object of a class, whose fields are ints (none) or held references; or an array (0 int, 1 char, 2 boolean, 3 of references) of a length -/
abbrev Ob : Type := (Nat × List (Option (Option Nat))) ⊕ (Nat × Nat)
abbrev MU : Type := Nat → Int → Int
/-- how many cells, how many slots, their shapes -/
abbrev GG : Type := Nat × Nat × (Nat → Ob)
/-- the classes' numbers and slots, the arrays' classes, the first cell's address -/
abbrev EV : Type := va_G × (Nat → ClassId) × Nat
def rI (z : Int) : Value := .int (Int32.ofInt z)
def rA (E : EV) (k : Nat) : Value := .ref (E.2.2 + k)
def oA (E : EV) (z : Int) : Option Nat := if z < 0 then none else some (E.2.2 + z.toNat)
def fV (E : EV) (c : Int → Int) (j : Nat) (d : Option (Option Nat)) : Value := match d with
  | none => rI (c j)
  | some none => .null
  | some (some t) => rA E t
def aC (E : EV) (c : Int → Int) (q : Nat × Nat) : vp_A := (q.2, if q.1 = 3 then .inr (.inr (.inr (.inr (fun j => oA E (c j))))) else .inl (fun j => Int32.ofInt (c j)))
def cE (E : EV) (o : Ob) (c : Int → Int) : va_E := match o with
  | .inl q => .inr (q.1, q.2.mapIdx (fV E c))
  | .inr q => .inl (E.2.1 q.1, aC E c q)
def wl (E : EV) (G : GG) (μ : MU) : va_W := (List.range G.1).map fun k => (E.2.2 + k, cE E (G.2.2 k) (μ k))
def Rep (E : EV) (G : GG) (μ : MU) (H : Heap) : Prop := va_P E.1 vwCl (wl E G μ) H ∧ H.size = E.2.2 + G.1
def tyE (E : EV) : List (ClassId × FieldType) := [(E.2.1 0, .int), (E.2.1 1, .char), (E.2.1 2, .boolean), (E.2.1 3, .object RX6)]
/-- a memory with one number written -/
def wr (μ : MU) (a : Nat) (i v : Int) : MU := fun b j => if b = a then (if j = i then v else μ b j) else μ b j
/-- a memory with one cell's numbers put -/
def wrC (μ : MU) (a : Nat) (f : Int → Int) : MU := fun b => if b = a then f else μ b
/-- shapes with one cell's put -/
def shp (G : GG) (a : Nat) (o : Ob) : GG := (G.1, G.2.1, fun b => if b = a then o else G.2.2 b)
def obj (G : GG) (a : Nat) (o : Ob) : Prop := a < G.1 ∧ G.2.2 a = o
abbrev inR (z : Int) : Prop := -2147483648 ≤ z ∧ z ≤ 2147483647
theorem wr_s (μ : MU) (a : Nat) (i v : Int) : wr μ a i v a i = v := by simp [wr]
theorem wr_i {μ : MU} {a b : Nat} {i v j : Int} (h : j ≠ i) : wr μ a i v b j = μ b j := by simp [wr, h]
theorem wr_a {μ : MU} {a b : Nat} {i v : Int} (h : b ≠ a) : wr μ a i v b = μ b := by funext j; simp [wr, h]
theorem wr_self (μ : MU) (a : Nat) (i v : Int) : wr μ a i v a = fun j => if j = i then v else μ a j := by funext j; simp [wr]
theorem wl_at {E : EV} {G : GG} {μ : MU} {a : Nat} {o : Ob} (h : obj G a o) : (wl E G μ)[a]? = some (E.2.2 + a, cE E o (μ a)) := by
  obtain ⟨h1, h2⟩ := h
  simp [wl, h1, ← h2]
theorem wl_set {E : EV} {G G' : GG} {μ μ' : MU} {a : Nat} {e : va_E} (hn : G'.1 = G.1) (he : e = cE E (G'.2.2 a) (μ' a)) (hG : ∀ b, b ≠ a → G'.2.2 b = G.2.2 b) (hm : ∀ b, b ≠ a → μ' b = μ b) : (wl E G μ).set a (E.2.2 + a, e) = wl E G' μ' := by
  apply List.ext_getElem?
  intro k
  rw [List.getElem?_set]
  by_cases hk : a = k
  · subst hk
    by_cases hl : a < G.1
    · simp [wl, hl, hn, he]
    · simp [wl, hl, hn]
  · rw [if_neg hk]
    by_cases hl : k < G.1
    · simp [wl, hl, hn, hG k (fun q => hk q.symm), hm k (fun q => hk q.symm)]
    · simp [wl, hl, hn]
theorem wl_D (E : EV) (G : GG) (μ : MU) : va_D (fun q => E.2.2 ≤ q) (wl E G μ) := by
  constructor
  · intro i j p q hp hq h
    simp only [wl, List.getElem?_map, Option.map_eq_some_iff] at hp hq
    obtain ⟨x, hx, rfl⟩ := hp
    obtain ⟨y, hy, rfl⟩ := hq
    have hx' := (List.getElem?_eq_some_iff.mp hx).2
    have hy' := (List.getElem?_eq_some_iff.mp hy).2
    rw [List.getElem_range] at hx' hy'
    have h' : E.2.2 + x = E.2.2 + y := h
    omega
  · intro k q hq
    simp only [wl, List.getElem?_map, Option.map_eq_some_iff] at hq
    obtain ⟨x, hx, rfl⟩ := hq
    simp
theorem tI {z : Int} (h : inR z) : (Int32.ofInt z).toInt = z := Int32.toInt_ofInt_of_le (by have := h.1; omega) (by have := h.2; omega)
theorem tN {z : Int} (h0 : 0 ≤ z) (h : z ≤ 2147483647) : (Int32.ofInt z).toNatClampNeg = z.toNat := by
  show (Int32.ofInt z).toInt.toNat = _
  rw [tI ⟨by omega, h⟩]
theorem inV {z : Int} {n : Nat} (h0 : 0 ≤ z) (h : z < n) (hn : n ≤ 65536) : vp_in (Int32.ofInt z) n := by
  rw [vp_in_iff, tI ⟨by omega, by omega⟩]
  exact ⟨h0, h⟩
theorem nN {z : Int} (h0 : 0 ≤ z) (h : z ≤ 2147483647) : ¬ Int32.ofInt z < 0 := by
  rw [Int32.lt_iff_toInt_lt, tI ⟨by omega, h⟩]
  simp
  exact h0
/-! ## the judgement -/
def lkp : List (Nat × Value) → Nat → Option Value
  | [], _ => none
  | (i, v) :: r, j => match Nat.beq i j with
    | true => some v
    | false => lkp r j
def LH (ls : Array Slot) (nL : Nat) (lo : List (Nat × Value)) : Prop := ls.size = nL ∧ lv_wf ls ∧ ∀ j v, lkp lo j = some v → ls[j]? = some (.val v) ∧ v.category = 1
theorem lkp_mem : ∀ {lo : List (Nat × Value)} {j : Nat} {v : Value}, lkp lo j = some v → (j, v) ∈ lo
  | (i, w) :: r, j, v, h => by
    unfold lkp at h
    split at h
    · next e =>
      cases h
      rw [Nat.eq_of_beq_eq_true e]
      exact List.mem_cons_self
    · exact List.mem_cons_of_mem _ (lkp_mem h)
theorem LH.has {ls : Array Slot} {nL : Nat} {lo : List (Nat × Value)} (h : LH ls nL lo) : lv_has ls nL (lo.filterMap fun q => (lkp lo q.1).map fun v => (q.1, v)) := by
  refine ⟨h.1, h.2.1, fun q hq => ?_⟩
  obtain ⟨p, -, hp⟩ := List.mem_filterMap.mp hq
  obtain ⟨v, hv, rfl⟩ := Option.map_eq_some_iff.mp hp
  exact (h.2.2 _ _ hv).1
theorem LH.put {ls ls' : Array Slot} {nL i : Nat} {v : Value} {lo : List (Nat × Value)} (h : LH ls nL lo) (hc : v.category = 1)
    (h' : lv_has ls' nL ((i, v) :: (lo.filterMap fun q => (lkp lo q.1).map fun v => (q.1, v)).filter (fun q => !(q.1 == i) && !(q.1 + 1 == i && q.2.category == 2)))) : LH ls' nL ((i, v) :: lo) := by
  refine ⟨h'.1, h'.2.1, fun j w hj => ?_⟩
  unfold lkp at hj
  split at hj
  · next e =>
    cases hj
    rw [← Nat.eq_of_beq_eq_true e]
    exact ⟨h'.2.2 (i, v) List.mem_cons_self, hc⟩
  · next e =>
    have hne : ¬ j = i := fun q => by subst q; simp at e
    have hw := h.2.2 j w hj
    refine ⟨h'.2.2 (j, w) (List.mem_cons_of_mem _ (List.mem_filter.mpr ⟨List.mem_filterMap.mpr ⟨(j, w), lkp_mem hj, by simp [hj]⟩, ?_⟩)), hw.2⟩
    simp [hne, hw.2]
/-- fewer or differently listed locals -/
def lok (lo : List (Nat × Value)) : List (Nat × Value) → Prop
  | [] => True
  | (j, v) :: r => lkp lo j = some v ∧ lok lo r
theorem LH.sub {ls : Array Slot} {nL : Nat} {lo : List (Nat × Value)} (h : LH ls nL lo) : ∀ {lo' : List (Nat × Value)}, lok lo lo' → LH ls nL lo' := by
  intro lo' hl
  refine ⟨h.1, h.2.1, fun j v hj => ?_⟩
  have key : ∀ (l : List (Nat × Value)), lok lo l → ∀ q ∈ l, lkp lo q.1 = some q.2 := by
    intro l
    induction l with
    | nil => intro _ q hq; cases hq
    | cons p r ih =>
      intro hl q hq
      rcases List.mem_cons.mp hq with rfl | hq
      · exact hl.1
      · exact ih hl.2 q hq
  exact h.2.2 j v (key lo' hl _ (lkp_mem hj))
/-- what a state's tables say, beside the good words -/
def WD (E : EV) (U : State) : Prop := (∀ w ∈ nw, va_Nw w U) ∧ va_K E.1 vwCl (tyE E) U ∧ va_AO RX6 U
def CX (E : EV) (my : MR) (sc : Option (Nat × Nat × (Nat → Int))) (d : Nat) (p : Program) (R : Room) (s : State) (m : MethodId) (args : Array Value) (meth : Method) (c : Code) : Prop :=
  CallFix p m c my.2.2.1 my.2.2.2.1 s args gw my.1 ∧ WD E s ∧ (d ≤ R.frames ∧ 35 * d ≤ R.locals) ∧ E.2.2 ≤ s.heap.size ∧ (my.2.1.name = "<init>" → meth.name = "<init>") ∧ (∀ q, sc = some q → va_X q.1 q.2.1 (fun j => Int32.ofInt (q.2.2 j)) s s.heap ∧ q.1 < E.2.2)
def DY (E : EV) (G : GG) (μ : MU) (NT ST : Nat) (R : Room) (s : State) (H : Heap) (locs : List Loc) (cells slots : Nat) : Prop :=
  Rep E G μ H ∧ va_S (fun q => E.2.2 ≤ q) s.heap H locs ∧ cells + NT ≤ R.cells + G.1 ∧ slots + ST ≤ R.slots + G.2.1 ∧ cells ≤ R.cells ∧ slots ≤ R.slots ∧ E.2.2 + G.1 = s.heap.size + cells ∧ G.1 ≤ NT ∧ G.2.1 ≤ ST
def RT (my : MR) (pc : Nat) (v : Option Value) (stk : List Value) : Prop :=
  (∃ z : Int, v = some (rI z) ∧ stk = [rI z] ∧ dec my pc = .ok (.ireturn, 1) ∧ ∃ ty, my.2.2.2.2 = some ty ∧ narrow ty (rI z) = rI z) ∨ (v = none ∧ stk = [] ∧ dec my pc = .ok (.return_, 1) ∧ my.2.2.2.2 = none) ∨
  (∃ a : Nat, v = some (.ref a) ∧ stk = [.ref a] ∧ dec my pc = .ok (.areturn, 1) ∧ ∃ n, my.2.2.2.2 = some (.object n))
def V (E : EV) (l : Launch) (my : MR) (sc : Option (Nat × Nat × (Nat → Int))) (d NT ST : Nat) (Post : Option Value → GG → MU → Prop) (pc : Nat) (lo : List (Nat × Value)) (st : List Value) (G : GG) (μ : MU) : Prop :=
  ∀ (p : Program) (e : Env) (R : Room) (s : State) (m : MethodId) (args : Array Value) (below : List Frame) (meth : Method) (c : Code) (H : Heap) (locs : List Loc) (cells slots : Nat) (Qf : State → Prop) (ls : Array Slot),
    CX E my sc d p R s m args meth c → DY E G μ NT ST R s H locs cells slots → LH ls my.2.2.2.1 lo →
    (∀ (v : Option Value) (G' : GG) (μ' : MU) (H' : Heap) (locs' : List Loc) (cells' slots' pc' : Nat) (ls' : Array Slot) (stk : List Value), Post v G' μ' → DY E G' μ' NT ST R s H' locs' cells' slots' → RT my pc' v stk → W p l e R s m args below meth c H' locs' cells' slots' Qf (F0 m pc' ls' stk)) →
    W p l e R s m args below meth c H locs cells slots Qf (F0 m pc ls st)
section VR
variable {E : EV} {l : Launch} {my : MR} {sc : Option (Nat × Nat × (Nat → Int))} {d NT ST : Nat} {Post : Option Value → GG → MU → Prop} {pc n : Nat} {lo : List (Nat × Value)} {st : List Value} {G : GG} {μ : MU}
theorem V.loc {lo' : List (Nat × Value)} (h : lok lo lo') (k : V E l my sc d NT ST Post pc lo' st G μ) : V E l my sc d NT ST Post pc lo st G μ :=
  fun p e R s m args below meth c H locs cells slots Qf ls C D L hr => k p e R s m args below meth c H locs cells slots Qf ls C D (L.sub h) hr
theorem V.iret {x : Int} (hd : dec my pc = .ok (.ireturn, 1)) (ht : ∃ ty, my.2.2.2.2 = some ty ∧ narrow ty (rI x) = rI x) (h : Post (some (rI x)) G μ) : V E l my sc d NT ST Post pc lo [rI x] G μ :=
  fun _ _ _ _ _ _ _ _ _ H locs cells slots _ ls _ D _ hr => hr _ G μ H locs cells slots pc ls _ h D (Or.inl ⟨x, rfl, rfl, hd, ht⟩)
theorem V.vret (hd : dec my pc = .ok (.return_, 1)) (ht : my.2.2.2.2 = none) (h : Post none G μ) : V E l my sc d NT ST Post pc lo [] G μ :=
  fun _ _ _ _ _ _ _ _ _ H locs cells slots _ ls _ D _ hr => hr _ G μ H locs cells slots pc ls _ h D (Or.inr (Or.inl ⟨rfl, rfl, hd, ht⟩))
theorem V.aret {x : Nat} (hd : dec my pc = .ok (.areturn, 1)) (ht : ∃ n, my.2.2.2.2 = some (.object n)) (h : Post (some (rA E x)) G μ) : V E l my sc d NT ST Post pc lo [rA E x] G μ :=
  fun _ _ _ _ _ _ _ _ _ H locs cells slots _ ls _ D _ hr => hr _ G μ H locs cells slots pc ls _ h D (Or.inr (Or.inr ⟨_, rfl, rfl, hd, ht⟩))
theorem V.iload_n {j : Fin 4} {z : Int} (hd : dec my pc = .ok (.iload_n j, 1)) (hl : lkp lo j = some (rI z)) (hn : pc + 1 = n) (k : V E l my sc d NT ST Post n lo (rI z :: st) G μ) : V E l my sc d NT ST Post pc lo st G μ := by
  subst hn
  intro p e R s m args below meth c H locs cells slots Qf ls C D L hr
  exact lv_iload_n C.1.1 C.1.2.1 hd rfl (L.2.2 _ _ hl).1 (k p e R s m args below meth c H locs cells slots Qf ls C D L hr)
theorem V.iload {j : Nat} {z : Int} (hd : dec my pc = .ok (.iload j, 2)) (hl : lkp lo j = some (rI z)) (hn : pc + 2 = n) (k : V E l my sc d NT ST Post n lo (rI z :: st) G μ) : V E l my sc d NT ST Post pc lo st G μ := by
  subst hn
  intro p e R s m args below meth c H locs cells slots Qf ls C D L hr
  exact lv_iload C.1.1 C.1.2.1 hd (L.2.2 _ _ hl).1 (k p e R s m args below meth c H locs cells slots Qf ls C D L hr)
theorem V.aload_n {j : Fin 4} {a : Nat} (hd : dec my pc = .ok (.aload_n j, 1)) (hl : lkp lo j = some (rA E a)) (hn : pc + 1 = n) (k : V E l my sc d NT ST Post n lo (rA E a :: st) G μ) : V E l my sc d NT ST Post pc lo st G μ := by
  subst hn
  intro p e R s m args below meth c H locs cells slots Qf ls C D L hr
  exact lv_aload_n C.1.1 C.1.2.1 hd rfl (L.2.2 _ _ hl).1 (k p e R s m args below meth c H locs cells slots Qf ls C D L hr)
theorem V.iconst {v : Int} (hd : dec my pc = .ok (.iconst v, 1)) (hn : pc + 1 = n) (k : V E l my sc d NT ST Post n lo (rI v :: st) G μ) : V E l my sc d NT ST Post pc lo st G μ := by
  subst hn
  intro p e R s m args below meth c H locs cells slots Qf ls C D L hr
  exact lv_iconst C.1.1 C.1.2.1 hd rfl (k p e R s m args below meth c H locs cells slots Qf ls C D L hr)
theorem V.bipush {v : Int} (hd : dec my pc = .ok (.bipush v, 2)) (hv : (Int8.ofInt v).toInt32 = Int32.ofInt v) (hn : pc + 2 = n) (k : V E l my sc d NT ST Post n lo (rI v :: st) G μ) : V E l my sc d NT ST Post pc lo st G μ := by
  subst hn
  intro p e R s m args below meth c H locs cells slots Qf ls C D L hr
  exact lv_bipush C.1.1 C.1.2.1 hd hv (k p e R s m args below meth c H locs cells slots Qf ls C D L hr)
theorem V.sipush {v : Int} (hd : dec my pc = .ok (.sipush v, 3)) (hv : (Int16.ofInt v).toInt32 = Int32.ofInt v) (hn : pc + 3 = n) (k : V E l my sc d NT ST Post n lo (rI v :: st) G μ) : V E l my sc d NT ST Post pc lo st G μ := by
  subst hn
  intro p e R s m args below meth c H locs cells slots Qf ls C D L hr
  exact lv_sipush C.1.1 C.1.2.1 hd hv (k p e R s m args below meth c H locs cells slots Qf ls C D L hr)
theorem V.iadd {x y : Int} (hd : dec my pc = .ok (.iadd, 1)) (hn : pc + 1 = n) (k : V E l my sc d NT ST Post n lo (rI (x + y) :: st) G μ) : V E l my sc d NT ST Post pc lo (rI y :: rI x :: st) G μ := by
  subst hn
  intro p e R s m args below meth c H locs cells slots Qf ls C D L hr
  have h := k p e R s m args below meth c H locs cells slots Qf ls C D L hr
  rw [rI, Int32.ofInt_add] at h
  exact lv_iadd C.1.1 C.1.2.1 hd h
theorem V.isub {x y : Int} (hd : dec my pc = .ok (.isub, 1)) (hn : pc + 1 = n) (k : V E l my sc d NT ST Post n lo (rI (x - y) :: st) G μ) : V E l my sc d NT ST Post pc lo (rI y :: rI x :: st) G μ := by
  subst hn
  intro p e R s m args below meth c H locs cells slots Qf ls C D L hr
  have h := k p e R s m args below meth c H locs cells slots Qf ls C D L hr
  rw [rI, Int32.ofInt_sub] at h
  exact lv_isub C.1.1 C.1.2.1 hd h
theorem V.imul {x y : Int} (hd : dec my pc = .ok (.imul, 1)) (hn : pc + 1 = n) (k : V E l my sc d NT ST Post n lo (rI (x * y) :: st) G μ) : V E l my sc d NT ST Post pc lo (rI y :: rI x :: st) G μ := by
  subst hn
  intro p e R s m args below meth c H locs cells slots Qf ls C D L hr
  have h := k p e R s m args below meth c H locs cells slots Qf ls C D L hr
  rw [rI, Int32.ofInt_mul] at h
  exact lv_imul C.1.1 C.1.2.1 hd h
theorem V.dup {v : Value} (hd : dec my pc = .ok (.dup, 1)) (hv : v.category = 1) (hn : pc + 1 = n) (k : V E l my sc d NT ST Post n lo (v :: v :: st) G μ) : V E l my sc d NT ST Post pc lo (v :: st) G μ := by
  subst hn
  intro p e R s m args below meth c H locs cells slots Qf ls C D L hr
  exact lv_dup C.1.1 C.1.2.1 hd hv (k p e R s m args below meth c H locs cells slots Qf ls C D L hr)
theorem V.goto {o : Int} (hd : dec my pc = .ok (.goto o, 3)) (hn : (pc : Int) + o = (n : Int)) (k : V E l my sc d NT ST Post n lo st G μ) : V E l my sc d NT ST Post pc lo st G μ := by
  intro p e R s m args below meth c H locs cells slots Qf ls C D L hr
  exact lv_goto C.1.1 C.1.2.1 hd hn (k p e R s m args below meth c H locs cells slots Qf ls C D L hr)
theorem V.istore_n {j : Fin 4} {z : Int} (hd : dec my pc = .ok (.istore_n j, 1)) (hj : (j : Nat) < my.2.2.2.1) (hn : pc + 1 = n) (k : V E l my sc d NT ST Post n (((j : Nat), rI z) :: lo) st G μ) : V E l my sc d NT ST Post pc lo (rI z :: st) G μ := by
  subst hn
  intro p e R s m args below meth c H locs cells slots Qf ls C D L hr
  exact lv_istore_n C.1.1 C.1.2.1 hd rfl L.has hj rfl (fun ls' h' => k p e R s m args below meth c H locs cells slots Qf ls' C D (L.put rfl h') hr)
theorem V.istore {j : Nat} {z : Int} (hd : dec my pc = .ok (.istore j, 2)) (hj : j < my.2.2.2.1) (hn : pc + 2 = n) (k : V E l my sc d NT ST Post n ((j, rI z) :: lo) st G μ) : V E l my sc d NT ST Post pc lo (rI z :: st) G μ := by
  subst hn
  intro p e R s m args below meth c H locs cells slots Qf ls C D L hr
  exact lv_istore C.1.1 C.1.2.1 hd L.has hj rfl (fun ls' h' => k p e R s m args below meth c H locs cells slots Qf ls' C D (L.put rfl h') hr)
theorem V.astore_n {j : Fin 4} {a : Nat} (hd : dec my pc = .ok (.astore_n j, 1)) (hj : (j : Nat) < my.2.2.2.1) (hn : pc + 1 = n) (k : V E l my sc d NT ST Post n (((j : Nat), rA E a) :: lo) st G μ) : V E l my sc d NT ST Post pc lo (rA E a :: st) G μ := by
  subst hn
  intro p e R s m args below meth c H locs cells slots Qf ls C D L hr
  exact lv_astore_n C.1.1 C.1.2.1 hd rfl L.has hj rfl (fun ls' h' => k p e R s m args below meth c H locs cells slots Qf ls' C D (L.put rfl h') hr)
theorem V.astore {j : Nat} {a : Nat} (hd : dec my pc = .ok (.astore j, 2)) (hj : j < my.2.2.2.1) (hn : pc + 2 = n) (k : V E l my sc d NT ST Post n ((j, rA E a) :: lo) st G μ) : V E l my sc d NT ST Post pc lo (rA E a :: st) G μ := by
  subst hn
  intro p e R s m args below meth c H locs cells slots Qf ls C D L hr
  exact lv_astore C.1.1 C.1.2.1 hd L.has hj rfl (fun ls' h' => k p e R s m args below meth c H locs cells slots Qf ls' C D (L.put rfl h') hr)
theorem V.aload {j : Nat} {a : Nat} (hd : dec my pc = .ok (.aload j, 2)) (hl : lkp lo j = some (rA E a)) (hn : pc + 2 = n) (k : V E l my sc d NT ST Post n lo (rA E a :: st) G μ) : V E l my sc d NT ST Post pc lo st G μ := by
  subst hn
  intro p e R s m args below meth c H locs cells slots Qf ls C D L hr
  exact lv_aload C.1.1 C.1.2.1 hd (L.2.2 _ _ hl).1 (k p e R s m args below meth c H locs cells slots Qf ls C D L hr)
/-- iinc: the local's new value is named in the list -/
theorem V.iinc {j : Nat} {z o : Int} (hd : dec my pc = .ok (.iinc j o, 3)) (hl : lkp lo j = some (rI z)) (hj : j < my.2.2.2.1) (hn : pc + 3 = n) (k : V E l my sc d NT ST Post n ((j, rI (z + o)) :: lo) st G μ) : V E l my sc d NT ST Post pc lo st G μ := by
  subst hn
  intro p e R s m args below meth c H locs cells slots Qf ls C D L hr
  have hm := List.mem_filterMap.mpr (⟨(j, rI z), lkp_mem hl, by simp [hl]⟩ : ∃ a ∈ lo, (fun q : Nat × Value => (lkp lo q.1).map fun v => (q.1, v)) a = some (j, rI z))
  obtain ⟨i, hi⟩ := List.getElem?_of_mem hm
  exact lv_iinc (v := Int32.ofInt (z + o)) C.1.1 C.1.2.1 hd L.has hi (by rw [Int32.ofInt_add]) hj rfl (fun ls' h' => k p e R s m args below meth c H locs cells slots Qf ls' C D (L.put rfl h') hr)
end VR
end
section
/-! THE RULES: branches, fields, arrays, calls -/
theorem c_lt {x y : Int} (hx : inR x) (hy : inR y) : Int32.ofInt x < Int32.ofInt y ↔ x < y := by rw [Int32.lt_iff_toInt_lt, tI hx, tI hy]
theorem c_le {x y : Int} (hx : inR x) (hy : inR y) : Int32.ofInt x ≤ Int32.ofInt y ↔ x ≤ y := by rw [Int32.le_iff_toInt_le, tI hx, tI hy]
theorem c_eq {x y : Int} (hx : inR x) (hy : inR y) : Int32.ofInt x = Int32.ofInt y ↔ x = y := by rw [← Int32.toInt_inj, tI hx, tI hy]
theorem inR0 : inR 0 := ⟨by decide, by decide⟩
section VB
variable {E : EV} {l : Launch} {my : MR} {sc : Option (Nat × Nat × (Nat → Int))} {d NT ST : Nat} {Post : Option Value → GG → MU → Prop} {pc n n2 : Nat} {lo : List (Nat × Value)} {st : List Value} {G : GG} {μ : MU} {x y o : Int}
theorem V.icmp_eq (hd : dec my pc = .ok (.if_icmp .eq o, 3)) (hx : inR x) (hy : inR y) (ht : (pc : Int) + o = (n2 : Int)) (hn : pc + 3 = n) (kt : x = y → V E l my sc d NT ST Post n2 lo st G μ) (kf : ¬ x = y → V E l my sc d NT ST Post n lo st G μ) : V E l my sc d NT ST Post pc lo (rI y :: rI x :: st) G μ := by
  subst hn
  intro p e R s m args below meth c H locs cells slots Qf ls C D L hr
  have hc := c_eq hx hy
  exact lv_icmp_eq C.1.1 C.1.2.1 hd ht (fun h => kt (hc.mp h) p e R s m args below meth c H locs cells slots Qf ls C D L hr) (fun h => kf (fun q => h (hc.mpr q)) p e R s m args below meth c H locs cells slots Qf ls C D L hr)
theorem V.icmp_eqT (hd : dec my pc = .ok (.if_icmp .eq o, 3)) (hx : inR x) (hy : inR y) (h : x = y) (ht : (pc : Int) + o = (n2 : Int)) (k : V E l my sc d NT ST Post n2 lo st G μ) : V E l my sc d NT ST Post pc lo (rI y :: rI x :: st) G μ := V.icmp_eq hd hx hy ht rfl (fun _ => k) (fun q => absurd h q)
theorem V.icmp_eqF (hd : dec my pc = .ok (.if_icmp .eq o, 3)) (hx : inR x) (hy : inR y) (h : ¬ x = y) (hn : pc + 3 = n) (ht : ∃ n2 : Nat, (pc : Int) + o = (n2 : Int)) (k : V E l my sc d NT ST Post n lo st G μ) : V E l my sc d NT ST Post pc lo (rI y :: rI x :: st) G μ := ht.elim fun _ ht => V.icmp_eq hd hx hy ht hn (fun q => absurd q h) (fun _ => k)
theorem V.if_eq (hd : dec my pc = .ok (.ifCond .eq o, 3)) (hx : inR x) (ht : (pc : Int) + o = (n2 : Int)) (hn : pc + 3 = n) (kt : x = 0 → V E l my sc d NT ST Post n2 lo st G μ) (kf : ¬ x = 0 → V E l my sc d NT ST Post n lo st G μ) : V E l my sc d NT ST Post pc lo (rI x :: st) G μ := by
  subst hn
  intro p e R s m args below meth c H locs cells slots Qf ls C D L hr
  have hc := c_eq hx inR0
  exact lv_if_eq C.1.1 C.1.2.1 hd ht (fun h => kt (hc.mp h) p e R s m args below meth c H locs cells slots Qf ls C D L hr) (fun h => kf (fun q => h (hc.mpr q)) p e R s m args below meth c H locs cells slots Qf ls C D L hr)
theorem V.if_eqT (hd : dec my pc = .ok (.ifCond .eq o, 3)) (hx : inR x) (h : x = 0) (ht : (pc : Int) + o = (n2 : Int)) (k : V E l my sc d NT ST Post n2 lo st G μ) : V E l my sc d NT ST Post pc lo (rI x :: st) G μ := V.if_eq hd hx ht rfl (fun _ => k) (fun q => absurd h q)
theorem V.if_eqF (hd : dec my pc = .ok (.ifCond .eq o, 3)) (hx : inR x) (h : ¬ x = 0) (hn : pc + 3 = n) (ht : ∃ n2 : Nat, (pc : Int) + o = (n2 : Int)) (k : V E l my sc d NT ST Post n lo st G μ) : V E l my sc d NT ST Post pc lo (rI x :: st) G μ := ht.elim fun _ ht => V.if_eq hd hx ht hn (fun q => absurd q h) (fun _ => k)
theorem V.icmp_ne (hd : dec my pc = .ok (.if_icmp .ne o, 3)) (hx : inR x) (hy : inR y) (ht : (pc : Int) + o = (n2 : Int)) (hn : pc + 3 = n) (kt : ¬ x = y → V E l my sc d NT ST Post n2 lo st G μ) (kf : x = y → V E l my sc d NT ST Post n lo st G μ) : V E l my sc d NT ST Post pc lo (rI y :: rI x :: st) G μ := by
  subst hn
  intro p e R s m args below meth c H locs cells slots Qf ls C D L hr
  have hc := not_congr (c_eq hx hy)
  exact lv_icmp_ne C.1.1 C.1.2.1 hd ht (fun h => kt (hc.mp h) p e R s m args below meth c H locs cells slots Qf ls C D L hr) (fun h => kf ((c_eq hx hy).mp h) p e R s m args below meth c H locs cells slots Qf ls C D L hr)
theorem V.icmp_neT (hd : dec my pc = .ok (.if_icmp .ne o, 3)) (hx : inR x) (hy : inR y) (h : ¬ x = y) (ht : (pc : Int) + o = (n2 : Int)) (k : V E l my sc d NT ST Post n2 lo st G μ) : V E l my sc d NT ST Post pc lo (rI y :: rI x :: st) G μ := V.icmp_ne hd hx hy ht rfl (fun _ => k) (fun q => absurd q h)
theorem V.icmp_neF (hd : dec my pc = .ok (.if_icmp .ne o, 3)) (hx : inR x) (hy : inR y) (h : x = y) (hn : pc + 3 = n) (ht : ∃ n2 : Nat, (pc : Int) + o = (n2 : Int)) (k : V E l my sc d NT ST Post n lo st G μ) : V E l my sc d NT ST Post pc lo (rI y :: rI x :: st) G μ := ht.elim fun _ ht => V.icmp_ne hd hx hy ht hn (fun q => absurd h q) (fun _ => k)
theorem V.if_ne (hd : dec my pc = .ok (.ifCond .ne o, 3)) (hx : inR x) (ht : (pc : Int) + o = (n2 : Int)) (hn : pc + 3 = n) (kt : ¬ x = 0 → V E l my sc d NT ST Post n2 lo st G μ) (kf : x = 0 → V E l my sc d NT ST Post n lo st G μ) : V E l my sc d NT ST Post pc lo (rI x :: st) G μ := by
  subst hn
  intro p e R s m args below meth c H locs cells slots Qf ls C D L hr
  have hc := not_congr (c_eq hx inR0)
  exact lv_if_ne C.1.1 C.1.2.1 hd ht (fun h => kt (hc.mp h) p e R s m args below meth c H locs cells slots Qf ls C D L hr) (fun h => kf ((c_eq hx inR0).mp h) p e R s m args below meth c H locs cells slots Qf ls C D L hr)
theorem V.if_neT (hd : dec my pc = .ok (.ifCond .ne o, 3)) (hx : inR x) (h : ¬ x = 0) (ht : (pc : Int) + o = (n2 : Int)) (k : V E l my sc d NT ST Post n2 lo st G μ) : V E l my sc d NT ST Post pc lo (rI x :: st) G μ := V.if_ne hd hx ht rfl (fun _ => k) (fun q => absurd q h)
theorem V.if_neF (hd : dec my pc = .ok (.ifCond .ne o, 3)) (hx : inR x) (h : x = 0) (hn : pc + 3 = n) (ht : ∃ n2 : Nat, (pc : Int) + o = (n2 : Int)) (k : V E l my sc d NT ST Post n lo st G μ) : V E l my sc d NT ST Post pc lo (rI x :: st) G μ := ht.elim fun _ ht => V.if_ne hd hx ht hn (fun q => absurd h q) (fun _ => k)
theorem V.icmp_lt (hd : dec my pc = .ok (.if_icmp .lt o, 3)) (hx : inR x) (hy : inR y) (ht : (pc : Int) + o = (n2 : Int)) (hn : pc + 3 = n) (kt : x < y → V E l my sc d NT ST Post n2 lo st G μ) (kf : ¬ x < y → V E l my sc d NT ST Post n lo st G μ) : V E l my sc d NT ST Post pc lo (rI y :: rI x :: st) G μ := by
  subst hn
  intro p e R s m args below meth c H locs cells slots Qf ls C D L hr
  have hc := c_lt hx hy
  exact lv_icmp_lt C.1.1 C.1.2.1 hd ht (fun h => kt (hc.mp h) p e R s m args below meth c H locs cells slots Qf ls C D L hr) (fun h => kf (fun q => h (hc.mpr q)) p e R s m args below meth c H locs cells slots Qf ls C D L hr)
theorem V.icmp_ltT (hd : dec my pc = .ok (.if_icmp .lt o, 3)) (hx : inR x) (hy : inR y) (h : x < y) (ht : (pc : Int) + o = (n2 : Int)) (k : V E l my sc d NT ST Post n2 lo st G μ) : V E l my sc d NT ST Post pc lo (rI y :: rI x :: st) G μ := V.icmp_lt hd hx hy ht rfl (fun _ => k) (fun q => absurd h q)
theorem V.icmp_ltF (hd : dec my pc = .ok (.if_icmp .lt o, 3)) (hx : inR x) (hy : inR y) (h : ¬ x < y) (hn : pc + 3 = n) (ht : ∃ n2 : Nat, (pc : Int) + o = (n2 : Int)) (k : V E l my sc d NT ST Post n lo st G μ) : V E l my sc d NT ST Post pc lo (rI y :: rI x :: st) G μ := ht.elim fun _ ht => V.icmp_lt hd hx hy ht hn (fun q => absurd q h) (fun _ => k)
theorem V.if_lt (hd : dec my pc = .ok (.ifCond .lt o, 3)) (hx : inR x) (ht : (pc : Int) + o = (n2 : Int)) (hn : pc + 3 = n) (kt : x < 0 → V E l my sc d NT ST Post n2 lo st G μ) (kf : ¬ x < 0 → V E l my sc d NT ST Post n lo st G μ) : V E l my sc d NT ST Post pc lo (rI x :: st) G μ := by
  subst hn
  intro p e R s m args below meth c H locs cells slots Qf ls C D L hr
  have hc := c_lt hx inR0
  exact lv_if_lt C.1.1 C.1.2.1 hd ht (fun h => kt (hc.mp h) p e R s m args below meth c H locs cells slots Qf ls C D L hr) (fun h => kf (fun q => h (hc.mpr q)) p e R s m args below meth c H locs cells slots Qf ls C D L hr)
theorem V.if_ltT (hd : dec my pc = .ok (.ifCond .lt o, 3)) (hx : inR x) (h : x < 0) (ht : (pc : Int) + o = (n2 : Int)) (k : V E l my sc d NT ST Post n2 lo st G μ) : V E l my sc d NT ST Post pc lo (rI x :: st) G μ := V.if_lt hd hx ht rfl (fun _ => k) (fun q => absurd h q)
theorem V.if_ltF (hd : dec my pc = .ok (.ifCond .lt o, 3)) (hx : inR x) (h : ¬ x < 0) (hn : pc + 3 = n) (ht : ∃ n2 : Nat, (pc : Int) + o = (n2 : Int)) (k : V E l my sc d NT ST Post n lo st G μ) : V E l my sc d NT ST Post pc lo (rI x :: st) G μ := ht.elim fun _ ht => V.if_lt hd hx ht hn (fun q => absurd q h) (fun _ => k)
theorem V.icmp_ge (hd : dec my pc = .ok (.if_icmp .ge o, 3)) (hx : inR x) (hy : inR y) (ht : (pc : Int) + o = (n2 : Int)) (hn : pc + 3 = n) (kt : y ≤ x → V E l my sc d NT ST Post n2 lo st G μ) (kf : ¬ y ≤ x → V E l my sc d NT ST Post n lo st G μ) : V E l my sc d NT ST Post pc lo (rI y :: rI x :: st) G μ := by
  subst hn
  intro p e R s m args below meth c H locs cells slots Qf ls C D L hr
  have hc := c_le hy hx
  exact lv_icmp_ge C.1.1 C.1.2.1 hd ht (fun h => kt (hc.mp h) p e R s m args below meth c H locs cells slots Qf ls C D L hr) (fun h => kf (fun q => h (hc.mpr q)) p e R s m args below meth c H locs cells slots Qf ls C D L hr)
theorem V.icmp_geT (hd : dec my pc = .ok (.if_icmp .ge o, 3)) (hx : inR x) (hy : inR y) (h : y ≤ x) (ht : (pc : Int) + o = (n2 : Int)) (k : V E l my sc d NT ST Post n2 lo st G μ) : V E l my sc d NT ST Post pc lo (rI y :: rI x :: st) G μ := V.icmp_ge hd hx hy ht rfl (fun _ => k) (fun q => absurd h q)
theorem V.icmp_geF (hd : dec my pc = .ok (.if_icmp .ge o, 3)) (hx : inR x) (hy : inR y) (h : ¬ y ≤ x) (hn : pc + 3 = n) (ht : ∃ n2 : Nat, (pc : Int) + o = (n2 : Int)) (k : V E l my sc d NT ST Post n lo st G μ) : V E l my sc d NT ST Post pc lo (rI y :: rI x :: st) G μ := ht.elim fun _ ht => V.icmp_ge hd hx hy ht hn (fun q => absurd q h) (fun _ => k)
theorem V.if_ge (hd : dec my pc = .ok (.ifCond .ge o, 3)) (hx : inR x) (ht : (pc : Int) + o = (n2 : Int)) (hn : pc + 3 = n) (kt : 0 ≤ x → V E l my sc d NT ST Post n2 lo st G μ) (kf : ¬ 0 ≤ x → V E l my sc d NT ST Post n lo st G μ) : V E l my sc d NT ST Post pc lo (rI x :: st) G μ := by
  subst hn
  intro p e R s m args below meth c H locs cells slots Qf ls C D L hr
  have hc := c_le inR0 hx
  exact lv_if_ge C.1.1 C.1.2.1 hd ht (fun h => kt (hc.mp h) p e R s m args below meth c H locs cells slots Qf ls C D L hr) (fun h => kf (fun q => h (hc.mpr q)) p e R s m args below meth c H locs cells slots Qf ls C D L hr)
theorem V.if_geT (hd : dec my pc = .ok (.ifCond .ge o, 3)) (hx : inR x) (h : 0 ≤ x) (ht : (pc : Int) + o = (n2 : Int)) (k : V E l my sc d NT ST Post n2 lo st G μ) : V E l my sc d NT ST Post pc lo (rI x :: st) G μ := V.if_ge hd hx ht rfl (fun _ => k) (fun q => absurd h q)
theorem V.if_geF (hd : dec my pc = .ok (.ifCond .ge o, 3)) (hx : inR x) (h : ¬ 0 ≤ x) (hn : pc + 3 = n) (ht : ∃ n2 : Nat, (pc : Int) + o = (n2 : Int)) (k : V E l my sc d NT ST Post n lo st G μ) : V E l my sc d NT ST Post pc lo (rI x :: st) G μ := ht.elim fun _ ht => V.if_ge hd hx ht hn (fun q => absurd q h) (fun _ => k)
theorem V.icmp_gt (hd : dec my pc = .ok (.if_icmp .gt o, 3)) (hx : inR x) (hy : inR y) (ht : (pc : Int) + o = (n2 : Int)) (hn : pc + 3 = n) (kt : y < x → V E l my sc d NT ST Post n2 lo st G μ) (kf : ¬ y < x → V E l my sc d NT ST Post n lo st G μ) : V E l my sc d NT ST Post pc lo (rI y :: rI x :: st) G μ := by
  subst hn
  intro p e R s m args below meth c H locs cells slots Qf ls C D L hr
  have hc := c_lt hy hx
  exact lv_icmp_gt C.1.1 C.1.2.1 hd ht (fun h => kt (hc.mp h) p e R s m args below meth c H locs cells slots Qf ls C D L hr) (fun h => kf (fun q => h (hc.mpr q)) p e R s m args below meth c H locs cells slots Qf ls C D L hr)
theorem V.icmp_gtT (hd : dec my pc = .ok (.if_icmp .gt o, 3)) (hx : inR x) (hy : inR y) (h : y < x) (ht : (pc : Int) + o = (n2 : Int)) (k : V E l my sc d NT ST Post n2 lo st G μ) : V E l my sc d NT ST Post pc lo (rI y :: rI x :: st) G μ := V.icmp_gt hd hx hy ht rfl (fun _ => k) (fun q => absurd h q)
theorem V.icmp_gtF (hd : dec my pc = .ok (.if_icmp .gt o, 3)) (hx : inR x) (hy : inR y) (h : ¬ y < x) (hn : pc + 3 = n) (ht : ∃ n2 : Nat, (pc : Int) + o = (n2 : Int)) (k : V E l my sc d NT ST Post n lo st G μ) : V E l my sc d NT ST Post pc lo (rI y :: rI x :: st) G μ := ht.elim fun _ ht => V.icmp_gt hd hx hy ht hn (fun q => absurd q h) (fun _ => k)
theorem V.if_gt (hd : dec my pc = .ok (.ifCond .gt o, 3)) (hx : inR x) (ht : (pc : Int) + o = (n2 : Int)) (hn : pc + 3 = n) (kt : 0 < x → V E l my sc d NT ST Post n2 lo st G μ) (kf : ¬ 0 < x → V E l my sc d NT ST Post n lo st G μ) : V E l my sc d NT ST Post pc lo (rI x :: st) G μ := by
  subst hn
  intro p e R s m args below meth c H locs cells slots Qf ls C D L hr
  have hc := c_lt inR0 hx
  exact lv_if_gt C.1.1 C.1.2.1 hd ht (fun h => kt (hc.mp h) p e R s m args below meth c H locs cells slots Qf ls C D L hr) (fun h => kf (fun q => h (hc.mpr q)) p e R s m args below meth c H locs cells slots Qf ls C D L hr)
theorem V.if_gtT (hd : dec my pc = .ok (.ifCond .gt o, 3)) (hx : inR x) (h : 0 < x) (ht : (pc : Int) + o = (n2 : Int)) (k : V E l my sc d NT ST Post n2 lo st G μ) : V E l my sc d NT ST Post pc lo (rI x :: st) G μ := V.if_gt hd hx ht rfl (fun _ => k) (fun q => absurd h q)
theorem V.if_gtF (hd : dec my pc = .ok (.ifCond .gt o, 3)) (hx : inR x) (h : ¬ 0 < x) (hn : pc + 3 = n) (ht : ∃ n2 : Nat, (pc : Int) + o = (n2 : Int)) (k : V E l my sc d NT ST Post n lo st G μ) : V E l my sc d NT ST Post pc lo (rI x :: st) G μ := ht.elim fun _ ht => V.if_gt hd hx ht hn (fun q => absurd q h) (fun _ => k)
theorem V.icmp_le (hd : dec my pc = .ok (.if_icmp .le o, 3)) (hx : inR x) (hy : inR y) (ht : (pc : Int) + o = (n2 : Int)) (hn : pc + 3 = n) (kt : x ≤ y → V E l my sc d NT ST Post n2 lo st G μ) (kf : ¬ x ≤ y → V E l my sc d NT ST Post n lo st G μ) : V E l my sc d NT ST Post pc lo (rI y :: rI x :: st) G μ := by
  subst hn
  intro p e R s m args below meth c H locs cells slots Qf ls C D L hr
  have hc := c_le hx hy
  exact lv_icmp_le C.1.1 C.1.2.1 hd ht (fun h => kt (hc.mp h) p e R s m args below meth c H locs cells slots Qf ls C D L hr) (fun h => kf (fun q => h (hc.mpr q)) p e R s m args below meth c H locs cells slots Qf ls C D L hr)
theorem V.icmp_leT (hd : dec my pc = .ok (.if_icmp .le o, 3)) (hx : inR x) (hy : inR y) (h : x ≤ y) (ht : (pc : Int) + o = (n2 : Int)) (k : V E l my sc d NT ST Post n2 lo st G μ) : V E l my sc d NT ST Post pc lo (rI y :: rI x :: st) G μ := V.icmp_le hd hx hy ht rfl (fun _ => k) (fun q => absurd h q)
theorem V.icmp_leF (hd : dec my pc = .ok (.if_icmp .le o, 3)) (hx : inR x) (hy : inR y) (h : ¬ x ≤ y) (hn : pc + 3 = n) (ht : ∃ n2 : Nat, (pc : Int) + o = (n2 : Int)) (k : V E l my sc d NT ST Post n lo st G μ) : V E l my sc d NT ST Post pc lo (rI y :: rI x :: st) G μ := ht.elim fun _ ht => V.icmp_le hd hx hy ht hn (fun q => absurd q h) (fun _ => k)
theorem V.if_le (hd : dec my pc = .ok (.ifCond .le o, 3)) (hx : inR x) (ht : (pc : Int) + o = (n2 : Int)) (hn : pc + 3 = n) (kt : x ≤ 0 → V E l my sc d NT ST Post n2 lo st G μ) (kf : ¬ x ≤ 0 → V E l my sc d NT ST Post n lo st G μ) : V E l my sc d NT ST Post pc lo (rI x :: st) G μ := by
  subst hn
  intro p e R s m args below meth c H locs cells slots Qf ls C D L hr
  have hc := c_le hx inR0
  exact lv_if_le C.1.1 C.1.2.1 hd ht (fun h => kt (hc.mp h) p e R s m args below meth c H locs cells slots Qf ls C D L hr) (fun h => kf (fun q => h (hc.mpr q)) p e R s m args below meth c H locs cells slots Qf ls C D L hr)
theorem V.if_leT (hd : dec my pc = .ok (.ifCond .le o, 3)) (hx : inR x) (h : x ≤ 0) (ht : (pc : Int) + o = (n2 : Int)) (k : V E l my sc d NT ST Post n2 lo st G μ) : V E l my sc d NT ST Post pc lo (rI x :: st) G μ := V.if_le hd hx ht rfl (fun _ => k) (fun q => absurd h q)
theorem V.if_leF (hd : dec my pc = .ok (.ifCond .le o, 3)) (hx : inR x) (h : ¬ x ≤ 0) (hn : pc + 3 = n) (ht : ∃ n2 : Nat, (pc : Int) + o = (n2 : Int)) (k : V E l my sc d NT ST Post n lo st G μ) : V E l my sc d NT ST Post pc lo (rI x :: st) G μ := ht.elim fun _ ht => V.if_le hd hx ht hn (fun q => absurd q h) (fun _ => k)
theorem V.ifnull {a : Nat} (hd : dec my pc = .ok (.ifnull o, 3)) (hn : pc + 3 = n) (k : V E l my sc d NT ST Post n lo st G μ) : V E l my sc d NT ST Post pc lo (rA E a :: st) G μ := by
  subst hn
  intro p e R s m args below meth c H locs cells slots Qf ls C D L hr
  exact lv_ifnull C.1.1 C.1.2.1 hd (k p e R s m args below meth c H locs cells slots Qf ls C D L hr)
theorem V.aconst_null (hd : dec my pc = .ok (.aconst_null, 1)) (hn : pc + 1 = n) (k : V E l my sc d NT ST Post n lo (.null :: st) G μ) : V E l my sc d NT ST Post pc lo st G μ := by
  subst hn
  intro p e R s m args below meth c H locs cells slots Qf ls C D L hr
  exact lv_null C.1.1 C.1.2.1 hd (k p e R s m args below meth c H locs cells slots Qf ls C D L hr)
theorem V.dup2 {v w : Value} (hd : dec my pc = .ok (.dup2, 1)) (hv : v.category = 1) (hw : w.category = 1) (hn : pc + 1 = n) (k : V E l my sc d NT ST Post n lo (v :: w :: v :: w :: st) G μ) : V E l my sc d NT ST Post pc lo (v :: w :: st) G μ := by
  subst hn
  intro p e R s m args below meth c H locs cells slots Qf ls C D L hr
  exact lv_dup2_11 C.1.1 C.1.2.1 hd hv hw (k p e R s m args below meth c H locs cells slots Qf ls C D L hr)
theorem V.switchOut {dflt lo1 hi : Int} {offs : Array Int} {len : Nat} (hd : dec my pc = .ok (.tableswitch dflt lo1 hi offs, len)) (hx : inR x) (h : x < lo1 ∨ hi < x) (hn : (pc : Int) + dflt = (n : Int)) (k : V E l my sc d NT ST Post n lo st G μ) : V E l my sc d NT ST Post pc lo (rI x :: st) G μ := by
  intro p e R s m args below meth c H locs cells slots Qf ls C D L hr
  exact lv_tableOut C.1.1 C.1.2.1 hd (by rw [tI hx]; exact h) hn (k p e R s m args below meth c H locs cells slots Qf ls C D L hr)
theorem V.switchIn {dflt lo1 hi off : Int} {offs : Array Int} {len : Nat} (hd : dec my pc = .ok (.tableswitch dflt lo1 hi offs, len)) (hx : inR x) (h1 : ¬ x < lo1) (h2 : ¬ hi < x) (ho : offs[(x - lo1).toNat]? = some off) (hn : (pc : Int) + off = (n : Int)) (k : V E l my sc d NT ST Post n lo st G μ) : V E l my sc d NT ST Post pc lo (rI x :: st) G μ := by
  intro p e R s m args below meth c H locs cells slots Qf ls C D L hr
  exact lv_tableIn C.1.1 C.1.2.1 hd (by rw [tI hx]; exact h1) (by rw [tI hx]; exact h2) (by rw [tI hx]; exact ho) hn (k p e R s m args below meth c H locs cells slots Qf ls C D L hr)
end VB
/-! ## cells -/
theorem cE_o (E : EV) (ci : Nat) (fds : List (Option (Option Nat))) (c : Int → Int) : cE E (.inl (ci, fds)) c = .inr (ci, fds.mapIdx (fV E c)) := rfl
theorem cE_a (E : EV) (t n : Nat) (c : Int → Int) (h : t ≠ 3) : cE E (.inr (t, n)) c = .inl (E.2.1 t, n, .inl (fun j => Int32.ofInt (c j))) := by simp [cE, aC, h]
theorem cE_r (E : EV) (n : Nat) (c : Int → Int) : cE E (.inr (3, n)) c = .inl (E.2.1 3, n, .inr (.inr (.inr (.inr (fun j => oA E (c j)))))) := by simp [cE, aC]
theorem fV_at {E : EV} {c : Int → Int} {fds : List (Option (Option Nat))} {k : Nat} {dd : Option (Option Nat)} (h : fds[k]? = some dd) : (fds.mapIdx (fV E c))[k]? = some (fV E c k dd) := by
  rw [List.getElem?_mapIdx, h]; rfl
theorem fV_setI {E : EV} {c : Int → Int} {fds : List (Option (Option Nat))} {k : Nat} {z : Int} (h : fds[k]? = some none) : (fds.mapIdx (fV E c)).set k (rI z) = fds.mapIdx (fV E (fun j => if j = (k : Int) then z else c j)) := by
  apply List.ext_getElem?
  intro j
  rw [List.getElem?_set, List.getElem?_mapIdx, List.getElem?_mapIdx]
  by_cases hj : k = j
  · subst hj
    have hl := (List.getElem?_eq_some_iff.mp h).1
    rw [h, if_pos rfl, if_pos (by rw [List.length_mapIdx]; exact hl)]
    simp [fV]
  · rw [if_neg hj]
    have hj' : ¬ (j : Int) = (k : Int) := fun q => hj (by omega)
    congr 1
    funext dd
    cases dd with
    | none => simp [fV, hj']
    | some t => cases t <;> rfl
theorem fV_setA {E : EV} {c : Int → Int} {fds : List (Option (Option Nat))} {k t : Nat} (h : k < fds.length) : (fds.mapIdx (fV E c)).set k (rA E t) = (fds.set k (some (some t))).mapIdx (fV E c) := by
  apply List.ext_getElem?
  intro j
  rw [List.getElem?_set, List.getElem?_mapIdx, List.getElem?_mapIdx, List.getElem?_set]
  by_cases hj : k = j
  · subst hj
    simp [h, fV]
  · rw [if_neg hj, if_neg hj]
theorem wr_eq (μ : MU) (a : Nat) (k : Int) (z : Int) : wr μ a k z a = fun j => if j = k then z else μ a j := wr_self μ a k z
section VH
variable {E : EV} {l : Launch} {my : MR} {sc : Option (Nat × Nat × (Nat → Int))} {d NT ST : Nat} {Post : Option Value → GG → MU → Prop} {pc n : Nat} {lo : List (Nat × Value)} {st : List Value} {G : GG} {μ : MU}
/-- where a walk stands, its heap is no larger than what it has made -/
theorem W_bd {p : Program} {l : Launch} {e : Env} {R : Room} {s : State} {m : MethodId} {args : Array Value} {below : List Frame} {meth : Method} {c : Code} {H : Heap} {locs : List Loc} {cells slots : Nat} {Q : State → Prop} {g : JFrame} (h : H.size ≤ s.heap.size + cells → W p l e R s m args below meth c H locs cells slots Q g) : W p l e R s m args below meth c H locs cells slots Q g :=
  fun T hT X => h (by rw [← hT]; exact X.heapSize) T hT X
/-- the world has moved in what it holds -/
theorem DY.of {R : Room} {s : State} {H H1 : Heap} {locs locs1 : List Loc} {cells slots : Nat} {G' : GG} {μ' : MU} {ws : va_W} (D : DY E G μ NT ST R s H locs cells slots) (hn : G'.1 = G.1) (hs : G'.2.1 = G.2.1) (h0 : 0 < G.1) (hw : ws = wl E G' μ') (hP : va_P E.1 vwCl ws H1) (hS : va_S (fun q => E.2.2 ≤ q) s.heap H1 locs1) (hb : H1.size ≤ s.heap.size + cells) : DY E G' μ' NT ST R s H1 locs1 cells slots := by
  subst hw
  obtain ⟨-, -, h1, h2, h3, h4, h5, h6, h7⟩ := D
  have hl := (hP (G.1 - 1) _ (wl_at (E := E) (G := G') (μ := μ') (a := G.1 - 1) ⟨by omega, rfl⟩)).lt
  refine ⟨⟨hP, ?_⟩, hS, by rw [hn]; exact h1, by rw [hs]; exact h2, h3, h4, by rw [hn]; exact h5, by rw [hn]; exact h6, by rw [hs]; exact h7⟩
  rw [hn]
  simp only at hl
  omega
/-- one cell more -/
theorem DY.more {R : Room} {s : State} {H H1 : Heap} {locs locs1 : List Loc} {cells slots sl q : Nat} {G' : GG} {μ' : MU} {e : va_E} (D : DY E G μ NT ST R s H locs cells slots) (hn : G'.1 = G.1 + 1) (hs : G'.2.1 = G.2.1 + sl) (hG : ∀ b, b ≠ G.1 → G'.2.2 b = G.2.2 b ∧ μ' b = μ b) (he : e = cE E (G'.2.2 G.1) (μ' G.1))
    (hP : va_P E.1 vwCl (wl E G μ ++ [(q, e)]) H1) (hD : va_D (fun q => E.2.2 ≤ q) (wl E G μ ++ [(q, e)])) (hS : va_S (fun q => E.2.2 ≤ q) s.heap H1 locs1) (hb : H1.size ≤ s.heap.size + (cells + 1)) (h1 : G.1 + 1 ≤ NT) (h2 : G.2.1 + sl ≤ ST) : q = E.2.2 + G.1 ∧ DY E G' μ' NT ST R s H1 locs1 (cells + 1) (slots + sl) := by
  obtain ⟨-, -, g1, g2, g3, g4, g5, g6, g7⟩ := D
  have hlen : (wl E G μ).length = G.1 := by simp [wl]
  have hlast : (wl E G μ ++ [(q, e)])[G.1]? = some (q, e) := by rw [List.getElem?_append_right (by omega), hlen]; simp
  have hlt := (hP G.1 _ hlast).lt
  have hge := hD.2 G.1 _ hlast
  simp only at hlt hge
  have hq : q = E.2.2 + G.1 := by
    by_cases hx : q < E.2.2 + G.1
    · exfalso
      have hk : q - E.2.2 < G.1 := by omega
      have h := hD.1 (q - E.2.2) G.1 (E.2.2 + (q - E.2.2), cE E (G.2.2 (q - E.2.2)) (μ (q - E.2.2))) (q, e) (by rw [List.getElem?_append_left (by omega)]; simp [wl, hk]) hlast (by show E.2.2 + (q - E.2.2) = q; omega)
      omega
    · omega
  have hw : wl E G μ ++ [(q, e)] = wl E G' μ' := by
    simp only [wl, hn, List.range_succ, List.map_append, List.map_cons, List.map_nil]
    congr 1
    · refine List.map_congr_left fun k hk => ?_
      have hk' : k < G.1 := List.mem_range.mp hk
      rw [(hG k (by omega)).1, (hG k (by omega)).2]
    · rw [hq, he]
  refine ⟨hq, ⟨⟨hw ▸ hP, by rw [hn]; omega⟩, hS, by rw [hn]; omega, by rw [hs]; omega, by omega, by omega, by rw [hn]; omega, by rw [hn]; omega, by rw [hs]; omega⟩⟩
theorem V.getI {a idx ci k : Nat} {kz : Int} {fds : List (Option (Option Nat))} (hd : dec my pc = .ok (.getfield idx, 3)) (hf : FL my.1 idx ci k kz) (ho : obj G a (.inl (ci, fds))) (hk : fds[k]? = some none) (hn : pc + 3 = n) (kk : V E l my sc d NT ST Post n lo (rI (μ a kz) :: st) G μ) : V E l my sc d NT ST Post pc lo (rA E a :: st) G μ := by
  subst hn
  intro p e R s m args below meth c H locs cells slots Qf ls C D L hr
  obtain ⟨C', T, N, hc, hkN, rfl, hl⟩ := hf
  have hw := wl_at (E := E) (μ := μ) ho
  rw [cE_o] at hw
  have hin := (cls_ok _ _ _ _ hc).1
  rcases hl with hl | ⟨host, hl⟩
  · exact va_get (ref := (T k).1) C.1.1 C.1.2.1 C.1.2.2.2.2 hin C.1.2.2.2.1 C.2.1.2.1 D.1.1 a hw hc k hkN (C.1.2.2.2.2 _ hl) (fun x h => h) (fV_at hk) hd (kk p e R s m args below meth c H locs cells slots Qf ls C D L hr)
  · exact va_getN (ref := (T k).1) (host := host) C.1.1 C.1.2.1 C.1.2.2.2.2 hin C.1.2.2.2.1 C.2.1.2.1 D.1.1 a hw hc k hkN (va_Nw.use rfl (C.2.1.1 _ hl)) (fun x h => h) (fV_at hk) hd (kk p e R s m args below meth c H locs cells slots Qf ls C D L hr)
theorem V.getA {a t idx ci k : Nat} {kz : Int} {fds : List (Option (Option Nat))} (hd : dec my pc = .ok (.getfield idx, 3)) (hf : FL my.1 idx ci k kz) (ho : obj G a (.inl (ci, fds))) (hk : fds[k]? = some (some (some t))) (hn : pc + 3 = n) (kk : V E l my sc d NT ST Post n lo (rA E t :: st) G μ) : V E l my sc d NT ST Post pc lo (rA E a :: st) G μ := by
  subst hn
  intro p e R s m args below meth c H locs cells slots Qf ls C D L hr
  obtain ⟨C', T, N, hc, hkN, -, hl⟩ := hf
  have hw := wl_at (E := E) (μ := μ) ho
  rw [cE_o] at hw
  have hin := (cls_ok _ _ _ _ hc).1
  rcases hl with hl | ⟨host, hl⟩
  · exact va_get (ref := (T k).1) C.1.1 C.1.2.1 C.1.2.2.2.2 hin C.1.2.2.2.1 C.2.1.2.1 D.1.1 a hw hc k hkN (C.1.2.2.2.2 _ hl) (fun x h => h) (fV_at hk) hd (kk p e R s m args below meth c H locs cells slots Qf ls C D L hr)
  · exact va_getN (ref := (T k).1) (host := host) C.1.1 C.1.2.1 C.1.2.2.2.2 hin C.1.2.2.2.1 C.2.1.2.1 D.1.1 a hw hc k hkN (va_Nw.use rfl (C.2.1.1 _ hl)) (fun x h => h) (fV_at hk) hd (kk p e R s m args below meth c H locs cells slots Qf ls C D L hr)
/-- a field that isn't final -/
theorem V.putI {a idx ci k : Nat} {kz z : Int} {ty : FieldType} {fds : List (Option (Option Nat))} (hd : dec my pc = .ok (.putfield idx, 3)) (hf : FL my.1 idx ci k kz) (ht : FTY ci k ty false) (hfit : narrow ty (rI z) = rI z ∧ fits ty (rI z) = true) (ho : obj G a (.inl (ci, fds))) (hk : fds[k]? = some none) (hn : pc + 3 = n) (kk : V E l my sc d NT ST Post n lo st G (wr μ a kz z)) : V E l my sc d NT ST Post pc lo (rI z :: rA E a :: st) G μ := by
  subst hn
  intro p e R s m args below meth c H locs cells slots Qf ls C D L hr
  obtain ⟨C', T, N, hc, hkN, rfl, hl⟩ := hf
  obtain ⟨C2, T2, N2, hc2, -, hty, hfin, -⟩ := ht
  obtain ⟨rfl, rfl, rfl⟩ : C2 = C' ∧ T2 = T ∧ N2 = N := by
    have := hc2.symm.trans hc
    simpa using this
  have hw := wl_at (E := E) (μ := μ) ho
  rw [cE_o] at hw
  obtain ⟨hin, ⟨ty0, hty0⟩, hnm⟩ := cls_ok _ _ _ _ hc
  have hts := C.1.2.2.2.2
  have hln : k < (fds.mapIdx (fV E (μ a))).length := by rw [List.length_mapIdx]; exact (List.getElem?_eq_some_iff.mp hk).1
  have hws : (wl E G μ).set a (E.2.2 + a, .inr (ci, (fds.mapIdx (fV E (μ a))).set k (rI z))) = wl E G (wr μ a k z) :=
    wl_set rfl (by rw [ho.2, cE_o, wr_eq, fV_setI hk]) (fun _ _ => rfl) (fun b hb => wr_a hb)
  have h0 : 0 < G.1 := Nat.lt_of_le_of_lt (Nat.zero_le _) ho.1
  rcases hl with hl | ⟨host, hl⟩
  · exact va_put (ref := (T2 k).1) C.1.1 C.1.2.1 hts hin ty0 hty0 hnm C.1.2.2.2.1 C.2.1.2.1 D.1.1 (wl_D E G μ) D.2.1 a hw hc k hkN (hts _ hl) (fun x h => h) hfin hty hfit.1 hfit.2 hln hd (fun H1 locs1 hP1 _ hS1 => W_bd fun hb => kk p e R s m args below meth c H1 locs1 cells slots Qf ls C (D.of rfl rfl h0 hws hP1 hS1 hb) L hr)
  · exact va_putN (ref := (T2 k).1) (host := host) C.1.1 C.1.2.1 hts hin ty0 hty0 hnm C.1.2.2.2.1 C.2.1.2.1 D.1.1 (wl_D E G μ) D.2.1 a hw hc k hkN (va_Nw.use rfl (C.2.1.1 _ hl)) (fun x h => h) hfin hty hfit.1 hfit.2 hln hd (fun H1 locs1 hP1 _ hS1 => W_bd fun hb => kk p e R s m args below meth c H1 locs1 cells slots Qf ls C (D.of rfl rfl h0 hws hP1 hS1 hb) L hr)
/-- a final field, put by its class's constructor: a reference -/
theorem V.putFA {a t idx ci k : Nat} {kz : Int} {ty : FieldType} {fds : List (Option (Option Nat))} (hd : dec my pc = .ok (.putfield idx, 3)) (hf : FL my.1 idx ci k kz) (hnest : ∃ (T : u_T) (N : Nat), vwCl[ci]? = some (my.1, T, N) ∧ Cond.fieldLink my.1 idx (T k).1 (T k).2.1 (T k).2.2.1 ∈ gw) (ht : FTY ci k ty true) (hini : my.2.1.name = "<init>") (hfit : ∀ x, narrow ty (.ref x) = .ref x ∧ fits ty (.ref x) = true) (ho : obj G a (.inl (ci, fds))) (hk : k < fds.length) (hn : pc + 3 = n) (kk : V E l my sc d NT ST Post n lo st (shp G a (.inl (ci, fds.set k (some (some t))))) μ) : V E l my sc d NT ST Post pc lo (rA E t :: rA E a :: st) G μ := by
  subst hn
  intro p e R s m args below meth c H locs cells slots Qf ls C D L hr
  obtain ⟨C', T, N, hc, hkN, rfl, -⟩ := hf
  obtain ⟨C2, T2, N2, hc2, -, hty, hfin, hdcl⟩ := ht
  obtain ⟨T3, N3, hc3, hl⟩ := hnest
  obtain ⟨rfl, rfl, rfl⟩ : C2 = C' ∧ T2 = T ∧ N2 = N := by
    have := hc2.symm.trans hc
    simpa using this
  obtain ⟨hC, rfl, rfl⟩ : my.1 = C2 ∧ T3 = T2 ∧ N3 = N2 := by
    have := hc3.symm.trans hc
    simpa using this
  have hw := wl_at (E := E) (μ := μ) ho
  rw [cE_o] at hw
  obtain ⟨hin, ⟨ty0, hty0⟩, hnm⟩ := cls_ok _ _ _ _ hc
  have hts := C.1.2.2.2.2
  have hln : k < (fds.mapIdx (fV E (μ a))).length := by rw [List.length_mapIdx]; exact hk
  have hws : (wl E G μ).set a (E.2.2 + a, .inr (ci, (fds.mapIdx (fV E (μ a))).set k (rA E t))) = wl E (shp G a (.inl (ci, fds.set k (some (some t))))) μ :=
    wl_set rfl (by simp only [shp, if_true]; rw [cE_o, fV_setA hk]) (fun b hb => by simp [shp, hb]) (fun _ _ => rfl)
  have h0 : 0 < G.1 := Nat.lt_of_le_of_lt (Nat.zero_le _) ho.1
  exact va_putF (ref := (T3 k).1) C.1.1 C.1.2.1 hts hin ty0 hty0 hnm C.1.2.2.2.1 C.2.1.2.1 D.1.1 (wl_D E G μ) D.2.1 a hw hc k hkN (hts _ hl) (fun x h => h) hfin (C.2.2.2.2.1 hini) (by rw [hdcl, hC]) hty (hfit _).1 (hfit _).2 hln hd (fun H1 locs1 hP1 _ hS1 => W_bd fun hb => kk p e R s m args below meth c H1 locs1 cells slots Qf ls C (D.of (G' := shp G a (.inl (ci, fds.set k (some (some t))))) rfl rfl h0 hws hP1 hS1 hb) L hr)
theorem iC {z : Int} (h0 : 0 ≤ z) (h1 : z ≤ 65536) : (((Int32.ofInt z).toNatClampNeg : Nat) : Int) = z := by
  rw [tN h0 (by omega)]; exact Int.toNat_of_nonneg h0
theorem V.iald {a n0 : Nat} {z : Int} (hd : dec my pc = .ok (.iaload, 1)) (ho : obj G a (.inr (0, n0))) (h0 : 0 ≤ z) (h1 : z < n0) (hN : n0 ≤ 65536) (hn : pc + 1 = n) (kk : V E l my sc d NT ST Post n lo (rI (μ a z) :: st) G μ) : V E l my sc d NT ST Post pc lo (rI z :: rA E a :: st) G μ := by
  subst hn
  intro p e R s m args below meth c H locs cells slots Qf ls C D L hr
  have hw := wl_at (E := E) (μ := μ) ho
  rw [cE_a _ _ _ _ (by decide)] at hw
  refine va_iald C.1.1 C.1.2.1 C.2.1.2.1 D.1.1 a 0 hw rfl (inV h0 h1 hN) hd ?_
  simp only [iC h0 (show z ≤ 65536 by omega)]
  exact kk p e R s m args below meth c H locs cells slots Qf ls C D L hr
theorem V.cald {a n0 : Nat} {z : Int} (hd : dec my pc = .ok (.caload, 1)) (ho : obj G a (.inr (1, n0))) (h0 : 0 ≤ z) (h1 : z < n0) (hN : n0 ≤ 65536) (hn : pc + 1 = n) (kk : V E l my sc d NT ST Post n lo (rI (μ a z) :: st) G μ) : V E l my sc d NT ST Post pc lo (rI z :: rA E a :: st) G μ := by
  subst hn
  intro p e R s m args below meth c H locs cells slots Qf ls C D L hr
  have hw := wl_at (E := E) (μ := μ) ho
  rw [cE_a _ _ _ _ (by decide)] at hw
  refine va_cald C.1.1 C.1.2.1 C.2.1.2.1 D.1.1 a 1 hw rfl (inV h0 h1 hN) hd ?_
  simp only [iC h0 (show z ≤ 65536 by omega)]
  exact kk p e R s m args below meth c H locs cells slots Qf ls C D L hr
theorem V.zald {a n0 : Nat} {z : Int} (hd : dec my pc = .ok (.baload, 1)) (ho : obj G a (.inr (2, n0))) (h0 : 0 ≤ z) (h1 : z < n0) (hN : n0 ≤ 65536) (hn : pc + 1 = n) (kk : V E l my sc d NT ST Post n lo (rI (μ a z) :: st) G μ) : V E l my sc d NT ST Post pc lo (rI z :: rA E a :: st) G μ := by
  subst hn
  intro p e R s m args below meth c H locs cells slots Qf ls C D L hr
  have hw := wl_at (E := E) (μ := μ) ho
  rw [cE_a _ _ _ _ (by decide)] at hw
  refine va_zald C.1.1 C.1.2.1 C.2.1.2.1 D.1.1 a 2 hw rfl (inV h0 h1 hN) hd ?_
  simp only [iC h0 (show z ≤ 65536 by omega)]
  exact kk p e R s m args below meth c H locs cells slots Qf ls C D L hr
theorem V.aald {a n0 t : Nat} {z : Int} (hd : dec my pc = .ok (.aaload, 1)) (ho : obj G a (.inr (3, n0))) (h0 : 0 ≤ z) (h1 : z < n0) (hN : n0 ≤ 65536) (hv : μ a z = (t : Int)) (hn : pc + 1 = n) (kk : V E l my sc d NT ST Post n lo (rA E t :: st) G μ) : V E l my sc d NT ST Post pc lo (rI z :: rA E a :: st) G μ := by
  subst hn
  intro p e R s m args below meth c H locs cells slots Qf ls C D L hr
  have hw := wl_at (E := E) (μ := μ) ho
  rw [cE_r] at hw
  refine va_aldq (C := RX6) C.1.1 C.1.2.1 C.2.1.2.1 D.1.1 a 3 hw rfl (inV h0 h1 hN) hd ?_
  simp only [iC h0 (show z ≤ 65536 by omega), hv]
  have ht : va_rf (oA E (t : Int)) = rA E t := by
    unfold oA
    rw [if_neg (by omega)]
    simp [va_rf, rA]
  rw [ht]
  exact kk p e R s m args below meth c H locs cells slots Qf ls C D L hr
theorem upd_wr {μ : MU} {a : Nat} {z x : Int} (h0 : 0 ≤ z) (h1 : z ≤ 65536) (v : Int32) (hv : v = Int32.ofInt x) : upd (fun j : Nat => Int32.ofInt (μ a (j : Int))) (Int32.ofInt z).toNatClampNeg v = fun j : Nat => Int32.ofInt (wr μ a z x a (j : Int)) := by
  funext j
  have h2 := iC h0 h1
  rw [wr_eq]
  unfold upd
  by_cases hj : j = (Int32.ofInt z).toNatClampNeg
  · have hjz : (j : Int) = z := by rw [hj]; exact h2
    rw [if_pos hj]
    show v = Int32.ofInt (if (j : Int) = z then x else μ a j)
    rw [if_pos hjz, hv]
  · have hjz : ¬ (j : Int) = z := fun q => hj (by omega)
    rw [if_neg hj]
    show Int32.ofInt (μ a j) = Int32.ofInt (if (j : Int) = z then x else μ a j)
    rw [if_neg hjz]
theorem V.iast {a n0 : Nat} {z x : Int} (hd : dec my pc = .ok (.iastore, 1)) (ho : obj G a (.inr (0, n0))) (h0 : 0 ≤ z) (h1 : z < n0) (hN : n0 ≤ 65536) (hn : pc + 1 = n) (kk : V E l my sc d NT ST Post n lo st G (wr μ a z x)) : V E l my sc d NT ST Post pc lo (rI x :: rI z :: rA E a :: st) G μ := by
  subst hn
  intro p e R s m args below meth c H locs cells slots Qf ls C D L hr
  have hw := wl_at (E := E) (μ := μ) ho
  rw [cE_a _ _ _ _ (by decide)] at hw
  refine va_iast C.1.1 C.1.2.1 C.2.1.2.1 D.1.1 (wl_D E G μ) D.2.1 a 0 hw rfl (inV h0 h1 hN) hd (fun H1 locs1 hP1 _ hS1 => W_bd fun hb => kk p e R s m args below meth c H1 locs1 cells slots Qf ls C (D.of rfl rfl (Nat.lt_of_le_of_lt (Nat.zero_le _) ho.1) (wl_set rfl ?_ (fun _ _ => rfl) (fun b hb => wr_a hb)) hP1 hS1 hb) L hr)
  rw [ho.2, cE_a _ _ _ _ (by decide), upd_wr h0 (by omega) _ rfl]
theorem V.cast {a n0 : Nat} {z x : Int} (hd : dec my pc = .ok (.castore, 1)) (ho : obj G a (.inr (1, n0))) (h0 : 0 ≤ z) (h1 : z < n0) (hN : n0 ≤ 65536) (hx : narrow .char (rI x) = rI x) (hn : pc + 1 = n) (kk : V E l my sc d NT ST Post n lo st G (wr μ a z x)) : V E l my sc d NT ST Post pc lo (rI x :: rI z :: rA E a :: st) G μ := by
  subst hn
  intro p e R s m args below meth c H locs cells slots Qf ls C D L hr
  have hw := wl_at (E := E) (μ := μ) ho
  rw [cE_a _ _ _ _ (by decide)] at hw
  refine va_cast C.1.1 C.1.2.1 C.2.1.2.1 D.1.1 (wl_D E G μ) D.2.1 a 1 hw rfl (inV h0 h1 hN) hd (fun H1 locs1 hP1 _ hS1 => W_bd fun hb => kk p e R s m args below meth c H1 locs1 cells slots Qf ls C (D.of rfl rfl (Nat.lt_of_le_of_lt (Nat.zero_le _) ho.1) (wl_set rfl ?_ (fun _ _ => rfl) (fun b hb => wr_a hb)) hP1 hS1 hb) L hr)
  rw [ho.2, cE_a _ _ _ _ (by decide), upd_wr (x := x) h0 (by omega) _ (by show vp_nar .char (Int32.ofInt x) = _; unfold vp_nar; rw [show narrow .char (.int (Int32.ofInt x)) = .int (Int32.ofInt x) from hx])]
theorem V.zast {a n0 : Nat} {z x : Int} (hd : dec my pc = .ok (.bastore, 1)) (ho : obj G a (.inr (2, n0))) (h0 : 0 ≤ z) (h1 : z < n0) (hN : n0 ≤ 65536) (hx : narrow .boolean (rI x) = rI x) (hn : pc + 1 = n) (kk : V E l my sc d NT ST Post n lo st G (wr μ a z x)) : V E l my sc d NT ST Post pc lo (rI x :: rI z :: rA E a :: st) G μ := by
  subst hn
  intro p e R s m args below meth c H locs cells slots Qf ls C D L hr
  have hw := wl_at (E := E) (μ := μ) ho
  rw [cE_a _ _ _ _ (by decide)] at hw
  refine va_zast C.1.1 C.1.2.1 C.2.1.2.1 D.1.1 (wl_D E G μ) D.2.1 a 2 hw rfl (inV h0 h1 hN) hd (fun H1 locs1 hP1 _ hS1 => W_bd fun hb => kk p e R s m args below meth c H1 locs1 cells slots Qf ls C (D.of rfl rfl (Nat.lt_of_le_of_lt (Nat.zero_le _) ho.1) (wl_set rfl ?_ (fun _ _ => rfl) (fun b hb => wr_a hb)) hP1 hS1 hb) L hr)
  rw [ho.2, cE_a _ _ _ _ (by decide), upd_wr (x := x) h0 (by omega) _ (by show vp_nar .boolean (Int32.ofInt x) = _; unfold vp_nar; rw [show narrow .boolean (.int (Int32.ofInt x)) = .int (Int32.ofInt x) from hx])]
theorem V.aast {a n0 t : Nat} {z : Int} {fds : List (Option (Option Nat))} (hd : dec my pc = .ok (.aastore, 1)) (ho : obj G a (.inr (3, n0))) (ht : obj G t (.inl (6, fds))) (h0 : 0 ≤ z) (h1 : z < n0) (hN : n0 ≤ 65536) (hn : pc + 1 = n) (kk : V E l my sc d NT ST Post n lo st G (wr μ a z t)) : V E l my sc d NT ST Post pc lo (rA E t :: rI z :: rA E a :: st) G μ := by
  subst hn
  intro p e R s m args below meth c H locs cells slots Qf ls C D L hr
  have hw := wl_at (E := E) (μ := μ) ho
  rw [cE_r] at hw
  have hw2 := wl_at (E := E) (μ := μ) ht
  rw [cE_o] at hw2
  refine va_astq (r := (RX6, TX6, 2)) C.1.1 C.1.2.1 C.2.1.2.1 D.1.1 (wl_D E G μ) D.2.1 a 3 t 6 hw rfl hw2 rfl (inV h0 h1 hN) hd (fun H1 locs1 hP1 _ hS1 => W_bd fun hb => kk p e R s m args below meth c H1 locs1 cells slots Qf ls C (D.of rfl rfl (Nat.lt_of_le_of_lt (Nat.zero_le _) ho.1) (wl_set rfl ?_ (fun _ _ => rfl) (fun b hb => wr_a hb)) hP1 hS1 hb) L hr)
  have h2 := iC h0 (show z ≤ 65536 by omega)
  have hf : va_up (fun j : Nat => oA E (μ a (j : Int))) (Int32.ofInt z).toNatClampNeg (some (E.2.2 + t)) = fun j : Nat => oA E (wr μ a z t a (j : Int)) := by
    funext j
    rw [wr_eq]
    unfold va_up
    by_cases hj : j = (Int32.ofInt z).toNatClampNeg
    · have hjz : (j : Int) = z := by rw [hj]; exact h2
      rw [if_pos hj]
      show some (E.2.2 + t) = oA E (if (j : Int) = z then (t : Int) else μ a j)
      rw [if_pos hjz]
      unfold oA
      rw [if_neg (by omega)]
      simp
    · have hjz : ¬ (j : Int) = z := fun q => hj (by omega)
      rw [if_neg hj]
      show oA E (μ a j) = oA E (if (j : Int) = z then (t : Int) else μ a j)
      rw [if_neg hjz]
  rw [ho.2, cE_r, hf]
theorem V.alen {a t n0 : Nat} (hd : dec my pc = .ok (.arraylength, 1)) (ho : obj G a (.inr (t, n0))) (ht : t < 4) (hn : pc + 1 = n) (kk : V E l my sc d NT ST Post n lo (rI n0 :: st) G μ) : V E l my sc d NT ST Post pc lo (rA E a :: st) G μ := by
  subst hn
  intro p e R s m args below meth c H locs cells slots Qf ls C D L hr
  have hw := wl_at (E := E) (μ := μ) ho
  have hv : ∀ x : Nat, Int32.ofNat x = Int32.ofInt (x : Int) := fun x => rfl
  have hk := kk p e R s m args below meth c H locs cells slots Qf ls C D L hr
  match t, ht, hw with
  | 0, _, hw => exact va_alen C.1.1 C.1.2.1 C.2.1.2.1 D.1.1 a 0 hw rfl (hv n0) hd hk
  | 1, _, hw => exact va_alen C.1.1 C.1.2.1 C.2.1.2.1 D.1.1 a 1 hw rfl (hv n0) hd hk
  | 2, _, hw => exact va_alen C.1.1 C.1.2.1 C.2.1.2.1 D.1.1 a 2 hw rfl (hv n0) hd hk
  | 3, _, hw => exact va_alen C.1.1 C.1.2.1 C.2.1.2.1 D.1.1 a 3 hw rfl (hv n0) hd hk
end VH
end
section
/-! THE RULES: new cells, the JDK's members, calls; a contract KC over the kit's Met -/
theorem gw_good {w : Cond} (h : w ∈ gw) : w ∈ gw ∧ ((w.onTables && w.keeps) = true ∨ ∃ ty, w = .arrayClass ty) := ⟨h, good_of_word (List.mem_filter.mp h).2⟩
theorem jo_1 : Cond.instanceMethod objectInit ∈ gw := gw_of 75 (by decide +kernel) (by decide +kernel)
theorem jo_2 : Cond.code objectInit ⟨#[0xb1]⟩ 1 none ∈ gw := gw_of 76 (by decide +kernel) (by decide +kernel)
theorem jm_1 : Cond.static Lib.Math.max.name ∈ gw := gw_of 96 (by decide +kernel) (by decide +kernel)
theorem jm_2 : Cond.code Lib.Math.max.name Lib.Math.max.code 2 (some .int) ∈ gw := gw_of 97 (by decide +kernel) (by decide +kernel)
theorem jm_3 : Cond.initialized "java/lang/Math" ∈ gw := gw_of 60 (by decide +kernel) (by decide +kernel)
theorem jm_4 : Cond.static Lib.Math.min.name ∈ gw := gw_of 346 (by decide +kernel) (by decide +kernel)
theorem jm_5 : Cond.code Lib.Math.min.name Lib.Math.min.code 2 (some .int) ∈ gw := gw_of 347 (by decide +kernel) (by decide +kernel)
theorem js_1 : Cond.static arraycopyName ∈ gw := gw_of 349 (by decide +kernel) (by decide +kernel)
theorem js_2 : Cond.native arraycopyName ∈ gw := gw_of 350 (by decide +kernel) (by decide +kernel)
theorem js_3 : Cond.initialized "java/lang/System" ∈ gw := gw_of 68 (by decide +kernel) (by decide +kernel)
theorem ja_i : Cond.arrayClass .int ∈ gw := gw_of 102 (by decide +kernel) (by decide +kernel)
theorem ja_c : Cond.arrayClass .char ∈ gw := gw_of 234 (by decide +kernel) (by decide +kernel)
theorem ja_z : Cond.arrayClass .boolean ∈ gw := gw_of 728 (by decide +kernel) (by decide +kernel)
theorem WD.vm {E : EV} {u U : State} (h : u.vm = U.vm) (hw : WD E u) : WD E U := by
  refine ⟨fun w hm => va_Nw.same ?_ h (hw.1 w hm), va_K.moved (by rw [← h]; exact Vm.Alike.refl _) hw.2.1, va_AO.moved (by rw [← h]; exact Vm.Alike.refl _) hw.2.2⟩
  have hn := (List.mem_filter.mp hm).2
  cases w <;> first | rfl | (simp [isNest] at hn; done)
theorem WD.warm {E : EV} {s U : State} (hW : s.WarmedH U.vm) (hw : WD E s) : WD E U := by
  refine ⟨fun w hm => ?_, va_K.moved hW.alike hw.2.1, va_AO.moved hW.alike hw.2.2⟩
  have h1 := hw.1 w hm
  have hn := (List.mem_filter.mp hm).2
  cases w <;> first | exact va_Nw.warmF hW h1 | exact va_Nw.warmM hW h1 | (simp [isNest] at hn; done)
/-- what a call of the method with these arguments, from this memory, comes to -/
def QK (E : EV) (G : GG) (mc ms : Nat) (Q : Option Value → GG → MU → Prop) : Array Value → State → Outcome → State → Prop := fun _ st o t =>
  ∃ (v : Option Value) (G' : GG) (μ' : MU), o = .returned v ∧ Rep E G' μ' t.heap ∧ Q v G' μ' ∧ G'.1 = G.1 + mc ∧ G'.2.1 = G.2.1 + ms ∧ va_F (fun q => E.2.2 ≤ q) st t
def PK (E : EV) (as : List Value) (G : GG) (μ : MU) : Array Value → State → Prop := fun v U => v = as.toArray ∧ Rep E G μ U.heap ∧ WD E U
def KC (E : EV) (l : Launch) (h : Nat) (my : MR) (as : List Value) (G : GG) (μ : MU) (mc ms : Nat) (Q : Option Value → GG → MU → Prop) : Prop :=
  Met l my.2.1 (.code my.2.1 my.2.2.1 my.2.2.2.1 my.2.2.2.2 :: gw) ({ frames := h, cells := mc, slots := ms, locals := 35 * h } : Room) (PK E as G μ) (QK E G mc ms Q) mc ms (fun q => E.2.2 ≤ q)
def la : Nat → List Value → List (Nat × Value)
  | _, [] => []
  | i, v :: vs => (i, v) :: la (i + 1) vs
theorem la_eq : ∀ (vs : List Value) (i : Nat), (∀ v ∈ vs, v.category = 1) → lv_args i vs = la i vs
  | [], _, _ => rfl
  | v :: vs, i, h => by
    have h1 := h v List.mem_cons_self
    have h2 : ¬ v.category = 2 := by omega
    show (i, v) :: lv_args (if v.category = 2 then i + 2 else i + 1) vs = (i, v) :: la (i + 1) vs
    rw [if_neg h2, la_eq vs (i + 1) (fun w hw => h w (List.mem_cons_of_mem _ hw))]
theorem la_cat : ∀ {vs : List Value} {i : Nat}, (∀ v ∈ vs, v.category = 1) → ∀ q ∈ la i vs, q.2.category = 1
  | v :: vs, i, h, q, hq => by
    rcases List.mem_cons.mp hq with rfl | hq
    · exact h v List.mem_cons_self
    · exact la_cat (fun w hw => h w (List.mem_cons_of_mem _ hw)) q hq
def cat1 : List Value → Bool
  | [] => true
  | .int _ :: r => cat1 r
  | .ref _ :: r => cat1 r
  | .null :: r => cat1 r
  | _ :: _ => false
theorem cat1_spec : ∀ {vs : List Value}, cat1 vs = true → ∀ v ∈ vs, v.category = 1
  | .int _ :: r, h, v, hv => by rcases List.mem_cons.mp hv with rfl | hv; exact rfl; exact cat1_spec (vs := r) h v hv
  | .ref _ :: r, h, v, hv => by rcases List.mem_cons.mp hv with rfl | hv; exact rfl; exact cat1_spec (vs := r) h v hv
  | .null :: r, h, v, hv => by rcases List.mem_cons.mp hv with rfl | hv; exact rfl; exact cat1_spec (vs := r) h v hv
theorem cat1_sum : ∀ {vs : List Value}, cat1 vs = true → (vs.map fun v => v.category).sum = vs.length
  | [], _ => rfl
  | .int _ :: r, h => by
    rw [List.map_cons, List.sum_cons, cat1_sum (vs := r) h, List.length_cons]
    show 1 + r.length = r.length + 1
    omega
  | .ref _ :: r, h => by
    rw [List.map_cons, List.sum_cons, cat1_sum (vs := r) h, List.length_cons]
    show 1 + r.length = r.length + 1
    omega
  | .null :: r, h => by
    rw [List.map_cons, List.sum_cons, cat1_sum (vs := r) h, List.length_cons]
    show 1 + r.length = r.length + 1
    omega
theorem cat1_sl : ∀ {vs : List Value}, cat1 vs = true → (lg_sl vs).length = vs.length
  | [], _ => rfl
  | .int _ :: r, h => by
    show (lg_sl r).length + 1 = r.length + 1
    rw [cat1_sl (vs := r) h]
  | .ref _ :: r, h => by
    show (lg_sl r).length + 1 = r.length + 1
    rw [cat1_sl (vs := r) h]
  | .null :: r, h => by
    show (lg_sl r).length + 1 = r.length + 1
    rw [cat1_sl (vs := r) h]
/-- a contract, out of a walk of the clean machine -/
theorem KC.ofV {E : EV} {l : Launch} {h nn : Nat} {my : MR} {as : List Value} {G : GG} {μ : MU} {mc ms : Nat} {Q : Option Value → GG → MU → Prop} (hm : MB my nn) (hc : cat1 as = true) (hn : as.length ≤ my.2.2.2.1) {lo : List (Nat × Value)} (hlo : la 0 as = lo)
    (hV : V E l my none h (G.1 + mc) (G.2.1 + ms) (fun v G' μ' => Q v G' μ' ∧ G'.1 = G.1 + mc ∧ G'.2.1 = G.2.1 + ms) 0 lo [] G μ) : KC E l h my as G μ mc ms Q := by
  subst hlo
  refine Met.ofW (cc := my.2.2.1) (maxL := my.2.2.2.1) (ret := my.2.2.2.2) hm.2.2.2.2 rfl ?_
  intro p e s m args below meth c s₁ B hml hv
  obtain ⟨rfl, hRep, hWD⟩ := hv
  have hts := atoms_spec (ws := (.code my.2.1 my.2.2.1 my.2.2.2.1 my.2.2.2.2 :: gw)) B.pre
  have hown : s.vm.findClass my.1 = some m.cls := by rw [← hm.2.2.1]; exact findClass_of_methodNamed B.named
  have hnm := (name_of_methodNamed B.named B.method).1
  have hl0 := lv_entry as (n := my.2.2.2.1) (by rw [cat1_sl hc]; exact hn)
  rw [lg_entry_eq]
  rw [la_eq as 0 (cat1_spec hc)] at hl0
  have hL : LH ((lg_sl as ++ List.replicate (my.2.2.2.1 - (lg_sl as).length) Slot.unset).toArray) my.2.2.2.1 (la 0 as) :=
    ⟨hl0.1, hl0.2.1, fun j v hj => ⟨hl0.2.2 _ (lkp_mem hj), la_cat (cat1_spec hc) _ (lkp_mem hj)⟩⟩
  refine hV p e _ s m as.toArray below meth c s.heap [] 0 0 _ _ ⟨⟨B.exec, B.bytes, hml, hown, fun w hw => hts w (List.mem_cons_of_mem _ hw)⟩, hWD, ⟨Nat.le_refl _, Nat.le_refl _⟩, by rw [hRep.2]; exact Nat.le_add_right _ _, fun hi => by rw [hnm, hi], fun q hq => by cases hq⟩
    ⟨hRep, va_S.rf, by show 0 + (G.1 + mc) ≤ mc + G.1; omega, by show 0 + (G.2.1 + ms) ≤ ms + G.2.1; omega, Nat.zero_le _, Nat.zero_le _, by rw [hRep.2]; rfl, Nat.le_add_right _ _, Nat.le_add_right _ _⟩ hL ?_
  intro v G' μ' H' locs' cells' slots' pc' ls' stk hP hD hR
  obtain ⟨hQ, hg1, hg2⟩ := hP
  obtain ⟨hRep', hS', d1, d2, d3, d4, d5, d6, d7⟩ := hD
  have e1 : cells' ≤ mc := by have : cells' + (G.1 + mc) ≤ mc + G'.1 := d1; omega
  have e2 : slots' ≤ ms := by have : slots' + (G.2.1 + ms) ≤ ms + G'.2.1 := d2; omega
  have hq : ∀ t : State, t.heap = H' → s.WarmedH t.vm → QK E G mc ms Q as.toArray s (.returned v) t := fun t ht _ => ⟨v, G', μ', rfl, by rw [ht]; exact hRep', hQ, hg1, hg2, hS'.F ht⟩
  have hlocks := B.notSynchronized
  refine W.widen e1 e2 ?_
  rcases hR with ⟨z, rfl, rfl, hd, ty, hty, hna⟩ | ⟨rfl, rfl, hd, hty⟩ | ⟨a, rfl, rfl, hd, ty, hty⟩
  · exact W.zret B.exec B.bytes (B.returns.trans hty) hna hq hS'.2.2 hd
  · exact W.vret B.exec B.bytes (B.returns.trans hty) hq hS'.2.2 hd
  · exact W.aret B.exec B.bytes (B.returns.trans hty) (Or.inl ⟨_, rfl⟩) (Or.inr ⟨_, rfl⟩) hq hS'.2.2 hd
theorem PK.blind {E : EV} {as : List Value} {G : GG} {μ : MU} : FrameBlind (PK E as G μ) := fun a U g mk h => ⟨h.1, h.2.1, h.2.2.vm (u := U) (U := U.calling g mk a) rfl⟩
/-- contracts with what a call wants of the method and the receiver -/
def KV (E : EV) (l : Launch) (h : Nat) (my : MR) (b : Nat) (as : List Value) (G : GG) (μ : MU) (mc ms : Nat) (Q : Option Value → GG → MU → Prop) : Prop :=
  KC E l h my (rA E b :: as) G μ mc ms Q ∧ (∃ (ci : Nat) (fds : List (Option (Option Nat))) (q : vw_C), obj G b (.inl (ci, fds)) ∧ vwCl[ci]? = some q ∧ q.1 = my.1) ∧ MV my as.length ∧ my.2.2.2.1 ≤ 16
def KI (E : EV) (l : Launch) (h : Nat) (my : MR) (b : Nat) (as : List Value) (G : GG) (μ : MU) (mc ms : Nat) (Q : Option Value → GG → MU → Prop) : Prop :=
  KC E l h my (rA E b :: as) G μ mc ms Q ∧ MI my as.length ∧ my.2.2.2.1 ≤ 16
def KS (E : EV) (l : Launch) (h : Nat) (my : MR) (as : List Value) (G : GG) (μ : MU) (mc ms : Nat) (Q : Option Value → GG → MU → Prop) : Prop :=
  KC E l h my as G μ mc ms Q ∧ MS my as.length ∧ my.2.2.2.1 ≤ 16
section VCL
variable {E : EV} {l : Launch} {my : MR} {sc : Option (Nat × Nat × (Nat → Int))} {d NT ST : Nat} {Post : Option Value → GG → MU → Prop} {pc n : Nat} {lo : List (Nat × Value)} {st st0 : List Value} {G : GG} {μ : MU}
theorem run_go {p : Program} {e : Env} {R : Room} {s : State} {m : MethodId} {args : Array Value} {below : List Frame} {meth : Method} {c : Code} {H : Heap} {locs : List Loc} {cells slots mc ms : Nat} {Qf : State → Prop} {ls : Array Slot} {a : Array Value} {Q : Option Value → GG → MU → Prop}
    (C : CX E my sc d p R s m args meth c) (D : DY E G μ NT ST R s H locs cells slots) (L : LH ls my.2.2.2.1 lo)
    (hr : ∀ (v : Option Value) (G' : GG) (μ' : MU) (H' : Heap) (locs' : List Loc) (cells' slots' pc' : Nat) (ls' : Array Slot) (stk : List Value), Post v G' μ' → DY E G' μ' NT ST R s H' locs' cells' slots' → RT my pc' v stk → W p l e R s m args below meth c H' locs' cells' slots' Qf (F0 m pc' ls' stk))
    (hrun : va_Run p l e R s m args below meth c H locs cells slots mc ms (F0 m pc ls st0) st (QK E G mc ms Q a) (fun q => E.2.2 ≤ q)) (h1 : G.1 + mc ≤ NT) (h2 : G.2.1 + ms ≤ ST)
    (k : ∀ (v : Option Value) (G' : GG) (μ' : MU), Q v G' μ' → V E l my sc d NT ST Post (pc + 3) lo (v.toList ++ st) G' μ') : W p l e R s m args below meth c H locs cells slots Qf (F0 m pc ls st0) := by
  intro T hT X
  obtain ⟨v, st₀, t, T', Lc, h0, X', hL, e1, e2, ⟨v', G', μ', hv, hRep, hQ, hn, hs, hF⟩, hst⟩ := hrun T hT X
  cases hv
  obtain ⟨⟨hP, hz⟩, hS, d1, d2, d3, d4, d5, d6, d7⟩ := D
  obtain ⟨t2, a1, b1⟩ := k v G' μ' hQ p e R s m args below meth c T'.heap (locs ++ Lc) (cells + mc) (slots + ms) Qf ls C
    ⟨by rw [e1]; exact hRep, ⟨Nat.le_trans hS.1 (by rw [e1, ← h0]; exact hF.1), fun q q1 q2 => by
        rw [e1, hF.2 q (by rw [h0]; exact Nat.lt_of_lt_of_le q1 hS.1) q2, h0]
        exact hS.2.1 q q1 q2, fun q hq => by
        rcases List.mem_append.mp hq with h | h
        · exact hS.2.2 q h
        · exact hL q h⟩, by rw [hn]; omega, by rw [hs]; omega, by omega, by omega, by rw [hn]; omega, by rw [hn]; omega, by rw [hs]; omega⟩ L hr T' rfl X'
  exact ⟨t2, hst t2 a1, b1⟩
theorem lo35 {d h nl : Nat} {R : Room} (hR : d ≤ R.frames ∧ 35 * d ≤ R.locals) (hd : h + 1 ≤ d) (hl : nl ≤ 16) : h + 1 ≤ R.frames ∧ 8 + (nl + 11) + 35 * h ≤ R.locals := ⟨by omega, by omega⟩
theorem V.callV {idx hc mc ms b : Nat} {y : MR} {As : List Value} {Q : Option Value → GG → MU → Prop} (hd : dec my pc = .ok (.invokevirtual idx, 3)) (hk : Cond.methodLink my.1 idx y.2.1 ∈ gw) (hK : KV E l hc y b As G μ mc ms Q) (hst : st0 = As.reverse ++ rA E b :: st) (hcat : cat1 st = true ∧ st.length ≤ 8) (hdep : hc + 1 ≤ d) (hroom : G.1 + mc ≤ NT ∧ G.2.1 + ms ≤ ST) (hn : pc + 3 = n)
    (k : ∀ (v : Option Value) (G' : GG) (μ' : MU), Q v G' μ' → V E l my sc d NT ST Post n lo (v.toList ++ st) G' μ') : V E l my sc d NT ST Post pc lo st0 G μ := by
  subst hn
  obtain ⟨hM, ⟨ci, fds, q, hob, hq, hq1⟩, hmv, hnl⟩ := hK
  intro p e R s m args below meth c H locs cells slots Qf ls C D L hr
  have hts := C.1.2.2.2.2
  have hw := wl_at (E := E) (μ := μ) hob
  rw [cE_o] at hw
  have hgood : GoodIn gw (wsV my.1 idx y.1 y.2.1 (.code y.2.1 y.2.2.1 y.2.2.2.1 y.2.2.2.2 :: gw)) := by
    intro w hw
    rcases List.mem_append.mp hw with h | h
    · simp only [List.mem_cons, List.not_mem_nil, or_false] at h
      rcases h with rfl | rfl | rfl | rfl
      · exact gw_good hk
      · exact gw_good hmv.2.1
      · exact gw_good hmv.2.2
      · rw [← hmv.1.2.2.1]; exact gw_good hmv.1.2.1
    · rcases List.mem_cons.mp h with rfl | h
      · exact gw_good hmv.1.1
      · exact gw_good h
  refine run_go C D L hr (va_runV (C := y.1) (As := As) (n := As.length) (nL := my.2.2.2.1) C.1 hM (cwV As.length hts hgood rfl rfl rfl ⟨hmv.1.2.2.1, hmv.1.2.2.2.1⟩ (lo35 C.2.2.1 hdep hnl)) ⟨PK.blind, hq1 ▸ va_recv C.2.1.2.1 D.1.1 hq hw, fun U hU hW => ⟨rfl, by rw [hU]; exact D.1, C.2.1.warm hW⟩⟩ rfl rfl L.1 hst (lv_room (by rw [cat1_sum hcat.1]; exact hcat.2)) hd ⟨?_, ?_⟩) hroom.1 hroom.2 k
  · have := D.2.2.1; omega
  · have := D.2.2.2.1; omega
theorem V.callS {idx hc mc ms : Nat} {y : MR} {As : List Value} {Q : Option Value → GG → MU → Prop} (hd : dec my pc = .ok (.invokestatic idx, 3)) (hk : Cond.methodLink my.1 idx y.2.1 ∈ gw) (hK : KS E l hc y As G μ mc ms Q) (hown : y.1 = my.1) (hst : st0 = As.reverse ++ st) (hcat : cat1 st = true ∧ st.length ≤ 8) (hdep : hc + 1 ≤ d) (hroom : G.1 + mc ≤ NT ∧ G.2.1 + ms ≤ ST) (hn : pc + 3 = n)
    (k : ∀ (v : Option Value) (G' : GG) (μ' : MU), Q v G' μ' → V E l my sc d NT ST Post n lo (v.toList ++ st) G' μ') : V E l my sc d NT ST Post pc lo st0 G μ := by
  subst hn
  obtain ⟨hM, hmv, hnl⟩ := hK
  intro p e R s m args below meth c H locs cells slots Qf ls C D L hr
  have hts := C.1.2.2.2.2
  have hgood : GoodIn gw (wsS my.1 idx y.2.1 (.code y.2.1 y.2.2.1 y.2.2.2.1 y.2.2.2.2 :: gw)) := by
    intro w hw
    rcases List.mem_append.mp hw with h | h
    · simp only [List.mem_cons, List.not_mem_nil, or_false] at h
      rcases h with rfl | rfl | rfl
      · exact gw_good hk
      · exact gw_good hmv.2
      · rw [← hown, ← hmv.1.2.2.1]; exact gw_good hmv.1.2.1
    · rcases List.mem_cons.mp h with rfl | h
      · exact gw_good hmv.1.1
      · exact gw_good h
  refine run_go C D L hr (va_runS (As := As) (n := As.length) (nL := my.2.2.2.1) C.1 hM (cwS As.length hts hgood rfl rfl rfl ⟨hmv.1.2.2.1.trans hown, hmv.1.2.2.2.1⟩ (lo35 C.2.2.1 hdep hnl)) ⟨PK.blind, fun U hU hW => ⟨rfl, by rw [hU]; exact D.1, C.2.1.warm hW⟩⟩ rfl rfl L.1 hst (lv_room (by rw [cat1_sum hcat.1]; exact hcat.2)) hd ⟨?_, ?_⟩) hroom.1 hroom.2 k
  · have := D.2.2.1; omega
  · have := D.2.2.2.1; omega
theorem V.callI {idx hc mc ms b : Nat} {y : MR} {As : List Value} {Q : Option Value → GG → MU → Prop} (hd : dec my pc = .ok (.invokespecial idx, 3)) (hk : Cond.methodLink my.1 idx y.2.1 ∈ gw ∨ ∃ host, Cond.methodLinkNest my.1 idx y.2.1 host ∈ nw) (hK : KI E l hc y b As G μ mc ms Q) (hret : y.2.2.2.2 = none) (hst : st0 = As.reverse ++ rA E b :: st) (hcat : cat1 st = true ∧ st.length ≤ 8) (hdep : hc + 1 ≤ d) (hroom : G.1 + mc ≤ NT ∧ G.2.1 + ms ≤ ST) (hn : pc + 3 = n)
    (k : ∀ (v : Option Value) (G' : GG) (μ' : MU), Q v G' μ' → V E l my sc d NT ST Post n lo (v.toList ++ st) G' μ') : V E l my sc d NT ST Post pc lo st0 G μ := by
  subst hn
  obtain ⟨hM, hmv, hnl⟩ := hK
  intro p e R s m args below meth c H locs cells slots Qf ls C D L hr
  have hts := C.1.2.2.2.2
  have hgood : GoodIn gw (.code y.2.1 y.2.2.1 y.2.2.2.1 none :: gw) := by
    intro w hw
    rcases List.mem_cons.mp hw with rfl | h
    · rw [← hret]; exact gw_good hmv.1.1
    · exact gw_good h
  unfold KC at hM
  rw [hret] at hM
  rcases hk with hk | ⟨host, hk⟩
  · refine run_go C D L hr (va_runI (As := As) (n := As.length) (nL := my.2.2.2.1) C.1 hM (cwI As.length hts hgood rfl rfl rfl (hts _ hmv.1.2.1) (hts _ hk) (hts _ hmv.2.1) hmv.2.2 hmv.1.2.2.2.1 (lo35 C.2.2.1 hdep hnl)) ⟨PK.blind, fun U hU hW => ⟨rfl, by rw [hU]; exact D.1, C.2.1.warm hW⟩⟩ rfl rfl L.1 hst (lv_room (by rw [cat1_sum hcat.1]; exact hcat.2)) hd ⟨?_, ?_⟩) hroom.1 hroom.2 k
    · have := D.2.2.1; omega
    · have := D.2.2.2.1; omega
  · refine run_go C D L hr (va_runIN (As := As) (n := As.length) (nL := my.2.2.2.1) (host := host) C.1 hM ⟨va_cnB As.length hts hgood rfl rfl rfl (C.2.1.1 _ hk) (hts _ hmv.1.2.1) hmv.1.2.2.2.1 (lo35 C.2.2.1 hdep hnl), hmv.2.2, hts _ hmv.2.1⟩ ⟨PK.blind, fun U hU hW => ⟨rfl, by rw [hU]; exact D.1, C.2.1.warm hW⟩⟩ rfl rfl L.1 hst (lv_room (by rw [cat1_sum hcat.1]; exact hcat.2)) hd ⟨?_, ?_⟩) hroom.1 hroom.2 k
    · have := D.2.2.1; omega
    · have := D.2.2.2.1; omega
end VCL
end
section
/-! MORE RULES: calls whose end is known, new cells, the JDK's members, division -/
def dq (v : Option Value) (G0 : GG) (μ0 : MU) : Option Value → GG → MU → Prop := fun v' G' μ' => v' = v ∧ G' = G0 ∧ μ' = μ0
def ck (st : List Value) : Bool := cat1 st && Nat.ble st.length 8
theorem ck_of {st : List Value} (h : ck st = true) : cat1 st = true ∧ st.length ≤ 8 := by
  unfold ck at h
  rw [Bool.and_eq_true] at h
  exact ⟨h.1, Nat.le_of_ble_eq_true h.2⟩
def grow (G : GG) (sl : Nat) (o : Ob) : GG := (G.1 + 1, G.2.1 + sl, fun b => if b = G.1 then o else G.2.2 b)
/-- a new object's fields: 0 and null -/
def NEWF (ci N : Nat) (fds : List (Option (Option Nat))) : Prop := ∃ (C : String) (T : u_T), vwCl[ci]? = some (C, T, N) ∧ fds.length = N ∧ ∀ j, j < N → ∃ ty, parseFieldDescriptor (T j).2.2.1 = some ty ∧ ((fds[j]? = some none ∧ defaultValue ty = .int 0) ∨ (fds[j]? = some (some none) ∧ defaultValue ty = .null))
section VM
variable {E : EV} {l : Launch} {my : MR} {sc : Option (Nat × Nat × (Nat → Int))} {d NT ST : Nat} {Post : Option Value → GG → MU → Prop} {pc n : Nat} {lo : List (Nat × Value)} {st st0 : List Value} {G : GG} {μ μ1 : MU}
theorem V.cVi {idx hc b : Nat} {y : MR} {As : List Value} {z : Int} (hd : dec my pc = .ok (.invokevirtual idx, 3)) (hk : Cond.methodLink my.1 idx y.2.1 ∈ gw) (hK : KV E l hc y b As G μ 0 0 (dq (some (rI z)) G μ1)) (hst : st0 = As.reverse ++ rA E b :: st) (hcat : ck st = true) (hdep : hc + 1 ≤ d) (hn : pc + 3 = n)
    (k : V E l my sc d NT ST Post n lo (rI z :: st) G μ1) : V E l my sc d NT ST Post pc lo st0 G μ :=
  fun p e R s m args below meth c H locs cells slots Qf ls C D L hr => V.callV hd hk hK hst (ck_of hcat) hdep ⟨D.2.2.2.2.2.2.2.1, D.2.2.2.2.2.2.2.2⟩ hn (fun v G' μ' h => by obtain ⟨rfl, rfl, rfl⟩ := h; exact k) p e R s m args below meth c H locs cells slots Qf ls C D L hr
theorem V.cVv {idx hc b : Nat} {y : MR} {As : List Value} (hd : dec my pc = .ok (.invokevirtual idx, 3)) (hk : Cond.methodLink my.1 idx y.2.1 ∈ gw) (hK : KV E l hc y b As G μ 0 0 (dq none G μ1)) (hst : st0 = As.reverse ++ rA E b :: st) (hcat : ck st = true) (hdep : hc + 1 ≤ d) (hn : pc + 3 = n)
    (k : V E l my sc d NT ST Post n lo st G μ1) : V E l my sc d NT ST Post pc lo st0 G μ :=
  fun p e R s m args below meth c H locs cells slots Qf ls C D L hr => V.callV hd hk hK hst (ck_of hcat) hdep ⟨D.2.2.2.2.2.2.2.1, D.2.2.2.2.2.2.2.2⟩ hn (fun v G' μ' h => by obtain ⟨rfl, rfl, rfl⟩ := h; exact k) p e R s m args below meth c H locs cells slots Qf ls C D L hr
theorem V.cVr {idx hc b a : Nat} {y : MR} {As : List Value} (hd : dec my pc = .ok (.invokevirtual idx, 3)) (hk : Cond.methodLink my.1 idx y.2.1 ∈ gw) (hK : KV E l hc y b As G μ 0 0 (dq (some (rA E a)) G μ1)) (hst : st0 = As.reverse ++ rA E b :: st) (hcat : ck st = true) (hdep : hc + 1 ≤ d) (hn : pc + 3 = n)
    (k : V E l my sc d NT ST Post n lo (rA E a :: st) G μ1) : V E l my sc d NT ST Post pc lo st0 G μ :=
  fun p e R s m args below meth c H locs cells slots Qf ls C D L hr => V.callV hd hk hK hst (ck_of hcat) hdep ⟨D.2.2.2.2.2.2.2.1, D.2.2.2.2.2.2.2.2⟩ hn (fun v G' μ' h => by obtain ⟨rfl, rfl, rfl⟩ := h; exact k) p e R s m args below meth c H locs cells slots Qf ls C D L hr
theorem V.cVq {idx hc b : Nat} {y : MR} {As : List Value} {Q : Option Value → GG → MU → Prop} (hd : dec my pc = .ok (.invokevirtual idx, 3)) (hk : Cond.methodLink my.1 idx y.2.1 ∈ gw) (hK : KV E l hc y b As G μ 0 0 Q) (hst : st0 = As.reverse ++ rA E b :: st) (hcat : ck st = true) (hdep : hc + 1 ≤ d) (hn : pc + 3 = n)
    (k : ∀ (v : Option Value) (G' : GG) (μ' : MU), Q v G' μ' → V E l my sc d NT ST Post n lo (v.toList ++ st) G' μ') : V E l my sc d NT ST Post pc lo st0 G μ :=
  fun p e R s m args below meth c H locs cells slots Qf ls C D L hr => V.callV hd hk hK hst (ck_of hcat) hdep ⟨D.2.2.2.2.2.2.2.1, D.2.2.2.2.2.2.2.2⟩ hn k p e R s m args below meth c H locs cells slots Qf ls C D L hr
theorem V.cSi {idx hc : Nat} {y : MR} {As : List Value} {z : Int} (hd : dec my pc = .ok (.invokestatic idx, 3)) (hk : Cond.methodLink my.1 idx y.2.1 ∈ gw) (hK : KS E l hc y As G μ 0 0 (dq (some (rI z)) G μ1)) (hown : y.1 = my.1) (hst : st0 = As.reverse ++ st) (hcat : ck st = true) (hdep : hc + 1 ≤ d) (hn : pc + 3 = n)
    (k : V E l my sc d NT ST Post n lo (rI z :: st) G μ1) : V E l my sc d NT ST Post pc lo st0 G μ :=
  fun p e R s m args below meth c H locs cells slots Qf ls C D L hr => V.callS hd hk hK hown hst (ck_of hcat) hdep ⟨D.2.2.2.2.2.2.2.1, D.2.2.2.2.2.2.2.2⟩ hn (fun v G' μ' h => by obtain ⟨rfl, rfl, rfl⟩ := h; exact k) p e R s m args below meth c H locs cells slots Qf ls C D L hr
theorem V.cSv {idx hc : Nat} {y : MR} {As : List Value} (hd : dec my pc = .ok (.invokestatic idx, 3)) (hk : Cond.methodLink my.1 idx y.2.1 ∈ gw) (hK : KS E l hc y As G μ 0 0 (dq none G μ1)) (hown : y.1 = my.1) (hst : st0 = As.reverse ++ st) (hcat : ck st = true) (hdep : hc + 1 ≤ d) (hn : pc + 3 = n)
    (k : V E l my sc d NT ST Post n lo st G μ1) : V E l my sc d NT ST Post pc lo st0 G μ :=
  fun p e R s m args below meth c H locs cells slots Qf ls C D L hr => V.callS hd hk hK hown hst (ck_of hcat) hdep ⟨D.2.2.2.2.2.2.2.1, D.2.2.2.2.2.2.2.2⟩ hn (fun v G' μ' h => by obtain ⟨rfl, rfl, rfl⟩ := h; exact k) p e R s m args below meth c H locs cells slots Qf ls C D L hr
theorem V.cSq {idx hc : Nat} {y : MR} {As : List Value} {Q : Option Value → GG → MU → Prop} (hd : dec my pc = .ok (.invokestatic idx, 3)) (hk : Cond.methodLink my.1 idx y.2.1 ∈ gw) (hK : KS E l hc y As G μ 0 0 Q) (hown : y.1 = my.1) (hst : st0 = As.reverse ++ st) (hcat : ck st = true) (hdep : hc + 1 ≤ d) (hn : pc + 3 = n)
    (k : ∀ (v : Option Value) (G' : GG) (μ' : MU), Q v G' μ' → V E l my sc d NT ST Post n lo (v.toList ++ st) G' μ') : V E l my sc d NT ST Post pc lo st0 G μ :=
  fun p e R s m args below meth c H locs cells slots Qf ls C D L hr => V.callS hd hk hK hown hst (ck_of hcat) hdep ⟨D.2.2.2.2.2.2.2.1, D.2.2.2.2.2.2.2.2⟩ hn k p e R s m args below meth c H locs cells slots Qf ls C D L hr
theorem V.cIv {idx hc mc ms b : Nat} {y : MR} {As : List Value} {G1 : GG} (hd : dec my pc = .ok (.invokespecial idx, 3)) (hk : Cond.methodLink my.1 idx y.2.1 ∈ gw ∨ ∃ host, Cond.methodLinkNest my.1 idx y.2.1 host ∈ nw) (hK : KI E l hc y b As G μ mc ms (dq none G1 μ1)) (hret : y.2.2.2.2 = none) (hst : st0 = As.reverse ++ rA E b :: st) (hcat : ck st = true) (hdep : hc + 1 ≤ d) (hroom : G.1 + mc ≤ NT ∧ G.2.1 + ms ≤ ST) (hn : pc + 3 = n)
    (k : V E l my sc d NT ST Post n lo st G1 μ1) : V E l my sc d NT ST Post pc lo st0 G μ :=
  V.callI hd hk hK hret hst (ck_of hcat) hdep hroom hn (fun v G' μ' h => by obtain ⟨rfl, rfl, rfl⟩ := h; exact k)
theorem V.cIq {idx hc mc ms b : Nat} {y : MR} {As : List Value} {Q : Option Value → GG → MU → Prop} (hd : dec my pc = .ok (.invokespecial idx, 3)) (hk : Cond.methodLink my.1 idx y.2.1 ∈ gw ∨ ∃ host, Cond.methodLinkNest my.1 idx y.2.1 host ∈ nw) (hK : KI E l hc y b As G μ mc ms Q) (hret : y.2.2.2.2 = none) (hst : st0 = As.reverse ++ rA E b :: st) (hcat : ck st = true) (hdep : hc + 1 ≤ d) (hroom : G.1 + mc ≤ NT ∧ G.2.1 + ms ≤ ST) (hn : pc + 3 = n)
    (k : ∀ (v : Option Value) (G' : GG) (μ' : MU), Q v G' μ' → V E l my sc d NT ST Post n lo (v.toList ++ st) G' μ') : V E l my sc d NT ST Post pc lo st0 G μ :=
  V.callI hd hk hK hret hst (ck_of hcat) hdep hroom hn k
theorem V.objInit {idx a : Nat} (hd : dec my pc = .ok (.invokespecial idx, 3)) (hk : Cond.methodLink my.1 idx objectInit ∈ gw) (hcat : ck st = true) (hdep : 1 ≤ d) (hn : pc + 3 = n) (k : V E l my sc d NT ST Post n lo st G μ) : V E l my sc d NT ST Post pc lo (rA E a :: st) G μ := by
  subst hn
  intro p e R s m args below meth c H locs cells slots Qf ls C D L hr
  have hts := C.1.2.2.2.2
  have hc := ck_of hcat
  have hR := C.2.2.1
  refine W.objInit (rest := st) C.1.1 C.1.2.1 C.1.2.2.2.1 (hts _ hk) (hts _ jo_1) (hts _ jo_2) rfl (by rw [C.1.2.2.1]; exact L.1) rfl hd (by omega) ?_ (k p e R s m args below meth c H locs cells slots Qf ls C D L hr)
  rw [cat1_sum hc.1]
  show 2 * 0 + st.length + 12 ≤ R.locals
  omega
theorem V.mmax {idx : Nat} {x y : Int} (hd : dec my pc = .ok (.invokestatic idx, 3)) (hk : Cond.methodLink my.1 idx Lib.Math.max.name ∈ gw) (hx : inR x) (hy : inR y) (hcat : ck st = true) (hdep : 1 ≤ d) (hn : pc + 3 = n) (k : V E l my sc d NT ST Post n lo (rI (max x y) :: st) G μ) : V E l my sc d NT ST Post pc lo (rI y :: rI x :: st) G μ := by
  subst hn
  intro p e R s m args below meth c H locs cells slots Qf ls C D L hr
  have hts := C.1.2.2.2.2
  have hc := ck_of hcat
  have hR := C.2.2.1
  have hm : rI (max x y) = .int (if Int32.ofInt x < Int32.ofInt y then Int32.ofInt y else Int32.ofInt x) := by
    unfold rI
    by_cases h : x < y
    · rw [if_pos ((c_lt hx hy).mpr h), show max x y = y by omega]
    · rw [if_neg (fun q => h ((c_lt hx hy).mp q)), show max x y = x by omega]
  have h := k p e R s m args below meth c H locs cells slots Qf ls C D L hr
  rw [hm] at h
  refine va_mmax C.1.1 C.1.2.1 (by rw [C.1.2.2.1]; exact L.1.symm) C.1.2.2.2.1 (hts _ hk) (hts _ jm_1) (hts _ jm_3) (hts _ jm_2) (by omega) ?_ D.2.2.2.2.1 D.2.2.2.2.2.1 hd h
  rw [cat1_sum hc.1]
  omega
theorem V.mmin {idx : Nat} {x y : Int} (hd : dec my pc = .ok (.invokestatic idx, 3)) (hk : Cond.methodLink my.1 idx Lib.Math.min.name ∈ gw) (hx : inR x) (hy : inR y) (hcat : ck st = true) (hdep : 1 ≤ d) (hn : pc + 3 = n) (k : V E l my sc d NT ST Post n lo (rI (min x y) :: st) G μ) : V E l my sc d NT ST Post pc lo (rI y :: rI x :: st) G μ := by
  subst hn
  intro p e R s m args below meth c H locs cells slots Qf ls C D L hr
  have hts := C.1.2.2.2.2
  have hc := ck_of hcat
  have hR := C.2.2.1
  have hm : rI (min x y) = .int (if Int32.ofInt y < Int32.ofInt x then Int32.ofInt y else Int32.ofInt x) := by
    unfold rI
    by_cases h : y < x
    · rw [if_pos ((c_lt hy hx).mpr h), show min x y = y by omega]
    · rw [if_neg (fun q => h ((c_lt hy hx).mp q)), show min x y = x by omega]
  have h := k p e R s m args below meth c H locs cells slots Qf ls C D L hr
  rw [hm] at h
  refine va_mmin C.1.1 C.1.2.1 (by rw [C.1.2.2.1]; exact L.1.symm) C.1.2.2.2.1 (hts _ hk) (hts _ jm_4) (hts _ jm_3) (hts _ jm_5) (by omega) ?_ D.2.2.2.2.1 D.2.2.2.2.2.1 hd h
  rw [cat1_sum hc.1]
  omega
/-- System.arraycopy of the first len numbers of an int array into another -/
theorem V.copyI {idx a b n0 n1 : Nat} {len : Int} (hd : dec my pc = .ok (.invokestatic idx, 3)) (hk : Cond.methodLink my.1 idx arraycopyName ∈ gw) (ha : obj G a (.inr (0, n0))) (hb : obj G b (.inr (0, n1))) (h0 : 0 ≤ len) (h1 : len ≤ n0) (h2 : len ≤ n1) (hN : n0 ≤ 65536) (hcat : ck st = true) (hdep : 1 ≤ d) (hn : pc + 3 = n) (k : V E l my sc d NT ST Post n lo st G (wrC μ b (fun j => if 0 ≤ j ∧ j < len then μ a j else μ b j))) : V E l my sc d NT ST Post pc lo (rI len :: rI 0 :: rA E b :: rI 0 :: rA E a :: st) G μ := by
  subst hn
  intro p e R s m args below meth c H locs cells slots Qf ls C D L hr
  have hts := C.1.2.2.2.2
  have hc := ck_of hcat
  have hR := C.2.2.1
  have hwa := wl_at (E := E) (μ := μ) ha
  rw [cE_a _ _ _ _ (by decide)] at hwa
  have hwb := wl_at (E := E) (μ := μ) hb
  rw [cE_a _ _ _ _ (by decide)] at hwb
  have hz : (Int32.ofInt 0).toNatClampNeg = 0 := tN (by decide) (by decide)
  have hlen : (Int32.ofInt len).toNatClampNeg = len.toNat := tN h0 (by omega)
  refine va_copyi C.1.1 C.1.2.1 (by rw [C.1.2.2.1]; exact L.1.symm) C.1.2.2.2.1 (hts _ hk) (hts _ js_2) (hts _ js_1) (hts _ js_3) C.2.1.2.1 D.1.1 (wl_D E G μ) D.2.1 a b 0 0 hwa hwb rfl rfl rfl (nN (by decide) (by decide)) (nN (by decide) (by decide)) (nN h0 (by omega)) (by rw [hz, hlen]; omega) (by rw [hz, hlen]; omega) (fun _ _ => rfl) (by omega) ?_ hd (fun H1 locs1 hP1 _ hS1 => W_bd fun hb' => k p e R s m args below meth c H1 locs1 cells slots Qf ls C (D.of rfl rfl (Nat.lt_of_le_of_lt (Nat.zero_le _) hb.1) (wl_set rfl ?_ (fun _ _ => rfl) (fun x hx => by simp [wrC, hx])) hP1 hS1 hb') L hr)
  · rw [cat1_sum hc.1]
    have : nativeFrameWords "java/lang/System" "arraycopy" 5 + 11 ≤ 27 := by decide +kernel
    omega
  · have hf : va_cpy (fun j : Nat => Int32.ofInt (μ a (j : Int))) (fun j : Nat => Int32.ofInt (μ b (j : Int))) (Int32.ofInt 0).toNatClampNeg (Int32.ofInt 0).toNatClampNeg (Int32.ofInt len).toNatClampNeg = fun j : Nat => Int32.ofInt (wrC μ b (fun j => if 0 ≤ j ∧ j < len then μ a j else μ b j) b (j : Int)) := by
      funext j
      rw [hz, hlen]
      have e : wrC μ b (fun j => if 0 ≤ j ∧ j < len then μ a j else μ b j) b = (fun j => if 0 ≤ j ∧ j < len then μ a j else μ b j) := by simp [wrC]
      rw [e]
      unfold va_cpy
      by_cases hj : j < len.toNat
      · rw [if_pos (by omega)]
        show Int32.ofInt (μ a ((0 + (j - 0) : Nat) : Int)) = Int32.ofInt (if 0 ≤ (j : Int) ∧ (j : Int) < len then μ a j else μ b j)
        rw [if_pos (by omega), show 0 + (j - 0) = j by omega]
      · rw [if_neg (by omega)]
        show Int32.ofInt (μ b (j : Int)) = Int32.ofInt (if 0 ≤ (j : Int) ∧ (j : Int) < len then μ a j else μ b j)
        rw [if_neg (by omega)]
    rw [hb.2, cE_a _ _ _ _ (by decide), hf]
theorem V.newO {idx ci N : Nat} {C' : String} {T : u_T} {fds : List (Option (Option Nat))} (hd : dec my pc = .ok (.new idx, 3)) (hc : vwCl[ci]? = some (C', T, N)) (hcl : Cond.classLink my.1 idx C' ∈ gw) (hins : Cond.instantiable C' N ∈ gw) (hini : Cond.initialized C' ∈ gw) (hnf : NEWF ci N fds) (h1 : G.1 + 1 ≤ NT) (h2 : G.2.1 + N ≤ ST) (hn : pc + 3 = n) (k : V E l my sc d NT ST Post n lo (rA E G.1 :: st) (grow G N (.inl (ci, fds))) (wrC μ G.1 (fun _ => 0))) : V E l my sc d NT ST Post pc lo st G μ := by
  subst hn
  intro p e R s m args below meth c H locs cells slots Qf ls C D L hr
  obtain ⟨C2, T2, hc2, hlen, hdef⟩ := hnf
  obtain ⟨rfl, rfl⟩ : C2 = C' ∧ T2 = T := by
    have := hc2.symm.trans hc
    simpa using this
  have hts := C.1.2.2.2.2
  obtain ⟨hin, ⟨ty0, hty0⟩, hnm⟩ := cls_ok _ _ _ _ hc
  have d1 := D.2.2.1
  have d2 := D.2.2.2.1
  refine va_new (ci := ci) (fs := fds.mapIdx (fV E (fun _ => 0))) C.1.1 C.1.2.1 hts hin ty0 hty0 C.1.2.2.2.1 (hts _ hcl) (hts _ hins) (hts _ hini) C.2.1.2.1 D.1.1 (wl_D E G μ) D.2.1 (fun q hq => Nat.le_trans C.2.2.2.1 hq) hc (fun j hj => ?_) (by omega) (by omega) hd (fun q H1 hP1 hD1 hS1 => W_bd fun hb => ?_)
  · obtain ⟨ty, hty, h⟩ := hdef j hj
    have e : ty0 j = ty := Option.some.inj ((hty0 j hj).symm.trans hty)
    rw [e]
    unfold vp_V
    rw [List.getD_eq_getElem?_getD]
    rcases h with ⟨h, e2⟩ | ⟨h, e2⟩
    · rw [fV_at h, e2]; rfl
    · rw [fV_at h, e2]; rfl
  · obtain ⟨rfl, D'⟩ := D.more (G' := grow G N (.inl (ci, fds))) (μ' := wrC μ G.1 (fun _ => 0)) (sl := N) rfl rfl (fun b hb => by simp [grow, wrC, hb]) (by simp [grow, wrC, cE]) hP1 hD1 hS1 hb h1 h2
    exact k p e R s m args below meth c H1 locs (cells + 1) (slots + N) Qf ls C D' L hr
theorem V.newa {at0 : ArrayType} {t N : Nat} {z : Int} (hd : dec my pc = .ok (.newarray at0, 2)) (hw : Cond.arrayClass (newarray.typeOf at0) ∈ gw) (ht : t < 3 ∧ (∀ E : EV, (tyE E)[t]? = some (E.2.1 t, newarray.typeOf at0)) ∧ defaultValue (newarray.typeOf at0) = .int 0 ∧ componentBytes (newarray.typeOf at0) ≤ 8 ∧ (∀ (U : State) (cA : ClassId), va_RA U cA (newarray.typeOf at0) ↔ U.vm.findClass ("[" ++ (newarray.typeOf at0).toString) = some cA)) (hz : z = (N : Int)) (hN : N ≤ 65536) (h1 : G.1 + 1 ≤ NT) (h2 : G.2.1 + N ≤ ST) (hn : pc + 2 = n) (k : V E l my sc d NT ST Post n lo (rA E G.1 :: st) (grow G N (.inr (t, N))) (wrC μ G.1 (fun _ => 0))) : V E l my sc d NT ST Post pc lo (rI z :: st) G μ := by
  subst hn
  subst hz
  intro p e R s m args below meth c H locs cells slots Qf ls C D L hr
  have hts := C.1.2.2.2.2
  have d1 := D.2.2.1
  have d2 := D.2.2.2.1
  obtain ⟨ht3, htE, hdv, hcb, hRA⟩ := ht
  refine va_newa (N' := N) (a0 := (N, .inl (fun _ => 0))) C.1.1 C.1.2.1 (hts _ hw) rfl C.2.1.2.1 D.1.1 (wl_D E G μ) D.2.1 (fun q hq => Nat.le_trans C.2.2.2.1 hq) (fun cA => by rw [vp_cell_i, hdv]) (nN (by omega) (by omega)) (by rw [tN (by omega) (by omega)]; omega) (Nat.le_trans (Nat.mul_le_mul hN hcb) (by decide)) (by omega) (by omega) hd (fun q cA H1 hK1 hP1 hD1 hS1 => W_bd fun hb => ?_)
  have hA : cA = E.2.1 t := by
    have e1 := (hRA s cA).mp (hK1.2 4 (cA, newarray.typeOf at0) (by simp [tyE])).2
    have e2 := (hRA s _).mp (C.2.1.2.1.2 t _ (htE E)).2
    exact Option.some.inj (e1.symm.trans e2)
  subst hA
  obtain ⟨rfl, D'⟩ := D.more (G' := grow G N (.inr (t, N))) (μ' := wrC μ G.1 (fun _ => 0)) (sl := N) rfl rfl (fun b hb => by simp [grow, wrC, hb]) (by simp only [grow, wrC, if_true]; rw [cE_a _ _ _ _ (by omega)]; rfl) hP1 hD1 hS1 hb h1 h2
  exact k p e R s m args below meth c H1 locs (cells + 1) (slots + N) Qf ls C D' L hr
theorem V.newq {idx N : Nat} {z : Int} (hd : dec my pc = .ok (.anewarray idx, 3)) (hw : Cond.classLink my.1 idx RX6 ∈ gw) (hz : z = (N : Int)) (hN : N ≤ 65536) (h1 : G.1 + 1 ≤ NT) (h2 : G.2.1 + N ≤ ST) (hn : pc + 3 = n) (k : V E l my sc d NT ST Post n lo (rA E G.1 :: st) (grow G N (.inr (3, N))) (wrC μ G.1 (fun _ => -1))) : V E l my sc d NT ST Post pc lo (rI z :: st) G μ := by
  subst hn
  subst hz
  intro p e R s m args below meth c H locs cells slots Qf ls C D L hr
  have hts := C.1.2.2.2.2
  have d1 := D.2.2.1
  have d2 := D.2.2.2.1
  refine va_newq (C := RX6) (N' := N) C.1.1 C.1.2.1 C.1.2.2.2.1 (hts _ hw) C.2.1.2.2 C.2.1.2.1 D.1.1 (wl_D E G μ) D.2.1 (fun q hq => Nat.le_trans C.2.2.2.1 hq) (nN (by omega) (by omega)) (by rw [tN (by omega) (by omega)]; omega) (by omega) (by omega) (by omega) hd (fun q cA H1 hK1 hP1 hD1 hS1 => W_bd fun hb => ?_)
  have hA : cA = E.2.1 3 := by
    obtain ⟨_, _, -, -, -, e1⟩ := (hK1.2 4 (cA, .object RX6) (by simp [tyE])).2
    obtain ⟨_, _, -, -, -, e2⟩ := (C.2.1.2.1.2 3 (E.2.1 3, .object RX6) rfl).2
    exact Option.some.inj (e1.symm.trans e2)
  subst hA
  obtain ⟨rfl, D'⟩ := D.more (G' := grow G N (.inr (3, N))) (μ' := wrC μ G.1 (fun _ => -1)) (sl := N) rfl rfl (fun b hb => by simp [grow, wrC, hb]) (by simp only [grow, wrC, if_true]; rw [cE_r]; rfl) hP1 hD1 hS1 hb h1 h2
  exact k p e R s m args below meth c H1 locs (cells + 1) (slots + N) Qf ls C D' L hr
theorem V.irem {a b : Nat} {x y : Int} (hd : dec my pc = .ok (.irem, 1)) (hx : x = (a : Int)) (hy : y = (b : Int)) (ha : a < 2147483648) (hb0 : 0 < b) (hb : b < 2147483648) (hn : pc + 1 = n) (k : V E l my sc d NT ST Post n lo (rI ((a % b : Nat) : Int) :: st) G μ) : V E l my sc d NT ST Post pc lo (rI y :: rI x :: st) G μ := by
  subst hn
  subst hx
  subst hy
  intro p e R s m args below meth c H locs cells slots Qf ls C D L hr
  have h := k p e R s m args below meth c H locs cells slots Qf ls C D L hr
  have hz : Int32.ofInt ((a % b : Nat) : Int) = Int32.ofInt (a : Int) - Int32.ofInt (a : Int) / Int32.ofInt (b : Int) * Int32.ofInt (b : Int) := (pk_rem (show a < 2 ^ 31 from ha) hb0 (show b < 2 ^ 31 from hb)).symm
  rw [rI, hz] at h
  exact lv_irem C.1.1 C.1.2.1 hd (nI_ne0 hb0 (show b < 2 ^ 31 from hb)) h
theorem V.idiv {a b : Nat} {x y : Int} (hd : dec my pc = .ok (.idiv, 1)) (hx : x = (a : Int)) (hy : y = (b : Int)) (ha : a < 2147483648) (hb0 : 0 < b) (hb : b < 2147483648) (hn : pc + 1 = n) (k : V E l my sc d NT ST Post n lo (rI ((a / b : Nat) : Int) :: st) G μ) : V E l my sc d NT ST Post pc lo (rI y :: rI x :: st) G μ := by
  subst hn
  subst hx
  subst hy
  intro p e R s m args below meth c H locs cells slots Qf ls C D L hr
  have h := k p e R s m args below meth c H locs cells slots Qf ls C D L hr
  have hz : Int32.ofInt ((a / b : Nat) : Int) = Int32.ofInt (a : Int) / Int32.ofInt (b : Int) := (pk_div (show a < 2 ^ 31 from ha) hb0 (show b < 2 ^ 31 from hb)).symm
  rw [rI, hz] at h
  exact lv_idiv C.1.1 C.1.2.1 hd (nI_ne0 hb0 (show b < 2 ^ 31 from hb)) h
end VM
end
section
/-! THE CLASS: rows, texts -/
theorem na_i : 0 < 3 ∧ (∀ E : EV, (tyE E)[0]? = some (E.2.1 0, newarray.typeOf .int)) ∧ defaultValue (newarray.typeOf .int) = .int 0 ∧ componentBytes (newarray.typeOf .int) ≤ 8 ∧ (∀ (U : State) (cA : ClassId), va_RA U cA (newarray.typeOf .int) ↔ U.vm.findClass ("[" ++ (newarray.typeOf .int).toString) = some cA) := ⟨by decide, fun _ => rfl, rfl, by decide, fun _ _ => Iff.rfl⟩
theorem na_c : 1 < 3 ∧ (∀ E : EV, (tyE E)[1]? = some (E.2.1 1, newarray.typeOf .char)) ∧ defaultValue (newarray.typeOf .char) = .int 0 ∧ componentBytes (newarray.typeOf .char) ≤ 8 ∧ (∀ (U : State) (cA : ClassId), va_RA U cA (newarray.typeOf .char) ↔ U.vm.findClass ("[" ++ (newarray.typeOf .char).toString) = some cA) := ⟨by decide, fun _ => rfl, rfl, by decide, fun _ _ => Iff.rfl⟩
theorem na_z : 2 < 3 ∧ (∀ E : EV, (tyE E)[2]? = some (E.2.1 2, newarray.typeOf .boolean)) ∧ defaultValue (newarray.typeOf .boolean) = .int 0 ∧ componentBytes (newarray.typeOf .boolean) ≤ 8 ∧ (∀ (U : State) (cA : ClassId), va_RA U cA (newarray.typeOf .boolean) ↔ U.vm.findClass ("[" ++ (newarray.typeOf .boolean).toString) = some cA) := ⟨by decide, fun _ => rfl, rfl, by decide, fun _ _ => Iff.rfl⟩
def dqi (P : Int → MU → Prop) (G0 : GG) : Option Value → GG → MU → Prop := fun v G' μ' => ∃ z : Int, v = some (rI z) ∧ G' = G0 ∧ P z μ'
def dqv (P : MU → Prop) (G0 : GG) : Option Value → GG → MU → Prop := fun v G' μ' => v = none ∧ G' = G0 ∧ P μ'
/-- a contract says no more than it says -/
theorem KC.post {E : EV} {l : Launch} {h : Nat} {my : MR} {as : List Value} {G : GG} {μ : MU} {mc ms : Nat} {Q Q' : Option Value → GG → MU → Prop} (k : KC E l h my as G μ mc ms Q) (hq : ∀ v G' μ', Q v G' μ' → Q' v G' μ') : KC E l h my as G μ mc ms Q' := by
  intro p e ha hc hk s m args below hf happ hpre htr
  obtain ⟨n, o, h1, h2, h3, ⟨v, G', μ', e1, e2, e3, e4⟩, h5⟩ := k p e ha hc hk s m args below hf happ hpre htr
  exact ⟨n, o, h1, h2, h3, ⟨v, G', μ', e1, e2, hq _ _ _ e3, e4⟩, h5⟩
theorem KC.ofP {E : EV} {l : Launch} {h nn : Nat} {my : MR} {as : List Value} {G : GG} {μ : MU} {Q : Option Value → GG → MU → Prop} (hm : MB my nn) (hc : cat1 as = true) (hn : as.length ≤ my.2.2.2.1) {lo : List (Nat × Value)} (hlo : la 0 as = lo)
    (hV : ∀ (Post : Option Value → GG → MU → Prop) (NT ST : Nat), (∀ v μ', Q v G μ' → Post v G μ') → V E l my none h NT ST Post 0 lo [] G μ) : KC E l h my as G μ 0 0 Q :=
  KC.ofV hm hc hn hlo (hV _ _ _ (fun _ _ hq => ⟨hq, rfl, rfl⟩))
section VQ
variable {E : EV} {l : Launch} {my : MR} {sc : Option (Nat × Nat × (Nat → Int))} {d NT ST : Nat} {Post : Option Value → GG → MU → Prop} {pc n : Nat} {lo : List (Nat × Value)} {st st0 : List Value} {G : GG} {μ μ1 : MU}
theorem V.cVqi {idx hc b : Nat} {y : MR} {As : List Value} {P : Int → MU → Prop} (hd : dec my pc = .ok (.invokevirtual idx, 3)) (hk : Cond.methodLink my.1 idx y.2.1 ∈ gw) (hK : KV E l hc y b As G μ 0 0 (dqi P G)) (hst : st0 = As.reverse ++ rA E b :: st) (hcat : ck st = true) (hdep : hc + 1 ≤ d) (hn : pc + 3 = n)
    (k : ∀ (z : Int) (μ' : MU), P z μ' → V E l my sc d NT ST Post n lo (rI z :: st) G μ') : V E l my sc d NT ST Post pc lo st0 G μ :=
  V.cVq hd hk hK hst hcat hdep hn (fun v G' μ' h => by obtain ⟨z, rfl, rfl, h⟩ := h; exact k z μ' h)
theorem V.cVqv {idx hc b : Nat} {y : MR} {As : List Value} {P : MU → Prop} (hd : dec my pc = .ok (.invokevirtual idx, 3)) (hk : Cond.methodLink my.1 idx y.2.1 ∈ gw) (hK : KV E l hc y b As G μ 0 0 (dqv P G)) (hst : st0 = As.reverse ++ rA E b :: st) (hcat : ck st = true) (hdep : hc + 1 ≤ d) (hn : pc + 3 = n)
    (k : ∀ (μ' : MU), P μ' → V E l my sc d NT ST Post n lo st G μ') : V E l my sc d NT ST Post pc lo st0 G μ :=
  V.cVq hd hk hK hst hcat hdep hn (fun v G' μ' h => by obtain ⟨rfl, rfl, h⟩ := h; exact k μ' h)
theorem V.cSqv {idx hc : Nat} {y : MR} {As : List Value} {P : MU → Prop} (hd : dec my pc = .ok (.invokestatic idx, 3)) (hk : Cond.methodLink my.1 idx y.2.1 ∈ gw) (hK : KS E l hc y As G μ 0 0 (dqv P G)) (hown : y.1 = my.1) (hst : st0 = As.reverse ++ st) (hcat : ck st = true) (hdep : hc + 1 ≤ d) (hn : pc + 3 = n)
    (k : ∀ (μ' : MU), P μ' → V E l my sc d NT ST Post n lo st G μ') : V E l my sc d NT ST Post pc lo st0 G μ :=
  V.cSq hd hk hK hown hst hcat hdep hn (fun v G' μ' h => by obtain ⟨rfl, rfl, h⟩ := h; exact k μ' h)
theorem V.cSqi {idx hc : Nat} {y : MR} {As : List Value} {P : Int → MU → Prop} (hd : dec my pc = .ok (.invokestatic idx, 3)) (hk : Cond.methodLink my.1 idx y.2.1 ∈ gw) (hK : KS E l hc y As G μ 0 0 (dqi P G)) (hown : y.1 = my.1) (hst : st0 = As.reverse ++ st) (hcat : ck st = true) (hdep : hc + 1 ≤ d) (hn : pc + 3 = n)
    (k : ∀ (z : Int) (μ' : MU), P z μ' → V E l my sc d NT ST Post n lo (rI z :: st) G μ') : V E l my sc d NT ST Post pc lo st0 G μ :=
  V.cSq hd hk hK hown hst hcat hdep hn (fun v G' μ' h => by obtain ⟨z, rfl, rfl, h⟩ := h; exact k z μ' h)
end VQ
/-- a row at r, its n cells at c -/
def isRow (G : GG) (r c n : Nat) : Prop := obj G r (.inl (5, [some (some c)])) ∧ obj G c (.inr (0, n)) ∧ n ≤ 65536
section CRW
variable {E : EV} {l : Launch} {G : GG} {μ : MU} {r q n m c cq : Nat} {i v : Int}
theorem c_Rw_get (hr : isRow G r c n) (h0 : 0 ≤ i) (h1 : i < n) : KV E l 0 m_Rw_get r [rI i] G μ 0 0 (dq (some (rI (μ c i))) G μ) := by
  obtain ⟨hr1, hr2, hn⟩ := hr
  refine ⟨KC.ofP q_Rw_get.1 rfl (Nat.le_of_ble_eq_true rfl) rfl (fun Post NT ST hP => ?_), ⟨_, _, _, hr1, rfl, rfl⟩, q_Rw_get, by decide⟩
  refine V.iload_n (n := 1) d_Rw_get_0 rfl rfl ?_
  refine V.if_ltF (n := 4) d_Rw_get_1 (by omega) (by omega) rfl ⟨22, by decide⟩ ?_
  refine V.iload_n (n := 5) d_Rw_get_4 rfl rfl ?_
  refine V.aload_n (n := 6) d_Rw_get_5 rfl rfl ?_
  refine V.getA (n := 9) d_Rw_get_6 f_Rw_13 (by assumption) rfl rfl ?_
  refine V.alen (n := 10) d_Rw_get_9 (by assumption) (by decide) rfl ?_
  refine V.icmp_geF (n := 13) d_Rw_get_10 (by omega) (by omega) (by omega) rfl ⟨22, by decide⟩ ?_
  refine V.aload_n (n := 14) d_Rw_get_13 rfl rfl ?_
  refine V.getA (n := 17) d_Rw_get_14 f_Rw_13 (by assumption) rfl rfl ?_
  refine V.iload_n (n := 18) d_Rw_get_17 rfl rfl ?_
  refine V.iald (n := 19) d_Rw_get_18 (by assumption) (by omega) (by omega) (by omega) rfl ?_
  refine V.goto (n := 23) d_Rw_get_19 (by decide) ?_
  refine V.iret d_Rw_get_23 ⟨_, rfl, rfl⟩ ?_
  exact hP _ _ ⟨rfl, rfl, rfl⟩
theorem c_Rw_getO (hr : isRow G r c n) (h0 : inR i) (h1 : i < 0 ∨ n ≤ i) : KV E l 0 m_Rw_get r [rI i] G μ 0 0 (dq (some (rI 0)) G μ) := by
  obtain ⟨hr1, hr2, hn⟩ := hr
  refine ⟨KC.ofP q_Rw_get.1 rfl (Nat.le_of_ble_eq_true rfl) rfl (fun Post NT ST hP => ?_), ⟨_, _, _, hr1, rfl, rfl⟩, q_Rw_get, by decide⟩
  refine V.iload_n (n := 1) d_Rw_get_0 rfl rfl ?_
  refine V.if_lt (n2 := 22) (n := 4) d_Rw_get_1 (by omega) (by decide) rfl (fun h => ?_) (fun h => ?_)
  · refine V.iconst (n := 23) d_Rw_get_22 rfl ?_
    refine V.iret d_Rw_get_23 ⟨_, rfl, rfl⟩ ?_
    exact hP _ _ ⟨rfl, rfl, rfl⟩
  · refine V.iload_n (n := 5) d_Rw_get_4 rfl rfl ?_
    refine V.aload_n (n := 6) d_Rw_get_5 rfl rfl ?_
    refine V.getA (n := 9) d_Rw_get_6 f_Rw_13 (by assumption) rfl rfl ?_
    refine V.alen (n := 10) d_Rw_get_9 (by assumption) (by decide) rfl ?_
    refine V.icmp_geT (n2 := 22) d_Rw_get_10 (by omega) (by omega) (by omega) (by decide) ?_
    refine V.iconst (n := 23) d_Rw_get_22 rfl ?_
    refine V.iret d_Rw_get_23 ⟨_, rfl, rfl⟩ ?_
    exact hP _ _ ⟨rfl, rfl, rfl⟩
theorem c_Rw_set (hr : isRow G r c n) (h0 : 0 ≤ i) (h1 : i < n) : KV E l 0 m_Rw_set r [rI i, rI v] G μ 0 0 (dq none G (wr μ c i v)) := by
  obtain ⟨hr1, hr2, hn⟩ := hr
  refine ⟨KC.ofP q_Rw_set.1 rfl (Nat.le_of_ble_eq_true rfl) rfl (fun Post NT ST hP => ?_), ⟨_, _, _, hr1, rfl, rfl⟩, q_Rw_set, by decide⟩
  refine V.iload_n (n := 1) d_Rw_set_0 rfl rfl ?_
  refine V.if_ltF (n := 4) d_Rw_set_1 (by omega) (by omega) rfl ⟨20, by decide⟩ ?_
  refine V.iload_n (n := 5) d_Rw_set_4 rfl rfl ?_
  refine V.aload_n (n := 6) d_Rw_set_5 rfl rfl ?_
  refine V.getA (n := 9) d_Rw_set_6 f_Rw_13 (by assumption) rfl rfl ?_
  refine V.alen (n := 10) d_Rw_set_9 (by assumption) (by decide) rfl ?_
  refine V.icmp_geF (n := 13) d_Rw_set_10 (by omega) (by omega) (by omega) rfl ⟨20, by decide⟩ ?_
  refine V.aload_n (n := 14) d_Rw_set_13 rfl rfl ?_
  refine V.getA (n := 17) d_Rw_set_14 f_Rw_13 (by assumption) rfl rfl ?_
  refine V.iload_n (n := 18) d_Rw_set_17 rfl rfl ?_
  refine V.iload_n (n := 19) d_Rw_set_18 rfl rfl ?_
  refine V.iast (n := 20) d_Rw_set_19 (by assumption) (by omega) (by omega) (by omega) rfl ?_
  refine V.vret d_Rw_set_20 rfl ?_
  exact hP _ _ ⟨rfl, rfl, rfl⟩
/-- all of a row's cells are put -/
theorem isRow.lt (h : isRow G r c n) : c < G.1 := h.2.1.1
theorem c_Rw_fill (hr : isRow G r c n) : KV E l 0 m_Rw_fill r [rI v] G μ 0 0 (dqv (fun μ' => (∀ b, b ≠ c → μ' b = μ b) ∧ ∀ j : Int, 0 ≤ j → j < n → μ' c j = v) G) := by
  obtain ⟨hr1, hr2, hn⟩ := hr
  refine ⟨KC.ofP q_Rw_fill.1 rfl (Nat.le_of_ble_eq_true rfl) rfl (fun Post NT ST hP => ?_), ⟨_, _, _, hr1, rfl, rfl⟩, q_Rw_fill, by decide⟩
  refine V.iconst (n := 1) d_Rw_fill_0 rfl ?_
  refine V.istore_n (n := 2) d_Rw_fill_1 (by decide) rfl ?_
  have loop : ∀ (k : Nat) (i : Int) (μ' : MU), i + k = n → 0 ≤ i → (∀ b, b ≠ c → μ' b = μ b) → (∀ j : Int, 0 ≤ j → j < i → μ' c j = v) → V E l m_Rw_fill none 0 NT ST Post 2 [(2, rI i), (1, rI v), (0, rA E r)] [] G μ' := by
    intro k
    induction k with
    | zero =>
      intro i μ' hk hi h1 h2
      refine V.iload_n (n := 3) d_Rw_fill_2 rfl rfl ?_
      refine V.aload_n (n := 4) d_Rw_fill_3 rfl rfl ?_
      refine V.getA (n := 7) d_Rw_fill_4 f_Rw_13 (by assumption) rfl rfl ?_
      refine V.alen (n := 8) d_Rw_fill_7 (by assumption) (by decide) rfl ?_
      refine V.icmp_geT (n2 := 24) d_Rw_fill_8 (by omega) (by omega) (by omega) (by decide) ?_
      refine V.vret d_Rw_fill_24 rfl ?_
      exact hP _ _ ⟨rfl, rfl, ⟨h1, fun j h3 h4 => h2 j h3 (by omega)⟩⟩
    | succ k ih =>
      intro i μ' hk hi h1 h2
      refine V.iload_n (n := 3) d_Rw_fill_2 rfl rfl ?_
      refine V.aload_n (n := 4) d_Rw_fill_3 rfl rfl ?_
      refine V.getA (n := 7) d_Rw_fill_4 f_Rw_13 (by assumption) rfl rfl ?_
      refine V.alen (n := 8) d_Rw_fill_7 (by assumption) (by decide) rfl ?_
      refine V.icmp_geF (n := 11) d_Rw_fill_8 (by omega) (by omega) (by omega) rfl ⟨24, by decide⟩ ?_
      refine V.aload_n (n := 12) d_Rw_fill_11 rfl rfl ?_
      refine V.getA (n := 15) d_Rw_fill_12 f_Rw_13 (by assumption) rfl rfl ?_
      refine V.iload_n (n := 16) d_Rw_fill_15 rfl rfl ?_
      refine V.iload_n (n := 17) d_Rw_fill_16 rfl rfl ?_
      refine V.iast (n := 18) d_Rw_fill_17 (by assumption) (by omega) (by omega) (by omega) rfl ?_
      refine V.iinc (n := 21) d_Rw_fill_18 rfl (by decide) rfl ?_
      refine V.goto (n := 2) d_Rw_fill_21 (by decide) ?_
      refine V.loc (lo' := [(2, rI (i + 1)), (1, rI v), (0, rA E r)]) ⟨rfl, rfl, rfl, trivial⟩ ?_
      refine ih (i + 1) _ (by omega) (by omega) (fun b hb => by rw [wr_a hb, h1 b hb]) (fun j h3 h4 => ?_)
      by_cases hj : j = i
      · subst hj; exact wr_s _ _ _ _
      · rw [wr_i hj]; exact h2 j h3 (by omega)
  refine V.loc (lo' := [(2, rI 0), (1, rI v), (0, rA E r)]) ⟨rfl, rfl, rfl, trivial⟩ ?_
  exact loop n 0 μ (by omega) (by omega) (fun _ _ => rfl) (fun j h1 h2 => by omega)
/-- a row's cells are put into another's -/
theorem c_Rw_copyFrom (hr : isRow G r c n) (hq : isRow G q cq n) : KV E l 1 m_Rw_copyFrom r [rA E q] G μ 0 0 (dq none G (wrC μ c (fun j => if 0 ≤ j ∧ j < n then μ cq j else μ c j))) := by
  obtain ⟨hr1, hr2, hn⟩ := hr
  obtain ⟨hq1, hq2, -⟩ := hq
  refine ⟨KC.ofP q_Rw_copyFrom.1 rfl (Nat.le_of_ble_eq_true rfl) rfl (fun Post NT ST hP => ?_), ⟨_, _, _, hr1, rfl, rfl⟩, q_Rw_copyFrom, by decide⟩
  refine V.aload_n (n := 1) d_Rw_copyFrom_0 rfl rfl ?_
  refine V.getA (n := 4) d_Rw_copyFrom_1 f_Rw_13 (by assumption) rfl rfl ?_
  refine V.iconst (n := 5) d_Rw_copyFrom_4 rfl ?_
  refine V.aload_n (n := 6) d_Rw_copyFrom_5 rfl rfl ?_
  refine V.getA (n := 9) d_Rw_copyFrom_6 f_Rw_13 (by assumption) rfl rfl ?_
  refine V.iconst (n := 10) d_Rw_copyFrom_9 rfl ?_
  refine V.aload_n (n := 11) d_Rw_copyFrom_10 rfl rfl ?_
  refine V.getA (n := 14) d_Rw_copyFrom_11 f_Rw_13 (by assumption) rfl rfl ?_
  refine V.alen (n := 15) d_Rw_copyFrom_14 (by assumption) (by decide) rfl ?_
  refine V.aload_n (n := 16) d_Rw_copyFrom_15 rfl rfl ?_
  refine V.getA (n := 19) d_Rw_copyFrom_16 f_Rw_13 (by assumption) rfl rfl ?_
  refine V.alen (n := 20) d_Rw_copyFrom_19 (by assumption) (by decide) rfl ?_
  refine V.mmin (n := 23) d_Rw_copyFrom_20 k_Rw_19 (by omega) (by omega) rfl (by decide) rfl ?_
  rw [show min (n : Int) n = n by omega]
  refine V.copyI (n := 26) d_Rw_copyFrom_23 k_Rw_22 (by assumption) (by assumption) (by omega) (by omega) (by omega) (by omega) rfl (by decide) rfl ?_
  refine V.vret d_Rw_copyFrom_26 rfl ?_
  exact hP _ _ ⟨rfl, rfl, rfl⟩
end CRW
end
section
/-! THE CLASS: games -/
/-- 1 where it holds, else 0 -/
def bi (p : Prop) [Decidable p] : Int := if p then 1 else 0
theorem wr_v (μ : MU) (a : Nat) (i v j : Int) : wr μ a i v a j = if j = i then v else μ a j := by simp [wr]
theorem bi_t {p : Prop} [Decidable p] (h : p) : bi p = 1 := if_pos h
theorem bi_f {p : Prop} [Decidable p] (h : ¬ p) : bi p = 0 := if_neg h
theorem bi_or (p : Prop) [Decidable p] : (p ∧ bi p = 1) ∨ (¬ p ∧ bi p = 0) := by
  by_cases h : p
  · exact Or.inl ⟨h, bi_t h⟩
  · exact Or.inr ⟨h, bi_f h⟩
theorem bi_c {p q : Prop} [Decidable p] [Decidable q] (h : p ↔ q) : bi p = bi q := by
  by_cases hp : p
  · rw [bi_t hp, bi_t (h.mp hp)]
  · rw [bi_f hp, bi_f (fun x => hp (h.mpr x))]
/-- a game at g: six rows and the number of moves -/
def isGame (G : GG) (g : Nat) : Prop :=
  obj G g (.inl (0, [some (some (g + 1)), some (some (g + 3)), some (some (g + 5)), some (some (g + 7)), some (some (g + 9)), some (some (g + 11)), none])) ∧ isRow G (g + 1) (g + 2) 20 ∧ isRow G (g + 3) (g + 4) 20 ∧ isRow G (g + 5) (g + 6) 20 ∧ isRow G (g + 7) (g + 8) 20 ∧ isRow G (g + 9) (g + 10) 20 ∧ isRow G (g + 11) (g + 12) 400
section CGM
variable {E : EV} {l : Launch} {G : GG} {μ : MU} {g h : Nat} {p r i v to : Int}
theorem c_Gm_isEnd (hG : isGame G g) (h0 : 0 ≤ p) (h1 : p < 20) (hm : inR (μ (g + 4) p)) (hc : inR (μ (g + 10) p)) : KV E l 1 m_Gm_isEnd g [rI p] G μ 0 0 (dq (some (rI (bi (¬ μ (g + 4) p = 0 ∨ μ (g + 10) p = 0)))) G μ) := by
  obtain ⟨a0, a1, a2, a3, a4, a5, a6⟩ := hG
  refine ⟨KC.ofP q_Gm_isEnd.1 rfl (Nat.le_of_ble_eq_true rfl) rfl (fun Post NT ST hP => ?_), ⟨_, _, _, a0, rfl, rfl⟩, q_Gm_isEnd, by decide⟩
  refine V.aload_n (n := 1) d_Gm_isEnd_0 rfl rfl ?_
  refine V.getA (n := 4) d_Gm_isEnd_1 f_Gm_20 (by assumption) rfl rfl ?_
  refine V.iload_n (n := 5) d_Gm_isEnd_4 rfl rfl ?_
  refine V.cVi (n := 8) d_Gm_isEnd_5 k_Gm_50 (c_Rw_get (by assumption) (by omega) (by omega)) rfl rfl (by decide) rfl ?_
  refine V.if_ne (n2 := 22) (n := 11) d_Gm_isEnd_8 (by omega) (by decide) rfl (fun h => ?_) (fun h => ?_)
  · rw [bi_t (Or.inl h)] at hP
    refine V.iconst (n := 23) d_Gm_isEnd_22 rfl ?_
    refine V.goto (n := 27) d_Gm_isEnd_23 (by decide) ?_
    refine V.iret d_Gm_isEnd_27 ⟨_, rfl, rfl⟩ ?_
    exact hP _ _ ⟨rfl, rfl, rfl⟩
  · refine V.aload_n (n := 12) d_Gm_isEnd_11 rfl rfl ?_
    refine V.getA (n := 15) d_Gm_isEnd_12 f_Gm_29 (by assumption) rfl rfl ?_
    refine V.iload_n (n := 16) d_Gm_isEnd_15 rfl rfl ?_
    refine V.cVi (n := 19) d_Gm_isEnd_16 k_Gm_50 (c_Rw_get (by assumption) (by omega) (by omega)) rfl rfl (by decide) rfl ?_
    refine V.if_ne (n2 := 26) (n := 22) d_Gm_isEnd_19 (by omega) (by decide) rfl (fun h2 => ?_) (fun h2 => ?_)
    · rw [bi_f (by omega)] at hP
      refine V.iconst (n := 27) d_Gm_isEnd_26 rfl ?_
      refine V.iret d_Gm_isEnd_27 ⟨_, rfl, rfl⟩ ?_
      exact hP _ _ ⟨rfl, rfl, rfl⟩
    · rw [bi_t (by omega)] at hP
      refine V.iconst (n := 23) d_Gm_isEnd_22 rfl ?_
      refine V.goto (n := 27) d_Gm_isEnd_23 (by decide) ?_
      refine V.iret d_Gm_isEnd_27 ⟨_, rfl, rfl⟩ ?_
      exact hP _ _ ⟨rfl, rfl, rfl⟩
theorem c_Gm_isWonEnd (hG : isGame G g) (h0 : 0 ≤ p) (h1 : p < 20) (hm : inR (μ (g + 4) p)) : KV E l 1 m_Gm_isWonEnd g [rI p] G μ 0 0 (dq (some (rI (bi (μ (g + 4) p = 1)))) G μ) := by
  obtain ⟨a0, a1, a2, a3, a4, a5, a6⟩ := hG
  refine ⟨KC.ofP q_Gm_isWonEnd.1 rfl (Nat.le_of_ble_eq_true rfl) rfl (fun Post NT ST hP => ?_), ⟨_, _, _, a0, rfl, rfl⟩, q_Gm_isWonEnd, by decide⟩
  refine V.aload_n (n := 1) d_Gm_isWonEnd_0 rfl rfl ?_
  refine V.getA (n := 4) d_Gm_isWonEnd_1 f_Gm_20 (by assumption) rfl rfl ?_
  refine V.iload_n (n := 5) d_Gm_isWonEnd_4 rfl rfl ?_
  refine V.cVi (n := 8) d_Gm_isWonEnd_5 k_Gm_50 (c_Rw_get (by assumption) (by omega) (by omega)) rfl rfl (by decide) rfl ?_
  refine V.iconst (n := 9) d_Gm_isWonEnd_8 rfl ?_
  refine V.icmp_ne (n2 := 16) (n := 12) d_Gm_isWonEnd_9 (by omega) (by omega) (by decide) rfl (fun h => ?_) (fun h => ?_)
  · rw [bi_f h] at hP
    refine V.iconst (n := 17) d_Gm_isWonEnd_16 rfl ?_
    refine V.iret d_Gm_isWonEnd_17 ⟨_, rfl, rfl⟩ ?_
    exact hP _ _ ⟨rfl, rfl, rfl⟩
  · rw [bi_t h] at hP
    refine V.iconst (n := 13) d_Gm_isWonEnd_12 rfl ?_
    refine V.goto (n := 17) d_Gm_isWonEnd_13 (by decide) ?_
    refine V.iret d_Gm_isWonEnd_17 ⟨_, rfl, rfl⟩ ?_
    exact hP _ _ ⟨rfl, rfl, rfl⟩
theorem c_Gm_targetOf (hG : isGame G g) (h0 : 0 ≤ p) (h1 : p < 20) (h2 : 0 ≤ r) (h3 : r < μ (g + 10) p) (h4 : μ (g + 10) p ≤ 20) : KV E l 1 m_Gm_targetOf g [rI p, rI r] G μ 0 0 (dq (some (rI (μ (g + 12) (p * 20 + r)))) G μ) := by
  obtain ⟨a0, a1, a2, a3, a4, a5, a6⟩ := hG
  refine ⟨KC.ofP q_Gm_targetOf.1 rfl (Nat.le_of_ble_eq_true rfl) rfl (fun Post NT ST hP => ?_), ⟨_, _, _, a0, rfl, rfl⟩, q_Gm_targetOf, by decide⟩
  refine V.iload_n (n := 1) d_Gm_targetOf_0 rfl rfl ?_
  refine V.if_ltF (n := 4) d_Gm_targetOf_1 (by omega) (by omega) rfl ⟨16, by decide⟩ ?_
  refine V.iload_n (n := 5) d_Gm_targetOf_4 rfl rfl ?_
  refine V.aload_n (n := 6) d_Gm_targetOf_5 rfl rfl ?_
  refine V.getA (n := 9) d_Gm_targetOf_6 f_Gm_29 (by assumption) rfl rfl ?_
  refine V.iload_n (n := 10) d_Gm_targetOf_9 rfl rfl ?_
  refine V.cVi (n := 13) d_Gm_targetOf_10 k_Gm_50 (c_Rw_get (by assumption) (by omega) (by omega)) rfl rfl (by decide) rfl ?_
  refine V.icmp_ltT (n2 := 19) d_Gm_targetOf_13 (by omega) (by omega) (by omega) (by decide) ?_
  refine V.aload_n (n := 20) d_Gm_targetOf_19 rfl rfl ?_
  refine V.getA (n := 23) d_Gm_targetOf_20 f_Gm_32 (by assumption) rfl rfl ?_
  refine V.iload_n (n := 24) d_Gm_targetOf_23 rfl rfl ?_
  refine V.bipush (n := 26) d_Gm_targetOf_24 (by decide) rfl ?_
  refine V.imul (n := 27) d_Gm_targetOf_26 rfl ?_
  refine V.iload_n (n := 28) d_Gm_targetOf_27 rfl rfl ?_
  refine V.iadd (n := 29) d_Gm_targetOf_28 rfl ?_
  refine V.cVi (n := 32) d_Gm_targetOf_29 k_Gm_50 (c_Rw_get (by assumption) (by omega) (by omega)) rfl rfl (by decide) rfl ?_
  refine V.iret d_Gm_targetOf_32 ⟨_, rfl, rfl⟩ ?_
  exact hP _ _ ⟨rfl, rfl, rfl⟩
theorem c_Gm_targetOfN (hG : isGame G g) (h0 : 0 ≤ p) (h1 : p < 20) (h2 : inR r) (h3 : r < 0 ∨ μ (g + 10) p ≤ r) (h4 : inR (μ (g + 10) p)) : KV E l 1 m_Gm_targetOf g [rI p, rI r] G μ 0 0 (dq (some (rI (-5))) G μ) := by
  obtain ⟨a0, a1, a2, a3, a4, a5, a6⟩ := hG
  refine ⟨KC.ofP q_Gm_targetOf.1 rfl (Nat.le_of_ble_eq_true rfl) rfl (fun Post NT ST hP => ?_), ⟨_, _, _, a0, rfl, rfl⟩, q_Gm_targetOf, by decide⟩
  refine V.iload_n (n := 1) d_Gm_targetOf_0 rfl rfl ?_
  refine V.if_lt (n2 := 16) (n := 4) d_Gm_targetOf_1 (by omega) (by decide) rfl (fun h => ?_) (fun h => ?_)
  · refine V.bipush (n := 18) d_Gm_targetOf_16 (by decide) rfl ?_
    refine V.iret d_Gm_targetOf_18 ⟨_, rfl, rfl⟩ ?_
    exact hP _ _ ⟨rfl, rfl, rfl⟩
  · refine V.iload_n (n := 5) d_Gm_targetOf_4 rfl rfl ?_
    refine V.aload_n (n := 6) d_Gm_targetOf_5 rfl rfl ?_
    refine V.getA (n := 9) d_Gm_targetOf_6 f_Gm_29 (by assumption) rfl rfl ?_
    refine V.iload_n (n := 10) d_Gm_targetOf_9 rfl rfl ?_
    refine V.cVi (n := 13) d_Gm_targetOf_10 k_Gm_50 (c_Rw_get (by assumption) (by omega) (by omega)) rfl rfl (by decide) rfl ?_
    refine V.icmp_ltF (n := 16) d_Gm_targetOf_13 (by omega) (by omega) (by omega) rfl ⟨19, by decide⟩ ?_
    refine V.bipush (n := 18) d_Gm_targetOf_16 (by decide) rfl ?_
    refine V.iret d_Gm_targetOf_18 ⟨_, rfl, rfl⟩ ?_
    exact hP _ _ ⟨rfl, rfl, rfl⟩
theorem c_Gm_rankOf (hG : isGame G g) (h0 : 0 ≤ p) (h1 : p < 20) (hto : inR to) (h4 : 0 ≤ μ (g + 10) p) (h5 : μ (g + 10) p ≤ 20) (hin : ∀ r : Int, 0 ≤ r → r < μ (g + 10) p → inR (μ (g + 12) (p * 20 + r))) : KV E l 2 m_Gm_rankOf g [rI p, rI to] G μ 0 0 (dqi (fun z μ' => μ' = μ ∧ ((0 ≤ z ∧ z < μ (g + 10) p ∧ μ (g + 12) (p * 20 + z) = to ∧ ∀ r, 0 ≤ r → r < z → ¬ μ (g + 12) (p * 20 + r) = to) ∨ (z = -5 ∧ ∀ r, 0 ≤ r → r < μ (g + 10) p → ¬ μ (g + 12) (p * 20 + r) = to))) G) := by
  have hG0 := hG
  obtain ⟨a0, a1, a2, a3, a4, a5, a6⟩ := hG
  refine ⟨KC.ofP q_Gm_rankOf.1 rfl (Nat.le_of_ble_eq_true rfl) rfl (fun Post NT ST hP => ?_), ⟨_, _, _, a0, rfl, rfl⟩, q_Gm_rankOf, by decide⟩
  refine V.aload_n (n := 1) d_Gm_rankOf_0 rfl rfl ?_
  refine V.getA (n := 4) d_Gm_rankOf_1 f_Gm_29 (by assumption) rfl rfl ?_
  refine V.iload_n (n := 5) d_Gm_rankOf_4 rfl rfl ?_
  refine V.cVi (n := 8) d_Gm_rankOf_5 k_Gm_50 (c_Rw_get (by assumption) (by omega) (by omega)) rfl rfl (by decide) rfl ?_
  refine V.istore_n (n := 9) d_Gm_rankOf_8 (by decide) rfl ?_
  refine V.iconst (n := 10) d_Gm_rankOf_9 rfl ?_
  refine V.istore (n := 12) d_Gm_rankOf_10 (by decide) rfl ?_
  have loop : ∀ (k : Nat) (i : Int), i + k = μ (g + 10) p → 0 ≤ i → (∀ r, 0 ≤ r → r < i → ¬ μ (g + 12) (p * 20 + r) = to) → V E l m_Gm_rankOf none 2 NT ST Post 12 [(4, rI i), (3, rI (μ (g + 10) p)), (2, rI to), (1, rI p), (0, rA E g)] [] G μ := by
    intro k
    induction k with
    | zero =>
      intro i hk hi hno
      refine V.iload (n := 14) d_Gm_rankOf_12 rfl rfl ?_
      refine V.iload_n (n := 15) d_Gm_rankOf_14 rfl rfl ?_
      refine V.icmp_geT (n2 := 38) d_Gm_rankOf_15 (by omega) (by omega) (by omega) (by decide) ?_
      refine V.bipush (n := 40) d_Gm_rankOf_38 (by decide) rfl ?_
      refine V.iret d_Gm_rankOf_40 ⟨_, rfl, rfl⟩ ?_
      exact hP _ _ ⟨_, rfl, rfl, rfl, Or.inr ⟨rfl, fun r q1 q2 => hno r q1 (by omega)⟩⟩
    | succ k ih =>
      intro i hk hi hno
      have hri := hin i hi (by omega)
      refine V.iload (n := 14) d_Gm_rankOf_12 rfl rfl ?_
      refine V.iload_n (n := 15) d_Gm_rankOf_14 rfl rfl ?_
      refine V.icmp_geF (n := 18) d_Gm_rankOf_15 (by omega) (by omega) (by omega) rfl ⟨38, by decide⟩ ?_
      refine V.aload_n (n := 19) d_Gm_rankOf_18 rfl rfl ?_
      refine V.iload_n (n := 20) d_Gm_rankOf_19 rfl rfl ?_
      refine V.iload (n := 22) d_Gm_rankOf_20 rfl rfl ?_
      refine V.cVi (n := 25) d_Gm_rankOf_22 k_Gm_54 (c_Gm_targetOf (by assumption) (by omega) (by omega) (by omega) (by omega) (by omega)) rfl rfl (by decide) rfl ?_
      refine V.iload_n (n := 26) d_Gm_rankOf_25 rfl rfl ?_
      refine V.icmp_ne (n2 := 32) (n := 29) d_Gm_rankOf_26 (by omega) (by omega) (by decide) rfl (fun h => ?_) (fun h => ?_)
      · refine V.iinc (n := 35) d_Gm_rankOf_32 rfl (by decide) rfl ?_
        refine V.goto (n := 12) d_Gm_rankOf_35 (by decide) ?_
        refine V.loc (lo' := [(4, rI (i + 1)), (3, rI (μ (g + 10) p)), (2, rI to), (1, rI p), (0, rA E g)]) ⟨rfl, rfl, rfl, rfl, rfl, trivial⟩ ?_
        refine ih (i + 1) (by omega) (by omega) (fun r q1 q2 => ?_)
        by_cases hr : r = i
        · subst hr; exact h
        · exact hno r q1 (by omega)
      · refine V.iload (n := 31) d_Gm_rankOf_29 rfl rfl ?_
        refine V.iret d_Gm_rankOf_31 ⟨_, rfl, rfl⟩ ?_
        exact hP _ _ ⟨_, rfl, rfl, rfl, Or.inl ⟨hi, by omega, h, hno⟩⟩
  refine V.loc (lo' := [(4, rI 0), (3, rI (μ (g + 10) p)), (2, rI to), (1, rI p), (0, rA E g)]) ⟨rfl, rfl, rfl, rfl, rfl, trivial⟩ ?_
  exact loop (μ (g + 10) p).toNat 0 (by omega) (by omega) (fun r q1 q2 => by omega)
theorem c_Gm_append (hG : isGame G g) (h0 : 0 ≤ p) (h1 : p < 20) (h4 : 0 ≤ μ (g + 10) p) (h5 : μ (g + 10) p < 20) : KV E l 1 m_Gm_append g [rI p, rI to] G μ 0 0 (dq none G (wr (wr (wr μ (g + 12) (p * 20 + μ (g + 10) p) to) (g + 10) p (μ (g + 10) p + 1)) g 6 (μ g 6 + 1))) := by
  obtain ⟨a0, a1, a2, a3, a4, a5, a6⟩ := hG
  refine ⟨KC.ofP q_Gm_append.1 rfl (Nat.le_of_ble_eq_true rfl) rfl (fun Post NT ST hP => ?_), ⟨_, _, _, a0, rfl, rfl⟩, q_Gm_append, by decide⟩
  refine V.aload_n (n := 1) d_Gm_append_0 rfl rfl ?_
  refine V.getA (n := 4) d_Gm_append_1 f_Gm_29 (by assumption) rfl rfl ?_
  refine V.iload_n (n := 5) d_Gm_append_4 rfl rfl ?_
  refine V.cVi (n := 8) d_Gm_append_5 k_Gm_50 (c_Rw_get (by assumption) (by omega) (by omega)) rfl rfl (by decide) rfl ?_
  refine V.istore_n (n := 9) d_Gm_append_8 (by decide) rfl ?_
  refine V.aload_n (n := 10) d_Gm_append_9 rfl rfl ?_
  refine V.getA (n := 13) d_Gm_append_10 f_Gm_32 (by assumption) rfl rfl ?_
  refine V.iload_n (n := 14) d_Gm_append_13 rfl rfl ?_
  refine V.bipush (n := 16) d_Gm_append_14 (by decide) rfl ?_
  refine V.imul (n := 17) d_Gm_append_16 rfl ?_
  refine V.iload_n (n := 18) d_Gm_append_17 rfl rfl ?_
  refine V.iadd (n := 19) d_Gm_append_18 rfl ?_
  refine V.iload_n (n := 20) d_Gm_append_19 rfl rfl ?_
  refine V.cVv (n := 23) d_Gm_append_20 k_Gm_58 (c_Rw_set (by assumption) (by omega) (by omega)) rfl rfl (by decide) rfl ?_
  refine V.aload_n (n := 24) d_Gm_append_23 rfl rfl ?_
  refine V.getA (n := 27) d_Gm_append_24 f_Gm_29 (by assumption) rfl rfl ?_
  refine V.iload_n (n := 28) d_Gm_append_27 rfl rfl ?_
  refine V.iload_n (n := 29) d_Gm_append_28 rfl rfl ?_
  refine V.iconst (n := 30) d_Gm_append_29 rfl ?_
  refine V.iadd (n := 31) d_Gm_append_30 rfl ?_
  refine V.cVv (n := 34) d_Gm_append_31 k_Gm_58 (c_Rw_set (by assumption) (by omega) (by omega)) rfl rfl (by decide) rfl ?_
  refine V.aload_n (n := 35) d_Gm_append_34 rfl rfl ?_
  refine V.dup (n := 36) d_Gm_append_35 rfl rfl ?_
  refine V.getI (n := 39) d_Gm_append_36 f_Gm_46 (by assumption) rfl rfl ?_
  refine V.iconst (n := 40) d_Gm_append_39 rfl ?_
  refine V.iadd (n := 41) d_Gm_append_40 rfl ?_
  refine V.putI (n := 44) d_Gm_append_41 f_Gm_46 t_Gm_moves ⟨rfl, rfl⟩ (by assumption) rfl rfl ?_
  rw [show wr (wr μ (g + 12) (p * 20 + μ (g + 10) p) to) (g + 10) p (μ (g + 10) p + 1) g = μ g by rw [wr_a (by omega), wr_a (by omega)]]
  refine V.vret d_Gm_append_44 rfl ?_
  exact hP _ _ ⟨rfl, rfl, rfl⟩
/-- two games lie apart -/
theorem c_Gm_copyAllButGuesses (hG : isGame G g) (hH : isGame G h) (hd : g + 12 < h ∨ h + 12 < g) : KV E l 2 m_Gm_copyAllButGuesses g [rA E h] G μ 0 0 (dqv (fun μ' => (∀ b, ¬ b = g → ¬ b = g + 2 → ¬ b = g + 4 → ¬ b = g + 10 → ¬ b = g + 12 → μ' b = μ b) ∧ (∀ j : Int, 0 ≤ j → j < 20 → μ' (g + 2) j = μ (h + 2) j ∧ μ' (g + 4) j = μ (h + 4) j ∧ μ' (g + 10) j = μ (h + 10) j) ∧ (∀ j : Int, 0 ≤ j → j < 400 → μ' (g + 12) j = μ (h + 12) j) ∧ μ' g 6 = μ h 6) G) := by
  obtain ⟨a0, a1, a2, a3, a4, a5, a6⟩ := hG
  obtain ⟨b0, b1, b2, b3, b4, b5, b6⟩ := hH
  refine ⟨KC.ofP q_Gm_copyAllButGuesses.1 rfl (Nat.le_of_ble_eq_true rfl) rfl (fun Post NT ST hP => ?_), ⟨_, _, _, a0, rfl, rfl⟩, q_Gm_copyAllButGuesses, by decide⟩
  refine V.aload_n (n := 1) d_Gm_copyAllButGuesses_0 rfl rfl ?_
  refine V.getA (n := 4) d_Gm_copyAllButGuesses_1 f_Gm_14 (by assumption) rfl rfl ?_
  refine V.aload_n (n := 5) d_Gm_copyAllButGuesses_4 rfl rfl ?_
  refine V.getA (n := 8) d_Gm_copyAllButGuesses_5 f_Gm_14 (by assumption) rfl rfl ?_
  refine V.cVv (n := 11) d_Gm_copyAllButGuesses_8 k_Gm_42 (c_Rw_copyFrom (by assumption) (by assumption)) rfl rfl (by decide) rfl ?_
  refine V.aload_n (n := 12) d_Gm_copyAllButGuesses_11 rfl rfl ?_
  refine V.getA (n := 15) d_Gm_copyAllButGuesses_12 f_Gm_20 (by assumption) rfl rfl ?_
  refine V.aload_n (n := 16) d_Gm_copyAllButGuesses_15 rfl rfl ?_
  refine V.getA (n := 19) d_Gm_copyAllButGuesses_16 f_Gm_20 (by assumption) rfl rfl ?_
  refine V.cVv (n := 22) d_Gm_copyAllButGuesses_19 k_Gm_42 (c_Rw_copyFrom (by assumption) (by assumption)) rfl rfl (by decide) rfl ?_
  refine V.aload_n (n := 23) d_Gm_copyAllButGuesses_22 rfl rfl ?_
  refine V.getA (n := 26) d_Gm_copyAllButGuesses_23 f_Gm_29 (by assumption) rfl rfl ?_
  refine V.aload_n (n := 27) d_Gm_copyAllButGuesses_26 rfl rfl ?_
  refine V.getA (n := 30) d_Gm_copyAllButGuesses_27 f_Gm_29 (by assumption) rfl rfl ?_
  refine V.cVv (n := 33) d_Gm_copyAllButGuesses_30 k_Gm_42 (c_Rw_copyFrom (by assumption) (by assumption)) rfl rfl (by decide) rfl ?_
  refine V.aload_n (n := 34) d_Gm_copyAllButGuesses_33 rfl rfl ?_
  refine V.getA (n := 37) d_Gm_copyAllButGuesses_34 f_Gm_32 (by assumption) rfl rfl ?_
  refine V.aload_n (n := 38) d_Gm_copyAllButGuesses_37 rfl rfl ?_
  refine V.getA (n := 41) d_Gm_copyAllButGuesses_38 f_Gm_32 (by assumption) rfl rfl ?_
  refine V.cVv (n := 44) d_Gm_copyAllButGuesses_41 k_Gm_42 (c_Rw_copyFrom (by assumption) (by assumption)) rfl rfl (by decide) rfl ?_
  refine V.aload_n (n := 45) d_Gm_copyAllButGuesses_44 rfl rfl ?_
  refine V.aload_n (n := 46) d_Gm_copyAllButGuesses_45 rfl rfl ?_
  refine V.getI (n := 49) d_Gm_copyAllButGuesses_46 f_Gm_46 (by assumption) rfl rfl ?_
  refine V.putI (n := 52) d_Gm_copyAllButGuesses_49 f_Gm_46 t_Gm_moves ⟨rfl, rfl⟩ (by assumption) rfl rfl ?_
  refine V.vret d_Gm_copyAllButGuesses_52 rfl ?_
  refine hP _ _ ⟨rfl, rfl, ?_⟩
  have e1 : ∀ x y : Nat, ¬ x = y → ∀ (μ : MU) (f : Int → Int), wrC μ y f x = μ x := fun x y hxy μ f => by simp [wrC, hxy]
  have e2 : ∀ (x : Nat) (μ : MU) (f : Int → Int), wrC μ x f x = f := fun x μ f => by simp [wrC]
  refine ⟨fun b c1 c2 c3 c4 c5 => ?_, fun j j0 j1 => ⟨?_, ?_, ?_⟩, fun j j0 j1 => ?_, ?_⟩
  · rw [wr_a c1, e1 _ _ c5, e1 _ _ c4, e1 _ _ c3, e1 _ _ c2]
  · rw [wr_a (by omega), e1 _ _ (by omega), e1 _ _ (by omega), e1 _ _ (by omega), e2]
    exact if_pos ⟨j0, j1⟩
  · rw [wr_a (by omega), e1 _ _ (by omega), e1 _ _ (by omega), e2, if_pos ⟨j0, j1⟩, e1 _ _ (by omega)]
  · rw [wr_a (by omega), e1 _ _ (by omega), e2, if_pos ⟨j0, j1⟩, e1 _ _ (by omega), e1 _ _ (by omega)]
  · rw [wr_a (by omega), e2, if_pos ⟨j0, j1⟩, e1 _ _ (by omega), e1 _ _ (by omega), e1 _ _ (by omega)]
  · rw [wr_s, e1 _ _ (by omega), e1 _ _ (by omega), e1 _ _ (by omega), e1 _ _ (by omega)]
theorem c_Gm_copyFrom (hG : isGame G g) (hH : isGame G h) (hd : g + 12 < h ∨ h + 12 < g) : KV E l 3 m_Gm_copyFrom g [rA E h] G μ 0 0 (dqv (fun μ' => (∀ b, b < g ∨ g + 12 < b → μ' b = μ b) ∧ (∀ j : Int, 0 ≤ j → j < 20 → μ' (g + 2) j = μ (h + 2) j ∧ μ' (g + 4) j = μ (h + 4) j ∧ μ' (g + 6) j = μ (h + 6) j ∧ μ' (g + 8) j = μ (h + 8) j ∧ μ' (g + 10) j = μ (h + 10) j) ∧ (∀ j : Int, 0 ≤ j → j < 400 → μ' (g + 12) j = μ (h + 12) j) ∧ μ' g 6 = μ h 6) G) := by
  have hG0 := hG
  have hH0 := hH
  obtain ⟨a0, a1, a2, a3, a4, a5, a6⟩ := hG
  obtain ⟨b0, b1, b2, b3, b4, b5, b6⟩ := hH
  refine ⟨KC.ofP q_Gm_copyFrom.1 rfl (Nat.le_of_ble_eq_true rfl) rfl (fun Post NT ST hP => ?_), ⟨_, _, _, a0, rfl, rfl⟩, q_Gm_copyFrom, by decide⟩
  refine V.aload_n (n := 1) d_Gm_copyFrom_0 rfl rfl ?_
  refine V.aload_n (n := 2) d_Gm_copyFrom_1 rfl rfl ?_
  refine V.cVqv (n := 5) d_Gm_copyFrom_2 k_Gm_38 (c_Gm_copyAllButGuesses hG0 hH0 hd) rfl rfl (by decide) rfl (fun μ' hq => ?_)
  obtain ⟨m1, m2, m3, m4⟩ := hq
  refine V.aload_n (n := 6) d_Gm_copyFrom_5 rfl rfl ?_
  refine V.getA (n := 9) d_Gm_copyFrom_6 f_Gm_23 (by assumption) rfl rfl ?_
  refine V.aload_n (n := 10) d_Gm_copyFrom_9 rfl rfl ?_
  refine V.getA (n := 13) d_Gm_copyFrom_10 f_Gm_23 (by assumption) rfl rfl ?_
  refine V.cVv (n := 16) d_Gm_copyFrom_13 k_Gm_42 (c_Rw_copyFrom (by assumption) (by assumption)) rfl rfl (by decide) rfl ?_
  refine V.aload_n (n := 17) d_Gm_copyFrom_16 rfl rfl ?_
  refine V.getA (n := 20) d_Gm_copyFrom_17 f_Gm_26 (by assumption) rfl rfl ?_
  refine V.aload_n (n := 21) d_Gm_copyFrom_20 rfl rfl ?_
  refine V.getA (n := 24) d_Gm_copyFrom_21 f_Gm_26 (by assumption) rfl rfl ?_
  refine V.cVv (n := 27) d_Gm_copyFrom_24 k_Gm_42 (c_Rw_copyFrom (by assumption) (by assumption)) rfl rfl (by decide) rfl ?_
  refine V.vret d_Gm_copyFrom_27 rfl ?_
  refine hP _ _ ⟨rfl, rfl, ?_⟩
  have e1 : ∀ x y : Nat, ¬ x = y → ∀ (μ : MU) (f : Int → Int), wrC μ y f x = μ x := fun x y hxy μ f => by simp [wrC, hxy]
  have e2 : ∀ (x : Nat) (μ : MU) (f : Int → Int), wrC μ x f x = f := fun x μ f => by simp [wrC]
  refine ⟨fun b c1 => ?_, fun j j0 j1 => ⟨?_, ?_, ?_, ?_, ?_⟩, fun j j0 j1 => ?_, ?_⟩
  · rw [e1 _ _ (by omega), e1 _ _ (by omega), m1 b (by omega) (by omega) (by omega) (by omega) (by omega)]
  · rw [e1 _ _ (by omega), e1 _ _ (by omega)]
    exact (m2 j j0 j1).1
  · rw [e1 _ _ (by omega), e1 _ _ (by omega)]
    exact (m2 j j0 j1).2.1
  · rw [e1 _ _ (by omega), e2, if_pos ⟨j0, j1⟩, m1 (h + 6) (by omega) (by omega) (by omega) (by omega) (by omega)]
  · rw [e2, if_pos ⟨j0, j1⟩, e1 _ _ (by omega), m1 (h + 8) (by omega) (by omega) (by omega) (by omega) (by omega)]
  · rw [e1 _ _ (by omega), e1 _ _ (by omega)]
    exact (m2 j j0 j1).2.2
  · rw [e1 _ _ (by omega), e1 _ _ (by omega)]
    exact m3 j j0 j1
  · rw [e1 _ _ (by omega), e1 _ _ (by omega)]
    exact m4
theorem c_Gm_clearAllButGuesses (hG : isGame G g) : KV E l 1 m_Gm_clearAllButGuesses g [] G μ 0 0 (dqv (fun μ' => (∀ b, ¬ b = g → ¬ b = g + 2 → ¬ b = g + 4 → ¬ b = g + 10 → μ' b = μ b) ∧ (∀ j : Int, 0 ≤ j → j < 20 → μ' (g + 2) j = 0 ∧ μ' (g + 4) j = 0 ∧ μ' (g + 10) j = 0) ∧ μ' g 6 = 0) G) := by
  obtain ⟨a0, a1, a2, a3, a4, a5, a6⟩ := hG
  refine ⟨KC.ofP q_Gm_clearAllButGuesses.1 rfl (Nat.le_of_ble_eq_true rfl) rfl (fun Post NT ST hP => ?_), ⟨_, _, _, a0, rfl, rfl⟩, q_Gm_clearAllButGuesses, by decide⟩
  refine V.aload_n (n := 1) d_Gm_clearAllButGuesses_0 rfl rfl ?_
  refine V.getA (n := 4) d_Gm_clearAllButGuesses_1 f_Gm_14 (by assumption) rfl rfl ?_
  refine V.iconst (n := 5) d_Gm_clearAllButGuesses_4 rfl ?_
  refine V.cVqv (n := 8) d_Gm_clearAllButGuesses_5 k_Gm_35 (c_Rw_fill a1) rfl rfl (by decide) rfl (fun μ' hq => ?_)
  obtain ⟨m1, m2⟩ := hq
  refine V.aload_n (n := 9) d_Gm_clearAllButGuesses_8 rfl rfl ?_
  refine V.getA (n := 12) d_Gm_clearAllButGuesses_9 f_Gm_20 (by assumption) rfl rfl ?_
  refine V.iconst (n := 13) d_Gm_clearAllButGuesses_12 rfl ?_
  refine V.cVqv (n := 16) d_Gm_clearAllButGuesses_13 k_Gm_35 (c_Rw_fill a2) rfl rfl (by decide) rfl (fun μ2 hq => ?_)
  obtain ⟨m3, m4⟩ := hq
  refine V.aload_n (n := 17) d_Gm_clearAllButGuesses_16 rfl rfl ?_
  refine V.getA (n := 20) d_Gm_clearAllButGuesses_17 f_Gm_29 (by assumption) rfl rfl ?_
  refine V.iconst (n := 21) d_Gm_clearAllButGuesses_20 rfl ?_
  refine V.cVqv (n := 24) d_Gm_clearAllButGuesses_21 k_Gm_35 (c_Rw_fill a5) rfl rfl (by decide) rfl (fun μ3 hq => ?_)
  obtain ⟨m5, m6⟩ := hq
  refine V.aload_n (n := 25) d_Gm_clearAllButGuesses_24 rfl rfl ?_
  refine V.iconst (n := 26) d_Gm_clearAllButGuesses_25 rfl ?_
  refine V.putI (n := 29) d_Gm_clearAllButGuesses_26 f_Gm_46 t_Gm_moves ⟨rfl, rfl⟩ (by assumption) rfl rfl ?_
  refine V.vret d_Gm_clearAllButGuesses_29 rfl ?_
  refine hP _ _ ⟨rfl, rfl, fun b c1 c2 c3 c4 => ?_, fun j j0 j1 => ⟨?_, ?_, ?_⟩, wr_s _ _ _ _⟩
  · rw [wr_a c1, m5 b c4, m3 b c3, m1 b c2]
  · rw [wr_a (by omega), m5 _ (by omega), m3 _ (by omega)]
    exact m2 j j0 j1
  · rw [wr_a (by omega), m5 _ (by omega)]
    exact m4 j j0 j1
  · rw [wr_a (by omega)]
    exact m6 j j0 j1
theorem c_Gm_removeAt (hG : isGame G g) (h0 : 0 ≤ p) (h1 : p < 20) (h2 : 0 ≤ r) (h3 : r < μ (g + 10) p) (h4 : μ (g + 10) p ≤ 20) : KV E l 2 m_Gm_removeAt g [rI p, rI r] G μ 0 0 (dqv (fun μ' => (∀ b, ¬ b = g → ¬ b = g + 10 → ¬ b = g + 12 → μ' b = μ b) ∧ (∀ j : Int, μ' (g + 10) j = if j = p then μ (g + 10) p - 1 else μ (g + 10) j) ∧ (∀ j : Int, μ' (g + 12) j = if p * 20 + r ≤ j ∧ j < p * 20 + μ (g + 10) p - 1 then μ (g + 12) (j + 1) else μ (g + 12) j) ∧ μ' g = fun j => if j = 6 then μ g 6 - 1 else μ g j) G) := by
  have hG0 := hG
  obtain ⟨a0, a1, a2, a3, a4, a5, a6⟩ := hG
  refine ⟨KC.ofP q_Gm_removeAt.1 rfl (Nat.le_of_ble_eq_true rfl) rfl (fun Post NT ST hP => ?_), ⟨_, _, _, a0, rfl, rfl⟩, q_Gm_removeAt, by decide⟩
  refine V.aload_n (n := 1) d_Gm_removeAt_0 rfl rfl ?_
  refine V.getA (n := 4) d_Gm_removeAt_1 f_Gm_29 (by assumption) rfl rfl ?_
  refine V.iload_n (n := 5) d_Gm_removeAt_4 rfl rfl ?_
  refine V.cVi (n := 8) d_Gm_removeAt_5 k_Gm_50 (c_Rw_get (by assumption) (by omega) (by omega)) rfl rfl (by decide) rfl ?_
  refine V.iconst (n := 9) d_Gm_removeAt_8 rfl ?_
  refine V.isub (n := 10) d_Gm_removeAt_9 rfl ?_
  refine V.istore_n (n := 11) d_Gm_removeAt_10 (by decide) rfl ?_
  refine V.iload_n (n := 12) d_Gm_removeAt_11 rfl rfl ?_
  refine V.istore (n := 14) d_Gm_removeAt_12 (by decide) rfl ?_
  have loop : ∀ (k : Nat) (i : Int) (μ' : MU), i + k = μ (g + 10) p - 1 → r ≤ i → (∀ b, ¬ b = g + 12 → μ' b = μ b) → (∀ j : Int, μ' (g + 12) j = if p * 20 + r ≤ j ∧ j < p * 20 + i then μ (g + 12) (j + 1) else μ (g + 12) j) → V E l m_Gm_removeAt none 2 NT ST Post 14 [(4, rI i), (3, rI (μ (g + 10) p - 1)), (2, rI r), (1, rI p), (0, rA E g)] [] G μ' := by
    intro k
    induction k with
    | zero =>
      intro i μ' hk hi m1 m2
      have hc : μ' (g + 10) p = μ (g + 10) p := by rw [m1 _ (by omega)]
      refine V.iload (n := 16) d_Gm_removeAt_14 rfl rfl ?_
      refine V.iload_n (n := 17) d_Gm_removeAt_16 rfl rfl ?_
      refine V.icmp_geT (n2 := 49) d_Gm_removeAt_17 (by omega) (by omega) (by omega) (by decide) ?_
      refine V.aload_n (n := 50) d_Gm_removeAt_49 rfl rfl ?_
      refine V.getA (n := 53) d_Gm_removeAt_50 f_Gm_29 (by assumption) rfl rfl ?_
      refine V.iload_n (n := 54) d_Gm_removeAt_53 rfl rfl ?_
      refine V.iload_n (n := 55) d_Gm_removeAt_54 rfl rfl ?_
      refine V.cVv (n := 58) d_Gm_removeAt_55 k_Gm_58 (c_Rw_set (by assumption) (by omega) (by omega)) rfl rfl (by decide) rfl ?_
      refine V.aload_n (n := 59) d_Gm_removeAt_58 rfl rfl ?_
      refine V.dup (n := 60) d_Gm_removeAt_59 rfl rfl ?_
      refine V.getI (n := 63) d_Gm_removeAt_60 f_Gm_46 (by assumption) rfl rfl ?_
      refine V.iconst (n := 64) d_Gm_removeAt_63 rfl ?_
      refine V.isub (n := 65) d_Gm_removeAt_64 rfl ?_
      refine V.putI (n := 68) d_Gm_removeAt_65 f_Gm_46 t_Gm_moves ⟨rfl, rfl⟩ (by assumption) rfl rfl ?_
      rw [wr_a (show ¬ g = g + 10 by omega), m1 g (by omega)]
      refine V.vret d_Gm_removeAt_68 rfl ?_
      refine hP _ _ ⟨rfl, rfl, fun b c1 c2 c3 => ?_, fun j => ?_, fun j => ?_, ?_⟩
      · rw [wr_a c1, wr_a c2, m1 b c3]
      · rw [wr_a (by omega), wr_eq, m1 _ (by omega)]
      · rw [wr_a (by omega), wr_a (by omega), m2 j, show p * 20 + i = p * 20 + μ (g + 10) p - 1 by omega]
      · rw [wr_eq, wr_a (by omega), m1 g (by omega)]
    | succ k ih =>
      intro i μ' hk hi m1 m2
      have hc : μ' (g + 10) p = μ (g + 10) p := by rw [m1 _ (by omega)]
      refine V.iload (n := 16) d_Gm_removeAt_14 rfl rfl ?_
      refine V.iload_n (n := 17) d_Gm_removeAt_16 rfl rfl ?_
      refine V.icmp_geF (n := 20) d_Gm_removeAt_17 (by omega) (by omega) (by omega) rfl ⟨49, by decide⟩ ?_
      refine V.aload_n (n := 21) d_Gm_removeAt_20 rfl rfl ?_
      refine V.getA (n := 24) d_Gm_removeAt_21 f_Gm_32 (by assumption) rfl rfl ?_
      refine V.iload_n (n := 25) d_Gm_removeAt_24 rfl rfl ?_
      refine V.bipush (n := 27) d_Gm_removeAt_25 (by decide) rfl ?_
      refine V.imul (n := 28) d_Gm_removeAt_27 rfl ?_
      refine V.iload (n := 30) d_Gm_removeAt_28 rfl rfl ?_
      refine V.iadd (n := 31) d_Gm_removeAt_30 rfl ?_
      refine V.aload_n (n := 32) d_Gm_removeAt_31 rfl rfl ?_
      refine V.iload_n (n := 33) d_Gm_removeAt_32 rfl rfl ?_
      refine V.iload (n := 35) d_Gm_removeAt_33 rfl rfl ?_
      refine V.iconst (n := 36) d_Gm_removeAt_35 rfl ?_
      refine V.iadd (n := 37) d_Gm_removeAt_36 rfl ?_
      refine V.cVi (n := 40) d_Gm_removeAt_37 k_Gm_54 (c_Gm_targetOf (by assumption) (by omega) (by omega) (by omega) (by omega) (by omega)) rfl rfl (by decide) rfl ?_
      refine V.cVv (n := 43) d_Gm_removeAt_40 k_Gm_58 (c_Rw_set (by assumption) (by omega) (by omega)) rfl rfl (by decide) rfl ?_
      refine V.iinc (n := 46) d_Gm_removeAt_43 rfl (by decide) rfl ?_
      refine V.goto (n := 14) d_Gm_removeAt_46 (by decide) ?_
      refine V.loc (lo' := [(4, rI (i + 1)), (3, rI (μ (g + 10) p - 1)), (2, rI r), (1, rI p), (0, rA E g)]) ⟨rfl, rfl, rfl, rfl, rfl, trivial⟩ ?_
      refine ih (i + 1) _ (by omega) (by omega) (fun b hb => by rw [wr_a hb, m1 b hb]) (fun j => ?_)
      rw [wr_v]
      by_cases hj : j = p * 20 + i
      · rw [if_pos hj, if_pos (by omega), m2, if_neg (by omega), hj, show p * 20 + (i + 1) = p * 20 + i + 1 by omega]
      · rw [if_neg hj, m2]
        by_cases hb : p * 20 + r ≤ j ∧ j < p * 20 + i
        · rw [if_pos hb, if_pos (by omega)]
        · rw [if_neg hb, if_neg (by omega)]
  refine V.loc (lo' := [(4, rI r), (3, rI (μ (g + 10) p - 1)), (2, rI r), (1, rI p), (0, rA E g)]) ⟨rfl, rfl, rfl, rfl, rfl, trivial⟩ ?_
  exact loop (μ (g + 10) p - 1 - r).toNat r μ (by omega) (by omega) (fun _ _ => rfl) (fun j => by rw [if_neg (by omega)])
end CGM
end
section
/-! THE CLASS: trees, what is read -/
/-- a tree at t over the game at g -/
def isTree (G : GG) (t g : Nat) : Prop :=
  obj G t (.inl (8, [some (some g), some (some (t + 1)), some (some (t + 3)), some (some (t + 5)), some (some (t + 7)), some (some (t + 9)), some (some (t + 11)), some (some (t + 13)), some (some (t + 15)), none])) ∧ isRow G (t + 1) (t + 2) 200 ∧ isRow G (t + 3) (t + 4) 200 ∧ isRow G (t + 5) (t + 6) 200 ∧ isRow G (t + 7) (t + 8) 200 ∧ isRow G (t + 9) (t + 10) 200 ∧ isRow G (t + 11) (t + 12) 200 ∧ isRow G (t + 13) (t + 14) 200 ∧ isRow G (t + 15) (t + 16) 200
/-- the first of k places from lo with the least of a column -/
def am (c : Int → Int) (lo : Int) : Nat → Int
  | 0 => lo
  | k + 1 => if c (lo + k) < c (am c lo k) then lo + k else am c lo k
theorem am_0 (c : Int → Int) (lo : Int) : am c lo 0 = lo := rfl
theorem am_1 (c : Int → Int) (lo : Int) : am c lo 1 = lo := by
  unfold am am
  simp
theorem am_in (c : Int → Int) (lo : Int) : ∀ k : Nat, lo ≤ am c lo k ∧ (am c lo k < lo + k ∨ am c lo k = lo)
  | 0 => ⟨Int.le_refl _, Or.inr rfl⟩
  | k + 1 => by
    have h := am_in c lo k
    unfold am
    split <;> omega
/-- the least of a column from lo on, and their sum, neither above 9999 -/
def mn (c : Int → Int) (lo : Int) : Nat → Int
  | 0 => 9999
  | k + 1 => min (mn c lo k) (c (lo + k))
def sm (c : Int → Int) (lo : Int) : Nat → Int
  | 0 => 0
  | k + 1 => min 9999 (sm c lo k + c (lo + k))
def oc (sz a b : Int) : Int := if sz = 0 then 0 else if a = 0 then 1 else if b = 0 then 2 else 0
section CTR
variable {E : EV} {l : Launch} {G : GG} {μ : MU} {g t : Nat} {n p a b : Int}
theorem c_Tr_isEmpty (hT : isTree G t g) (h0 : inR (μ t 9)) : KV E l 0 m_Tr_isEmpty t [] G μ 0 0 (dq (some (rI (bi (μ t 9 = 0)))) G μ) := by
  obtain ⟨t0, t1, t2, t3, t4, t5, t6, t7, t8⟩ := hT
  refine ⟨KC.ofP q_Tr_isEmpty.1 rfl (Nat.le_of_ble_eq_true rfl) rfl (fun Post NT ST hP => ?_), ⟨_, _, _, t0, rfl, rfl⟩, q_Tr_isEmpty, by decide⟩
  refine V.aload_n (n := 1) d_Tr_isEmpty_0 rfl rfl ?_
  refine V.getI (n := 4) d_Tr_isEmpty_1 f_Tr_49 (by assumption) rfl rfl ?_
  refine V.if_ne (n2 := 11) (n := 7) d_Tr_isEmpty_4 (by omega) (by decide) rfl (fun h => ?_) (fun h => ?_)
  · rw [bi_f h] at hP
    refine V.iconst (n := 12) d_Tr_isEmpty_11 rfl ?_
    refine V.iret d_Tr_isEmpty_12 ⟨_, rfl, rfl⟩ ?_
    exact hP _ _ ⟨rfl, rfl, rfl⟩
  · rw [bi_t h] at hP
    refine V.iconst (n := 8) d_Tr_isEmpty_7 rfl ?_
    refine V.goto (n := 12) d_Tr_isEmpty_8 (by decide) ?_
    refine V.iret d_Tr_isEmpty_12 ⟨_, rfl, rfl⟩ ?_
    exact hP _ _ ⟨rfl, rfl, rfl⟩
theorem c_Tr_has (hT : isTree G t g) (h0 : inR n) (h1 : inR (μ t 9)) : KV E l 0 m_Tr_has t [rI n] G μ 0 0 (dq (some (rI (bi (0 ≤ n ∧ n < μ t 9)))) G μ) := by
  obtain ⟨t0, t1, t2, t3, t4, t5, t6, t7, t8⟩ := hT
  refine ⟨KC.ofP q_Tr_has.1 rfl (Nat.le_of_ble_eq_true rfl) rfl (fun Post NT ST hP => ?_), ⟨_, _, _, t0, rfl, rfl⟩, q_Tr_has, by decide⟩
  refine V.iload_n (n := 1) d_Tr_has_0 rfl rfl ?_
  refine V.if_lt (n2 := 16) (n := 4) d_Tr_has_1 (by omega) (by decide) rfl (fun h => ?_) (fun h => ?_)
  · rw [bi_f (by omega)] at hP
    refine V.iconst (n := 17) d_Tr_has_16 rfl ?_
    refine V.iret d_Tr_has_17 ⟨_, rfl, rfl⟩ ?_
    exact hP _ _ ⟨rfl, rfl, rfl⟩
  · refine V.iload_n (n := 5) d_Tr_has_4 rfl rfl ?_
    refine V.aload_n (n := 6) d_Tr_has_5 rfl rfl ?_
    refine V.getI (n := 9) d_Tr_has_6 f_Tr_49 (by assumption) rfl rfl ?_
    refine V.icmp_ge (n2 := 16) (n := 12) d_Tr_has_9 (by omega) (by omega) (by decide) rfl (fun h2 => ?_) (fun h2 => ?_)
    · rw [bi_f (by omega)] at hP
      refine V.iconst (n := 17) d_Tr_has_16 rfl ?_
      refine V.iret d_Tr_has_17 ⟨_, rfl, rfl⟩ ?_
      exact hP _ _ ⟨rfl, rfl, rfl⟩
    · rw [bi_t (by omega)] at hP
      refine V.iconst (n := 13) d_Tr_has_12 rfl ?_
      refine V.goto (n := 17) d_Tr_has_13 (by decide) ?_
      refine V.iret d_Tr_has_17 ⟨_, rfl, rfl⟩ ?_
      exact hP _ _ ⟨rfl, rfl, rfl⟩
theorem c_Tr_isLeaf (hT : isTree G t g) (h0 : 0 ≤ n) (h1 : n < 200) (h2 : inR (μ (t + 12) n)) : KV E l 1 m_Tr_isLeaf t [rI n] G μ 0 0 (dq (some (rI (bi (μ (t + 12) n = 0)))) G μ) := by
  obtain ⟨t0, t1, t2, t3, t4, t5, t6, t7, t8⟩ := hT
  refine ⟨KC.ofP q_Tr_isLeaf.1 rfl (Nat.le_of_ble_eq_true rfl) rfl (fun Post NT ST hP => ?_), ⟨_, _, _, t0, rfl, rfl⟩, q_Tr_isLeaf, by decide⟩
  refine V.aload_n (n := 1) d_Tr_isLeaf_0 rfl rfl ?_
  refine V.getA (n := 4) d_Tr_isLeaf_1 f_Tr_32 (by assumption) rfl rfl ?_
  refine V.iload_n (n := 5) d_Tr_isLeaf_4 rfl rfl ?_
  refine V.cVi (n := 8) d_Tr_isLeaf_5 k_Tr_53 (c_Rw_get (by assumption) (by omega) (by omega)) rfl rfl (by decide) rfl ?_
  refine V.if_ne (n2 := 15) (n := 11) d_Tr_isLeaf_8 (by omega) (by decide) rfl (fun h => ?_) (fun h => ?_)
  · rw [bi_f h] at hP
    refine V.iconst (n := 16) d_Tr_isLeaf_15 rfl ?_
    refine V.iret d_Tr_isLeaf_16 ⟨_, rfl, rfl⟩ ?_
    exact hP _ _ ⟨rfl, rfl, rfl⟩
  · rw [bi_t h] at hP
    refine V.iconst (n := 12) d_Tr_isLeaf_11 rfl ?_
    refine V.goto (n := 16) d_Tr_isLeaf_12 (by decide) ?_
    refine V.iret d_Tr_isLeaf_16 ⟨_, rfl, rfl⟩ ?_
    exact hP _ _ ⟨rfl, rfl, rfl⟩
theorem c_Tr_endOfChildren (hT : isTree G t g) (h0 : 0 ≤ n) (h1 : n < 200) : KV E l 1 m_Tr_endOfChildren t [rI n] G μ 0 0 (dq (some (rI (μ (t + 14) n + μ (t + 12) n))) G μ) := by
  obtain ⟨t0, t1, t2, t3, t4, t5, t6, t7, t8⟩ := hT
  refine ⟨KC.ofP q_Tr_endOfChildren.1 rfl (Nat.le_of_ble_eq_true rfl) rfl (fun Post NT ST hP => ?_), ⟨_, _, _, t0, rfl, rfl⟩, q_Tr_endOfChildren, by decide⟩
  refine V.aload_n (n := 1) d_Tr_endOfChildren_0 rfl rfl ?_
  refine V.getA (n := 4) d_Tr_endOfChildren_1 f_Tr_35 (by assumption) rfl rfl ?_
  refine V.iload_n (n := 5) d_Tr_endOfChildren_4 rfl rfl ?_
  refine V.cVi (n := 8) d_Tr_endOfChildren_5 k_Tr_53 (c_Rw_get (by assumption) (by omega) (by omega)) rfl rfl (by decide) rfl ?_
  refine V.aload_n (n := 9) d_Tr_endOfChildren_8 rfl rfl ?_
  refine V.getA (n := 12) d_Tr_endOfChildren_9 f_Tr_32 (by assumption) rfl rfl ?_
  refine V.iload_n (n := 13) d_Tr_endOfChildren_12 rfl rfl ?_
  refine V.cVi (n := 16) d_Tr_endOfChildren_13 k_Tr_53 (c_Rw_get (by assumption) (by omega) (by omega)) rfl rfl (by decide) rfl ?_
  refine V.iadd (n := 17) d_Tr_endOfChildren_16 rfl ?_
  refine V.iret d_Tr_endOfChildren_17 ⟨_, rfl, rfl⟩ ?_
  exact hP _ _ ⟨rfl, rfl, rfl⟩
theorem c_Tr_turnAt (hT : isTree G t g) (hG : isGame G g) (h0 : 0 ≤ n) (h1 : n < 200) (h2 : 0 ≤ μ (t + 2) n) (h3 : μ (t + 2) n < 20) : KV E l 1 m_Tr_turnAt t [rI n] G μ 0 0 (dq (some (rI (μ (g + 2) (μ (t + 2) n)))) G μ) := by
  obtain ⟨t0, t1, t2, t3, t4, t5, t6, t7, t8⟩ := hT
  obtain ⟨a0, a1, a2, a3, a4, a5, a6⟩ := hG
  refine ⟨KC.ofP q_Tr_turnAt.1 rfl (Nat.le_of_ble_eq_true rfl) rfl (fun Post NT ST hP => ?_), ⟨_, _, _, t0, rfl, rfl⟩, q_Tr_turnAt, by decide⟩
  refine V.aload_n (n := 1) d_Tr_turnAt_0 rfl rfl ?_
  refine V.getA (n := 4) d_Tr_turnAt_1 f_Tr_41 (by assumption) rfl rfl ?_
  refine V.getA (n := 7) d_Tr_turnAt_4 f_Tr_57 (by assumption) rfl rfl ?_
  refine V.aload_n (n := 8) d_Tr_turnAt_7 rfl rfl ?_
  refine V.getA (n := 11) d_Tr_turnAt_8 f_Tr_14 (by assumption) rfl rfl ?_
  refine V.iload_n (n := 12) d_Tr_turnAt_11 rfl rfl ?_
  refine V.cVi (n := 15) d_Tr_turnAt_12 k_Tr_53 (c_Rw_get (by assumption) (by omega) (by omega)) rfl rfl (by decide) rfl ?_
  refine V.cVi (n := 18) d_Tr_turnAt_15 k_Tr_53 (c_Rw_get (by assumption) (by omega) (by omega)) rfl rfl (by decide) rfl ?_
  refine V.iret d_Tr_turnAt_18 ⟨_, rfl, rfl⟩ ?_
  exact hP _ _ ⟨rfl, rfl, rfl⟩
theorem c_Tr_outcome (hT : isTree G t g) (h0 : inR (μ t 9)) (h1 : inR (μ (t + 8) 0)) (h2 : inR (μ (t + 10) 0)) : KV E l 1 m_Tr_outcome t [] G μ 0 0 (dq (some (rI (oc (μ t 9) (μ (t + 8) 0) (μ (t + 10) 0)))) G μ) := by
  have hT0 := hT
  obtain ⟨t0, t1, t2, t3, t4, t5, t6, t7, t8⟩ := hT
  unfold oc
  refine ⟨KC.ofP q_Tr_outcome.1 rfl (Nat.le_of_ble_eq_true rfl) rfl (fun Post NT ST hP => ?_), ⟨_, _, _, t0, rfl, rfl⟩, q_Tr_outcome, by decide⟩
  refine V.aload_n (n := 1) d_Tr_outcome_0 rfl rfl ?_
  refine V.cVi (n := 4) d_Tr_outcome_1 k_Tr_62 (c_Tr_isEmpty (by assumption) (by omega)) rfl rfl (by decide) rfl ?_
  rcases bi_or (μ t 9 = 0) with ⟨hb, e⟩ | ⟨hb, e⟩ <;> rw [e]
  · rw [if_pos hb] at hP
    refine V.if_eqF (n := 7) d_Tr_outcome_4 (by omega) (by omega) rfl ⟨9, by decide⟩ ?_
    refine V.iconst (n := 8) d_Tr_outcome_7 rfl ?_
    refine V.iret d_Tr_outcome_8 ⟨_, rfl, rfl⟩ ?_
    exact hP _ _ ⟨rfl, rfl, rfl⟩
  · rw [if_neg hb] at hP
    refine V.if_eqT (n2 := 9) d_Tr_outcome_4 (by omega) (by omega) (by decide) ?_
    refine V.aload_n (n := 10) d_Tr_outcome_9 rfl rfl ?_
    refine V.getA (n := 13) d_Tr_outcome_10 f_Tr_26 (by assumption) rfl rfl ?_
    refine V.iconst (n := 14) d_Tr_outcome_13 rfl ?_
    refine V.cVi (n := 17) d_Tr_outcome_14 k_Tr_53 (c_Rw_get (by assumption) (by omega) (by omega)) rfl rfl (by decide) rfl ?_
    refine V.if_ne (n2 := 22) (n := 20) d_Tr_outcome_17 (by omega) (by decide) rfl (fun h3 => ?_) (fun h3 => ?_)
    · rw [if_neg h3] at hP
      refine V.aload_n (n := 23) d_Tr_outcome_22 rfl rfl ?_
      refine V.getA (n := 26) d_Tr_outcome_23 f_Tr_29 (by assumption) rfl rfl ?_
      refine V.iconst (n := 27) d_Tr_outcome_26 rfl ?_
      refine V.cVi (n := 30) d_Tr_outcome_27 k_Tr_53 (c_Rw_get (by assumption) (by omega) (by omega)) rfl rfl (by decide) rfl ?_
      refine V.if_ne (n2 := 37) (n := 33) d_Tr_outcome_30 (by omega) (by decide) rfl (fun h4 => ?_) (fun h4 => ?_)
      · rw [if_neg h4] at hP
        refine V.iconst (n := 38) d_Tr_outcome_37 rfl ?_
        refine V.iret d_Tr_outcome_38 ⟨_, rfl, rfl⟩ ?_
        exact hP _ _ ⟨rfl, rfl, rfl⟩
      · rw [if_pos h4] at hP
        refine V.iconst (n := 34) d_Tr_outcome_33 rfl ?_
        refine V.goto (n := 38) d_Tr_outcome_34 (by decide) ?_
        refine V.iret d_Tr_outcome_38 ⟨_, rfl, rfl⟩ ?_
        exact hP _ _ ⟨rfl, rfl, rfl⟩
    · rw [if_pos h3] at hP
      refine V.iconst (n := 21) d_Tr_outcome_20 rfl ?_
      refine V.iret d_Tr_outcome_21 ⟨_, rfl, rfl⟩ ?_
      exact hP _ _ ⟨rfl, rfl, rfl⟩
theorem c_Tr_clear (hT : isTree G t g) : KV E l 0 m_Tr_clear t [] G μ 0 0 (dq none G (wr μ t 9 0)) := by
  obtain ⟨t0, t1, t2, t3, t4, t5, t6, t7, t8⟩ := hT
  refine ⟨KC.ofP q_Tr_clear.1 rfl (Nat.le_of_ble_eq_true rfl) rfl (fun Post NT ST hP => ?_), ⟨_, _, _, t0, rfl, rfl⟩, q_Tr_clear, by decide⟩
  refine V.aload_n (n := 1) d_Tr_clear_0 rfl rfl ?_
  refine V.iconst (n := 2) d_Tr_clear_1 rfl ?_
  refine V.putI (n := 5) d_Tr_clear_2 f_Tr_49 t_Tr_size ⟨rfl, rfl⟩ (by assumption) rfl rfl ?_
  refine V.vret d_Tr_clear_5 rfl ?_
  exact hP _ _ ⟨rfl, rfl, rfl⟩
theorem c_Tr_setCosts (hT : isTree G t g) (h0 : 0 ≤ n) (h1 : n < 200) : KV E l 1 m_Tr_setCosts t [rI n, rI a, rI b] G μ 0 0 (dq none G (wr (wr μ (t + 8) n a) (t + 10) n b)) := by
  obtain ⟨t0, t1, t2, t3, t4, t5, t6, t7, t8⟩ := hT
  refine ⟨KC.ofP q_Tr_setCosts.1 rfl (Nat.le_of_ble_eq_true rfl) rfl (fun Post NT ST hP => ?_), ⟨_, _, _, t0, rfl, rfl⟩, q_Tr_setCosts, by decide⟩
  refine V.aload_n (n := 1) d_Tr_setCosts_0 rfl rfl ?_
  refine V.getA (n := 4) d_Tr_setCosts_1 f_Tr_26 (by assumption) rfl rfl ?_
  refine V.iload_n (n := 5) d_Tr_setCosts_4 rfl rfl ?_
  refine V.iload_n (n := 6) d_Tr_setCosts_5 rfl rfl ?_
  refine V.cVv (n := 9) d_Tr_setCosts_6 k_Tr_73 (c_Rw_set (by assumption) (by omega) (by omega)) rfl rfl (by decide) rfl ?_
  refine V.aload_n (n := 10) d_Tr_setCosts_9 rfl rfl ?_
  refine V.getA (n := 13) d_Tr_setCosts_10 f_Tr_29 (by assumption) rfl rfl ?_
  refine V.iload_n (n := 14) d_Tr_setCosts_13 rfl rfl ?_
  refine V.iload_n (n := 15) d_Tr_setCosts_14 rfl rfl ?_
  refine V.cVv (n := 18) d_Tr_setCosts_15 k_Tr_73 (c_Rw_set (by assumption) (by omega) (by omega)) rfl rfl (by decide) rfl ?_
  refine V.vret d_Tr_setCosts_18 rfl ?_
  exact hP _ _ ⟨rfl, rfl, rfl⟩
/-- is the position p that of a node on the way up from n -/
def ow (pos par : Int → Int) (p : Int) : Nat → Int → Bool
  | 0, _ => false
  | k + 1, n => decide (0 ≤ n) && (decide (pos n = p) || ow pos par p k (par n))
theorem ow_s (pos par : Int → Int) (p : Int) (k : Nat) (n : Int) : ow pos par p (k + 1) n = (decide (0 ≤ n) && (decide (pos n = p) || ow pos par p k (par n))) := rfl
theorem ow_neg {pos par : Int → Int} {p : Int} {n : Int} (h : n < 0) : ∀ k, ow pos par p k n = false
  | 0 => rfl
  | k + 1 => by
    unfold ow
    rw [decide_eq_false (by omega)]
    rfl
/-- parents are earlier nodes, -5 of the root -/
def okP (pos par : Int → Int) (sz : Int) : Prop := ∀ n, 0 ≤ n → n < sz → 0 ≤ pos n ∧ pos n < 20 ∧ (n = 0 → par n = -5) ∧ (0 < n → 0 ≤ par n ∧ par n < n)
theorem c_Tr_isOnWayTo (hT : isTree G t g) (h0 : 0 ≤ μ t 9) (h1 : μ t 9 ≤ 200) (hn : n = -5 ∨ (0 ≤ n ∧ n < μ t 9)) (hp : inR p) (hok : ∀ m, 0 ≤ m → m ≤ n → 0 ≤ μ (t + 2) m ∧ μ (t + 2) m < 20 ∧ (m = 0 → μ (t + 4) m = -5) ∧ (0 < m → 0 ≤ μ (t + 4) m ∧ μ (t + 4) m < m)) : KV E l 1 m_Tr_isOnWayTo t [rI n, rI p] G μ 0 0 (dq (some (rI (bi (ow (μ (t + 2)) (μ (t + 4)) p 200 n = true)))) G μ) := by
  have hT0 := hT
  obtain ⟨t0, t1, t2, t3, t4, t5, t6, t7, t8⟩ := hT
  refine ⟨KC.ofP q_Tr_isOnWayTo.1 rfl (Nat.le_of_ble_eq_true rfl) rfl (fun Post NT ST hP => ?_), ⟨_, _, _, t0, rfl, rfl⟩, q_Tr_isOnWayTo, by decide⟩
  refine V.iload_n (n := 1) d_Tr_isOnWayTo_0 rfl rfl ?_
  refine V.istore_n (n := 2) d_Tr_isOnWayTo_1 (by decide) rfl ?_
  refine V.iconst (n := 3) d_Tr_isOnWayTo_2 rfl ?_
  refine V.istore (n := 5) d_Tr_isOnWayTo_3 (by decide) rfl ?_
  have loop : ∀ (k : Nat) (i m : Int), i + k = 200 → 0 ≤ i → m ≤ n → (m = -5 ∨ (0 ≤ m ∧ m < k)) → ow (μ (t + 2)) (μ (t + 4)) p 200 n = ow (μ (t + 2)) (μ (t + 4)) p k m → V E l m_Tr_isOnWayTo none 1 NT ST Post 5 [(4, rI i), (3, rI m), (2, rI p), (1, rI n), (0, rA E t)] [] G μ := by
    intro k
    induction k with
    | zero =>
      intro i m hk hi hmn hm he
      rw [he, bi_f (by simp [ow])] at hP
      refine V.iload (n := 7) d_Tr_isOnWayTo_5 rfl rfl ?_
      refine V.sipush (n := 10) d_Tr_isOnWayTo_7 (by decide) rfl ?_
      refine V.icmp_geT (n2 := 50) d_Tr_isOnWayTo_10 (by omega) (by omega) (by omega) (by decide) ?_
      refine V.iconst (n := 51) d_Tr_isOnWayTo_50 rfl ?_
      refine V.iret d_Tr_isOnWayTo_51 ⟨_, rfl, rfl⟩ ?_
      exact hP _ _ ⟨rfl, rfl, rfl⟩
    | succ k ih =>
      intro i m hk hi hmn hm he
      refine V.iload (n := 7) d_Tr_isOnWayTo_5 rfl rfl ?_
      refine V.sipush (n := 10) d_Tr_isOnWayTo_7 (by decide) rfl ?_
      refine V.icmp_geF (n := 13) d_Tr_isOnWayTo_10 (by omega) (by omega) (by omega) rfl ⟨50, by decide⟩ ?_
      refine V.aload_n (n := 14) d_Tr_isOnWayTo_13 rfl rfl ?_
      refine V.iload_n (n := 15) d_Tr_isOnWayTo_14 rfl rfl ?_
      refine V.cVi (n := 18) d_Tr_isOnWayTo_15 k_Tr_76 (c_Tr_has (by assumption) (by omega) (by omega)) rfl rfl (by decide) rfl ?_
      rcases bi_or (0 ≤ m ∧ m < μ t 9) with ⟨hb, e⟩ | ⟨hb, e⟩ <;> rw [e]
      · have hm2 := hok m hb.1 hmn
        refine V.if_eqF (n := 21) d_Tr_isOnWayTo_18 (by omega) (by omega) rfl ⟨50, by decide⟩ ?_
        refine V.aload_n (n := 22) d_Tr_isOnWayTo_21 rfl rfl ?_
        refine V.getA (n := 25) d_Tr_isOnWayTo_22 f_Tr_14 (by assumption) rfl rfl ?_
        refine V.iload_n (n := 26) d_Tr_isOnWayTo_25 rfl rfl ?_
        refine V.cVi (n := 29) d_Tr_isOnWayTo_26 k_Tr_53 (c_Rw_get (by assumption) (by omega) (by omega)) rfl rfl (by decide) rfl ?_
        refine V.iload_n (n := 30) d_Tr_isOnWayTo_29 rfl rfl ?_
        refine V.icmp_ne (n2 := 35) (n := 33) d_Tr_isOnWayTo_30 (by omega) (by omega) (by decide) rfl (fun h4 => ?_) (fun h4 => ?_)
        · refine V.aload_n (n := 36) d_Tr_isOnWayTo_35 rfl rfl ?_
          refine V.getA (n := 39) d_Tr_isOnWayTo_36 f_Tr_20 (by assumption) rfl rfl ?_
          refine V.iload_n (n := 40) d_Tr_isOnWayTo_39 rfl rfl ?_
          refine V.cVi (n := 43) d_Tr_isOnWayTo_40 k_Tr_53 (c_Rw_get (by assumption) (by omega) (by omega)) rfl rfl (by decide) rfl ?_
          refine V.istore_n (n := 44) d_Tr_isOnWayTo_43 (by decide) rfl ?_
          refine V.iinc (n := 47) d_Tr_isOnWayTo_44 rfl (by decide) rfl ?_
          refine V.goto (n := 5) d_Tr_isOnWayTo_47 (by decide) ?_
          refine V.loc (lo' := [(4, rI (i + 1)), (3, rI (μ (t + 4) m)), (2, rI p), (1, rI n), (0, rA E t)]) ⟨rfl, rfl, rfl, rfl, rfl, trivial⟩ ?_
          refine ih (i + 1) _ (by omega) (by omega) (by omega) (by omega) ?_
          rw [he, ow_s, decide_eq_true hb.1, decide_eq_false h4]
          simp
        · rw [he, bi_t (by simp [ow, hb.1, h4])] at hP
          refine V.iconst (n := 34) d_Tr_isOnWayTo_33 rfl ?_
          refine V.iret d_Tr_isOnWayTo_34 ⟨_, rfl, rfl⟩ ?_
          exact hP _ _ ⟨rfl, rfl, rfl⟩
      · rw [he, ow_neg (by omega), bi_f (by simp)] at hP
        refine V.if_eqT (n2 := 50) d_Tr_isOnWayTo_18 (by omega) (by omega) (by decide) ?_
        refine V.iconst (n := 51) d_Tr_isOnWayTo_50 rfl ?_
        refine V.iret d_Tr_isOnWayTo_51 ⟨_, rfl, rfl⟩ ?_
        exact hP _ _ ⟨rfl, rfl, rfl⟩
  refine V.loc (lo' := [(4, rI 0), (3, rI n), (2, rI p), (1, rI n), (0, rA E t)]) ⟨rfl, rfl, rfl, rfl, rfl, trivial⟩ ?_
  exact loop 200 0 n (by omega) (by omega) (by omega) (by omega) rfl
theorem c_Tr_cheapestChild (hT : isTree G t g) (hG : isGame G g) (h0 : 0 ≤ n) (h1 : n < 200) (h2 : 0 ≤ μ (t + 2) n) (h3 : μ (t + 2) n < 20) (h4 : inR (μ (g + 2) (μ (t + 2) n))) (h5 : 0 ≤ μ (t + 12) n) (h6 : -5 ≤ μ (t + 14) n) (h7 : μ (t + 14) n + μ (t + 12) n ≤ 200) (h8 : 0 < μ (t + 12) n → 0 ≤ μ (t + 14) n) (hin : ∀ j : Int, 0 ≤ j → j < 200 → inR (μ (t + 8) j) ∧ inR (μ (t + 10) j)) : KV E l 2 m_Tr_cheapestChild t [rI n] G μ 0 0 (dq (some (rI (am (if μ (g + 2) (μ (t + 2) n) = 0 then μ (t + 8) else μ (t + 10)) (μ (t + 14) n) (μ (t + 12) n).toNat))) G μ) := by
  have hT0 := hT
  have hG0 := hG
  obtain ⟨t0, t1, t2, t3, t4, t5, t6, t7, t8⟩ := hT
  refine ⟨KC.ofP q_Tr_cheapestChild.1 rfl (Nat.le_of_ble_eq_true rfl) rfl (fun Post NT ST hP => ?_), ⟨_, _, _, t0, rfl, rfl⟩, q_Tr_cheapestChild, by decide⟩
  refine V.aload_n (n := 1) d_Tr_cheapestChild_0 rfl rfl ?_
  refine V.iload_n (n := 2) d_Tr_cheapestChild_1 rfl rfl ?_
  refine V.cVi (n := 5) d_Tr_cheapestChild_2 k_Tr_103 (c_Tr_turnAt (by assumption) (by assumption) (by omega) (by omega) (by omega) (by omega)) rfl rfl (by decide) rfl ?_
  have rest : ∀ (row : Nat) (c : Nat), isRow G row c 200 → (∀ j : Int, 0 ≤ j → j < 200 → inR (μ c j)) → (if μ (g + 2) (μ (t + 2) n) = 0 then μ (t + 8) else μ (t + 10)) = μ c → V E l m_Tr_cheapestChild none 2 NT ST Post 19 [(1, rI n), (0, rA E t)] [rA E row] G μ := by
    intro row c hrow hcin hce
    rw [hce] at hP
    refine V.astore_n (n := 20) d_Tr_cheapestChild_19 (by decide) rfl ?_
    refine V.aload_n (n := 21) d_Tr_cheapestChild_20 rfl rfl ?_
    refine V.iload_n (n := 22) d_Tr_cheapestChild_21 rfl rfl ?_
    refine V.cVi (n := 25) d_Tr_cheapestChild_22 k_Tr_106 (c_Tr_endOfChildren (by assumption) (by omega) (by omega)) rfl rfl (by decide) rfl ?_
    refine V.istore_n (n := 26) d_Tr_cheapestChild_25 (by decide) rfl ?_
    refine V.aload_n (n := 27) d_Tr_cheapestChild_26 rfl rfl ?_
    refine V.getA (n := 30) d_Tr_cheapestChild_27 f_Tr_35 (by assumption) rfl rfl ?_
    refine V.iload_n (n := 31) d_Tr_cheapestChild_30 rfl rfl ?_
    refine V.cVi (n := 34) d_Tr_cheapestChild_31 k_Tr_53 (c_Rw_get (by assumption) (by omega) (by omega)) rfl rfl (by decide) rfl ?_
    refine V.istore (n := 36) d_Tr_cheapestChild_34 (by decide) rfl ?_
    refine V.iload (n := 38) d_Tr_cheapestChild_36 rfl rfl ?_
    refine V.iconst (n := 39) d_Tr_cheapestChild_38 rfl ?_
    refine V.iadd (n := 40) d_Tr_cheapestChild_39 rfl ?_
    refine V.istore (n := 42) d_Tr_cheapestChild_40 (by decide) rfl ?_
    have loop : ∀ (k : Nat) (j : Nat), 1 ≤ j → (j : Int) + k = max (μ (t + 12) n) 1 → V E l m_Tr_cheapestChild none 2 NT ST Post 42 [(5, rI (μ (t + 14) n + j)), (4, rI (am (μ c) (μ (t + 14) n) j)), (3, rI (μ (t + 14) n + μ (t + 12) n)), (2, rA E row), (1, rI n), (0, rA E t)] [] G μ := by
      intro k
      induction k with
      | zero =>
        intro j hj1 hj
        have ha := am_in (μ c) (μ (t + 14) n) j
        have hv : am (μ c) (μ (t + 14) n) j = am (μ c) (μ (t + 14) n) (μ (t + 12) n).toNat := by
          by_cases hz : 0 < μ (t + 12) n
          · rw [show j = (μ (t + 12) n).toNat by omega]
          · rw [show j = 1 by omega, show (μ (t + 12) n).toNat = 0 by omega, am_1, am_0]
        rw [← hv] at hP
        refine V.iload (n := 44) d_Tr_cheapestChild_42 rfl rfl ?_
        refine V.iload_n (n := 45) d_Tr_cheapestChild_44 rfl rfl ?_
        refine V.icmp_geT (n2 := 73) d_Tr_cheapestChild_45 (by omega) (by omega) (by omega) (by decide) ?_
        refine V.iload (n := 75) d_Tr_cheapestChild_73 rfl rfl ?_
        refine V.iret d_Tr_cheapestChild_75 ⟨_, rfl, rfl⟩ ?_
        exact hP _ _ ⟨rfl, rfl, rfl⟩
      | succ k ih =>
        intro j hj1 hj
        have ha := am_in (μ c) (μ (t + 14) n) j
        have hfc := h8 (by omega)
        have hc1 := hcin (μ (t + 14) n + j) (by omega) (by omega)
        have hc2 := hcin (am (μ c) (μ (t + 14) n) j) (by omega) (by omega)
        refine V.iload (n := 44) d_Tr_cheapestChild_42 rfl rfl ?_
        refine V.iload_n (n := 45) d_Tr_cheapestChild_44 rfl rfl ?_
        refine V.icmp_geF (n := 48) d_Tr_cheapestChild_45 (by omega) (by omega) (by omega) rfl ⟨73, by decide⟩ ?_
        refine V.aload_n (n := 49) d_Tr_cheapestChild_48 rfl rfl ?_
        refine V.iload (n := 51) d_Tr_cheapestChild_49 rfl rfl ?_
        refine V.cVi (n := 54) d_Tr_cheapestChild_51 k_Tr_53 (c_Rw_get (by assumption) (by omega) (by omega)) rfl rfl (by decide) rfl ?_
        refine V.aload_n (n := 55) d_Tr_cheapestChild_54 rfl rfl ?_
        refine V.iload (n := 57) d_Tr_cheapestChild_55 rfl rfl ?_
        refine V.cVi (n := 60) d_Tr_cheapestChild_57 k_Tr_53 (c_Rw_get (by assumption) (by omega) (by omega)) rfl rfl (by decide) rfl ?_
        refine V.icmp_ge (n2 := 67) (n := 63) d_Tr_cheapestChild_60 (by omega) (by omega) (by decide) rfl (fun h9 => ?_) (fun h9 => ?_)
        · refine V.iinc (n := 70) d_Tr_cheapestChild_67 rfl (by decide) rfl ?_
          refine V.goto (n := 42) d_Tr_cheapestChild_70 (by decide) ?_
          have hs : am (μ c) (μ (t + 14) n) (j + 1) = am (μ c) (μ (t + 14) n) j := by
            show (if μ c (μ (t + 14) n + j) < μ c (am (μ c) (μ (t + 14) n) j) then μ (t + 14) n + j else am (μ c) (μ (t + 14) n) j) = _
            rw [if_neg (by omega)]
          refine V.loc (lo' := [(5, rI (μ (t + 14) n + j + 1)), (4, rI (am (μ c) (μ (t + 14) n) j)), (3, rI (μ (t + 14) n + μ (t + 12) n)), (2, rA E row), (1, rI n), (0, rA E t)]) ⟨rfl, rfl, rfl, rfl, rfl, rfl, trivial⟩ ?_
          have hx := ih (j + 1) (by omega) (by omega)
          rw [hs, show μ (t + 14) n + ((j + 1 : Nat) : Int) = μ (t + 14) n + j + 1 by omega] at hx
          exact hx
        · refine V.iload (n := 65) d_Tr_cheapestChild_63 rfl rfl ?_
          refine V.istore (n := 67) d_Tr_cheapestChild_65 (by decide) rfl ?_
          refine V.iinc (n := 70) d_Tr_cheapestChild_67 rfl (by decide) rfl ?_
          refine V.goto (n := 42) d_Tr_cheapestChild_70 (by decide) ?_
          have hs : am (μ c) (μ (t + 14) n) (j + 1) = μ (t + 14) n + j := by
            show (if μ c (μ (t + 14) n + j) < μ c (am (μ c) (μ (t + 14) n) j) then μ (t + 14) n + j else am (μ c) (μ (t + 14) n) j) = _
            rw [if_pos (by omega)]
          refine V.loc (lo' := [(5, rI (μ (t + 14) n + j + 1)), (4, rI (μ (t + 14) n + j)), (3, rI (μ (t + 14) n + μ (t + 12) n)), (2, rA E row), (1, rI n), (0, rA E t)]) ⟨rfl, rfl, rfl, rfl, rfl, rfl, trivial⟩ ?_
          have hx := ih (j + 1) (by omega) (by omega)
          rw [hs, show μ (t + 14) n + ((j + 1 : Nat) : Int) = μ (t + 14) n + j + 1 by omega] at hx
          exact hx
    refine V.loc (lo' := [(5, rI (μ (t + 14) n + 1)), (4, rI (μ (t + 14) n)), (3, rI (μ (t + 14) n + μ (t + 12) n)), (2, rA E row), (1, rI n), (0, rA E t)]) ⟨rfl, rfl, rfl, rfl, rfl, rfl, trivial⟩ ?_
    have hx := loop ((max (μ (t + 12) n) 1).toNat - 1) 1 (by omega) (by omega)
    rw [am_1] at hx
    exact hx
  refine V.if_ne (n2 := 15) (n := 8) d_Tr_cheapestChild_5 (by omega) (by decide) rfl (fun h => ?_) (fun h => ?_)
  · refine V.aload_n (n := 16) d_Tr_cheapestChild_15 rfl rfl ?_
    refine V.getA (n := 19) d_Tr_cheapestChild_16 f_Tr_29 (by assumption) rfl rfl ?_
    refine V.loc (lo' := [(1, rI n), (0, rA E t)]) ⟨rfl, rfl, trivial⟩ ?_
    exact rest _ _ t5 (fun j q1 q2 => (hin j q1 q2).2) (if_neg h)
  · refine V.aload_n (n := 9) d_Tr_cheapestChild_8 rfl rfl ?_
    refine V.getA (n := 12) d_Tr_cheapestChild_9 f_Tr_26 (by assumption) rfl rfl ?_
    refine V.goto (n := 19) d_Tr_cheapestChild_12 (by decide) ?_
    refine V.loc (lo' := [(1, rI n), (0, rA E t)]) ⟨rfl, rfl, trivial⟩ ?_
    exact rest _ _ t4 (fun j q1 q2 => (hin j q1 q2).1) (if_pos h)
end CTR
end
section
/-! THE CLASS: trees, what is made -/
theorem ow_congr {pos par pos' par' : Int → Int} {p : Int} : ∀ (k : Nat) (n : Int), (∀ m, 0 ≤ m → m ≤ n → pos' m = pos m ∧ par' m = par m ∧ par m < m) → ow pos' par' p k n = ow pos par p k n
  | 0, _, _ => rfl
  | k + 1, n, h => by
    rw [ow_s, ow_s]
    by_cases hn : 0 ≤ n
    · have h1 := h n hn (Int.le_refl _)
      rw [h1.1, h1.2.1, ow_congr k (par n) (fun m m0 m1 => h m m0 (by omega))]
    · rw [decide_eq_false hn]
      rfl
def lcP (e w o : Prop) [Decidable e] [Decidable w] [Decidable o] (a : Int) : Int := if e then (if w then 0 else 9999) else if o then 9999 else a
def lcD (e w o : Prop) [Decidable e] [Decidable w] [Decidable o] (a : Int) : Int := if e then (if w then 9999 else 0) else if o then 0 else a
section CTW
variable {E : EV} {l : Launch} {G : GG} {μ : MU} {g t : Nat} {n p q a b : Int}
theorem c_Tr_setLeafCosts (hT : isTree G t g) (hG : isGame G g) (hgt : t + 16 < g ∨ g + 12 < t) (h0 : 0 ≤ μ t 9) (h1 : μ t 9 ≤ 200) (hn0 : 0 ≤ n) (hn1 : n < 200) (hp0 : 0 ≤ p) (hp1 : p < 20) (hq : q = -5 ∨ (0 ≤ q ∧ q < μ t 9)) (hok : ∀ m, 0 ≤ m → m ≤ q → 0 ≤ μ (t + 2) m ∧ μ (t + 2) m < 20 ∧ (m = 0 → μ (t + 4) m = -5) ∧ (0 < m → 0 ≤ μ (t + 4) m ∧ μ (t + 4) m < m)) (hm : inR (μ (g + 4) p)) (hc : inR (μ (g + 10) p)) : KV E l 2 m_Tr_setLeafCosts t [rI n, rI p, rI q] G μ 0 0 (dqv (fun μ' => ∀ e w o : Prop, ∀ [Decidable e] [Decidable w] [Decidable o], (e ↔ (¬ μ (g + 4) p = 0 ∨ μ (g + 10) p = 0)) → (w ↔ μ (g + 4) p = 1) → (o ↔ ow (μ (t + 2)) (μ (t + 4)) p 200 q = true) → μ' = wr (wr (if ¬ e ∧ o then wr μ (t + 16) n 1 else μ) (t + 8) n (lcP e w o (μ (g + 6) p))) (t + 10) n (lcD e w o (μ (g + 8) p))) G) := by
  have hT0 := hT
  have hG0 := hG
  obtain ⟨t0, t1, t2, t3, t4, t5, t6, t7, t8⟩ := hT
  obtain ⟨a0, a1, a2, a3, a4, a5, a6⟩ := hG
  refine ⟨KC.ofP q_Tr_setLeafCosts.1 rfl (Nat.le_of_ble_eq_true rfl) rfl (fun Post NT ST hP => ?_), ⟨_, _, _, t0, rfl, rfl⟩, q_Tr_setLeafCosts, by decide⟩
  refine V.aload_n (n := 1) d_Tr_setLeafCosts_0 rfl rfl ?_
  refine V.getA (n := 4) d_Tr_setLeafCosts_1 f_Tr_41 (by assumption) rfl rfl ?_
  refine V.iload_n (n := 5) d_Tr_setLeafCosts_4 rfl rfl ?_
  refine V.cVi (n := 8) d_Tr_setLeafCosts_5 k_Tr_84 (c_Gm_isEnd (by assumption) (by omega) (by omega) (by omega) (by omega)) rfl rfl (by decide) rfl ?_
  rcases bi_or (¬ μ (g + 4) p = 0 ∨ μ (g + 10) p = 0) with ⟨hb, e⟩ | ⟨hb, e⟩ <;> rw [e]
  · refine V.if_eqF (n := 11) d_Tr_setLeafCosts_8 (by omega) (by omega) rfl ⟨53, by decide⟩ ?_
    refine V.aload_n (n := 12) d_Tr_setLeafCosts_11 rfl rfl ?_
    refine V.getA (n := 15) d_Tr_setLeafCosts_12 f_Tr_41 (by assumption) rfl rfl ?_
    refine V.iload_n (n := 16) d_Tr_setLeafCosts_15 rfl rfl ?_
    refine V.cVi (n := 19) d_Tr_setLeafCosts_16 k_Tr_87 (c_Gm_isWonEnd (by assumption) (by omega) (by omega) (by omega)) rfl rfl (by decide) rfl ?_
    rcases bi_or (μ (g + 4) p = 1) with ⟨hw, e2⟩ | ⟨hw, e2⟩ <;> rw [e2]
    · refine V.istore (n := 21) d_Tr_setLeafCosts_19 (by decide) rfl ?_
      refine V.aload_n (n := 22) d_Tr_setLeafCosts_21 rfl rfl ?_
      refine V.iload_n (n := 23) d_Tr_setLeafCosts_22 rfl rfl ?_
      refine V.iload (n := 25) d_Tr_setLeafCosts_23 rfl rfl ?_
      refine V.if_eqF (n := 28) d_Tr_setLeafCosts_25 (by omega) (by omega) rfl ⟨32, by decide⟩ ?_
      refine V.iconst (n := 29) d_Tr_setLeafCosts_28 rfl ?_
      refine V.goto (n := 35) d_Tr_setLeafCosts_29 (by decide) ?_
      refine V.iload (n := 37) d_Tr_setLeafCosts_35 rfl rfl ?_
      refine V.if_eqF (n := 40) d_Tr_setLeafCosts_37 (by omega) (by omega) rfl ⟨46, by decide⟩ ?_
      refine V.sipush (n := 43) d_Tr_setLeafCosts_40 (by decide) rfl ?_
      refine V.goto (n := 47) d_Tr_setLeafCosts_43 (by decide) ?_
      refine V.cVv (n := 50) d_Tr_setLeafCosts_47 k_Tr_90 (c_Tr_setCosts (by assumption) (by omega) (by omega)) rfl rfl (by decide) rfl ?_
      refine V.goto (n := 110) d_Tr_setLeafCosts_50 (by decide) ?_
      refine V.vret d_Tr_setLeafCosts_110 rfl ?_
      refine hP _ _ ⟨rfl, rfl, fun e w o _ _ _ q1 q2 q3 => ?_⟩
      rw [if_neg (fun x => x.1 (q1.mpr hb))]
      unfold lcP lcD
      rw [if_pos (q1.mpr hb), if_pos (q1.mpr hb), if_pos (q2.mpr hw), if_pos (q2.mpr hw)]
    · refine V.istore (n := 21) d_Tr_setLeafCosts_19 (by decide) rfl ?_
      refine V.aload_n (n := 22) d_Tr_setLeafCosts_21 rfl rfl ?_
      refine V.iload_n (n := 23) d_Tr_setLeafCosts_22 rfl rfl ?_
      refine V.iload (n := 25) d_Tr_setLeafCosts_23 rfl rfl ?_
      refine V.if_eqT (n2 := 32) d_Tr_setLeafCosts_25 (by omega) (by omega) (by decide) ?_
      refine V.sipush (n := 35) d_Tr_setLeafCosts_32 (by decide) rfl ?_
      refine V.iload (n := 37) d_Tr_setLeafCosts_35 rfl rfl ?_
      refine V.if_eqT (n2 := 46) d_Tr_setLeafCosts_37 (by omega) (by omega) (by decide) ?_
      refine V.iconst (n := 47) d_Tr_setLeafCosts_46 rfl ?_
      refine V.cVv (n := 50) d_Tr_setLeafCosts_47 k_Tr_90 (c_Tr_setCosts (by assumption) (by omega) (by omega)) rfl rfl (by decide) rfl ?_
      refine V.goto (n := 110) d_Tr_setLeafCosts_50 (by decide) ?_
      refine V.vret d_Tr_setLeafCosts_110 rfl ?_
      refine hP _ _ ⟨rfl, rfl, fun e w o _ _ _ q1 q2 q3 => ?_⟩
      rw [if_neg (fun x => x.1 (q1.mpr hb))]
      unfold lcP lcD
      rw [if_pos (q1.mpr hb), if_pos (q1.mpr hb), if_neg (fun x => hw (q2.mp x)), if_neg (fun x => hw (q2.mp x))]
  · refine V.if_eqT (n2 := 53) d_Tr_setLeafCosts_8 (by omega) (by omega) (by decide) ?_
    refine V.aload_n (n := 54) d_Tr_setLeafCosts_53 rfl rfl ?_
    refine V.iload_n (n := 55) d_Tr_setLeafCosts_54 rfl rfl ?_
    refine V.iload_n (n := 56) d_Tr_setLeafCosts_55 rfl rfl ?_
    refine V.cVi (n := 59) d_Tr_setLeafCosts_56 k_Tr_93 (c_Tr_isOnWayTo hT0 h0 h1 hq (by omega) hok) rfl rfl (by decide) rfl ?_
    rcases bi_or (ow (μ (t + 2)) (μ (t + 4)) p 200 q = true) with ⟨ho, e2⟩ | ⟨ho, e2⟩ <;> rw [e2]
    · refine V.if_eqF (n := 62) d_Tr_setLeafCosts_59 (by omega) (by omega) rfl ⟨83, by decide⟩ ?_
      refine V.aload_n (n := 63) d_Tr_setLeafCosts_62 rfl rfl ?_
      refine V.getA (n := 66) d_Tr_setLeafCosts_63 f_Tr_38 (by assumption) rfl rfl ?_
      refine V.iload_n (n := 67) d_Tr_setLeafCosts_66 rfl rfl ?_
      refine V.iconst (n := 68) d_Tr_setLeafCosts_67 rfl ?_
      refine V.cVv (n := 71) d_Tr_setLeafCosts_68 k_Tr_73 (c_Rw_set (by assumption) (by omega) (by omega)) rfl rfl (by decide) rfl ?_
      refine V.aload_n (n := 72) d_Tr_setLeafCosts_71 rfl rfl ?_
      refine V.iload_n (n := 73) d_Tr_setLeafCosts_72 rfl rfl ?_
      refine V.sipush (n := 76) d_Tr_setLeafCosts_73 (by decide) rfl ?_
      refine V.iconst (n := 77) d_Tr_setLeafCosts_76 rfl ?_
      refine V.cVv (n := 80) d_Tr_setLeafCosts_77 k_Tr_90 (c_Tr_setCosts (by assumption) (by omega) (by omega)) rfl rfl (by decide) rfl ?_
      refine V.goto (n := 110) d_Tr_setLeafCosts_80 (by decide) ?_
      refine V.vret d_Tr_setLeafCosts_110 rfl ?_
      refine hP _ _ ⟨rfl, rfl, fun e w o _ _ _ q1 q2 q3 => ?_⟩
      have he : ¬ e := fun x => hb (q1.mp x)
      rw [if_pos ⟨he, q3.mpr ho⟩]
      unfold lcP lcD
      rw [if_neg he, if_neg he, if_pos (q3.mpr ho), if_pos (q3.mpr ho)]
    · refine V.if_eqT (n2 := 83) d_Tr_setLeafCosts_59 (by omega) (by omega) (by decide) ?_
      refine V.aload_n (n := 84) d_Tr_setLeafCosts_83 rfl rfl ?_
      refine V.iload_n (n := 85) d_Tr_setLeafCosts_84 rfl rfl ?_
      refine V.aload_n (n := 86) d_Tr_setLeafCosts_85 rfl rfl ?_
      refine V.getA (n := 89) d_Tr_setLeafCosts_86 f_Tr_41 (by assumption) rfl rfl ?_
      refine V.getA (n := 92) d_Tr_setLeafCosts_89 f_Tr_97 (by assumption) rfl rfl ?_
      refine V.iload_n (n := 93) d_Tr_setLeafCosts_92 rfl rfl ?_
      refine V.cVi (n := 96) d_Tr_setLeafCosts_93 k_Tr_53 (c_Rw_get (by assumption) (by omega) (by omega)) rfl rfl (by decide) rfl ?_
      refine V.aload_n (n := 97) d_Tr_setLeafCosts_96 rfl rfl ?_
      refine V.getA (n := 100) d_Tr_setLeafCosts_97 f_Tr_41 (by assumption) rfl rfl ?_
      refine V.getA (n := 103) d_Tr_setLeafCosts_100 f_Tr_100 (by assumption) rfl rfl ?_
      refine V.iload_n (n := 104) d_Tr_setLeafCosts_103 rfl rfl ?_
      refine V.cVi (n := 107) d_Tr_setLeafCosts_104 k_Tr_53 (c_Rw_get (by assumption) (by omega) (by omega)) rfl rfl (by decide) rfl ?_
      refine V.cVv (n := 110) d_Tr_setLeafCosts_107 k_Tr_90 (c_Tr_setCosts (by assumption) (by omega) (by omega)) rfl rfl (by decide) rfl ?_
      refine V.vret d_Tr_setLeafCosts_110 rfl ?_
      refine hP _ _ ⟨rfl, rfl, fun e w o _ _ _ q1 q2 q3 => ?_⟩
      have he : ¬ e := fun x => hb (q1.mp x)
      have hno : ¬ o := fun x => ho (q3.mp x)
      rw [if_neg (fun x => hno x.2)]
      unfold lcP lcD
      rw [if_neg he, if_neg he, if_neg hno, if_neg hno]
theorem c_Tr_addLeaf (hT : isTree G t g) (hG : isGame G g) (hgt : t + 16 < g ∨ g + 12 < t) (h0 : 0 ≤ μ t 9) (h1 : μ t 9 < 200) (hp0 : 0 ≤ p) (hp1 : p < 20) (hq : q = -5 ∨ (0 ≤ q ∧ q < μ t 9)) (hok : ∀ m, 0 ≤ m → m ≤ q → 0 ≤ μ (t + 2) m ∧ μ (t + 2) m < 20 ∧ (m = 0 → μ (t + 4) m = -5) ∧ (0 < m → 0 ≤ μ (t + 4) m ∧ μ (t + 4) m < m)) (hm : inR (μ (g + 4) p)) (hc : inR (μ (g + 10) p)) : KV E l 3 m_Tr_addLeaf t [rI p, rI q] G μ 0 0 (dqv (fun μ' => (∀ b, b < t ∨ t + 16 < b → μ' b = μ b) ∧ μ' t 9 = μ t 9 + 1 ∧ (∀ b, t < b → b ≤ t + 16 → ∀ j, ¬ j = μ t 9 → μ' b j = μ b j) ∧ μ' (t + 2) (μ t 9) = p ∧ μ' (t + 4) (μ t 9) = q ∧ μ' (t + 6) (μ t 9) = (if 0 ≤ q then μ (t + 6) q + 1 else 0) ∧ μ' (t + 12) (μ t 9) = 0 ∧ μ' (t + 14) (μ t 9) = -5 ∧ (∀ e w o : Prop, ∀ [Decidable e] [Decidable w] [Decidable o], (e ↔ (¬ μ (g + 4) p = 0 ∨ μ (g + 10) p = 0)) → (w ↔ μ (g + 4) p = 1) → (o ↔ ow (μ (t + 2)) (μ (t + 4)) p 200 q = true) → μ' (t + 8) (μ t 9) = lcP e w o (μ (g + 6) p) ∧ μ' (t + 10) (μ t 9) = lcD e w o (μ (g + 8) p) ∧ μ' (t + 16) (μ t 9) = bi (¬ e ∧ o))) G) := by
  have hT0 := hT
  have hG0 := hG
  obtain ⟨t0, t1, t2, t3, t4, t5, t6, t7, t8⟩ := hT
  obtain ⟨a0, a1, a2, a3, a4, a5, a6⟩ := hG
  generalize hsz : μ t 9 = sz at *
  refine ⟨KC.ofP q_Tr_addLeaf.1 rfl (Nat.le_of_ble_eq_true rfl) rfl (fun Post NT ST hP => ?_), ⟨_, _, _, t0, rfl, rfl⟩, q_Tr_addLeaf, by decide⟩
  refine V.aload_n (n := 1) d_Tr_addLeaf_0 rfl rfl ?_
  refine V.getI (n := 4) d_Tr_addLeaf_1 f_Tr_49 (by assumption) rfl rfl ?_
  refine V.istore_n (n := 5) d_Tr_addLeaf_4 (by decide) rfl ?_
  refine V.aload_n (n := 6) d_Tr_addLeaf_5 rfl rfl ?_
  refine V.dup (n := 7) d_Tr_addLeaf_6 rfl rfl ?_
  refine V.getI (n := 10) d_Tr_addLeaf_7 f_Tr_49 (by assumption) rfl rfl ?_
  refine V.iconst (n := 11) d_Tr_addLeaf_10 rfl ?_
  refine V.iadd (n := 12) d_Tr_addLeaf_11 rfl ?_
  refine V.putI (n := 15) d_Tr_addLeaf_12 f_Tr_49 t_Tr_size ⟨rfl, rfl⟩ (by assumption) rfl rfl ?_
  refine V.aload_n (n := 16) d_Tr_addLeaf_15 rfl rfl ?_
  refine V.getA (n := 19) d_Tr_addLeaf_16 f_Tr_14 (by assumption) rfl rfl ?_
  refine V.iload_n (n := 20) d_Tr_addLeaf_19 rfl rfl ?_
  refine V.iload_n (n := 21) d_Tr_addLeaf_20 rfl rfl ?_
  refine V.cVv (n := 24) d_Tr_addLeaf_21 k_Tr_73 (c_Rw_set (by assumption) (by omega) (by omega)) rfl rfl (by decide) rfl ?_
  refine V.aload_n (n := 25) d_Tr_addLeaf_24 rfl rfl ?_
  refine V.getA (n := 28) d_Tr_addLeaf_25 f_Tr_20 (by assumption) rfl rfl ?_
  refine V.iload_n (n := 29) d_Tr_addLeaf_28 rfl rfl ?_
  refine V.iload_n (n := 30) d_Tr_addLeaf_29 rfl rfl ?_
  refine V.cVv (n := 33) d_Tr_addLeaf_30 k_Tr_73 (c_Rw_set (by assumption) (by omega) (by omega)) rfl rfl (by decide) rfl ?_
  refine V.aload_n (n := 34) d_Tr_addLeaf_33 rfl rfl ?_
  refine V.getA (n := 37) d_Tr_addLeaf_34 f_Tr_23 (by assumption) rfl rfl ?_
  refine V.iload_n (n := 38) d_Tr_addLeaf_37 rfl rfl ?_
  refine V.aload_n (n := 39) d_Tr_addLeaf_38 rfl rfl ?_
  refine V.iload_n (n := 40) d_Tr_addLeaf_39 rfl rfl ?_
  rw [hsz]
  generalize hm1 : wr (wr (wr μ t 9 (sz + 1)) (t + 2) sz p) (t + 4) sz q = μ1
  have e9 : μ1 t 9 = sz + 1 := by rw [← hm1, wr_a (by omega), wr_a (by omega), wr_s]
  have e6 : μ1 (t + 6) = μ (t + 6) := by rw [← hm1, wr_a (by omega), wr_a (by omega), wr_a (by omega)]
  refine V.cVi (n := 43) d_Tr_addLeaf_40 k_Tr_76 (c_Tr_has hT0 (by omega) (by omega)) rfl rfl (by decide) rfl ?_
  rw [e9]
  have fin : ∀ dv : Int, dv = (if 0 ≤ q then μ (t + 6) q + 1 else 0) → V E l m_Tr_addLeaf none 3 NT ST Post 60 [(3, rI sz), (2, rI q), (1, rI p), (0, rA E t)] [rI dv, rI sz, rA E (t + 5)] G μ1 := by
    intro dv hdv
    refine V.cVv (n := 63) d_Tr_addLeaf_60 k_Tr_73 (c_Rw_set (by assumption) (by omega) (by omega)) rfl rfl (by decide) rfl ?_
    refine V.aload_n (n := 64) d_Tr_addLeaf_63 rfl rfl ?_
    refine V.getA (n := 67) d_Tr_addLeaf_64 f_Tr_32 (by assumption) rfl rfl ?_
    refine V.iload_n (n := 68) d_Tr_addLeaf_67 rfl rfl ?_
    refine V.iconst (n := 69) d_Tr_addLeaf_68 rfl ?_
    refine V.cVv (n := 72) d_Tr_addLeaf_69 k_Tr_73 (c_Rw_set (by assumption) (by omega) (by omega)) rfl rfl (by decide) rfl ?_
    refine V.aload_n (n := 73) d_Tr_addLeaf_72 rfl rfl ?_
    refine V.getA (n := 76) d_Tr_addLeaf_73 f_Tr_35 (by assumption) rfl rfl ?_
    refine V.iload_n (n := 77) d_Tr_addLeaf_76 rfl rfl ?_
    refine V.bipush (n := 79) d_Tr_addLeaf_77 (by decide) rfl ?_
    refine V.cVv (n := 82) d_Tr_addLeaf_79 k_Tr_73 (c_Rw_set (by assumption) (by omega) (by omega)) rfl rfl (by decide) rfl ?_
    refine V.aload_n (n := 83) d_Tr_addLeaf_82 rfl rfl ?_
    refine V.getA (n := 86) d_Tr_addLeaf_83 f_Tr_38 (by assumption) rfl rfl ?_
    refine V.iload_n (n := 87) d_Tr_addLeaf_86 rfl rfl ?_
    refine V.iconst (n := 88) d_Tr_addLeaf_87 rfl ?_
    refine V.cVv (n := 91) d_Tr_addLeaf_88 k_Tr_73 (c_Rw_set (by assumption) (by omega) (by omega)) rfl rfl (by decide) rfl ?_
    refine V.aload_n (n := 92) d_Tr_addLeaf_91 rfl rfl ?_
    refine V.iload_n (n := 93) d_Tr_addLeaf_92 rfl rfl ?_
    refine V.iload_n (n := 94) d_Tr_addLeaf_93 rfl rfl ?_
    refine V.iload_n (n := 95) d_Tr_addLeaf_94 rfl rfl ?_
    generalize hm2 : wr (wr (wr (wr μ1 (t + 6) sz dv) (t + 12) sz 0) (t + 14) sz (-5)) (t + 16) sz 0 = μ2
    have f9 : μ2 t 9 = sz + 1 := by rw [← hm2, wr_a (by omega), wr_a (by omega), wr_a (by omega), wr_a (by omega), e9]
    have fa : ∀ b, b < t ∨ t + 16 < b → μ2 b = μ b := fun b hb => by
      rw [← hm2, wr_a (by omega), wr_a (by omega), wr_a (by omega), wr_a (by omega), ← hm1, wr_a (by omega), wr_a (by omega), wr_a (by omega)]
    have fb : ∀ b, t < b → b ≤ t + 16 → ∀ j, ¬ j = sz → μ2 b j = μ b j := fun b _ _ j hj => by
      rw [← hm2, wr_i hj, wr_i hj, wr_i hj, wr_i hj, ← hm1, wr_i hj, wr_i hj, wr_a (by omega)]
    have f2 : μ2 (t + 2) sz = p := by rw [← hm2, wr_a (by omega), wr_a (by omega), wr_a (by omega), wr_a (by omega), ← hm1, wr_a (by omega), wr_s]
    have f4 : μ2 (t + 4) sz = q := by rw [← hm2, wr_a (by omega), wr_a (by omega), wr_a (by omega), wr_a (by omega), ← hm1, wr_s]
    have f6 : μ2 (t + 6) sz = dv := by rw [← hm2, wr_a (by omega), wr_a (by omega), wr_a (by omega), wr_s]
    have f12 : μ2 (t + 12) sz = 0 := by rw [← hm2, wr_a (by omega), wr_a (by omega), wr_s]
    have f14 : μ2 (t + 14) sz = -5 := by rw [← hm2, wr_a (by omega), wr_s]
    have f16 : μ2 (t + 16) sz = 0 := by rw [← hm2, wr_s]
    have g4 : μ2 (g + 4) = μ (g + 4) := fa _ (by omega)
    have g6 : μ2 (g + 6) = μ (g + 6) := fa _ (by omega)
    have g8 : μ2 (g + 8) = μ (g + 8) := fa _ (by omega)
    have g10 : μ2 (g + 10) = μ (g + 10) := fa _ (by omega)
    have hok2 : ∀ m, 0 ≤ m → m ≤ q → 0 ≤ μ2 (t + 2) m ∧ μ2 (t + 2) m < 20 ∧ (m = 0 → μ2 (t + 4) m = -5) ∧ (0 < m → 0 ≤ μ2 (t + 4) m ∧ μ2 (t + 4) m < m) := fun m m0 m1 => by
      rw [fb (t + 2) (by omega) (by omega) m (by omega), fb (t + 4) (by omega) (by omega) m (by omega)]
      exact hok m m0 m1
    have how : ow (μ2 (t + 2)) (μ2 (t + 4)) p 200 q = ow (μ (t + 2)) (μ (t + 4)) p 200 q := ow_congr 200 q (fun m m0 m1 => ⟨fb (t + 2) (by omega) (by omega) m (by omega), fb (t + 4) (by omega) (by omega) m (by omega), by have := hok m m0 m1; omega⟩)
    refine V.cVqv (n := 98) d_Tr_addLeaf_95 k_Tr_80 (c_Tr_setLeafCosts hT0 hG0 hgt (by omega) (by omega) (by omega) (by omega) hp0 hp1 (by omega) hok2 (by rw [g4]; exact hm) (by rw [g10]; exact hc)) rfl rfl (by decide) rfl (fun μ' hq => ?_)
    rw [g4, g6, g8, g10, how] at hq
    have hq0 := hq (¬ μ (g + 4) p = 0 ∨ μ (g + 10) p = 0) (μ (g + 4) p = 1) (ow (μ (t + 2)) (μ (t + 4)) p 200 q = true) Iff.rfl Iff.rfl Iff.rfl
    generalize hm3 : (if ¬ (¬ μ (g + 4) p = 0 ∨ μ (g + 10) p = 0) ∧ ow (μ (t + 2)) (μ (t + 4)) p 200 q = true then wr μ2 (t + 16) sz 1 else μ2) = μ3 at hq0
    have k1 : ∀ b, ¬ b = t + 16 → μ3 b = μ2 b := fun b hb => by
      rw [← hm3]
      split
      · exact wr_a hb
      · rfl
    have k2 : ∀ j, ¬ j = sz → μ3 (t + 16) j = μ2 (t + 16) j := fun j hj => by
      rw [← hm3]
      split
      · exact wr_i hj
      · rfl
    refine V.vret d_Tr_addLeaf_98 rfl ?_
    refine hP _ _ ⟨rfl, rfl, fun b hb => ?_, ?_, fun b b1 b2 j hj => ?_, ?_, ?_, ?_, ?_, ?_, fun e w o _ _ _ q1 q2 q3 => ⟨?_, ?_, ?_⟩⟩
    · rw [hq0, wr_a (by omega), wr_a (by omega), k1 b (by omega), fa b hb]
    · rw [hq0, wr_a (by omega), wr_a (by omega), k1 t (by omega), f9]
    · rw [hq0, wr_i hj, wr_i hj]
      by_cases hb : b = t + 16
      · rw [hb, k2 j hj, fb (t + 16) (by omega) (by omega) j hj]
      · rw [k1 b hb, fb b b1 b2 j hj]
    · rw [hq0, wr_a (by omega), wr_a (by omega), k1 _ (by omega), f2]
    · rw [hq0, wr_a (by omega), wr_a (by omega), k1 _ (by omega), f4]
    · rw [hq0, wr_a (by omega), wr_a (by omega), k1 _ (by omega), f6, hdv]
    · rw [hq0, wr_a (by omega), wr_a (by omega), k1 _ (by omega), f12]
    · rw [hq0, wr_a (by omega), wr_a (by omega), k1 _ (by omega), f14]
    · rw [hq e w o q1 q2 q3, wr_a (by omega), wr_s]
    · rw [hq e w o q1 q2 q3, wr_s]
    · rw [hq e w o q1 q2 q3, wr_a (by omega), wr_a (by omega)]
      by_cases hz : ¬ e ∧ o
      · rw [if_pos hz, bi_t hz, wr_s]
      · rw [if_neg hz, bi_f hz, f16]
  rcases bi_or (0 ≤ q ∧ q < sz + 1) with ⟨hb, e⟩ | ⟨hb, e⟩ <;> rw [e]
  · refine V.if_eqF (n := 46) d_Tr_addLeaf_43 (by omega) (by omega) rfl ⟨59, by decide⟩ ?_
    refine V.aload_n (n := 47) d_Tr_addLeaf_46 rfl rfl ?_
    refine V.getA (n := 50) d_Tr_addLeaf_47 f_Tr_23 (by assumption) rfl rfl ?_
    refine V.iload_n (n := 51) d_Tr_addLeaf_50 rfl rfl ?_
    refine V.cVi (n := 54) d_Tr_addLeaf_51 k_Tr_53 (c_Rw_get (by assumption) (by omega) (by omega)) rfl rfl (by decide) rfl ?_
    refine V.iconst (n := 55) d_Tr_addLeaf_54 rfl ?_
    refine V.iadd (n := 56) d_Tr_addLeaf_55 rfl ?_
    refine V.goto (n := 60) d_Tr_addLeaf_56 (by decide) ?_
    rw [e6]
    refine V.loc (lo' := [(3, rI sz), (2, rI q), (1, rI p), (0, rA E t)]) ⟨rfl, rfl, rfl, rfl, trivial⟩ ?_
    exact fin _ (by rw [if_pos hb.1])
  · refine V.if_eqT (n2 := 59) d_Tr_addLeaf_43 (by omega) (by omega) (by decide) ?_
    refine V.iconst (n := 60) d_Tr_addLeaf_59 rfl ?_
    refine V.loc (lo' := [(3, rI sz), (2, rI q), (1, rI p), (0, rA E t)]) ⟨rfl, rfl, rfl, rfl, trivial⟩ ?_
    exact fin _ (by rw [if_neg (by omega)])
theorem c_Tr_plant (hT : isTree G t g) (hG : isGame G g) (hgt : t + 16 < g ∨ g + 12 < t) (hp0 : 0 ≤ p) (hp1 : p < 20) (hm : inR (μ (g + 4) p)) (hc : inR (μ (g + 10) p)) : KV E l 4 m_Tr_plant t [rI p] G μ 0 0 (dqv (fun μ' => (∀ b, b < t ∨ t + 16 < b → μ' b = μ b) ∧ μ' t 9 = 1 ∧ μ' (t + 2) 0 = p ∧ μ' (t + 4) 0 = -5 ∧ μ' (t + 6) 0 = 0 ∧ μ' (t + 12) 0 = 0 ∧ μ' (t + 14) 0 = -5 ∧ (∀ e w : Prop, ∀ [Decidable e] [Decidable w], (e ↔ (¬ μ (g + 4) p = 0 ∨ μ (g + 10) p = 0)) → (w ↔ μ (g + 4) p = 1) → μ' (t + 8) 0 = lcP e w False (μ (g + 6) p) ∧ μ' (t + 10) 0 = lcD e w False (μ (g + 8) p) ∧ μ' (t + 16) 0 = 0)) G) := by
  have hT0 := hT
  have hG0 := hG
  obtain ⟨t0, t1, t2, t3, t4, t5, t6, t7, t8⟩ := hT
  refine ⟨KC.ofP q_Tr_plant.1 rfl (Nat.le_of_ble_eq_true rfl) rfl (fun Post NT ST hP => ?_), ⟨_, _, _, t0, rfl, rfl⟩, q_Tr_plant, by decide⟩
  refine V.aload_n (n := 1) d_Tr_plant_0 rfl rfl ?_
  refine V.cVv (n := 4) d_Tr_plant_1 k_Tr_66 (c_Tr_clear (by assumption)) rfl rfl (by decide) rfl ?_
  refine V.aload_n (n := 5) d_Tr_plant_4 rfl rfl ?_
  refine V.iload_n (n := 6) d_Tr_plant_5 rfl rfl ?_
  refine V.bipush (n := 8) d_Tr_plant_6 (by decide) rfl ?_
  generalize hm1 : wr μ t 9 0 = μ1
  have e9 : μ1 t 9 = 0 := by rw [← hm1, wr_s]
  have ea : ∀ b, ¬ b = t → μ1 b = μ b := fun b hb => by rw [← hm1, wr_a hb]
  refine V.cVqv (n := 11) d_Tr_plant_8 k_Tr_69 (c_Tr_addLeaf hT0 hG0 hgt (by omega) (by omega) hp0 hp1 (by omega) (fun m m0 m1 => by omega) (by rw [ea _ (by omega)]; exact hm) (by rw [ea _ (by omega)]; exact hc)) rfl rfl (by decide) rfl (fun μ' hq => ?_)
  rw [e9] at hq
  obtain ⟨q1, q2, q3, q4, q5, q6, q7, q8, q9⟩ := hq
  refine V.vret d_Tr_plant_11 rfl ?_
  refine hP _ _ ⟨rfl, rfl, fun b hb => by rw [q1 b hb, ea b (by omega)], q2, q4, q5, by rw [q6, if_neg (by omega)], q7, q8, fun e w _ _ h1 h2 => ?_⟩
  rw [ea (g + 4) (by omega), ea (g + 10) (by omega), ea (g + 6) (by omega), ea (g + 8) (by omega)] at q9
  have h3 := q9 e w False h1 h2 ⟨fun x => x.elim, fun x => by rw [ow_neg (by omega)] at x; cases x⟩
  exact ⟨h3.1, h3.2.1, by rw [h3.2.2, bi_f (fun x => x.2)]⟩
end CTW
end
section
/-! THE CLASS: trees, the way, costs -/
theorem oc_in (sz a b : Int) : 0 ≤ oc sz a b ∧ oc sz a b ≤ 2 := by
  unfold oc
  (repeat' split) <;> omega
def nxM (t g : Nat) (μ : MU) (n : Int) : Int := am (if μ (g + 2) (μ (t + 2) n) = 0 then μ (t + 8) else μ (t + 10)) (μ (t + 14) n) (μ (t + 12) n).toNat
/-- down from n by k steps, or to a leaf -/
def lf (nx cc : Int → Int) : Nat → Int → Int
  | 0, n => n
  | k + 1, n => if cc n = 0 then n else lf nx cc k (nx n)
def wy (nx cc : Int → Int) : Nat → Int → Int
  | 0, n => n
  | k + 1, n => if cc n = 0 then -5 else wy nx cc k (nx n)
theorem lf_s (nx cc : Int → Int) (k : Nat) (n : Int) : lf nx cc (k + 1) n = if cc n = 0 then n else lf nx cc k (nx n) := rfl
theorem wy_s (nx cc : Int → Int) (k : Nat) (n : Int) : wy nx cc (k + 1) n = if cc n = 0 then -5 else wy nx cc k (nx n) := rfl
/-- a node's children are later nodes -/
def okC (sz : Int) (pos cc fc : Int → Int) : Prop := ∀ n, 0 ≤ n → n < sz → 0 ≤ pos n ∧ pos n < 20 ∧ 0 ≤ cc n ∧ -5 ≤ fc n ∧ (0 < cc n → n < fc n) ∧ fc n + cc n ≤ sz
/-- costs are such in every place -/
def okX (pr dp : Int → Int) : Prop := ∀ j : Int, 0 ≤ j → j < 200 → 0 ≤ pr j ∧ pr j ≤ 9999 ∧ 0 ≤ dp j ∧ dp j ≤ 9999
/-- turns and counts of moves are such -/
def okG (μ : MU) (g : Nat) : Prop := ∀ p : Int, 0 ≤ p → p < 20 → 0 ≤ μ (g + 2) p ∧ μ (g + 2) p ≤ 1 ∧ 0 ≤ μ (g + 4) p ∧ μ (g + 4) p ≤ 2 ∧ 1 ≤ μ (g + 6) p ∧ μ (g + 6) p ≤ 9 ∧ 1 ≤ μ (g + 8) p ∧ μ (g + 8) p ≤ 9 ∧ 0 ≤ μ (g + 10) p ∧ μ (g + 10) p ≤ 20
def okM (μ : MU) (t g : Nat) : Prop := okG μ g ∧ 0 ≤ μ t 9 ∧ μ t 9 ≤ 200 ∧ okC (μ t 9) (μ (t + 2)) (μ (t + 12)) (μ (t + 14)) ∧ okX (μ (t + 8)) (μ (t + 10))
theorem nx_in {μ : MU} {t g : Nat} {n : Int} (h : okM μ t g) (h0 : 0 ≤ n) (h1 : n < μ t 9) (h2 : ¬ μ (t + 12) n = 0) : n < nxM t g μ n ∧ nxM t g μ n < μ t 9 := by
  obtain ⟨-, -, -, hc, -⟩ := h
  have h3 := hc n h0 h1
  have h4 := am_in (if μ (g + 2) (μ (t + 2) n) = 0 then μ (t + 8) else μ (t + 10)) (μ (t + 14) n) (μ (t + 12) n).toNat
  unfold nxM
  omega
section CTX
variable {E : EV} {l : Launch} {G : GG} {μ : MU} {g t : Nat} {n p q a b : Int}
theorem c_Tr_next (hT : isTree G t g) (hG : isGame G g) (h : okM μ t g) (h0 : 0 ≤ n) (h1 : n < μ t 9) : KV E l 2 m_Tr_cheapestChild t [rI n] G μ 0 0 (dq (some (rI (nxM t g μ n))) G μ) := by
  obtain ⟨hg, hs0, hs1, hc, hx⟩ := h
  have h3 := hc n h0 h1
  have h4 := hg (μ (t + 2) n) h3.1 h3.2.1
  exact c_Tr_cheapestChild hT hG h0 (by omega) (by omega) (by omega) (by omega) (by omega) (by omega) (by omega) (by omega) (fun j j0 j1 => by have := hx j j0 j1; omega)
theorem c_Tr_leafOnWay (hT : isTree G t g) (hG : isGame G g) (h : okM μ t g) (h0 : 0 < μ t 9) : KV E l 3 m_Tr_leafOnWay t [] G μ 0 0 (dq (some (rI (lf (nxM t g μ) (μ (t + 12)) 200 0))) G μ) := by
  have hT0 := hT
  obtain ⟨t0, t1, t2, t3, t4, t5, t6, t7, t8⟩ := hT
  refine ⟨KC.ofP q_Tr_leafOnWay.1 rfl (Nat.le_of_ble_eq_true rfl) rfl (fun Post NT ST hP => ?_), ⟨_, _, _, t0, rfl, rfl⟩, q_Tr_leafOnWay, by decide⟩
  refine V.iconst (n := 1) d_Tr_leafOnWay_0 rfl ?_
  refine V.istore_n (n := 2) d_Tr_leafOnWay_1 (by decide) rfl ?_
  refine V.iconst (n := 3) d_Tr_leafOnWay_2 rfl ?_
  refine V.istore_n (n := 4) d_Tr_leafOnWay_3 (by decide) rfl ?_
  have loop : ∀ (k : Nat) (i m : Int), i + k = 200 → 0 ≤ i → 0 ≤ m → m < μ t 9 → lf (nxM t g μ) (μ (t + 12)) 200 0 = lf (nxM t g μ) (μ (t + 12)) k m → V E l m_Tr_leafOnWay none 3 NT ST Post 4 [(2, rI i), (1, rI m), (0, rA E t)] [] G μ := by
    intro k
    induction k with
    | zero =>
      intro i m hk hi hm0 hm1 he
      rw [he] at hP
      refine V.iload_n (n := 5) d_Tr_leafOnWay_4 rfl rfl ?_
      refine V.sipush (n := 8) d_Tr_leafOnWay_5 (by decide) rfl ?_
      refine V.icmp_geT (n2 := 31) d_Tr_leafOnWay_8 (by omega) (by omega) (by omega) (by decide) ?_
      refine V.iload_n (n := 32) d_Tr_leafOnWay_31 rfl rfl ?_
      refine V.iret d_Tr_leafOnWay_32 ⟨_, rfl, rfl⟩ ?_
      exact hP _ _ ⟨rfl, rfl, rfl⟩
    | succ k ih =>
      intro i m hk hi hm0 hm1 he
      have h5 := h.2.2.2.1 m hm0 hm1
      have h6 := h.2.2.1
      refine V.iload_n (n := 5) d_Tr_leafOnWay_4 rfl rfl ?_
      refine V.sipush (n := 8) d_Tr_leafOnWay_5 (by decide) rfl ?_
      refine V.icmp_geF (n := 11) d_Tr_leafOnWay_8 (by omega) (by omega) (by omega) rfl ⟨31, by decide⟩ ?_
      refine V.aload_n (n := 12) d_Tr_leafOnWay_11 rfl rfl ?_
      refine V.iload_n (n := 13) d_Tr_leafOnWay_12 rfl rfl ?_
      refine V.cVi (n := 16) d_Tr_leafOnWay_13 k_Tr_109 (c_Tr_isLeaf (by assumption) (by omega) (by omega) (by omega)) rfl rfl (by decide) rfl ?_
      rcases bi_or (μ (t + 12) m = 0) with ⟨hb, e⟩ | ⟨hb, e⟩ <;> rw [e]
      · rw [he, lf_s, if_pos hb] at hP
        refine V.if_neT (n2 := 31) d_Tr_leafOnWay_16 (by omega) (by omega) (by decide) ?_
        refine V.iload_n (n := 32) d_Tr_leafOnWay_31 rfl rfl ?_
        refine V.iret d_Tr_leafOnWay_32 ⟨_, rfl, rfl⟩ ?_
        exact hP _ _ ⟨rfl, rfl, rfl⟩
      · have h7 := nx_in h hm0 hm1 hb
        refine V.if_neF (n := 19) d_Tr_leafOnWay_16 (by omega) (by omega) rfl ⟨31, by decide⟩ ?_
        refine V.aload_n (n := 20) d_Tr_leafOnWay_19 rfl rfl ?_
        refine V.iload_n (n := 21) d_Tr_leafOnWay_20 rfl rfl ?_
        refine V.cVi (n := 24) d_Tr_leafOnWay_21 k_Tr_112 (c_Tr_next hT0 hG h hm0 hm1) rfl rfl (by decide) rfl ?_
        refine V.istore_n (n := 25) d_Tr_leafOnWay_24 (by decide) rfl ?_
        refine V.iinc (n := 28) d_Tr_leafOnWay_25 rfl (by decide) rfl ?_
        refine V.goto (n := 4) d_Tr_leafOnWay_28 (by decide) ?_
        refine V.loc (lo' := [(2, rI (i + 1)), (1, rI (nxM t g μ m)), (0, rA E t)]) ⟨rfl, rfl, rfl, trivial⟩ ?_
        exact ih (i + 1) _ (by omega) (by omega) (by omega) (by omega) (by rw [he, lf_s, if_neg hb])
  refine V.loc (lo' := [(2, rI 0), (1, rI 0), (0, rA E t)]) ⟨rfl, rfl, rfl, trivial⟩ ?_
  exact loop 200 0 0 (by omega) (by omega) (by omega) (by omega) rfl
theorem lf_in {μ : MU} {t g : Nat} (h : okM μ t g) : ∀ (k : Nat) (n : Int), 0 ≤ n → n < μ t 9 → n ≤ lf (nxM t g μ) (μ (t + 12)) k n ∧ lf (nxM t g μ) (μ (t + 12)) k n < μ t 9
  | 0, n, _, h1 => ⟨Int.le_refl _, h1⟩
  | k + 1, n, h0, h1 => by
    rw [lf_s]
    by_cases hb : μ (t + 12) n = 0
    · rw [if_pos hb]; exact ⟨Int.le_refl _, h1⟩
    · rw [if_neg hb]
      have h7 := nx_in h h0 h1 hb
      have h8 := lf_in h k (nxM t g μ n) (by omega) (by omega)
      omega
theorem c_Tr_nodeOnWay (hT : isTree G t g) (hG : isGame G g) (h : okM μ t g) (h0 : 0 ≤ p) (h1 : p ≤ 2147483647) : KV E l 3 m_Tr_nodeOnWay t [rI p] G μ 0 0 (dq (some (rI (if μ t 9 = 0 ∨ ¬ oc (μ t 9) (μ (t + 8) 0) (μ (t + 10) 0) = 0 ∨ 200 ≤ p then -5 else wy (nxM t g μ) (μ (t + 12)) p.toNat 0))) G μ) := by
  have hT0 := hT
  obtain ⟨t0, t1, t2, t3, t4, t5, t6, t7, t8⟩ := hT
  have hs0 := h.2.1
  have hs1 := h.2.2.1
  have hx := h.2.2.2.2 0 (by omega) (by omega)
  have hoc := oc_in (μ t 9) (μ (t + 8) 0) (μ (t + 10) 0)
  refine ⟨KC.ofP q_Tr_nodeOnWay.1 rfl (Nat.le_of_ble_eq_true rfl) rfl (fun Post NT ST hP => ?_), ⟨_, _, _, t0, rfl, rfl⟩, q_Tr_nodeOnWay, by decide⟩
  refine V.aload_n (n := 1) d_Tr_nodeOnWay_0 rfl rfl ?_
  refine V.cVi (n := 4) d_Tr_nodeOnWay_1 k_Tr_62 (c_Tr_isEmpty (by assumption) (by omega)) rfl rfl (by decide) rfl ?_
  rcases bi_or (μ t 9 = 0) with ⟨hb, e⟩ | ⟨hb, e⟩ <;> rw [e]
  · rw [if_pos (Or.inl hb)] at hP
    refine V.if_neT (n2 := 21) d_Tr_nodeOnWay_4 (by omega) (by omega) (by decide) ?_
    refine V.bipush (n := 23) d_Tr_nodeOnWay_21 (by decide) rfl ?_
    refine V.iret d_Tr_nodeOnWay_23 ⟨_, rfl, rfl⟩ ?_
    exact hP _ _ ⟨rfl, rfl, rfl⟩
  · refine V.if_neF (n := 7) d_Tr_nodeOnWay_4 (by omega) (by omega) rfl ⟨21, by decide⟩ ?_
    refine V.aload_n (n := 8) d_Tr_nodeOnWay_7 rfl rfl ?_
    refine V.cVi (n := 11) d_Tr_nodeOnWay_8 k_Tr_115 (c_Tr_outcome (by assumption) (by omega) (by omega) (by omega)) rfl rfl (by decide) rfl ?_
    refine V.if_ne (n2 := 21) (n := 14) d_Tr_nodeOnWay_11 (by omega) (by decide) rfl (fun h2 => ?_) (fun h2 => ?_)
    · rw [if_pos (Or.inr (Or.inl h2))] at hP
      refine V.bipush (n := 23) d_Tr_nodeOnWay_21 (by decide) rfl ?_
      refine V.iret d_Tr_nodeOnWay_23 ⟨_, rfl, rfl⟩ ?_
      exact hP _ _ ⟨rfl, rfl, rfl⟩
    · refine V.iload_n (n := 15) d_Tr_nodeOnWay_14 rfl rfl ?_
      refine V.sipush (n := 18) d_Tr_nodeOnWay_15 (by decide) rfl ?_
      refine V.icmp_lt (n2 := 24) (n := 21) d_Tr_nodeOnWay_18 (by omega) (by omega) (by decide) rfl (fun h3 => ?_) (fun h3 => ?_)
      · refine V.iconst (n := 25) d_Tr_nodeOnWay_24 rfl ?_
        refine V.istore_n (n := 26) d_Tr_nodeOnWay_25 (by decide) rfl ?_
        refine V.iconst (n := 27) d_Tr_nodeOnWay_26 rfl ?_
        refine V.istore_n (n := 28) d_Tr_nodeOnWay_27 (by decide) rfl ?_
        rw [if_neg (by omega)] at hP
        have loop : ∀ (k : Nat) (i m : Int), i + k = p → 0 ≤ i → 0 ≤ m → m < μ t 9 → wy (nxM t g μ) (μ (t + 12)) p.toNat 0 = wy (nxM t g μ) (μ (t + 12)) k m → V E l m_Tr_nodeOnWay none 3 NT ST Post 28 [(3, rI i), (2, rI m), (1, rI p), (0, rA E t)] [] G μ := by
          intro k
          induction k with
          | zero =>
            intro i m hk hi hm0 hm1 he
            rw [he] at hP
            refine V.iload_n (n := 29) d_Tr_nodeOnWay_28 rfl rfl ?_
            refine V.iload_n (n := 30) d_Tr_nodeOnWay_29 rfl rfl ?_
            refine V.icmp_geT (n2 := 56) d_Tr_nodeOnWay_30 (by omega) (by omega) (by omega) (by decide) ?_
            refine V.iload_n (n := 57) d_Tr_nodeOnWay_56 rfl rfl ?_
            refine V.iret d_Tr_nodeOnWay_57 ⟨_, rfl, rfl⟩ ?_
            exact hP _ _ ⟨rfl, rfl, rfl⟩
          | succ k ih =>
            intro i m hk hi hm0 hm1 he
            have h5 := h.2.2.2.1 m hm0 hm1
            refine V.iload_n (n := 29) d_Tr_nodeOnWay_28 rfl rfl ?_
            refine V.iload_n (n := 30) d_Tr_nodeOnWay_29 rfl rfl ?_
            refine V.icmp_geF (n := 33) d_Tr_nodeOnWay_30 (by omega) (by omega) (by omega) rfl ⟨56, by decide⟩ ?_
            refine V.aload_n (n := 34) d_Tr_nodeOnWay_33 rfl rfl ?_
            refine V.iload_n (n := 35) d_Tr_nodeOnWay_34 rfl rfl ?_
            refine V.cVi (n := 38) d_Tr_nodeOnWay_35 k_Tr_109 (c_Tr_isLeaf (by assumption) (by omega) (by omega) (by omega)) rfl rfl (by decide) rfl ?_
            rcases bi_or (μ (t + 12) m = 0) with ⟨hb, e⟩ | ⟨hb, e⟩ <;> rw [e]
            · rw [he, wy_s, if_pos hb] at hP
              refine V.if_eqF (n := 41) d_Tr_nodeOnWay_38 (by omega) (by omega) rfl ⟨44, by decide⟩ ?_
              refine V.bipush (n := 43) d_Tr_nodeOnWay_41 (by decide) rfl ?_
              refine V.iret d_Tr_nodeOnWay_43 ⟨_, rfl, rfl⟩ ?_
              exact hP _ _ ⟨rfl, rfl, rfl⟩
            · have h7 := nx_in h hm0 hm1 hb
              refine V.if_eqT (n2 := 44) d_Tr_nodeOnWay_38 (by omega) (by omega) (by decide) ?_
              refine V.aload_n (n := 45) d_Tr_nodeOnWay_44 rfl rfl ?_
              refine V.iload_n (n := 46) d_Tr_nodeOnWay_45 rfl rfl ?_
              refine V.cVi (n := 49) d_Tr_nodeOnWay_46 k_Tr_112 (c_Tr_next hT0 hG h hm0 hm1) rfl rfl (by decide) rfl ?_
              refine V.istore_n (n := 50) d_Tr_nodeOnWay_49 (by decide) rfl ?_
              refine V.iinc (n := 53) d_Tr_nodeOnWay_50 rfl (by decide) rfl ?_
              refine V.goto (n := 28) d_Tr_nodeOnWay_53 (by decide) ?_
              refine V.loc (lo' := [(3, rI (i + 1)), (2, rI (nxM t g μ m)), (1, rI p), (0, rA E t)]) ⟨rfl, rfl, rfl, rfl, trivial⟩ ?_
              exact ih (i + 1) _ (by omega) (by omega) (by omega) (by omega) (by rw [he, wy_s, if_neg hb])
        refine V.loc (lo' := [(3, rI 0), (2, rI 0), (1, rI p), (0, rA E t)]) ⟨rfl, rfl, rfl, rfl, trivial⟩ ?_
        exact loop p.toNat 0 0 (by omega) (by omega) (by omega) (by omega) rfl
      · rw [if_pos (by omega)] at hP
        refine V.bipush (n := 23) d_Tr_nodeOnWay_21 (by decide) rfl ?_
        refine V.iret d_Tr_nodeOnWay_23 ⟨_, rfl, rfl⟩ ?_
        exact hP _ _ ⟨rfl, rfl, rfl⟩
theorem c_Tr_canGrow (hT : isTree G t g) (hG : isGame G g) (h : okM μ t g) : KV E l 4 m_Tr_canGrow t [] G μ 0 0 (dq (some (rI (bi (¬ μ t 9 = 0 ∧ oc (μ t 9) (μ (t + 8) 0) (μ (t + 10) 0) = 0 ∧ μ (g + 10) (μ (t + 2) (lf (nxM t g μ) (μ (t + 12)) 200 0)) ≤ 200 - μ t 9)))) G μ) := by
  have hT0 := hT
  have hG0 := hG
  obtain ⟨t0, t1, t2, t3, t4, t5, t6, t7, t8⟩ := hT
  obtain ⟨a0, a1, a2, a3, a4, a5, a6⟩ := hG
  have hs0 := h.2.1
  have hs1 := h.2.2.1
  have hx := h.2.2.2.2 0 (by omega) (by omega)
  have hoc := oc_in (μ t 9) (μ (t + 8) 0) (μ (t + 10) 0)
  refine ⟨KC.ofP q_Tr_canGrow.1 rfl (Nat.le_of_ble_eq_true rfl) rfl (fun Post NT ST hP => ?_), ⟨_, _, _, t0, rfl, rfl⟩, q_Tr_canGrow, by decide⟩
  refine V.aload_n (n := 1) d_Tr_canGrow_0 rfl rfl ?_
  refine V.cVi (n := 4) d_Tr_canGrow_1 k_Tr_62 (c_Tr_isEmpty (by assumption) (by omega)) rfl rfl (by decide) rfl ?_
  rcases bi_or (μ t 9 = 0) with ⟨hb, e⟩ | ⟨hb, e⟩ <;> rw [e]
  · rw [bi_f (fun x => x.1 hb)] at hP
    refine V.if_neT (n2 := 14) d_Tr_canGrow_4 (by omega) (by omega) (by decide) ?_
    refine V.iconst (n := 15) d_Tr_canGrow_14 rfl ?_
    refine V.iret d_Tr_canGrow_15 ⟨_, rfl, rfl⟩ ?_
    exact hP _ _ ⟨rfl, rfl, rfl⟩
  · refine V.if_neF (n := 7) d_Tr_canGrow_4 (by omega) (by omega) rfl ⟨14, by decide⟩ ?_
    refine V.aload_n (n := 8) d_Tr_canGrow_7 rfl rfl ?_
    refine V.cVi (n := 11) d_Tr_canGrow_8 k_Tr_115 (c_Tr_outcome (by assumption) (by omega) (by omega) (by omega)) rfl rfl (by decide) rfl ?_
    refine V.if_eq (n2 := 16) (n := 14) d_Tr_canGrow_11 (by omega) (by decide) rfl (fun h2 => ?_) (fun h2 => ?_)
    · refine V.aload_n (n := 17) d_Tr_canGrow_16 rfl rfl ?_
      refine V.getA (n := 20) d_Tr_canGrow_17 f_Tr_41 (by assumption) rfl rfl ?_
      refine V.getA (n := 23) d_Tr_canGrow_20 f_Tr_119 (by assumption) rfl rfl ?_
      refine V.aload_n (n := 24) d_Tr_canGrow_23 rfl rfl ?_
      refine V.getA (n := 27) d_Tr_canGrow_24 f_Tr_14 (by assumption) rfl rfl ?_
      refine V.aload_n (n := 28) d_Tr_canGrow_27 rfl rfl ?_
      have hl := lf_in h 200 0 (by omega) (by omega)
      have hc := h.2.2.2.1 _ hl.1 hl.2
      have hg := h.1 _ hc.1 hc.2.1
      refine V.cVi (n := 31) d_Tr_canGrow_28 k_Tr_122 (c_Tr_leafOnWay hT0 hG0 h (by omega)) rfl rfl (by decide) rfl ?_
      refine V.cVi (n := 34) d_Tr_canGrow_31 k_Tr_53 (c_Rw_get (by assumption) (by omega) (by omega)) rfl rfl (by decide) rfl ?_
      refine V.cVi (n := 37) d_Tr_canGrow_34 k_Tr_53 (c_Rw_get (by assumption) (by omega) (by omega)) rfl rfl (by decide) rfl ?_
      refine V.sipush (n := 40) d_Tr_canGrow_37 (by decide) rfl ?_
      refine V.aload_n (n := 41) d_Tr_canGrow_40 rfl rfl ?_
      refine V.getI (n := 44) d_Tr_canGrow_41 f_Tr_49 (by assumption) rfl rfl ?_
      refine V.isub (n := 45) d_Tr_canGrow_44 rfl ?_
      refine V.icmp_gt (n2 := 52) (n := 48) d_Tr_canGrow_45 (by omega) (by omega) (by decide) rfl (fun h3 => ?_) (fun h3 => ?_)
      · rw [bi_f (by omega)] at hP
        refine V.iconst (n := 53) d_Tr_canGrow_52 rfl ?_
        refine V.iret d_Tr_canGrow_53 ⟨_, rfl, rfl⟩ ?_
        exact hP _ _ ⟨rfl, rfl, rfl⟩
      · rw [bi_t ⟨hb, h2, by omega⟩] at hP
        refine V.iconst (n := 49) d_Tr_canGrow_48 rfl ?_
        refine V.goto (n := 53) d_Tr_canGrow_49 (by decide) ?_
        refine V.iret d_Tr_canGrow_53 ⟨_, rfl, rfl⟩ ?_
        exact hP _ _ ⟨rfl, rfl, rfl⟩
    · rw [bi_f (fun x => h2 x.2.1)] at hP
      refine V.iconst (n := 15) d_Tr_canGrow_14 rfl ?_
      refine V.iret d_Tr_canGrow_15 ⟨_, rfl, rfl⟩ ?_
      exact hP _ _ ⟨rfl, rfl, rfl⟩
theorem c_Tr_leastOfChildren {row c : Nat} (hT : isTree G t g) (hrow : isRow G row c 200) (h0 : 0 ≤ n) (h1 : n < 200) (h5 : 0 ≤ μ (t + 12) n) (h6 : -5 ≤ μ (t + 14) n) (h7 : μ (t + 14) n + μ (t + 12) n ≤ 200) (h8 : 0 < μ (t + 12) n → 0 ≤ μ (t + 14) n) (hx : ∀ j : Int, 0 ≤ j → j < 200 → 0 ≤ μ c j ∧ μ c j ≤ 9999) : KV E l 2 m_Tr_leastOfChildren t [rI n, rA E row] G μ 0 0 (dq (some (rI (mn (μ c) (μ (t + 14) n) (μ (t + 12) n).toNat))) G μ) := by
  have hT0 := hT
  obtain ⟨t0, t1, t2, t3, t4, t5, t6, t7, t8⟩ := hT
  refine ⟨KC.ofP q_Tr_leastOfChildren.1 rfl (Nat.le_of_ble_eq_true rfl) rfl (fun Post NT ST hP => ?_), ⟨_, _, _, t0, rfl, rfl⟩, q_Tr_leastOfChildren, by decide⟩
  refine V.aload_n (n := 1) d_Tr_leastOfChildren_0 rfl rfl ?_
  refine V.iload_n (n := 2) d_Tr_leastOfChildren_1 rfl rfl ?_
  refine V.cVi (n := 5) d_Tr_leastOfChildren_2 k_Tr_106 (c_Tr_endOfChildren (by assumption) (by omega) (by omega)) rfl rfl (by decide) rfl ?_
  refine V.istore_n (n := 6) d_Tr_leastOfChildren_5 (by decide) rfl ?_
  refine V.sipush (n := 9) d_Tr_leastOfChildren_6 (by decide) rfl ?_
  refine V.istore (n := 11) d_Tr_leastOfChildren_9 (by decide) rfl ?_
  refine V.aload_n (n := 12) d_Tr_leastOfChildren_11 rfl rfl ?_
  refine V.getA (n := 15) d_Tr_leastOfChildren_12 f_Tr_35 (by assumption) rfl rfl ?_
  refine V.iload_n (n := 16) d_Tr_leastOfChildren_15 rfl rfl ?_
  refine V.cVi (n := 19) d_Tr_leastOfChildren_16 k_Tr_53 (c_Rw_get (by assumption) (by omega) (by omega)) rfl rfl (by decide) rfl ?_
  refine V.istore (n := 21) d_Tr_leastOfChildren_19 (by decide) rfl ?_
  have loop : ∀ (k j : Nat), (j : Int) + k = μ (t + 12) n → 0 ≤ mn (μ c) (μ (t + 14) n) j → mn (μ c) (μ (t + 14) n) j ≤ 9999 → V E l m_Tr_leastOfChildren none 2 NT ST Post 21 [(5, rI (μ (t + 14) n + j)), (4, rI (mn (μ c) (μ (t + 14) n) j)), (3, rI (μ (t + 14) n + μ (t + 12) n)), (2, rA E row), (1, rI n), (0, rA E t)] [] G μ := by
    intro k
    induction k with
    | zero =>
      intro j hj m0 m1
      rw [show (μ (t + 12) n).toNat = j by omega] at hP
      refine V.iload (n := 23) d_Tr_leastOfChildren_21 rfl rfl ?_
      refine V.iload_n (n := 24) d_Tr_leastOfChildren_23 rfl rfl ?_
      refine V.icmp_geT (n2 := 46) d_Tr_leastOfChildren_24 (by omega) (by omega) (by omega) (by decide) ?_
      refine V.iload (n := 48) d_Tr_leastOfChildren_46 rfl rfl ?_
      refine V.iret d_Tr_leastOfChildren_48 ⟨_, rfl, rfl⟩ ?_
      exact hP _ _ ⟨rfl, rfl, rfl⟩
    | succ k ih =>
      intro j hj m0 m1
      have hc := hx (μ (t + 14) n + j) (by omega) (by omega)
      refine V.iload (n := 23) d_Tr_leastOfChildren_21 rfl rfl ?_
      refine V.iload_n (n := 24) d_Tr_leastOfChildren_23 rfl rfl ?_
      refine V.icmp_geF (n := 27) d_Tr_leastOfChildren_24 (by omega) (by omega) (by omega) rfl ⟨46, by decide⟩ ?_
      refine V.iload (n := 29) d_Tr_leastOfChildren_27 rfl rfl ?_
      refine V.aload_n (n := 30) d_Tr_leastOfChildren_29 rfl rfl ?_
      refine V.iload (n := 32) d_Tr_leastOfChildren_30 rfl rfl ?_
      refine V.cVi (n := 35) d_Tr_leastOfChildren_32 k_Tr_53 (c_Rw_get (by assumption) (by omega) (by omega)) rfl rfl (by decide) rfl ?_
      refine V.mmin (n := 38) d_Tr_leastOfChildren_35 k_Tr_142 (by omega) (by omega) rfl (by decide) rfl ?_
      refine V.istore (n := 40) d_Tr_leastOfChildren_38 (by decide) rfl ?_
      refine V.iinc (n := 43) d_Tr_leastOfChildren_40 rfl (by decide) rfl ?_
      refine V.goto (n := 21) d_Tr_leastOfChildren_43 (by decide) ?_
      have hs : mn (μ c) (μ (t + 14) n) (j + 1) = min (mn (μ c) (μ (t + 14) n) j) (μ c (μ (t + 14) n + j)) := rfl
      have hx2 := ih (j + 1) (by omega) (by omega) (by omega)
      rw [hs, show μ (t + 14) n + ((j + 1 : Nat) : Int) = μ (t + 14) n + j + 1 by omega] at hx2
      refine V.loc (lo' := [(5, rI (μ (t + 14) n + j + 1)), (4, rI (min (mn (μ c) (μ (t + 14) n) j) (μ c (μ (t + 14) n + j)))), (3, rI (μ (t + 14) n + μ (t + 12) n)), (2, rA E row), (1, rI n), (0, rA E t)]) ⟨rfl, rfl, rfl, rfl, rfl, rfl, trivial⟩ ?_
      exact hx2
  have hl := loop (μ (t + 12) n).toNat 0 (by omega) (by show (0 : Int) ≤ 9999; omega) (by show (9999 : Int) ≤ 9999; omega)
  rw [show μ (t + 14) n + ((0 : Nat) : Int) = μ (t + 14) n by omega] at hl
  refine V.loc (lo' := [(5, rI (μ (t + 14) n)), (4, rI 9999), (3, rI (μ (t + 14) n + μ (t + 12) n)), (2, rA E row), (1, rI n), (0, rA E t)]) ⟨rfl, rfl, rfl, rfl, rfl, rfl, trivial⟩ ?_
  exact hl
theorem c_Tr_sumOfChildren {row c : Nat} (hT : isTree G t g) (hrow : isRow G row c 200) (h0 : 0 ≤ n) (h1 : n < 200) (h5 : 0 ≤ μ (t + 12) n) (h6 : -5 ≤ μ (t + 14) n) (h7 : μ (t + 14) n + μ (t + 12) n ≤ 200) (h8 : 0 < μ (t + 12) n → 0 ≤ μ (t + 14) n) (hx : ∀ j : Int, 0 ≤ j → j < 200 → 0 ≤ μ c j ∧ μ c j ≤ 9999) : KV E l 2 m_Tr_sumOfChildren t [rI n, rA E row] G μ 0 0 (dq (some (rI (sm (μ c) (μ (t + 14) n) (μ (t + 12) n).toNat))) G μ) := by
  have hT0 := hT
  obtain ⟨t0, t1, t2, t3, t4, t5, t6, t7, t8⟩ := hT
  refine ⟨KC.ofP q_Tr_sumOfChildren.1 rfl (Nat.le_of_ble_eq_true rfl) rfl (fun Post NT ST hP => ?_), ⟨_, _, _, t0, rfl, rfl⟩, q_Tr_sumOfChildren, by decide⟩
  refine V.aload_n (n := 1) d_Tr_sumOfChildren_0 rfl rfl ?_
  refine V.iload_n (n := 2) d_Tr_sumOfChildren_1 rfl rfl ?_
  refine V.cVi (n := 5) d_Tr_sumOfChildren_2 k_Tr_106 (c_Tr_endOfChildren (by assumption) (by omega) (by omega)) rfl rfl (by decide) rfl ?_
  refine V.istore_n (n := 6) d_Tr_sumOfChildren_5 (by decide) rfl ?_
  refine V.iconst (n := 7) d_Tr_sumOfChildren_6 rfl ?_
  refine V.istore (n := 9) d_Tr_sumOfChildren_7 (by decide) rfl ?_
  refine V.aload_n (n := 10) d_Tr_sumOfChildren_9 rfl rfl ?_
  refine V.getA (n := 13) d_Tr_sumOfChildren_10 f_Tr_35 (by assumption) rfl rfl ?_
  refine V.iload_n (n := 14) d_Tr_sumOfChildren_13 rfl rfl ?_
  refine V.cVi (n := 17) d_Tr_sumOfChildren_14 k_Tr_53 (c_Rw_get (by assumption) (by omega) (by omega)) rfl rfl (by decide) rfl ?_
  refine V.istore (n := 19) d_Tr_sumOfChildren_17 (by decide) rfl ?_
  have loop : ∀ (k j : Nat), (j : Int) + k = μ (t + 12) n → 0 ≤ sm (μ c) (μ (t + 14) n) j → sm (μ c) (μ (t + 14) n) j ≤ 9999 → V E l m_Tr_sumOfChildren none 2 NT ST Post 19 [(5, rI (μ (t + 14) n + j)), (4, rI (sm (μ c) (μ (t + 14) n) j)), (3, rI (μ (t + 14) n + μ (t + 12) n)), (2, rA E row), (1, rI n), (0, rA E t)] [] G μ := by
    intro k
    induction k with
    | zero =>
      intro j hj m0 m1
      rw [show (μ (t + 12) n).toNat = j by omega] at hP
      refine V.iload (n := 21) d_Tr_sumOfChildren_19 rfl rfl ?_
      refine V.iload_n (n := 22) d_Tr_sumOfChildren_21 rfl rfl ?_
      refine V.icmp_geT (n2 := 48) d_Tr_sumOfChildren_22 (by omega) (by omega) (by omega) (by decide) ?_
      refine V.iload (n := 50) d_Tr_sumOfChildren_48 rfl rfl ?_
      refine V.iret d_Tr_sumOfChildren_50 ⟨_, rfl, rfl⟩ ?_
      exact hP _ _ ⟨rfl, rfl, rfl⟩
    | succ k ih =>
      intro j hj m0 m1
      have hc := hx (μ (t + 14) n + j) (by omega) (by omega)
      refine V.iload (n := 21) d_Tr_sumOfChildren_19 rfl rfl ?_
      refine V.iload_n (n := 22) d_Tr_sumOfChildren_21 rfl rfl ?_
      refine V.icmp_geF (n := 25) d_Tr_sumOfChildren_22 (by omega) (by omega) (by omega) rfl ⟨48, by decide⟩ ?_
      refine V.sipush (n := 28) d_Tr_sumOfChildren_25 (by decide) rfl ?_
      refine V.iload (n := 30) d_Tr_sumOfChildren_28 rfl rfl ?_
      refine V.aload_n (n := 31) d_Tr_sumOfChildren_30 rfl rfl ?_
      refine V.iload (n := 33) d_Tr_sumOfChildren_31 rfl rfl ?_
      refine V.cVi (n := 36) d_Tr_sumOfChildren_33 k_Tr_53 (c_Rw_get (by assumption) (by omega) (by omega)) rfl rfl (by decide) rfl ?_
      refine V.iadd (n := 37) d_Tr_sumOfChildren_36 rfl ?_
      refine V.mmin (n := 40) d_Tr_sumOfChildren_37 k_Tr_142 (by omega) (by omega) rfl (by decide) rfl ?_
      refine V.istore (n := 42) d_Tr_sumOfChildren_40 (by decide) rfl ?_
      refine V.iinc (n := 45) d_Tr_sumOfChildren_42 rfl (by decide) rfl ?_
      refine V.goto (n := 19) d_Tr_sumOfChildren_45 (by decide) ?_
      have hs : sm (μ c) (μ (t + 14) n) (j + 1) = min 9999 (sm (μ c) (μ (t + 14) n) j + μ c (μ (t + 14) n + j)) := rfl
      have hx2 := ih (j + 1) (by omega) (by omega) (by omega)
      rw [hs, show μ (t + 14) n + ((j + 1 : Nat) : Int) = μ (t + 14) n + j + 1 by omega] at hx2
      refine V.loc (lo' := [(5, rI (μ (t + 14) n + j + 1)), (4, rI (min 9999 (sm (μ c) (μ (t + 14) n) j + μ c (μ (t + 14) n + j)))), (3, rI (μ (t + 14) n + μ (t + 12) n)), (2, rA E row), (1, rI n), (0, rA E t)]) ⟨rfl, rfl, rfl, rfl, rfl, rfl, trivial⟩ ?_
      exact hx2
  have hl := loop (μ (t + 12) n).toNat 0 (by omega) (by show (0 : Int) ≤ 0; omega) (by show (0 : Int) ≤ 9999; omega)
  rw [show μ (t + 14) n + ((0 : Nat) : Int) = μ (t + 14) n by omega] at hl
  refine V.loc (lo' := [(5, rI (μ (t + 14) n)), (4, rI 0), (3, rI (μ (t + 14) n + μ (t + 12) n)), (2, rA E row), (1, rI n), (0, rA E t)]) ⟨rfl, rfl, rfl, rfl, rfl, rfl, trivial⟩ ?_
  exact hl
end CTX
end
section
/-! THE CLASS: trees, costs worked out, a leaf opened, counts, copies -/
/-- the costs of n worked out anew -/
def woM (t g : Nat) (μ : MU) (n : Int) : MU :=
  wr (wr μ (t + 8) n (if μ (g + 2) (μ (t + 2) n) = 0 then mn (μ (t + 8)) (μ (t + 14) n) (μ (t + 12) n).toNat else sm (μ (t + 8)) (μ (t + 14) n) (μ (t + 12) n).toNat)) (t + 10) n (if μ (g + 2) (μ (t + 2) n) = 0 then sm (μ (t + 10)) (μ (t + 14) n) (μ (t + 12) n).toNat else mn (μ (t + 10)) (μ (t + 14) n) (μ (t + 12) n).toNat)
/-- and of those above it -/
def wuM (t g : Nat) : Nat → Int → MU → MU
  | 0, _, μ => μ
  | k + 1, n, μ => if n < 0 then μ else wuM t g k (μ (t + 4) n) (woM t g μ n)
theorem wuM_s (t g k : Nat) (n : Int) (μ : MU) : wuM t g (k + 1) n μ = if n < 0 then μ else wuM t g k (μ (t + 4) n) (woM t g μ n) := rfl
theorem wuM_neg {t g : Nat} {n : Int} {μ : MU} (h : n < 0) : ∀ k, wuM t g k n μ = μ
  | 0 => rfl
  | k + 1 => by rw [wuM_s, if_pos h]
theorem mn_in {c : Int → Int} {lo : Int} : ∀ {k : Nat}, (∀ j : Nat, j < k → 0 ≤ c (lo + j) ∧ c (lo + j) ≤ 9999) → 0 ≤ mn c lo k ∧ mn c lo k ≤ 9999
  | 0, _ => ⟨by show (0 : Int) ≤ 9999; omega, by show (9999 : Int) ≤ 9999; omega⟩
  | k + 1, h => by
    have h1 := mn_in (k := k) (fun j hj => h j (by omega))
    have h2 := h k (by omega)
    show 0 ≤ min (mn c lo k) (c (lo + k)) ∧ min (mn c lo k) (c (lo + k)) ≤ 9999
    omega
theorem sm_in {c : Int → Int} {lo : Int} : ∀ {k : Nat}, (∀ j : Nat, j < k → 0 ≤ c (lo + j) ∧ c (lo + j) ≤ 9999) → 0 ≤ sm c lo k ∧ sm c lo k ≤ 9999
  | 0, _ => ⟨by show (0 : Int) ≤ 0; omega, by show (0 : Int) ≤ 9999; omega⟩
  | k + 1, h => by
    have h1 := sm_in (k := k) (fun j hj => h j (by omega))
    have h2 := h k (by omega)
    show 0 ≤ min 9999 (sm c lo k + c (lo + k)) ∧ min 9999 (sm c lo k + c (lo + k)) ≤ 9999
    omega
theorem woM_off {t g : Nat} {μ : MU} {n : Int} {b : Nat} (h1 : ¬ b = t + 8) (h2 : ¬ b = t + 10) : woM t g μ n b = μ b := by
  unfold woM
  rw [wr_a h2, wr_a h1]
theorem woM_X {t g : Nat} {μ : MU} {n : Int} (hx : okX (μ (t + 8)) (μ (t + 10))) (h0 : -5 ≤ μ (t + 14) n) (h1 : 0 < μ (t + 12) n → 0 ≤ μ (t + 14) n) (h2 : μ (t + 14) n + μ (t + 12) n ≤ 200) : okX (woM t g μ n (t + 8)) (woM t g μ n (t + 10)) := by
  intro j j0 j1
  have a1 := mn_in (c := μ (t + 8)) (lo := μ (t + 14) n) (k := (μ (t + 12) n).toNat) (fun j hj => by have := hx (μ (t + 14) n + j) (by omega) (by omega); omega)
  have a2 := mn_in (c := μ (t + 10)) (lo := μ (t + 14) n) (k := (μ (t + 12) n).toNat) (fun j hj => by have := hx (μ (t + 14) n + j) (by omega) (by omega); omega)
  have a3 := sm_in (c := μ (t + 8)) (lo := μ (t + 14) n) (k := (μ (t + 12) n).toNat) (fun j hj => by have := hx (μ (t + 14) n + j) (by omega) (by omega); omega)
  have a4 := sm_in (c := μ (t + 10)) (lo := μ (t + 14) n) (k := (μ (t + 12) n).toNat) (fun j hj => by have := hx (μ (t + 14) n + j) (by omega) (by omega); omega)
  have a5 := hx j j0 j1
  unfold woM
  rw [wr_a (show ¬ t + 8 = t + 10 by omega), wr_v, wr_v, wr_a (show ¬ t + 10 = t + 8 by omega)]
  refine ⟨?_, ?_, ?_, ?_⟩
  · by_cases hj : j = n
    · rw [if_pos hj]; split <;> omega
    · rw [if_neg hj]; omega
  · by_cases hj : j = n
    · rw [if_pos hj]; split <;> omega
    · rw [if_neg hj]; omega
  · by_cases hj : j = n
    · rw [if_pos hj]; split <;> omega
    · rw [if_neg hj]; omega
  · by_cases hj : j = n
    · rw [if_pos hj]; split <;> omega
    · rw [if_neg hj]; omega
section CTZ
variable {E : EV} {l : Launch} {G : GG} {μ : MU} {g t h : Nat} {n p q a b : Int}
theorem c_Tr_workOut (hT : isTree G t g) (hG : isGame G g) (h0 : 0 ≤ n) (h1 : n < 200) (h2 : 0 ≤ μ (t + 2) n) (h3 : μ (t + 2) n < 20) (h4 : inR (μ (g + 2) (μ (t + 2) n))) (h5 : 0 ≤ μ (t + 12) n) (h6 : -5 ≤ μ (t + 14) n) (h7 : μ (t + 14) n + μ (t + 12) n ≤ 200) (h8 : 0 < μ (t + 12) n → 0 ≤ μ (t + 14) n) (hx : okX (μ (t + 8)) (μ (t + 10))) : KV E l 3 m_Tr_workOut t [rI n] G μ 0 0 (dq none G (woM t g μ n)) := by
  have hT0 := hT
  have hG0 := hG
  obtain ⟨t0, t1, t2, t3, t4, t5, t6, t7, t8⟩ := hT
  have x1 : ∀ j : Int, 0 ≤ j → j < 200 → 0 ≤ μ (t + 8) j ∧ μ (t + 8) j ≤ 9999 := fun j j0 j1 => by have := hx j j0 j1; omega
  have x2 : ∀ j : Int, 0 ≤ j → j < 200 → 0 ≤ μ (t + 10) j ∧ μ (t + 10) j ≤ 9999 := fun j j0 j1 => by have := hx j j0 j1; omega
  refine ⟨KC.ofP q_Tr_workOut.1 rfl (Nat.le_of_ble_eq_true rfl) rfl (fun Post NT ST hP => ?_), ⟨_, _, _, t0, rfl, rfl⟩, q_Tr_workOut, by decide⟩
  refine V.aload_n (n := 1) d_Tr_workOut_0 rfl rfl ?_
  refine V.iload_n (n := 2) d_Tr_workOut_1 rfl rfl ?_
  refine V.cVi (n := 5) d_Tr_workOut_2 k_Tr_103 (c_Tr_turnAt (by assumption) (by assumption) (by omega) (by omega) (by omega) (by omega)) rfl rfl (by decide) rfl ?_
  refine V.if_ne (n2 := 34) (n := 8) d_Tr_workOut_5 (by omega) (by decide) rfl (fun h9 => ?_) (fun h9 => ?_)
  · refine V.aload_n (n := 35) d_Tr_workOut_34 rfl rfl ?_
    refine V.iload_n (n := 36) d_Tr_workOut_35 rfl rfl ?_
    refine V.aload_n (n := 37) d_Tr_workOut_36 rfl rfl ?_
    refine V.iload_n (n := 38) d_Tr_workOut_37 rfl rfl ?_
    refine V.aload_n (n := 39) d_Tr_workOut_38 rfl rfl ?_
    refine V.getA (n := 42) d_Tr_workOut_39 f_Tr_26 (by assumption) rfl rfl ?_
    refine V.cVi (n := 45) d_Tr_workOut_42 k_Tr_139 (c_Tr_sumOfChildren hT0 t4 h0 h1 h5 h6 h7 h8 x1) rfl rfl (by decide) rfl ?_
    refine V.aload_n (n := 46) d_Tr_workOut_45 rfl rfl ?_
    refine V.iload_n (n := 47) d_Tr_workOut_46 rfl rfl ?_
    refine V.aload_n (n := 48) d_Tr_workOut_47 rfl rfl ?_
    refine V.getA (n := 51) d_Tr_workOut_48 f_Tr_29 (by assumption) rfl rfl ?_
    refine V.cVi (n := 54) d_Tr_workOut_51 k_Tr_135 (c_Tr_leastOfChildren hT0 t5 h0 h1 h5 h6 h7 h8 x2) rfl rfl (by decide) rfl ?_
    refine V.cVv (n := 57) d_Tr_workOut_54 k_Tr_90 (c_Tr_setCosts (by assumption) (by omega) (by omega)) rfl rfl (by decide) rfl ?_
    refine V.vret d_Tr_workOut_57 rfl ?_
    refine hP _ _ ⟨rfl, rfl, ?_⟩
    unfold woM
    rw [if_neg h9, if_neg h9]
  · refine V.aload_n (n := 9) d_Tr_workOut_8 rfl rfl ?_
    refine V.iload_n (n := 10) d_Tr_workOut_9 rfl rfl ?_
    refine V.aload_n (n := 11) d_Tr_workOut_10 rfl rfl ?_
    refine V.iload_n (n := 12) d_Tr_workOut_11 rfl rfl ?_
    refine V.aload_n (n := 13) d_Tr_workOut_12 rfl rfl ?_
    refine V.getA (n := 16) d_Tr_workOut_13 f_Tr_26 (by assumption) rfl rfl ?_
    refine V.cVi (n := 19) d_Tr_workOut_16 k_Tr_135 (c_Tr_leastOfChildren hT0 t4 h0 h1 h5 h6 h7 h8 x1) rfl rfl (by decide) rfl ?_
    refine V.aload_n (n := 20) d_Tr_workOut_19 rfl rfl ?_
    refine V.iload_n (n := 21) d_Tr_workOut_20 rfl rfl ?_
    refine V.aload_n (n := 22) d_Tr_workOut_21 rfl rfl ?_
    refine V.getA (n := 25) d_Tr_workOut_22 f_Tr_29 (by assumption) rfl rfl ?_
    refine V.cVi (n := 28) d_Tr_workOut_25 k_Tr_139 (c_Tr_sumOfChildren hT0 t5 h0 h1 h5 h6 h7 h8 x2) rfl rfl (by decide) rfl ?_
    refine V.cVv (n := 31) d_Tr_workOut_28 k_Tr_90 (c_Tr_setCosts (by assumption) (by omega) (by omega)) rfl rfl (by decide) rfl ?_
    refine V.goto (n := 57) d_Tr_workOut_31 (by decide) ?_
    refine V.vret d_Tr_workOut_57 rfl ?_
    refine hP _ _ ⟨rfl, rfl, ?_⟩
    unfold woM
    rw [if_pos h9, if_pos h9]
theorem c_Tr_workOutFrom (hT : isTree G t g) (hG : isGame G g) (hgt : t + 16 < g ∨ g + 12 < t) (hg : okG μ g) (hs0 : 0 ≤ μ t 9) (hs1 : μ t 9 ≤ 200) (hn : n = -5 ∨ (0 ≤ n ∧ n < μ t 9)) (hp : okP (μ (t + 2)) (μ (t + 4)) (μ t 9)) (hc : okC (μ t 9) (μ (t + 2)) (μ (t + 12)) (μ (t + 14))) (hx : okX (μ (t + 8)) (μ (t + 10))) : KV E l 4 m_Tr_workOutFrom t [rI n] G μ 0 0 (dq none G (wuM t g 200 n μ)) := by
  have hT0 := hT
  have hG0 := hG
  obtain ⟨t0, t1, t2, t3, t4, t5, t6, t7, t8⟩ := hT
  refine ⟨KC.ofP q_Tr_workOutFrom.1 rfl (Nat.le_of_ble_eq_true rfl) rfl (fun Post NT ST hP => ?_), ⟨_, _, _, t0, rfl, rfl⟩, q_Tr_workOutFrom, by decide⟩
  refine V.iload_n (n := 1) d_Tr_workOutFrom_0 rfl rfl ?_
  refine V.istore_n (n := 2) d_Tr_workOutFrom_1 (by decide) rfl ?_
  refine V.iconst (n := 3) d_Tr_workOutFrom_2 rfl ?_
  refine V.istore_n (n := 4) d_Tr_workOutFrom_3 (by decide) rfl ?_
  have loop : ∀ (k : Nat) (i m : Int) (ν : MU), i + k = 200 → 0 ≤ i → (m = -5 ∨ (0 ≤ m ∧ m < μ t 9 ∧ m < k)) → (∀ b, ¬ b = t + 8 → ¬ b = t + 10 → ν b = μ b) → okX (ν (t + 8)) (ν (t + 10)) → wuM t g 200 n μ = wuM t g k m ν → V E l m_Tr_workOutFrom none 4 NT ST Post 4 [(3, rI i), (2, rI m), (1, rI n), (0, rA E t)] [] G ν := by
    intro k
    induction k with
    | zero =>
      intro i m ν hk hi hm ho hxx he
      rw [he] at hP
      refine V.iload_n (n := 5) d_Tr_workOutFrom_4 rfl rfl ?_
      refine V.sipush (n := 8) d_Tr_workOutFrom_5 (by decide) rfl ?_
      refine V.icmp_geT (n2 := 39) d_Tr_workOutFrom_8 (by omega) (by omega) (by omega) (by decide) ?_
      refine V.vret d_Tr_workOutFrom_39 rfl ?_
      exact hP _ _ ⟨rfl, rfl, rfl⟩
    | succ k ih =>
      intro i m ν hk hi hm ho hxx he
      have e9 : ν t 9 = μ t 9 := by rw [ho t (by omega) (by omega)]
      have f2 : ν (t + 2) = μ (t + 2) := ho _ (by omega) (by omega)
      have f4 : ν (t + 4) = μ (t + 4) := ho _ (by omega) (by omega)
      have f12 : ν (t + 12) = μ (t + 12) := ho _ (by omega) (by omega)
      have f14 : ν (t + 14) = μ (t + 14) := ho _ (by omega) (by omega)
      have fg2 : ν (g + 2) = μ (g + 2) := ho _ (by omega) (by omega)
      refine V.iload_n (n := 5) d_Tr_workOutFrom_4 rfl rfl ?_
      refine V.sipush (n := 8) d_Tr_workOutFrom_5 (by decide) rfl ?_
      refine V.icmp_geF (n := 11) d_Tr_workOutFrom_8 (by omega) (by omega) (by omega) rfl ⟨39, by decide⟩ ?_
      refine V.aload_n (n := 12) d_Tr_workOutFrom_11 rfl rfl ?_
      refine V.iload_n (n := 13) d_Tr_workOutFrom_12 rfl rfl ?_
      refine V.cVi (n := 16) d_Tr_workOutFrom_13 k_Tr_76 (c_Tr_has (by assumption) (by omega) (by omega)) rfl rfl (by decide) rfl ?_
      rw [e9]
      rcases bi_or (0 ≤ m ∧ m < μ t 9) with ⟨hb, e⟩ | ⟨hb, e⟩ <;> rw [e]
      · have h1 := hp m hb.1 hb.2
        have h2 := hc m hb.1 hb.2
        have h3 := hg (μ (t + 2) m) h1.1 h1.2.1
        have hX := woM_X (t := t) (g := g) (μ := ν) (n := m) hxx (by rw [f14]; omega) (by rw [f14, f12]; omega) (by rw [f14, f12]; omega)
        refine V.if_eqF (n := 19) d_Tr_workOutFrom_16 (by omega) (by omega) rfl ⟨39, by decide⟩ ?_
        refine V.aload_n (n := 20) d_Tr_workOutFrom_19 rfl rfl ?_
        refine V.iload_n (n := 21) d_Tr_workOutFrom_20 rfl rfl ?_
        refine V.cVv (n := 24) d_Tr_workOutFrom_21 k_Tr_132 (c_Tr_workOut hT0 hG0 (by omega) (by omega) (by rw [f2]; omega) (by rw [f2]; omega) (by rw [f2, fg2]; omega) (by rw [f12]; omega) (by rw [f14]; omega) (by rw [f14, f12]; omega) (by rw [f14, f12]; omega) hxx) rfl rfl (by decide) rfl ?_
        refine V.aload_n (n := 25) d_Tr_workOutFrom_24 rfl rfl ?_
        refine V.getA (n := 28) d_Tr_workOutFrom_25 f_Tr_20 (by assumption) rfl rfl ?_
        refine V.iload_n (n := 29) d_Tr_workOutFrom_28 rfl rfl ?_
        refine V.cVi (n := 32) d_Tr_workOutFrom_29 k_Tr_53 (c_Rw_get (by assumption) (by omega) (by omega)) rfl rfl (by decide) rfl ?_
        refine V.istore_n (n := 33) d_Tr_workOutFrom_32 (by decide) rfl ?_
        refine V.iinc (n := 36) d_Tr_workOutFrom_33 rfl (by decide) rfl ?_
        refine V.goto (n := 4) d_Tr_workOutFrom_36 (by decide) ?_
        rw [woM_off (show ¬ t + 4 = t + 8 by omega) (by omega), f4]
        refine V.loc (lo' := [(3, rI (i + 1)), (2, rI (μ (t + 4) m)), (1, rI n), (0, rA E t)]) ⟨rfl, rfl, rfl, rfl, trivial⟩ ?_
        refine ih (i + 1) _ _ (by omega) (by omega) ?_ (fun b b1 b2 => by rw [woM_off b1 b2, ho b b1 b2]) hX (by rw [he, wuM_s, if_neg (by omega), f4])
        by_cases hz : m = 0
        · exact Or.inl (h1.2.2.1 hz)
        · have := h1.2.2.2 (by omega)
          exact Or.inr (by omega)
      · have hm5 : m = -5 := by omega
        rw [he, wuM_neg (by omega)] at hP
        refine V.if_eqT (n2 := 39) d_Tr_workOutFrom_16 (by omega) (by omega) (by decide) ?_
        refine V.vret d_Tr_workOutFrom_39 rfl ?_
        exact hP _ _ ⟨rfl, rfl, rfl⟩
  refine V.loc (lo' := [(3, rI 0), (2, rI n), (1, rI n), (0, rA E t)]) ⟨rfl, rfl, rfl, rfl, trivial⟩ ?_
  exact loop 200 0 n μ (by omega) (by omega) (by omega) (fun _ _ _ => rfl) hx rfl
/-- a column's sum over the nodes before k, of what a function makes of each -/
def cs (f : Int → Int) : Nat → Int
  | 0 => 0
  | k + 1 => cs f k + f k
/-- the greatest of a column before k -/
def mxc (f : Int → Int) : Nat → Int
  | 0 => 0
  | k + 1 => max (mxc f k) (f k)
theorem cs_s (f : Int → Int) (k : Nat) : cs f (k + 1) = cs f k + f k := rfl
theorem mxc_s (f : Int → Int) (k : Nat) : mxc f (k + 1) = max (mxc f k) (f k) := rfl
theorem c_Tr_loopCount (hT : isTree G t g) (hs0 : 0 ≤ μ t 9) (hs1 : μ t 9 ≤ 200) : KV E l 1 m_Tr_loopCount t [] G μ 0 0 (dq (some (rI (cs (μ (t + 16)) (μ t 9).toNat))) G μ) := by
  have hT0 := hT
  obtain ⟨t0, t1, t2, t3, t4, t5, t6, t7, t8⟩ := hT
  refine ⟨KC.ofP q_Tr_loopCount.1 rfl (Nat.le_of_ble_eq_true rfl) rfl (fun Post NT ST hP => ?_), ⟨_, _, _, t0, rfl, rfl⟩, q_Tr_loopCount, by decide⟩
  refine V.iconst (n := 1) d_Tr_loopCount_0 rfl ?_
  refine V.istore_n (n := 2) d_Tr_loopCount_1 (by decide) rfl ?_
  refine V.iconst (n := 3) d_Tr_loopCount_2 rfl ?_
  refine V.istore_n (n := 4) d_Tr_loopCount_3 (by decide) rfl ?_
  have loop : ∀ (k j : Nat), (j : Int) + k = μ t 9 → V E l m_Tr_loopCount none 1 NT ST Post 4 [(2, rI j), (1, rI (cs (μ (t + 16)) j)), (0, rA E t)] [] G μ := by
    intro k
    induction k with
    | zero =>
      intro j hj
      rw [show (μ t 9).toNat = j by omega] at hP
      refine V.iload_n (n := 5) d_Tr_loopCount_4 rfl rfl ?_
      refine V.aload_n (n := 6) d_Tr_loopCount_5 rfl rfl ?_
      refine V.getI (n := 9) d_Tr_loopCount_6 f_Tr_49 (by assumption) rfl rfl ?_
      refine V.icmp_geT (n2 := 29) d_Tr_loopCount_9 (by omega) (by omega) (by omega) (by decide) ?_
      refine V.iload_n (n := 30) d_Tr_loopCount_29 rfl rfl ?_
      refine V.iret d_Tr_loopCount_30 ⟨_, rfl, rfl⟩ ?_
      exact hP _ _ ⟨rfl, rfl, rfl⟩
    | succ k ih =>
      intro j hj
      refine V.iload_n (n := 5) d_Tr_loopCount_4 rfl rfl ?_
      refine V.aload_n (n := 6) d_Tr_loopCount_5 rfl rfl ?_
      refine V.getI (n := 9) d_Tr_loopCount_6 f_Tr_49 (by assumption) rfl rfl ?_
      refine V.icmp_geF (n := 12) d_Tr_loopCount_9 (by omega) (by omega) (by omega) rfl ⟨29, by decide⟩ ?_
      refine V.iload_n (n := 13) d_Tr_loopCount_12 rfl rfl ?_
      refine V.aload_n (n := 14) d_Tr_loopCount_13 rfl rfl ?_
      refine V.getA (n := 17) d_Tr_loopCount_14 f_Tr_38 (by assumption) rfl rfl ?_
      refine V.iload_n (n := 18) d_Tr_loopCount_17 rfl rfl ?_
      refine V.cVi (n := 21) d_Tr_loopCount_18 k_Tr_53 (c_Rw_get (by assumption) (by omega) (by omega)) rfl rfl (by decide) rfl ?_
      refine V.iadd (n := 22) d_Tr_loopCount_21 rfl ?_
      refine V.istore_n (n := 23) d_Tr_loopCount_22 (by decide) rfl ?_
      refine V.iinc (n := 26) d_Tr_loopCount_23 rfl (by decide) rfl ?_
      refine V.goto (n := 4) d_Tr_loopCount_26 (by decide) ?_
      have hx := ih (j + 1) (by omega)
      rw [cs_s, show ((j + 1 : Nat) : Int) = (j : Int) + 1 by omega] at hx
      refine V.loc (lo' := [(2, rI ((j : Int) + 1)), (1, rI (cs (μ (t + 16)) j + μ (t + 16) j)), (0, rA E t)]) ⟨rfl, rfl, rfl, trivial⟩ ?_
      exact hx
  have hl := loop (μ t 9).toNat 0 (by omega)
  refine V.loc (lo' := [(2, rI 0), (1, rI 0), (0, rA E t)]) ⟨rfl, rfl, rfl, trivial⟩ ?_
  exact hl
theorem c_Tr_openedCount (hT : isTree G t g) (hs0 : 0 ≤ μ t 9) (hs1 : μ t 9 ≤ 200) (hc : ∀ j : Int, 0 ≤ j → j < μ t 9 → inR (μ (t + 12) j)) : KV E l 2 m_Tr_openedCount t [] G μ 0 0 (dq (some (rI (cs (fun j => bi (¬ μ (t + 12) j = 0)) (μ t 9).toNat))) G μ) := by
  have hT0 := hT
  obtain ⟨t0, t1, t2, t3, t4, t5, t6, t7, t8⟩ := hT
  refine ⟨KC.ofP q_Tr_openedCount.1 rfl (Nat.le_of_ble_eq_true rfl) rfl (fun Post NT ST hP => ?_), ⟨_, _, _, t0, rfl, rfl⟩, q_Tr_openedCount, by decide⟩
  refine V.iconst (n := 1) d_Tr_openedCount_0 rfl ?_
  refine V.istore_n (n := 2) d_Tr_openedCount_1 (by decide) rfl ?_
  refine V.iconst (n := 3) d_Tr_openedCount_2 rfl ?_
  refine V.istore_n (n := 4) d_Tr_openedCount_3 (by decide) rfl ?_
  have loop : ∀ (k j : Nat), (j : Int) + k = μ t 9 → V E l m_Tr_openedCount none 2 NT ST Post 4 [(2, rI j), (1, rI (cs (fun j => bi (¬ μ (t + 12) j = 0)) j)), (0, rA E t)] [] G μ := by
    intro k
    induction k with
    | zero =>
      intro j hj
      rw [show (μ t 9).toNat = j by omega] at hP
      refine V.iload_n (n := 5) d_Tr_openedCount_4 rfl rfl ?_
      refine V.aload_n (n := 6) d_Tr_openedCount_5 rfl rfl ?_
      refine V.getI (n := 9) d_Tr_openedCount_6 f_Tr_49 (by assumption) rfl rfl ?_
      refine V.icmp_geT (n2 := 29) d_Tr_openedCount_9 (by omega) (by omega) (by omega) (by decide) ?_
      refine V.iload_n (n := 30) d_Tr_openedCount_29 rfl rfl ?_
      refine V.iret d_Tr_openedCount_30 ⟨_, rfl, rfl⟩ ?_
      exact hP _ _ ⟨rfl, rfl, rfl⟩
    | succ k ih =>
      intro j hj
      have hcj := hc j (by omega) (by omega)
      have hx := ih (j + 1) (by omega)
      rw [cs_s, show ((j + 1 : Nat) : Int) = (j : Int) + 1 by omega] at hx
      refine V.iload_n (n := 5) d_Tr_openedCount_4 rfl rfl ?_
      refine V.aload_n (n := 6) d_Tr_openedCount_5 rfl rfl ?_
      refine V.getI (n := 9) d_Tr_openedCount_6 f_Tr_49 (by assumption) rfl rfl ?_
      refine V.icmp_geF (n := 12) d_Tr_openedCount_9 (by omega) (by omega) (by omega) rfl ⟨29, by decide⟩ ?_
      refine V.aload_n (n := 13) d_Tr_openedCount_12 rfl rfl ?_
      refine V.iload_n (n := 14) d_Tr_openedCount_13 rfl rfl ?_
      refine V.cVi (n := 17) d_Tr_openedCount_14 k_Tr_109 (c_Tr_isLeaf (by assumption) (by omega) (by omega) (by omega)) rfl rfl (by decide) rfl ?_
      rcases bi_or (μ (t + 12) (j : Int) = 0) with ⟨hb, e⟩ | ⟨hb, e⟩ <;> rw [e]
      · rw [bi_f (fun x => x hb), Int.add_zero] at hx
        refine V.if_neT (n2 := 23) d_Tr_openedCount_17 (by omega) (by omega) (by decide) ?_
        refine V.iinc (n := 26) d_Tr_openedCount_23 rfl (by decide) rfl ?_
        refine V.goto (n := 4) d_Tr_openedCount_26 (by decide) ?_
        refine V.loc (lo' := [(2, rI ((j : Int) + 1)), (1, rI (cs (fun j => bi (¬ μ (t + 12) j = 0)) j)), (0, rA E t)]) ⟨rfl, rfl, rfl, trivial⟩ ?_
        exact hx
      · rw [bi_t hb] at hx
        refine V.if_neF (n := 20) d_Tr_openedCount_17 (by omega) (by omega) rfl ⟨23, by decide⟩ ?_
        refine V.iinc (n := 23) d_Tr_openedCount_20 rfl (by decide) rfl ?_
        refine V.iinc (n := 26) d_Tr_openedCount_23 rfl (by decide) rfl ?_
        refine V.goto (n := 4) d_Tr_openedCount_26 (by decide) ?_
        refine V.loc (lo' := [(2, rI ((j : Int) + 1)), (1, rI (cs (fun j => bi (¬ μ (t + 12) j = 0)) j + 1)), (0, rA E t)]) ⟨rfl, rfl, rfl, trivial⟩ ?_
        exact hx
  have hl := loop (μ t 9).toNat 0 (by omega)
  refine V.loc (lo' := [(2, rI 0), (1, rI 0), (0, rA E t)]) ⟨rfl, rfl, rfl, trivial⟩ ?_
  exact hl
theorem c_Tr_greatestDepth (hT : isTree G t g) (hs0 : 0 ≤ μ t 9) (hs1 : μ t 9 ≤ 200) (hd : ∀ j : Int, 0 ≤ j → j < μ t 9 → 0 ≤ μ (t + 6) j ∧ μ (t + 6) j ≤ 200) : KV E l 1 m_Tr_greatestDepth t [] G μ 0 0 (dq (some (rI (mxc (μ (t + 6)) (μ t 9).toNat))) G μ) := by
  have hT0 := hT
  obtain ⟨t0, t1, t2, t3, t4, t5, t6, t7, t8⟩ := hT
  refine ⟨KC.ofP q_Tr_greatestDepth.1 rfl (Nat.le_of_ble_eq_true rfl) rfl (fun Post NT ST hP => ?_), ⟨_, _, _, t0, rfl, rfl⟩, q_Tr_greatestDepth, by decide⟩
  refine V.iconst (n := 1) d_Tr_greatestDepth_0 rfl ?_
  refine V.istore_n (n := 2) d_Tr_greatestDepth_1 (by decide) rfl ?_
  refine V.iconst (n := 3) d_Tr_greatestDepth_2 rfl ?_
  refine V.istore_n (n := 4) d_Tr_greatestDepth_3 (by decide) rfl ?_
  have loop : ∀ (k j : Nat), (j : Int) + k = μ t 9 → 0 ≤ mxc (μ (t + 6)) j → mxc (μ (t + 6)) j ≤ 200 → V E l m_Tr_greatestDepth none 1 NT ST Post 4 [(2, rI j), (1, rI (mxc (μ (t + 6)) j)), (0, rA E t)] [] G μ := by
    intro k
    induction k with
    | zero =>
      intro j hj m0 m1
      rw [show (μ t 9).toNat = j by omega] at hP
      refine V.iload_n (n := 5) d_Tr_greatestDepth_4 rfl rfl ?_
      refine V.aload_n (n := 6) d_Tr_greatestDepth_5 rfl rfl ?_
      refine V.getI (n := 9) d_Tr_greatestDepth_6 f_Tr_49 (by assumption) rfl rfl ?_
      refine V.icmp_geT (n2 := 31) d_Tr_greatestDepth_9 (by omega) (by omega) (by omega) (by decide) ?_
      refine V.iload_n (n := 32) d_Tr_greatestDepth_31 rfl rfl ?_
      refine V.iret d_Tr_greatestDepth_32 ⟨_, rfl, rfl⟩ ?_
      exact hP _ _ ⟨rfl, rfl, rfl⟩
    | succ k ih =>
      intro j hj m0 m1
      have hdj := hd j (by omega) (by omega)
      have hx := ih (j + 1) (by omega)
      rw [mxc_s, show ((j + 1 : Nat) : Int) = (j : Int) + 1 by omega] at hx
      have hx2 := hx (by omega) (by omega)
      refine V.iload_n (n := 5) d_Tr_greatestDepth_4 rfl rfl ?_
      refine V.aload_n (n := 6) d_Tr_greatestDepth_5 rfl rfl ?_
      refine V.getI (n := 9) d_Tr_greatestDepth_6 f_Tr_49 (by assumption) rfl rfl ?_
      refine V.icmp_geF (n := 12) d_Tr_greatestDepth_9 (by omega) (by omega) (by omega) rfl ⟨31, by decide⟩ ?_
      refine V.iload_n (n := 13) d_Tr_greatestDepth_12 rfl rfl ?_
      refine V.aload_n (n := 14) d_Tr_greatestDepth_13 rfl rfl ?_
      refine V.getA (n := 17) d_Tr_greatestDepth_14 f_Tr_23 (by assumption) rfl rfl ?_
      refine V.iload_n (n := 18) d_Tr_greatestDepth_17 rfl rfl ?_
      refine V.cVi (n := 21) d_Tr_greatestDepth_18 k_Tr_53 (c_Rw_get (by assumption) (by omega) (by omega)) rfl rfl (by decide) rfl ?_
      refine V.mmax (n := 24) d_Tr_greatestDepth_21 k_Tr_147 (by omega) (by omega) rfl (by decide) rfl ?_
      refine V.istore_n (n := 25) d_Tr_greatestDepth_24 (by decide) rfl ?_
      refine V.iinc (n := 28) d_Tr_greatestDepth_25 rfl (by decide) rfl ?_
      refine V.goto (n := 4) d_Tr_greatestDepth_28 (by decide) ?_
      refine V.loc (lo' := [(2, rI ((j : Int) + 1)), (1, rI (max (mxc (μ (t + 6)) j) (μ (t + 6) j))), (0, rA E t)]) ⟨rfl, rfl, rfl, trivial⟩ ?_
      exact hx2
  have hl := loop (μ t 9).toNat 0 (by omega) (by show (0 : Int) ≤ 0; omega) (by show (0 : Int) ≤ 200; omega)
  refine V.loc (lo' := [(2, rI 0), (1, rI 0), (0, rA E t)]) ⟨rfl, rfl, rfl, trivial⟩ ?_
  exact hl
theorem c_Tr_copyFrom (hT : isTree G t g) {x y : Nat} (hT2 : isTree G x y) (hd : t + 16 < x ∨ x + 16 < t) : KV E l 2 m_Tr_copyFrom t [rA E x] G μ 0 0 (dqv (fun μ' => (∀ b, b < t ∨ t + 16 < b → μ' b = μ b) ∧ (∀ j : Int, 0 ≤ j → j < 200 → μ' (t + 2) j = μ (x + 2) j ∧ μ' (t + 4) j = μ (x + 4) j ∧ μ' (t + 6) j = μ (x + 6) j ∧ μ' (t + 8) j = μ (x + 8) j ∧ μ' (t + 10) j = μ (x + 10) j ∧ μ' (t + 12) j = μ (x + 12) j ∧ μ' (t + 14) j = μ (x + 14) j ∧ μ' (t + 16) j = μ (x + 16) j) ∧ μ' t 9 = μ x 9) G) := by
  obtain ⟨t0, t1, t2, t3, t4, t5, t6, t7, t8⟩ := hT
  obtain ⟨b0, b1, b2, b3, b4, b5, b6, b7, b8⟩ := hT2
  refine ⟨KC.ofP q_Tr_copyFrom.1 rfl (Nat.le_of_ble_eq_true rfl) rfl (fun Post NT ST hP => ?_), ⟨_, _, _, t0, rfl, rfl⟩, q_Tr_copyFrom, by decide⟩
  refine V.aload_n (n := 1) d_Tr_copyFrom_0 rfl rfl ?_
  refine V.getA (n := 4) d_Tr_copyFrom_1 f_Tr_14 (by assumption) rfl rfl ?_
  refine V.aload_n (n := 5) d_Tr_copyFrom_4 rfl rfl ?_
  refine V.getA (n := 8) d_Tr_copyFrom_5 f_Tr_14 (by assumption) rfl rfl ?_
  refine V.cVv (n := 11) d_Tr_copyFrom_8 k_Tr_45 (c_Rw_copyFrom (by assumption) (by assumption)) rfl rfl (by decide) rfl ?_
  refine V.aload_n (n := 12) d_Tr_copyFrom_11 rfl rfl ?_
  refine V.getA (n := 15) d_Tr_copyFrom_12 f_Tr_20 (by assumption) rfl rfl ?_
  refine V.aload_n (n := 16) d_Tr_copyFrom_15 rfl rfl ?_
  refine V.getA (n := 19) d_Tr_copyFrom_16 f_Tr_20 (by assumption) rfl rfl ?_
  refine V.cVv (n := 22) d_Tr_copyFrom_19 k_Tr_45 (c_Rw_copyFrom (by assumption) (by assumption)) rfl rfl (by decide) rfl ?_
  refine V.aload_n (n := 23) d_Tr_copyFrom_22 rfl rfl ?_
  refine V.getA (n := 26) d_Tr_copyFrom_23 f_Tr_23 (by assumption) rfl rfl ?_
  refine V.aload_n (n := 27) d_Tr_copyFrom_26 rfl rfl ?_
  refine V.getA (n := 30) d_Tr_copyFrom_27 f_Tr_23 (by assumption) rfl rfl ?_
  refine V.cVv (n := 33) d_Tr_copyFrom_30 k_Tr_45 (c_Rw_copyFrom (by assumption) (by assumption)) rfl rfl (by decide) rfl ?_
  refine V.aload_n (n := 34) d_Tr_copyFrom_33 rfl rfl ?_
  refine V.getA (n := 37) d_Tr_copyFrom_34 f_Tr_26 (by assumption) rfl rfl ?_
  refine V.aload_n (n := 38) d_Tr_copyFrom_37 rfl rfl ?_
  refine V.getA (n := 41) d_Tr_copyFrom_38 f_Tr_26 (by assumption) rfl rfl ?_
  refine V.cVv (n := 44) d_Tr_copyFrom_41 k_Tr_45 (c_Rw_copyFrom (by assumption) (by assumption)) rfl rfl (by decide) rfl ?_
  refine V.aload_n (n := 45) d_Tr_copyFrom_44 rfl rfl ?_
  refine V.getA (n := 48) d_Tr_copyFrom_45 f_Tr_29 (by assumption) rfl rfl ?_
  refine V.aload_n (n := 49) d_Tr_copyFrom_48 rfl rfl ?_
  refine V.getA (n := 52) d_Tr_copyFrom_49 f_Tr_29 (by assumption) rfl rfl ?_
  refine V.cVv (n := 55) d_Tr_copyFrom_52 k_Tr_45 (c_Rw_copyFrom (by assumption) (by assumption)) rfl rfl (by decide) rfl ?_
  refine V.aload_n (n := 56) d_Tr_copyFrom_55 rfl rfl ?_
  refine V.getA (n := 59) d_Tr_copyFrom_56 f_Tr_32 (by assumption) rfl rfl ?_
  refine V.aload_n (n := 60) d_Tr_copyFrom_59 rfl rfl ?_
  refine V.getA (n := 63) d_Tr_copyFrom_60 f_Tr_32 (by assumption) rfl rfl ?_
  refine V.cVv (n := 66) d_Tr_copyFrom_63 k_Tr_45 (c_Rw_copyFrom (by assumption) (by assumption)) rfl rfl (by decide) rfl ?_
  refine V.aload_n (n := 67) d_Tr_copyFrom_66 rfl rfl ?_
  refine V.getA (n := 70) d_Tr_copyFrom_67 f_Tr_35 (by assumption) rfl rfl ?_
  refine V.aload_n (n := 71) d_Tr_copyFrom_70 rfl rfl ?_
  refine V.getA (n := 74) d_Tr_copyFrom_71 f_Tr_35 (by assumption) rfl rfl ?_
  refine V.cVv (n := 77) d_Tr_copyFrom_74 k_Tr_45 (c_Rw_copyFrom (by assumption) (by assumption)) rfl rfl (by decide) rfl ?_
  refine V.aload_n (n := 78) d_Tr_copyFrom_77 rfl rfl ?_
  refine V.getA (n := 81) d_Tr_copyFrom_78 f_Tr_38 (by assumption) rfl rfl ?_
  refine V.aload_n (n := 82) d_Tr_copyFrom_81 rfl rfl ?_
  refine V.getA (n := 85) d_Tr_copyFrom_82 f_Tr_38 (by assumption) rfl rfl ?_
  refine V.cVv (n := 88) d_Tr_copyFrom_85 k_Tr_45 (c_Rw_copyFrom (by assumption) (by assumption)) rfl rfl (by decide) rfl ?_
  refine V.aload_n (n := 89) d_Tr_copyFrom_88 rfl rfl ?_
  refine V.aload_n (n := 90) d_Tr_copyFrom_89 rfl rfl ?_
  refine V.getI (n := 93) d_Tr_copyFrom_90 f_Tr_49 (by assumption) rfl rfl ?_
  refine V.putI (n := 96) d_Tr_copyFrom_93 f_Tr_49 t_Tr_size ⟨rfl, rfl⟩ (by assumption) rfl rfl ?_
  refine V.vret d_Tr_copyFrom_96 rfl ?_
  refine hP _ _ ⟨rfl, rfl, ?_⟩
  have e1 : ∀ x y : Nat, ¬ x = y → ∀ (μ : MU) (f : Int → Int), wrC μ y f x = μ x := fun x y hxy μ f => by simp [wrC, hxy]
  have e2 : ∀ (x : Nat) (μ : MU) (f : Int → Int), wrC μ x f x = f := fun x μ f => by simp [wrC]
  refine ⟨fun b c1 => ?_, fun j j0 j1 => ⟨?_, ?_, ?_, ?_, ?_, ?_, ?_, ?_⟩, ?_⟩
  · rw [wr_a (by omega), e1 _ _ (by omega), e1 _ _ (by omega), e1 _ _ (by omega), e1 _ _ (by omega), e1 _ _ (by omega), e1 _ _ (by omega), e1 _ _ (by omega), e1 _ _ (by omega)]
  · rw [wr_a (by omega), e1 _ _ (by omega), e1 _ _ (by omega), e1 _ _ (by omega), e1 _ _ (by omega), e1 _ _ (by omega), e1 _ _ (by omega), e1 _ _ (by omega), e2]
    exact if_pos ⟨j0, j1⟩
  · rw [wr_a (by omega), e1 _ _ (by omega), e1 _ _ (by omega), e1 _ _ (by omega), e1 _ _ (by omega), e1 _ _ (by omega), e1 _ _ (by omega), e2, if_pos ⟨j0, j1⟩, e1 _ _ (by omega)]
  · rw [wr_a (by omega), e1 _ _ (by omega), e1 _ _ (by omega), e1 _ _ (by omega), e1 _ _ (by omega), e1 _ _ (by omega), e2, if_pos ⟨j0, j1⟩, e1 _ _ (by omega), e1 _ _ (by omega)]
  · rw [wr_a (by omega), e1 _ _ (by omega), e1 _ _ (by omega), e1 _ _ (by omega), e1 _ _ (by omega), e2, if_pos ⟨j0, j1⟩, e1 _ _ (by omega), e1 _ _ (by omega), e1 _ _ (by omega)]
  · rw [wr_a (by omega), e1 _ _ (by omega), e1 _ _ (by omega), e1 _ _ (by omega), e2, if_pos ⟨j0, j1⟩, e1 _ _ (by omega), e1 _ _ (by omega), e1 _ _ (by omega), e1 _ _ (by omega)]
  · rw [wr_a (by omega), e1 _ _ (by omega), e1 _ _ (by omega), e2, if_pos ⟨j0, j1⟩, e1 _ _ (by omega), e1 _ _ (by omega), e1 _ _ (by omega), e1 _ _ (by omega), e1 _ _ (by omega)]
  · rw [wr_a (by omega), e1 _ _ (by omega), e2, if_pos ⟨j0, j1⟩, e1 _ _ (by omega), e1 _ _ (by omega), e1 _ _ (by omega), e1 _ _ (by omega), e1 _ _ (by omega), e1 _ _ (by omega)]
  · rw [wr_a (by omega), e2, if_pos ⟨j0, j1⟩, e1 _ _ (by omega), e1 _ _ (by omega), e1 _ _ (by omega), e1 _ _ (by omega), e1 _ _ (by omega), e1 _ _ (by omega), e1 _ _ (by omega)]
  · rw [wr_s, e1 _ _ (by omega), e1 _ _ (by omega), e1 _ _ (by omega), e1 _ _ (by omega), e1 _ _ (by omega), e1 _ _ (by omega), e1 _ _ (by omega), e1 _ _ (by omega)]
end CTZ
end
section
/-! THE CLASS: a leaf is opened -/
/-- what is made of a leaf m at the position tg under w -/
def LN (t g : Nat) (μ : MU) (w : Int) (ν : MU) (m tg : Int) : Prop :=
  ν (t + 2) m = tg ∧ ν (t + 4) m = w ∧ ν (t + 6) m = μ (t + 6) w + 1 ∧ ν (t + 12) m = 0 ∧ ν (t + 14) m = -5 ∧
  ∀ e v o : Prop, ∀ [Decidable e] [Decidable v] [Decidable o], (e ↔ (¬ μ (g + 4) tg = 0 ∨ μ (g + 10) tg = 0)) → (v ↔ μ (g + 4) tg = 1) → (o ↔ ow (μ (t + 2)) (μ (t + 4)) tg 200 w = true) → ν (t + 8) m = lcP e v o (μ (g + 6) tg) ∧ ν (t + 10) m = lcD e v o (μ (g + 8) tg) ∧ ν (t + 16) m = bi (¬ e ∧ o)
/-- behind r new leaves of w -/
def GI (t g : Nat) (μ : MU) (w : Int) (ν : MU) (r : Int) : Prop :=
  (∀ b, b < t ∨ t + 16 < b → ν b = μ b) ∧ ν t 9 = μ t 9 + r ∧
  (∀ b, t < b → b ≤ t + 16 → ∀ j, (j < μ t 9 ∨ μ t 9 + r ≤ j) → ν b j = if b = t + 14 ∧ j = w then μ t 9 else if b = t + 12 ∧ j = w then μ (g + 10) (μ (t + 2) w) else μ b j) ∧
  ∀ i, 0 ≤ i → i < r → LN t g μ w ν (μ t 9 + i) (μ (g + 12) (μ (t + 2) w * 20 + i))
theorem GI.at {t g : Nat} {μ ν : MU} {w r j : Int} {b : Nat} (h : GI t g μ w ν r) (h1 : t < b) (h2 : b ≤ t + 16) (h3 : ¬ b = t + 12) (h4 : ¬ b = t + 14) (h5 : j < μ t 9 ∨ μ t 9 + r ≤ j) : ν b j = μ b j := by
  rw [h.2.2.1 b h1 h2 j h5, if_neg (fun x => h4 x.1), if_neg (fun x => h3 x.1)]
/-- moves lead to positions -/
def okT (μ : MU) (g : Nat) : Prop := ∀ p r : Int, 0 ≤ p → p < 20 → 0 ≤ r → r < μ (g + 10) p → 0 ≤ μ (g + 12) (p * 20 + r) ∧ μ (g + 12) (p * 20 + r) < 20
section CGW
variable {E : EV} {l : Launch} {G : GG} {μ : MU} {g t h : Nat} {n p q a b : Int}
theorem c_Tr_grow (hT : isTree G t g) (hG : isGame G g) (hgt : t + 16 < g ∨ g + 12 < t) (h : okM μ t g) (hP0 : okP (μ (t + 2)) (μ (t + 4)) (μ t 9)) (hTg : okT μ g) (h0 : 0 < μ t 9) {w : Int} (hw : w = lf (nxM t g μ) (μ (t + 12)) 200 0) (hroom : μ (g + 10) (μ (t + 2) w) ≤ 200 - μ t 9) : KV E l 5 m_Tr_grow t [] G μ 0 0 (dqv (fun μ' => ∃ ν, GI t g μ w ν (μ (g + 10) (μ (t + 2) w)) ∧ μ' = wuM t g 200 w ν) G) := by
  have hT0 := hT
  have hG0 := hG
  obtain ⟨t0, t1, t2, t3, t4, t5, t6, t7, t8⟩ := hT
  obtain ⟨a0, a1, a2, a3, a4, a5, a6⟩ := hG
  have hwin := lf_in h 200 0 (by omega) (by omega)
  rw [← hw] at hwin
  obtain ⟨hg, hs0, hs1, hc, hx⟩ := id h
  have hcw := hc w hwin.1 hwin.2
  have hpw := hP0 w hwin.1 hwin.2
  have hgw := hg _ hcw.1 hcw.2.1
  refine ⟨KC.ofP q_Tr_grow.1 rfl (Nat.le_of_ble_eq_true rfl) rfl (fun Post NT ST hP => ?_), ⟨_, _, _, t0, rfl, rfl⟩, q_Tr_grow, by decide⟩
  refine V.aload_n (n := 1) d_Tr_grow_0 rfl rfl ?_
  refine V.cVi (n := 4) d_Tr_grow_1 k_Tr_122 (c_Tr_leafOnWay hT0 hG0 h h0) rfl rfl (by decide) rfl ?_
  rw [← hw]
  refine V.istore_n (n := 5) d_Tr_grow_4 (by decide) rfl ?_
  refine V.aload_n (n := 6) d_Tr_grow_5 rfl rfl ?_
  refine V.getA (n := 9) d_Tr_grow_6 f_Tr_14 (by assumption) rfl rfl ?_
  refine V.iload_n (n := 10) d_Tr_grow_9 rfl rfl ?_
  refine V.cVi (n := 13) d_Tr_grow_10 k_Tr_53 (c_Rw_get (by assumption) (by omega) (by omega)) rfl rfl (by decide) rfl ?_
  refine V.istore_n (n := 14) d_Tr_grow_13 (by decide) rfl ?_
  refine V.aload_n (n := 15) d_Tr_grow_14 rfl rfl ?_
  refine V.getA (n := 18) d_Tr_grow_15 f_Tr_41 (by assumption) rfl rfl ?_
  refine V.getA (n := 21) d_Tr_grow_18 f_Tr_119 (by assumption) rfl rfl ?_
  refine V.iload_n (n := 22) d_Tr_grow_21 rfl rfl ?_
  refine V.cVi (n := 25) d_Tr_grow_22 k_Tr_53 (c_Rw_get (by assumption) (by omega) (by omega)) rfl rfl (by decide) rfl ?_
  refine V.istore_n (n := 26) d_Tr_grow_25 (by decide) rfl ?_
  refine V.aload_n (n := 27) d_Tr_grow_26 rfl rfl ?_
  refine V.getA (n := 30) d_Tr_grow_27 f_Tr_35 (by assumption) rfl rfl ?_
  refine V.iload_n (n := 31) d_Tr_grow_30 rfl rfl ?_
  refine V.aload_n (n := 32) d_Tr_grow_31 rfl rfl ?_
  refine V.getI (n := 35) d_Tr_grow_32 f_Tr_49 (by assumption) rfl rfl ?_
  refine V.cVv (n := 38) d_Tr_grow_35 k_Tr_73 (c_Rw_set (by assumption) (by omega) (by omega)) rfl rfl (by decide) rfl ?_
  refine V.aload_n (n := 39) d_Tr_grow_38 rfl rfl ?_
  refine V.getA (n := 42) d_Tr_grow_39 f_Tr_32 (by assumption) rfl rfl ?_
  refine V.iload_n (n := 43) d_Tr_grow_42 rfl rfl ?_
  refine V.iload_n (n := 44) d_Tr_grow_43 rfl rfl ?_
  refine V.cVv (n := 47) d_Tr_grow_44 k_Tr_73 (c_Rw_set (by assumption) (by omega) (by omega)) rfl rfl (by decide) rfl ?_
  refine V.iconst (n := 48) d_Tr_grow_47 rfl ?_
  refine V.istore (n := 50) d_Tr_grow_48 (by decide) rfl ?_
  generalize hcn : μ (g + 10) (μ (t + 2) w) = cn at *
  generalize hm1 : wr (wr μ (t + 14) w (μ t 9)) (t + 12) w cn = μ1
  have hI0 : GI t g μ w μ1 0 := by
    refine ⟨fun b hb => ?_, ?_, fun b b1 b2 j hj => ?_, fun i i0 i1 => by omega⟩
    · rw [← hm1, wr_a (by omega), wr_a (by omega)]
    · rw [← hm1, wr_a (by omega), wr_a (by omega), Int.add_zero]
    · rw [← hm1, hcn]
      by_cases hb14 : b = t + 14
      · subst hb14
        rw [wr_a (by omega), wr_v]
        by_cases hj2 : j = w
        · rw [if_pos hj2, if_pos ⟨rfl, hj2⟩]
        · rw [if_neg hj2, if_neg (fun x => hj2 x.2), if_neg (fun x => hj2 x.2)]
      · rw [if_neg (fun x => hb14 x.1)]
        by_cases hb12 : b = t + 12
        · subst hb12
          rw [wr_v]
          by_cases hj2 : j = w
          · rw [if_pos hj2, if_pos ⟨rfl, hj2⟩]
          · rw [if_neg hj2, if_neg (fun x => hj2 x.2), wr_a (by omega)]
        · rw [wr_a hb12, wr_a hb14, if_neg (fun x => hb12 x.1)]
  have loop : ∀ (k : Nat) (i : Int) (ν : MU), i + k = cn → 0 ≤ i → GI t g μ w ν i → V E l m_Tr_grow none 5 NT ST Post 50 [(4, rI i), (3, rI cn), (2, rI (μ (t + 2) w)), (1, rI w), (0, rA E t)] [] G ν := by
    intro k
    induction k with
    | zero =>
      intro i ν hk hi hI
      have hic : i = cn := by omega
      subst hic
      have n2 : ∀ j, j < μ t 9 → ν (t + 2) j = μ (t + 2) j := fun j hj => hI.at (by omega) (by omega) (by omega) (by omega) (Or.inl hj)
      have n4 : ∀ j, j < μ t 9 → ν (t + 4) j = μ (t + 4) j := fun j hj => hI.at (by omega) (by omega) (by omega) (by omega) (Or.inl hj)
      have n9 : ν t 9 = μ t 9 + i := hI.2.1
      have hgo : okG ν g := fun p p0 p1 => by
        rw [hI.1 (g + 2) (by omega), hI.1 (g + 4) (by omega), hI.1 (g + 6) (by omega), hI.1 (g + 8) (by omega), hI.1 (g + 10) (by omega)]
        exact hg p p0 p1
      have hnew : ∀ j, μ t 9 ≤ j → j < μ t 9 + i → LN t g μ w ν j (μ (g + 12) (μ (t + 2) w * 20 + (j - μ t 9))) := fun j j0 j1 => by
        have h1 := hI.2.2.2 (j - μ t 9) (by omega) (by omega)
        rwa [show μ t 9 + (j - μ t 9) = j by omega] at h1
      have hPn : okP (ν (t + 2)) (ν (t + 4)) (ν t 9) := by
        intro j j0 j1
        by_cases hj : j < μ t 9
        · rw [n2 j hj, n4 j hj]; exact hP0 j j0 hj
        · have h1 := hnew j (by omega) (by omega)
          have h2 := hTg (μ (t + 2) w) (j - μ t 9) hcw.1 hcw.2.1 (by omega) (by omega)
          rw [h1.1, h1.2.1]
          omega
      have hCn : okC (ν t 9) (ν (t + 2)) (ν (t + 12)) (ν (t + 14)) := by
        intro j j0 j1
        by_cases hj : j < μ t 9
        · have h1 := hc j j0 hj
          rw [n2 j hj, hI.2.2.1 (t + 12) (by omega) (by omega) j (Or.inl hj), hI.2.2.1 (t + 14) (by omega) (by omega) j (Or.inl hj), if_neg (show ¬ (t + 12 = t + 14 ∧ j = w) by omega)]
          by_cases hjw : j = w
          · rw [if_pos ⟨rfl, hjw⟩, if_pos ⟨rfl, hjw⟩, hcn]; omega
          · rw [if_neg (fun x => hjw x.2), if_neg (fun x => hjw x.2), if_neg (fun x => hjw x.2)]; omega
        · have h1 := hnew j (by omega) (by omega)
          have h2 := hTg (μ (t + 2) w) (j - μ t 9) hcw.1 hcw.2.1 (by omega) (by omega)
          rw [h1.1, h1.2.2.2.1, h1.2.2.2.2.1]
          omega
      have hXn : okX (ν (t + 8)) (ν (t + 10)) := by
        intro j j0 j1
        by_cases hj : μ t 9 ≤ j ∧ j < μ t 9 + i
        · have h1 := hnew j hj.1 hj.2
          have h2 := hTg (μ (t + 2) w) (j - μ t 9) hcw.1 hcw.2.1 (by omega) (by omega)
          have h3 := hg _ h2.1 h2.2
          have h4 := h1.2.2.2.2.2 _ _ _ Iff.rfl Iff.rfl Iff.rfl
          rw [h4.1, h4.2.1]
          unfold lcP lcD
          refine ⟨?_, ?_, ?_, ?_⟩ <;> ((repeat' split) <;> omega)
        · rw [hI.at (b := t + 8) (j := j) (by omega) (by omega) (by omega) (by omega) (by omega), hI.at (b := t + 10) (j := j) (by omega) (by omega) (by omega) (by omega) (by omega)]
          exact hx j j0 j1
      refine V.iload (n := 52) d_Tr_grow_50 rfl rfl ?_
      refine V.iload_n (n := 53) d_Tr_grow_52 rfl rfl ?_
      refine V.icmp_geT (n2 := 77) d_Tr_grow_53 (by omega) (by omega) (by omega) (by decide) ?_
      refine V.aload_n (n := 78) d_Tr_grow_77 rfl rfl ?_
      refine V.iload_n (n := 79) d_Tr_grow_78 rfl rfl ?_
      refine V.cVv (n := 82) d_Tr_grow_79 k_Tr_129 (c_Tr_workOutFrom hT0 hG0 hgt hgo (by omega) (by omega) (by omega) hPn hCn hXn) rfl rfl (by decide) rfl ?_
      refine V.vret d_Tr_grow_82 rfl ?_
      exact hP _ _ ⟨rfl, rfl, ν, by rw [hcn] at *; exact hI, rfl⟩
    | succ k ih =>
      intro i ν hk hi hI
      have n2 : ∀ j, j < μ t 9 → ν (t + 2) j = μ (t + 2) j := fun j hj => hI.at (by omega) (by omega) (by omega) (by omega) (Or.inl hj)
      have n4 : ∀ j, j < μ t 9 → ν (t + 4) j = μ (t + 4) j := fun j hj => hI.at (by omega) (by omega) (by omega) (by omega) (Or.inl hj)
      have n9 : ν t 9 = μ t 9 + i := hI.2.1
      have ng2 : ν (g + 2) = μ (g + 2) := hI.1 _ (by omega)
      have ng4 : ν (g + 4) = μ (g + 4) := hI.1 _ (by omega)
      have ng6 : ν (g + 6) = μ (g + 6) := hI.1 _ (by omega)
      have ng8 : ν (g + 8) = μ (g + 8) := hI.1 _ (by omega)
      have ng10 : ν (g + 10) = μ (g + 10) := hI.1 _ (by omega)
      have ng12 : ν (g + 12) = μ (g + 12) := hI.1 _ (by omega)
      have h2 := hTg (μ (t + 2) w) i hcw.1 hcw.2.1 hi (by omega)
      have h3 := hg _ h2.1 h2.2
      have hokn : ∀ m, 0 ≤ m → m ≤ w → 0 ≤ ν (t + 2) m ∧ ν (t + 2) m < 20 ∧ (m = 0 → ν (t + 4) m = -5) ∧ (0 < m → 0 ≤ ν (t + 4) m ∧ ν (t + 4) m < m) := fun m m0 m1 => by
        rw [n2 m (by omega), n4 m (by omega)]
        exact hP0 m m0 (by omega)
      have how : ∀ x, ow (ν (t + 2)) (ν (t + 4)) x 200 w = ow (μ (t + 2)) (μ (t + 4)) x 200 w := fun x => ow_congr 200 w (fun m m0 m1 => ⟨n2 m (by omega), n4 m (by omega), by have := hP0 m m0 (by omega); omega⟩)
      refine V.iload (n := 52) d_Tr_grow_50 rfl rfl ?_
      refine V.iload_n (n := 53) d_Tr_grow_52 rfl rfl ?_
      refine V.icmp_geF (n := 56) d_Tr_grow_53 (by omega) (by omega) (by omega) rfl ⟨77, by decide⟩ ?_
      refine V.aload_n (n := 57) d_Tr_grow_56 rfl rfl ?_
      refine V.aload_n (n := 58) d_Tr_grow_57 rfl rfl ?_
      refine V.getA (n := 61) d_Tr_grow_58 f_Tr_41 (by assumption) rfl rfl ?_
      refine V.iload_n (n := 62) d_Tr_grow_61 rfl rfl ?_
      refine V.iload (n := 64) d_Tr_grow_62 rfl rfl ?_
      refine V.cVi (n := 67) d_Tr_grow_64 k_Tr_125 (c_Gm_targetOf hG0 hcw.1 hcw.2.1 hi (by rw [ng10]; omega) (by rw [ng10]; omega)) rfl rfl (by decide) rfl ?_
      rw [ng12]
      refine V.iload_n (n := 68) d_Tr_grow_67 rfl rfl ?_
      refine V.cVqv (n := 71) d_Tr_grow_68 k_Tr_69 (c_Tr_addLeaf hT0 hG0 hgt (by omega) (by omega) h2.1 h2.2 (by omega) hokn (by rw [ng4]; omega) (by rw [ng10]; omega)) rfl rfl (by decide) rfl (fun μ' hq => ?_)
      rw [n9, ng4, ng6, ng8, ng10, how] at hq
      obtain ⟨q1, q2, q3, q4, q5, q6, q7, q8, q9⟩ := hq
      refine V.iinc (n := 74) d_Tr_grow_71 rfl (by decide) rfl ?_
      refine V.goto (n := 50) d_Tr_grow_74 (by decide) ?_
      refine V.loc (lo' := [(4, rI (i + 1)), (3, rI cn), (2, rI (μ (t + 2) w)), (1, rI w), (0, rA E t)]) ⟨rfl, rfl, rfl, rfl, rfl, trivial⟩ ?_
      refine ih (i + 1) _ (by omega) (by omega) ⟨fun b hb => by rw [q1 b hb, hI.1 b hb], by rw [q2]; omega, fun b b1 b2 j hj => by rw [q3 b b1 b2 j (by omega)]; exact hI.2.2.1 b b1 b2 j (by omega), fun i' i0 i1 => ?_⟩
      by_cases hii : i' = i
      · subst hii
        refine ⟨q4, q5, ?_, q7, q8, fun e v o _ _ _ f1 f2 f3 => q9 e v o f1 f2 f3⟩
        rw [q6, if_pos hwin.1, hI.at (b := t + 6) (j := w) (by omega) (by omega) (by omega) (by omega) (Or.inl hwin.2)]
      · have h5 := hI.2.2.2 i' i0 (by omega)
        have hne : ¬ μ t 9 + i' = μ t 9 + i := by omega
        unfold LN
        rw [q3 (t + 2) (by omega) (by omega) _ hne, q3 (t + 4) (by omega) (by omega) _ hne, q3 (t + 6) (by omega) (by omega) _ hne, q3 (t + 8) (by omega) (by omega) _ hne, q3 (t + 10) (by omega) (by omega) _ hne, q3 (t + 12) (by omega) (by omega) _ hne, q3 (t + 14) (by omega) (by omega) _ hne, q3 (t + 16) (by omega) (by omega) _ hne]
        exact h5
  refine V.loc (lo' := [(4, rI 0), (3, rI cn), (2, rI (μ (t + 2) w)), (1, rI w), (0, rA E t)]) ⟨rfl, rfl, rfl, rfl, rfl, trivial⟩ ?_
  exact loop cn.toNat 0 μ1 (by omega) (by omega) hI0
end CGW
end
section
/-! THE CLASS: states, history, texts -/
/-- the game at g holds in μ' what that at h holds in μ -/
def cpG (μ' : MU) (g : Nat) (μ : MU) (h : Nat) : Prop :=
  (∀ j : Int, 0 ≤ j → j < 20 → μ' (g + 2) j = μ (h + 2) j ∧ μ' (g + 4) j = μ (h + 4) j ∧ μ' (g + 6) j = μ (h + 6) j ∧ μ' (g + 8) j = μ (h + 8) j ∧ μ' (g + 10) j = μ (h + 10) j) ∧ (∀ j : Int, 0 ≤ j → j < 400 → μ' (g + 12) j = μ (h + 12) j) ∧ μ' g 6 = μ h 6
def cpT (μ' : MU) (t : Nat) (μ : MU) (x : Nat) : Prop :=
  (∀ j : Int, 0 ≤ j → j < 200 → μ' (t + 2) j = μ (x + 2) j ∧ μ' (t + 4) j = μ (x + 4) j ∧ μ' (t + 6) j = μ (x + 6) j ∧ μ' (t + 8) j = μ (x + 8) j ∧ μ' (t + 10) j = μ (x + 10) j ∧ μ' (t + 12) j = μ (x + 12) j ∧ μ' (t + 14) j = μ (x + 14) j ∧ μ' (t + 16) j = μ (x + 16) j) ∧ μ' t 9 = μ x 9
def cpS (μ' : MU) (s : Nat) (μ : MU) (x : Nat) : Prop := cpG μ' (s + 1) μ (x + 1) ∧ cpT μ' (s + 14) μ (x + 14)
def isState (G : GG) (s : Nat) : Prop := obj G s (.inl (6, [some (some (s + 1)), some (some (s + 14))])) ∧ isGame G (s + 1) ∧ isTree G (s + 14) (s + 1)
def isHist (G : GG) (h : Nat) : Prop := obj G h (.inl (1, [some (some (h + 1)), none])) ∧ obj G (h + 1) (.inr (3, 4)) ∧ ∀ k : Nat, k < 4 → isState G (h + 2 + 31 * k)
def okH (μ : MU) (h : Nat) : Prop := (∀ i : Int, 0 ≤ i → i < 4 → ∃ k : Nat, k < 4 ∧ μ (h + 1) i = ((h + 2 + 31 * k : Nat) : Int)) ∧ (∀ i j : Int, 0 ≤ i → i < 4 → 0 ≤ j → j < 4 → μ (h + 1) i = μ (h + 1) j → i = j)
section CHI
variable {E : EV} {l : Launch} {G : GG} {μ : MU} {s x h t : Nat} {i v : Int}
theorem c_St_copyFrom (hS : isState G s) (hX : isState G x) (hd : s + 30 < x ∨ x + 30 < s) : KV E l 4 m_St_copyFrom s [rA E x] G μ 0 0 (dqv (fun μ' => (∀ b, b < s ∨ s + 30 < b → μ' b = μ b) ∧ cpS μ' s μ x) G) := by
  obtain ⟨s0, s1, s2⟩ := hS
  obtain ⟨x0, x1, x2⟩ := hX
  refine ⟨KC.ofP q_St_copyFrom.1 rfl (Nat.le_of_ble_eq_true rfl) rfl (fun Post NT ST hP => ?_), ⟨_, _, _, s0, rfl, rfl⟩, q_St_copyFrom, by decide⟩
  refine V.aload_n (n := 1) d_St_copyFrom_0 rfl rfl ?_
  refine V.getA (n := 4) d_St_copyFrom_1 f_St_10 (by assumption) rfl rfl ?_
  refine V.aload_n (n := 5) d_St_copyFrom_4 rfl rfl ?_
  refine V.getA (n := 8) d_St_copyFrom_5 f_St_10 (by assumption) rfl rfl ?_
  refine V.cVqv (n := 11) d_St_copyFrom_8 k_St_25 (c_Gm_copyFrom s1 x1 (by omega)) rfl rfl (by decide) rfl (fun μ' hq => ?_)
  obtain ⟨m1, m2, m3, m4⟩ := hq
  refine V.aload_n (n := 12) d_St_copyFrom_11 rfl rfl ?_
  refine V.getA (n := 15) d_St_copyFrom_12 f_St_21 (by assumption) rfl rfl ?_
  refine V.aload_n (n := 16) d_St_copyFrom_15 rfl rfl ?_
  refine V.getA (n := 19) d_St_copyFrom_16 f_St_21 (by assumption) rfl rfl ?_
  refine V.cVqv (n := 22) d_St_copyFrom_19 k_St_28 (c_Tr_copyFrom s2 x2 (by omega)) rfl rfl (by decide) rfl (fun μ2 hq => ?_)
  obtain ⟨n1, n2, n3⟩ := hq
  refine V.vret d_St_copyFrom_22 rfl ?_
  refine hP _ _ ⟨rfl, rfl, fun b hb => by rw [n1 b (by omega), m1 b (by omega)], ⟨fun j j0 j1 => ?_, fun j j0 j1 => ?_, ?_⟩, fun j j0 j1 => ?_, ?_⟩
  · rw [n1 _ (by omega), n1 _ (by omega), n1 _ (by omega), n1 _ (by omega), n1 _ (by omega)]
    exact m2 j j0 j1
  · rw [n1 _ (by omega)]
    exact m3 j j0 j1
  · rw [n1 _ (by omega)]
    exact m4
  · have h1 := n2 j j0 j1
    rw [m1 (x + 14 + 2) (by omega), m1 (x + 14 + 4) (by omega), m1 (x + 14 + 6) (by omega), m1 (x + 14 + 8) (by omega), m1 (x + 14 + 10) (by omega), m1 (x + 14 + 12) (by omega), m1 (x + 14 + 14) (by omega), m1 (x + 14 + 16) (by omega)] at h1
    exact h1
  · rw [n3, m1 (x + 14) (by omega)]
theorem c_Hi_stateAt (hH : isHist G h) (h0 : 0 ≤ i) (h1 : i < 4) (hv : μ (h + 1) i = (s : Int)) : KV E l 0 m_Hi_stateAt h [rI i] G μ 0 0 (dq (some (rA E s)) G μ) := by
  obtain ⟨b0, b1, b2⟩ := hH
  refine ⟨KC.ofP q_Hi_stateAt.1 rfl (Nat.le_of_ble_eq_true rfl) rfl (fun Post NT ST hP => ?_), ⟨_, _, _, b0, rfl, rfl⟩, q_Hi_stateAt, by decide⟩
  refine V.iload_n (n := 1) d_Hi_stateAt_0 rfl rfl ?_
  refine V.if_ltF (n := 4) d_Hi_stateAt_1 (by omega) (by omega) rfl ⟨22, by decide⟩ ?_
  refine V.iload_n (n := 5) d_Hi_stateAt_4 rfl rfl ?_
  refine V.aload_n (n := 6) d_Hi_stateAt_5 rfl rfl ?_
  refine V.getA (n := 9) d_Hi_stateAt_6 f_Hi_11 (by assumption) rfl rfl ?_
  refine V.alen (n := 10) d_Hi_stateAt_9 (by assumption) (by decide) rfl ?_
  refine V.icmp_geF (n := 13) d_Hi_stateAt_10 (by omega) (by omega) (by omega) rfl ⟨22, by decide⟩ ?_
  refine V.aload_n (n := 14) d_Hi_stateAt_13 rfl rfl ?_
  refine V.getA (n := 17) d_Hi_stateAt_14 f_Hi_11 (by assumption) rfl rfl ?_
  refine V.iload_n (n := 18) d_Hi_stateAt_17 rfl rfl ?_
  refine V.aald (n := 19) d_Hi_stateAt_18 (by assumption) (by omega) (by omega) (by omega) (by assumption) rfl ?_
  refine V.goto (n := 23) d_Hi_stateAt_19 (by decide) ?_
  refine V.aret d_Hi_stateAt_23 ⟨_, rfl⟩ ?_
  exact hP _ _ ⟨rfl, rfl, rfl⟩
theorem c_Hi_copy (hS : isState G s) (hX : isState G x) (hd : s + 30 < x ∨ x + 30 < s) : KS E l 5 m_Hi_copy [rA E x, rA E s] G μ 0 0 (dqv (fun μ' => (∀ b, b < s ∨ s + 30 < b → μ' b = μ b) ∧ cpS μ' s μ x) G) := by
  refine ⟨KC.ofP q_Hi_copy.1 rfl (Nat.le_of_ble_eq_true rfl) rfl (fun Post NT ST hP => ?_), q_Hi_copy, by decide⟩
  refine V.aload_n (n := 1) d_Hi_copy_0 rfl rfl ?_
  refine V.ifnull (n := 4) d_Hi_copy_1 rfl ?_
  refine V.aload_n (n := 5) d_Hi_copy_4 rfl rfl ?_
  refine V.ifnull (n := 8) d_Hi_copy_5 rfl ?_
  refine V.aload_n (n := 9) d_Hi_copy_8 rfl rfl ?_
  refine V.aload_n (n := 10) d_Hi_copy_9 rfl rfl ?_
  refine V.cVqv (n := 13) d_Hi_copy_10 k_Hi_33 (c_St_copyFrom hS hX hd) rfl rfl (by decide) rfl (fun μ' hq => ?_)
  refine V.vret d_Hi_copy_13 rfl ?_
  exact hP _ _ ⟨rfl, rfl, hq⟩
theorem c_Hi_dropOldest (hH : isHist G h) (hok : okH μ h) : KV E l 0 m_Hi_dropOldest h [] G μ 0 0 (dqv (fun μ' => (∀ b, ¬ b = h → ¬ b = h + 1 → μ' b = μ b) ∧ (∀ j : Int, 0 ≤ j → j < 3 → μ' (h + 1) j = μ (h + 1) (j + 1)) ∧ μ' (h + 1) 3 = μ (h + 1) 0 ∧ μ' h 1 = μ h 1 - 1) G) := by
  obtain ⟨b0, b1, b2⟩ := hH
  obtain ⟨k0, hk0, e0⟩ := hok.1 0 (by omega) (by omega)
  obtain ⟨s0, -⟩ := b2 k0 hk0
  refine ⟨KC.ofP q_Hi_dropOldest.1 rfl (Nat.le_of_ble_eq_true rfl) rfl (fun Post NT ST hP => ?_), ⟨_, _, _, b0, rfl, rfl⟩, q_Hi_dropOldest, by decide⟩
  refine V.iconst (n := 1) d_Hi_dropOldest_0 rfl ?_
  refine V.istore_n (n := 2) d_Hi_dropOldest_1 (by decide) rfl ?_
  have loop : ∀ (k : Nat) (i : Int) (ν : MU), i + k = 4 → 1 ≤ i → (∀ b, ¬ b = h + 1 → ν b = μ b) → (∀ j : Int, 0 ≤ j → j < i - 1 → ν (h + 1) j = μ (h + 1) (j + 1)) → ν (h + 1) (i - 1) = μ (h + 1) 0 → (∀ j : Int, i ≤ j → j < 4 → ν (h + 1) j = μ (h + 1) j) → V E l m_Hi_dropOldest none 0 NT ST Post 2 [(1, rI i), (0, rA E h)] [] G ν := by
    intro k
    induction k with
    | zero =>
      intro i ν hk hi n1 n2 n3 n4
      have hi4 : i = 4 := by omega
      subst hi4
      refine V.iload_n (n := 3) d_Hi_dropOldest_2 rfl rfl ?_
      refine V.aload_n (n := 4) d_Hi_dropOldest_3 rfl rfl ?_
      refine V.getA (n := 7) d_Hi_dropOldest_4 f_Hi_11 (by assumption) rfl rfl ?_
      refine V.alen (n := 8) d_Hi_dropOldest_7 (by assumption) (by decide) rfl ?_
      refine V.icmp_geT (n2 := 47) d_Hi_dropOldest_8 (by omega) (by omega) (by omega) (by decide) ?_
      refine V.aload_n (n := 48) d_Hi_dropOldest_47 rfl rfl ?_
      refine V.dup (n := 49) d_Hi_dropOldest_48 rfl rfl ?_
      refine V.getI (n := 52) d_Hi_dropOldest_49 f_Hi_18 (by assumption) rfl rfl ?_
      refine V.iconst (n := 53) d_Hi_dropOldest_52 rfl ?_
      refine V.isub (n := 54) d_Hi_dropOldest_53 rfl ?_
      refine V.putI (n := 57) d_Hi_dropOldest_54 f_Hi_18 t_Hi_size ⟨rfl, rfl⟩ (by assumption) rfl rfl ?_
      rw [n1 h (by omega)]
      refine V.vret d_Hi_dropOldest_57 rfl ?_
      refine hP _ _ ⟨rfl, rfl, fun b c1 c2 => by rw [wr_a c1, n1 b c2], fun j j0 j1 => ?_, ?_, wr_s _ _ _ _⟩
      · rw [wr_a (by omega)]
        exact n2 j j0 (by omega)
      · rw [wr_a (by omega)]
        exact n3
    | succ k ih =>
      intro i ν hk hi n1 n2 n3 n4
      obtain ⟨k1, hk1, e1⟩ := hok.1 i (by omega) (by omega)
      obtain ⟨s1, -⟩ := b2 k1 hk1
      have f0 : ν (h + 1) (i - 1) = ((h + 2 + 31 * k0 : Nat) : Int) := by rw [n3, e0]
      have f1 : ν (h + 1) i = ((h + 2 + 31 * k1 : Nat) : Int) := by rw [n4 i (by omega) (by omega), e1]
      refine V.iload_n (n := 3) d_Hi_dropOldest_2 rfl rfl ?_
      refine V.aload_n (n := 4) d_Hi_dropOldest_3 rfl rfl ?_
      refine V.getA (n := 7) d_Hi_dropOldest_4 f_Hi_11 (by assumption) rfl rfl ?_
      refine V.alen (n := 8) d_Hi_dropOldest_7 (by assumption) (by decide) rfl ?_
      refine V.icmp_geF (n := 11) d_Hi_dropOldest_8 (by omega) (by omega) (by omega) rfl ⟨47, by decide⟩ ?_
      refine V.aload_n (n := 12) d_Hi_dropOldest_11 rfl rfl ?_
      refine V.getA (n := 15) d_Hi_dropOldest_12 f_Hi_11 (by assumption) rfl rfl ?_
      refine V.iload_n (n := 16) d_Hi_dropOldest_15 rfl rfl ?_
      refine V.iconst (n := 17) d_Hi_dropOldest_16 rfl ?_
      refine V.isub (n := 18) d_Hi_dropOldest_17 rfl ?_
      refine V.aald (n := 19) d_Hi_dropOldest_18 (by assumption) (by omega) (by omega) (by omega) (by assumption) rfl ?_
      refine V.astore_n (n := 20) d_Hi_dropOldest_19 (by decide) rfl ?_
      refine V.aload_n (n := 21) d_Hi_dropOldest_20 rfl rfl ?_
      refine V.getA (n := 24) d_Hi_dropOldest_21 f_Hi_11 (by assumption) rfl rfl ?_
      refine V.iload_n (n := 25) d_Hi_dropOldest_24 rfl rfl ?_
      refine V.iconst (n := 26) d_Hi_dropOldest_25 rfl ?_
      refine V.isub (n := 27) d_Hi_dropOldest_26 rfl ?_
      refine V.aload_n (n := 28) d_Hi_dropOldest_27 rfl rfl ?_
      refine V.getA (n := 31) d_Hi_dropOldest_28 f_Hi_11 (by assumption) rfl rfl ?_
      refine V.iload_n (n := 32) d_Hi_dropOldest_31 rfl rfl ?_
      refine V.aald (n := 33) d_Hi_dropOldest_32 (by assumption) (by omega) (by omega) (by omega) (by assumption) rfl ?_
      refine V.aast (n := 34) d_Hi_dropOldest_33 (by assumption) (by assumption) (by omega) (by omega) (by omega) rfl ?_
      refine V.aload_n (n := 35) d_Hi_dropOldest_34 rfl rfl ?_
      refine V.getA (n := 38) d_Hi_dropOldest_35 f_Hi_11 (by assumption) rfl rfl ?_
      refine V.iload_n (n := 39) d_Hi_dropOldest_38 rfl rfl ?_
      refine V.aload_n (n := 40) d_Hi_dropOldest_39 rfl rfl ?_
      refine V.aast (n := 41) d_Hi_dropOldest_40 (by assumption) (by assumption) (by omega) (by omega) (by omega) rfl ?_
      refine V.iinc (n := 44) d_Hi_dropOldest_41 rfl (by decide) rfl ?_
      refine V.goto (n := 2) d_Hi_dropOldest_44 (by decide) ?_
      refine V.loc (lo' := [(1, rI (i + 1)), (0, rA E h)]) ⟨rfl, rfl, trivial⟩ ?_
      refine ih (i + 1) _ (by omega) (by omega) (fun b hb => by rw [wr_a hb, wr_a hb, n1 b hb]) (fun j j0 j1 => ?_) ?_ (fun j j0 j1 => ?_)
      · rw [wr_i (by omega), wr_v]
        by_cases hj : j = i - 1
        · rw [if_pos hj, hj, ← e1, show i - 1 + 1 = i by omega]
        · rw [if_neg hj]
          exact n2 j j0 (by omega)
      · rw [show i + 1 - 1 = i by omega, wr_s, e0]
      · rw [wr_i (by omega), wr_i (by omega)]
        exact n4 j (by omega) j1
  refine V.loc (lo' := [(1, rI 1), (0, rA E h)]) ⟨rfl, rfl, trivial⟩ ?_
  exact loop 3 1 μ (by omega) (by omega) (fun _ _ => rfl) (fun j j0 j1 => by omega) rfl (fun _ _ _ => rfl)
/-- a state is recorded: d old ones have gone -/
theorem c_Hi_remember (hH : isHist G h) (hok : okH μ h) (hz0 : 0 ≤ μ h 1) (hz1 : μ h 1 ≤ 4) (hX : isState G x) (hd : x + 30 < h ∨ h + 125 < x) : KV E l 6 m_Hi_remember h [rA E x] G μ 0 0 (dqv (fun μ' => ∃ d : Int, (μ h 1 < 4 ∧ d = 0 ∨ μ h 1 = 4 ∧ d = 1) ∧ okH μ' h ∧ μ' h 1 = μ h 1 - d + 1 ∧ (∀ b, b < h ∨ h + 125 < b → μ' b = μ b) ∧ (∀ (i : Int) (s : Nat), 0 ≤ i → i < μ h 1 - d → μ (h + 1) (i + d) = (s : Int) → μ' (h + 1) i = (s : Int) ∧ ∀ b, s ≤ b → b ≤ s + 30 → μ' b = μ b) ∧ ∃ s : Nat, μ' (h + 1) (μ h 1 - d) = (s : Int) ∧ cpS μ' s μ x) G) := by
  have hH0 := hH
  obtain ⟨b0, b1, b2⟩ := hH
  refine ⟨KC.ofP q_Hi_remember.1 rfl (Nat.le_of_ble_eq_true rfl) rfl (fun Post NT ST hP => ?_), ⟨_, _, _, b0, rfl, rfl⟩, q_Hi_remember, by decide⟩
  have rest : ∀ (ν : MU) (d : Int), (μ h 1 < 4 ∧ d = 0 ∨ μ h 1 = 4 ∧ d = 1) → (∀ b, ¬ b = h → ¬ b = h + 1 → ν b = μ b) → okH ν h → ν h 1 = μ h 1 - d → (∀ j : Int, 0 ≤ j → j < 4 - d → ν (h + 1) j = μ (h + 1) (j + d)) → V E l m_Hi_remember none 6 NT ST Post 16 [(1, rA E x), (0, rA E h)] [] G ν := by
    intro ν d hdd n1 nok n9 n2
    obtain ⟨k1, hk1, e1⟩ := nok.1 (ν h 1) (by omega) (by omega)
    refine V.aload_n (n := 17) d_Hi_remember_16 rfl rfl ?_
    refine V.aload_n (n := 18) d_Hi_remember_17 rfl rfl ?_
    refine V.aload_n (n := 19) d_Hi_remember_18 rfl rfl ?_
    refine V.getI (n := 22) d_Hi_remember_19 f_Hi_18 (by assumption) rfl rfl ?_
    refine V.cVr (n := 25) d_Hi_remember_22 k_Hi_25 (c_Hi_stateAt hH0 (by omega) (by omega) e1) rfl rfl (by decide) rfl ?_
    refine V.cSqv (n := 28) d_Hi_remember_25 k_Hi_29 (c_Hi_copy (b2 k1 hk1) hX (by omega)) rfl rfl rfl (by decide) rfl (fun μ' hq => ?_)
    obtain ⟨m1, m2⟩ := hq
    have eh : μ' h = ν h := m1 h (by omega)
    have eh1 : μ' (h + 1) = ν (h + 1) := m1 (h + 1) (by omega)
    refine V.aload_n (n := 29) d_Hi_remember_28 rfl rfl ?_
    refine V.dup (n := 30) d_Hi_remember_29 rfl rfl ?_
    refine V.getI (n := 33) d_Hi_remember_30 f_Hi_18 (by assumption) rfl rfl ?_
    refine V.iconst (n := 34) d_Hi_remember_33 rfl ?_
    refine V.iadd (n := 35) d_Hi_remember_34 rfl ?_
    refine V.putI (n := 38) d_Hi_remember_35 f_Hi_18 t_Hi_size ⟨rfl, rfl⟩ (by assumption) rfl rfl ?_
    rw [eh]
    refine V.vret d_Hi_remember_38 rfl ?_
    refine hP _ _ ⟨rfl, rfl, d, hdd, ?_, by rw [wr_s, n9], fun b hb => by rw [wr_a (by omega), m1 b (by omega), n1 b (by omega) (by omega)], fun i s i0 i1 es => ⟨by rw [wr_a (by omega), eh1, n2 i i0 (by omega), es], fun b c1 c2 => ?_⟩, h + 2 + 31 * k1, by rw [wr_a (by omega), eh1, ← n9, e1], ?_⟩
    · unfold okH
      rw [wr_a (show ¬ h + 1 = h by omega), eh1]
      exact nok
    · obtain ⟨k2, hk2, e2⟩ := hok.1 (i + d) (by omega) (by omega)
      have hs : s = h + 2 + 31 * k2 := by omega
      have hne : ¬ k1 = k2 := fun q => by
        have h1 : ν (h + 1) i = ν (h + 1) (ν h 1) := by rw [n2 i i0 (by omega), e2, e1, q]
        have h2 := nok.2 i (ν h 1) i0 (by omega) (by omega) (by omega) h1
        omega
      rw [wr_a (by omega), m1 b (by omega), n1 b (by omega) (by omega)]
    · have hxx : ∀ b, x ≤ b → b ≤ x + 30 → ν b = μ b := fun b c1 c2 => n1 b (by omega) (by omega)
      obtain ⟨⟨p1, p2, p3⟩, p4, p5⟩ := m2
      refine ⟨⟨fun j j0 j1 => ?_, fun j j0 j1 => ?_, ?_⟩, fun j j0 j1 => ?_, ?_⟩
      · have h1 := p1 j j0 j1
        rw [wr_a (by omega), wr_a (by omega), wr_a (by omega), wr_a (by omega), wr_a (by omega)]
        rw [hxx _ (by omega) (by omega), hxx _ (by omega) (by omega), hxx _ (by omega) (by omega), hxx _ (by omega) (by omega), hxx _ (by omega) (by omega)] at h1
        exact h1
      · rw [wr_a (by omega), p2 j j0 j1, hxx _ (by omega) (by omega)]
      · rw [wr_a (by omega), p3, hxx _ (by omega) (by omega)]
      · have h1 := p4 j j0 j1
        rw [wr_a (by omega), wr_a (by omega), wr_a (by omega), wr_a (by omega), wr_a (by omega), wr_a (by omega), wr_a (by omega), wr_a (by omega)]
        rw [hxx _ (by omega) (by omega), hxx _ (by omega) (by omega), hxx _ (by omega) (by omega), hxx _ (by omega) (by omega), hxx _ (by omega) (by omega), hxx _ (by omega) (by omega), hxx _ (by omega) (by omega), hxx _ (by omega) (by omega)] at h1
        exact h1
      · rw [wr_a (by omega), p5, hxx _ (by omega) (by omega)]
  refine V.aload_n (n := 1) d_Hi_remember_0 rfl rfl ?_
  refine V.getI (n := 4) d_Hi_remember_1 f_Hi_18 (by assumption) rfl rfl ?_
  refine V.aload_n (n := 5) d_Hi_remember_4 rfl rfl ?_
  refine V.getA (n := 8) d_Hi_remember_5 f_Hi_11 (by assumption) rfl rfl ?_
  refine V.alen (n := 9) d_Hi_remember_8 (by assumption) (by decide) rfl ?_
  refine V.icmp_lt (n2 := 16) (n := 12) d_Hi_remember_9 (by omega) (by omega) (by decide) rfl (fun hsz => ?_) (fun hsz => ?_)
  · refine V.loc (lo' := [(1, rA E x), (0, rA E h)]) ⟨rfl, rfl, trivial⟩ ?_
    exact rest μ 0 (Or.inl ⟨by omega, rfl⟩) (fun _ _ _ => rfl) hok (by omega) (fun j _ _ => by rw [Int.add_zero])
  · refine V.aload_n (n := 13) d_Hi_remember_12 rfl rfl ?_
    refine V.cVqv (n := 16) d_Hi_remember_13 k_Hi_22 (c_Hi_dropOldest hH0 hok) rfl rfl (by decide) rfl (fun μ' hq => ?_)
    obtain ⟨m1, m2, m3, m4⟩ := hq
    refine V.loc (lo' := [(1, rA E x), (0, rA E h)]) ⟨rfl, rfl, trivial⟩ ?_
    refine rest _ 1 (Or.inr ⟨by omega, rfl⟩) m1 ⟨fun i i0 i1 => ?_, fun i j i0 i1 j0 j1 e => ?_⟩ m4 (fun j j0 j1 => m2 j j0 (by omega))
    · by_cases hi : i = 3
      · rw [hi, m3]; exact hok.1 0 (by omega) (by omega)
      · rw [m2 i i0 (by omega)]; exact hok.1 (i + 1) (by omega) (by omega)
    · by_cases hi : i = 3
      · by_cases hj : j = 3
        · omega
        · rw [hi, m3, m2 j j0 (by omega)] at e
          have := hok.2 0 (j + 1) (by omega) (by omega) (by omega) (by omega) e
          omega
      · by_cases hj : j = 3
        · rw [hj, m3, m2 i i0 (by omega)] at e
          have := hok.2 (i + 1) 0 (by omega) (by omega) (by omega) (by omega) e
          omega
        · rw [m2 i i0 (by omega), m2 j j0 (by omega)] at e
          have := hok.2 (i + 1) (j + 1) (by omega) (by omega) (by omega) (by omega) e
          omega
theorem c_Hi_takeLatest (hH : isHist G h) (hok : okH μ h) (hz0 : 0 < μ h 1) (hz1 : μ h 1 ≤ 4) (hX : isState G x) (hd : x + 30 < h ∨ h + 125 < x) (he : μ (h + 1) (μ h 1 - 1) = (s : Int)) : KV E l 6 m_Hi_takeLatest h [rA E x] G μ 0 0 (dqv (fun μ' => μ' h = (fun j => if j = 1 then μ h 1 - 1 else μ h j) ∧ (∀ b, ¬ b = h → b < x ∨ x + 30 < b → μ' b = μ b) ∧ cpS μ' x μ s) G) := by
  have hH0 := hH
  obtain ⟨b0, b1, b2⟩ := hH
  obtain ⟨k1, hk1, e1⟩ := hok.1 (μ h 1 - 1) (by omega) (by omega)
  have hs : s = h + 2 + 31 * k1 := by omega
  subst hs
  refine ⟨KC.ofP q_Hi_takeLatest.1 rfl (Nat.le_of_ble_eq_true rfl) rfl (fun Post NT ST hP => ?_), ⟨_, _, _, b0, rfl, rfl⟩, q_Hi_takeLatest, by decide⟩
  refine V.aload_n (n := 1) d_Hi_takeLatest_0 rfl rfl ?_
  refine V.getI (n := 4) d_Hi_takeLatest_1 f_Hi_18 (by assumption) rfl rfl ?_
  refine V.if_leF (n := 7) d_Hi_takeLatest_4 (by omega) (by omega) rfl ⟨29, by decide⟩ ?_
  refine V.aload_n (n := 8) d_Hi_takeLatest_7 rfl rfl ?_
  refine V.dup (n := 9) d_Hi_takeLatest_8 rfl rfl ?_
  refine V.getI (n := 12) d_Hi_takeLatest_9 f_Hi_18 (by assumption) rfl rfl ?_
  refine V.iconst (n := 13) d_Hi_takeLatest_12 rfl ?_
  refine V.isub (n := 14) d_Hi_takeLatest_13 rfl ?_
  refine V.putI (n := 17) d_Hi_takeLatest_14 f_Hi_18 t_Hi_size ⟨rfl, rfl⟩ (by assumption) rfl rfl ?_
  refine V.aload_n (n := 18) d_Hi_takeLatest_17 rfl rfl ?_
  refine V.aload_n (n := 19) d_Hi_takeLatest_18 rfl rfl ?_
  refine V.getI (n := 22) d_Hi_takeLatest_19 f_Hi_18 (by assumption) rfl rfl ?_
  rw [wr_s]
  refine V.cVr (n := 25) d_Hi_takeLatest_22 k_Hi_25 (c_Hi_stateAt hH0 (by omega) (by omega) (by rw [wr_a (by omega)]; exact e1)) rfl rfl (by decide) rfl ?_
  refine V.aload_n (n := 26) d_Hi_takeLatest_25 rfl rfl ?_
  refine V.cSqv (n := 29) d_Hi_takeLatest_26 k_Hi_29 (c_Hi_copy hX (b2 k1 hk1) (by omega)) rfl rfl rfl (by decide) rfl (fun μ' hq => ?_)
  obtain ⟨m1, m2⟩ := hq
  refine V.vret d_Hi_takeLatest_29 rfl ?_
  have hsx : ∀ b, h + 2 ≤ b → wr μ h 1 (μ h 1 - 1) b = μ b := fun b c1 => wr_a (by omega)
  refine hP _ _ ⟨rfl, rfl, by rw [m1 h (by omega), wr_eq], fun b c1 c2 => by rw [m1 b c2, wr_a c1], ?_⟩
  obtain ⟨⟨p1, p2, p3⟩, p4, p5⟩ := m2
  refine ⟨⟨fun j j0 j1 => ?_, fun j j0 j1 => ?_, ?_⟩, fun j j0 j1 => ?_, ?_⟩
  · have h1 := p1 j j0 j1
    rw [hsx _ (by omega), hsx _ (by omega), hsx _ (by omega), hsx _ (by omega), hsx _ (by omega)] at h1
    exact h1
  · rw [p2 j j0 j1, hsx _ (by omega)]
  · rw [p3, hsx _ (by omega)]
  · have h1 := p4 j j0 j1
    rw [hsx _ (by omega), hsx _ (by omega), hsx _ (by omega), hsx _ (by omega), hsx _ (by omega), hsx _ (by omega), hsx _ (by omega), hsx _ (by omega)] at h1
    exact h1
  · rw [p5, hsx _ (by omega)]
def isText (G : GG) (t : Nat) : Prop := obj G t (.inl (7, [some (some (t + 1)), none])) ∧ obj G (t + 1) (.inr (1, 60))
theorem c_Tx_isFull (hT : isText G t) (h0 : inR (μ t 1)) : KV E l 0 m_Tx_isFull t [] G μ 0 0 (dq (some (rI (bi (60 ≤ μ t 1)))) G μ) := by
  obtain ⟨t0, t1⟩ := hT
  refine ⟨KC.ofP q_Tx_isFull.1 rfl (Nat.le_of_ble_eq_true rfl) rfl (fun Post NT ST hP => ?_), ⟨_, _, _, t0, rfl, rfl⟩, q_Tx_isFull, by decide⟩
  refine V.aload_n (n := 1) d_Tx_isFull_0 rfl rfl ?_
  refine V.getI (n := 4) d_Tx_isFull_1 f_Tx_15 (by assumption) rfl rfl ?_
  refine V.aload_n (n := 5) d_Tx_isFull_4 rfl rfl ?_
  refine V.getA (n := 8) d_Tx_isFull_5 f_Tx_9 (by assumption) rfl rfl ?_
  refine V.alen (n := 9) d_Tx_isFull_8 (by assumption) (by decide) rfl ?_
  refine V.icmp_lt (n2 := 16) (n := 12) d_Tx_isFull_9 (by omega) (by omega) (by decide) rfl (fun h => ?_) (fun h => ?_)
  · rw [bi_f (by omega)] at hP
    refine V.iconst (n := 17) d_Tx_isFull_16 rfl ?_
    refine V.iret d_Tx_isFull_17 ⟨_, rfl, rfl⟩ ?_
    exact hP _ _ ⟨rfl, rfl, rfl⟩
  · rw [bi_t (by omega)] at hP
    refine V.iconst (n := 13) d_Tx_isFull_12 rfl ?_
    refine V.goto (n := 17) d_Tx_isFull_13 (by decide) ?_
    refine V.iret d_Tx_isFull_17 ⟨_, rfl, rfl⟩ ?_
    exact hP _ _ ⟨rfl, rfl, rfl⟩
theorem c_Tx_append (hT : isText G t) (h0 : 0 ≤ μ t 1) (h1 : μ t 1 < 60) (hv : narrow .char (rI v) = rI v) : KV E l 0 m_Tx_append t [rI v] G μ 0 0 (dq none G (wr (wr μ (t + 1) (μ t 1) v) t 1 (μ t 1 + 1))) := by
  obtain ⟨t0, t1⟩ := hT
  refine ⟨KC.ofP q_Tx_append.1 rfl (Nat.le_of_ble_eq_true rfl) rfl (fun Post NT ST hP => ?_), ⟨_, _, _, t0, rfl, rfl⟩, q_Tx_append, by decide⟩
  refine V.aload_n (n := 1) d_Tx_append_0 rfl rfl ?_
  refine V.getI (n := 4) d_Tx_append_1 f_Tx_15 (by assumption) rfl rfl ?_
  refine V.if_ltF (n := 7) d_Tx_append_4 (by omega) (by omega) rfl ⟨39, by decide⟩ ?_
  refine V.aload_n (n := 8) d_Tx_append_7 rfl rfl ?_
  refine V.getI (n := 11) d_Tx_append_8 f_Tx_15 (by assumption) rfl rfl ?_
  refine V.aload_n (n := 12) d_Tx_append_11 rfl rfl ?_
  refine V.getA (n := 15) d_Tx_append_12 f_Tx_9 (by assumption) rfl rfl ?_
  refine V.alen (n := 16) d_Tx_append_15 (by assumption) (by decide) rfl ?_
  refine V.icmp_geF (n := 19) d_Tx_append_16 (by omega) (by omega) (by omega) rfl ⟨39, by decide⟩ ?_
  refine V.aload_n (n := 20) d_Tx_append_19 rfl rfl ?_
  refine V.getA (n := 23) d_Tx_append_20 f_Tx_9 (by assumption) rfl rfl ?_
  refine V.aload_n (n := 24) d_Tx_append_23 rfl rfl ?_
  refine V.getI (n := 27) d_Tx_append_24 f_Tx_15 (by assumption) rfl rfl ?_
  refine V.iload_n (n := 28) d_Tx_append_27 rfl rfl ?_
  refine V.cast (n := 29) d_Tx_append_28 (by assumption) (by omega) (by omega) (by omega) hv rfl ?_
  refine V.aload_n (n := 30) d_Tx_append_29 rfl rfl ?_
  refine V.dup (n := 31) d_Tx_append_30 rfl rfl ?_
  refine V.getI (n := 34) d_Tx_append_31 f_Tx_15 (by assumption) rfl rfl ?_
  refine V.iconst (n := 35) d_Tx_append_34 rfl ?_
  refine V.iadd (n := 36) d_Tx_append_35 rfl ?_
  refine V.putI (n := 39) d_Tx_append_36 f_Tx_15 t_Tx_length ⟨rfl, rfl⟩ (by assumption) rfl rfl ?_
  rw [wr_a (show ¬ t = t + 1 by omega)]
  refine V.vret d_Tx_append_39 rfl ?_
  exact hP _ _ ⟨rfl, rfl, rfl⟩
theorem c_Tx_clear (hT : isText G t) : KV E l 0 m_Tx_clear t [] G μ 0 0 (dq none G (wr μ t 1 0)) := by
  obtain ⟨t0, t1⟩ := hT
  refine ⟨KC.ofP q_Tx_clear.1 rfl (Nat.le_of_ble_eq_true rfl) rfl (fun Post NT ST hP => ?_), ⟨_, _, _, t0, rfl, rfl⟩, q_Tx_clear, by decide⟩
  refine V.aload_n (n := 1) d_Tx_clear_0 rfl rfl ?_
  refine V.iconst (n := 2) d_Tx_clear_1 rfl ?_
  refine V.putI (n := 5) d_Tx_clear_2 f_Tx_15 t_Tx_length ⟨rfl, rfl⟩ (by assumption) rfl rfl ?_
  refine V.vret d_Tx_clear_5 rfl ?_
  exact hP _ _ ⟨rfl, rfl, rfl⟩
/-- the sign at a place, -1 behind the text -/
def sgM (μ : MU) (t : Nat) (i : Int) : Int := if 0 ≤ i ∧ i < μ t 1 then μ (t + 1) i else -1
theorem c_Tx_signAt (hT : isText G t) (h0 : 0 ≤ μ t 1) (h1 : μ t 1 ≤ 60) (hi : inR i) : KV E l 0 m_Tx_signAt t [rI i] G μ 0 0 (dq (some (rI (sgM μ t i))) G μ) := by
  obtain ⟨t0, t1⟩ := hT
  unfold sgM
  refine ⟨KC.ofP q_Tx_signAt.1 rfl (Nat.le_of_ble_eq_true rfl) rfl (fun Post NT ST hP => ?_), ⟨_, _, _, t0, rfl, rfl⟩, q_Tx_signAt, by decide⟩
  refine V.iload_n (n := 1) d_Tx_signAt_0 rfl rfl ?_
  refine V.if_lt (n2 := 30) (n := 4) d_Tx_signAt_1 (by omega) (by decide) rfl (fun h2 => ?_) (fun h2 => ?_)
  · rw [if_neg (by omega)] at hP
    refine V.iconst (n := 31) d_Tx_signAt_30 rfl ?_
    refine V.iret d_Tx_signAt_31 ⟨_, rfl, rfl⟩ ?_
    exact hP _ _ ⟨rfl, rfl, rfl⟩
  · refine V.iload_n (n := 5) d_Tx_signAt_4 rfl rfl ?_
    refine V.aload_n (n := 6) d_Tx_signAt_5 rfl rfl ?_
    refine V.getI (n := 9) d_Tx_signAt_6 f_Tx_15 (by assumption) rfl rfl ?_
    refine V.icmp_ge (n2 := 30) (n := 12) d_Tx_signAt_9 (by omega) (by omega) (by decide) rfl (fun h3 => ?_) (fun h3 => ?_)
    · rw [if_neg (by omega)] at hP
      refine V.iconst (n := 31) d_Tx_signAt_30 rfl ?_
      refine V.iret d_Tx_signAt_31 ⟨_, rfl, rfl⟩ ?_
      exact hP _ _ ⟨rfl, rfl, rfl⟩
    · refine V.iload_n (n := 13) d_Tx_signAt_12 rfl rfl ?_
      refine V.aload_n (n := 14) d_Tx_signAt_13 rfl rfl ?_
      refine V.getA (n := 17) d_Tx_signAt_14 f_Tx_9 (by assumption) rfl rfl ?_
      refine V.alen (n := 18) d_Tx_signAt_17 (by assumption) (by decide) rfl ?_
      refine V.icmp_geF (n := 21) d_Tx_signAt_18 (by omega) (by omega) (by omega) rfl ⟨30, by decide⟩ ?_
      rw [if_pos (by omega)] at hP
      refine V.aload_n (n := 22) d_Tx_signAt_21 rfl rfl ?_
      refine V.getA (n := 25) d_Tx_signAt_22 f_Tx_9 (by assumption) rfl rfl ?_
      refine V.iload_n (n := 26) d_Tx_signAt_25 rfl rfl ?_
      refine V.cald (n := 27) d_Tx_signAt_26 (by assumption) (by omega) (by omega) (by omega) rfl ?_
      refine V.goto (n := 31) d_Tx_signAt_27 (by decide) ?_
      refine V.iret d_Tx_signAt_31 ⟨_, rfl, rfl⟩ ?_
      exact hP _ _ ⟨rfl, rfl, rfl⟩
end CHI
end
section
/-! THE CLASS: rounds, proofs -/
/-- who wins in k rounds: turns, marks, counts of moves, targets -/
def wb (tn cn : Int → Int) (tg : Int → Int → Int) (s : Int → Bool) (p : Int) : Bool :=
  if tn p = 0 then decide (0 < cs (fun i => bi (s (tg p i) = true)) (cn p).toNat) else decide (cs (fun i => bi (s (tg p i) = true)) (cn p).toNat = cn p)
def wk (tn mk cn : Int → Int) (tg : Int → Int → Int) : Nat → Int → Bool
  | 0, p => decide (mk p = 1)
  | k + 1, p => wk tn mk cn tg k p || (!decide (¬ mk p = 0 ∨ cn p = 0) && wb tn cn tg (wk tn mk cn tg k) p)
def rdk (tn mk cn : Int → Int) (tg : Int → Int → Int) : Nat → Int → Int
  | 0, p => if wk tn mk cn tg 0 p = true then 0 else -5
  | k + 1, p => if rdk tn mk cn tg k p = -5 then (if wk tn mk cn tg (k + 1) p = true then ((k + 1 : Nat) : Int) else -5) else rdk tn mk cn tg k p
section RK
variable {tn mk cn : Int → Int} {tg : Int → Int → Int}
theorem rdk_s (k : Nat) (p : Int) : rdk tn mk cn tg (k + 1) p = if rdk tn mk cn tg k p = -5 then (if wk tn mk cn tg (k + 1) p = true then ((k + 1 : Nat) : Int) else -5) else rdk tn mk cn tg k p := rfl
theorem wk_s (k : Nat) (p : Int) : wk tn mk cn tg (k + 1) p = (wk tn mk cn tg k p || (!decide (¬ mk p = 0 ∨ cn p = 0) && wb tn cn tg (wk tn mk cn tg k) p)) := rfl
theorem rdk_in : ∀ (k : Nat) (p : Int), (rdk tn mk cn tg k p = -5 ∧ wk tn mk cn tg k p = false) ∨ (0 ≤ rdk tn mk cn tg k p ∧ rdk tn mk cn tg k p ≤ k ∧ wk tn mk cn tg k p = true)
  | 0, p => by
    show ((if wk tn mk cn tg 0 p = true then (0 : Int) else -5) = -5 ∧ _) ∨ (0 ≤ (if wk tn mk cn tg 0 p = true then (0 : Int) else -5) ∧ (if wk tn mk cn tg 0 p = true then (0 : Int) else -5) ≤ _ ∧ _)
    by_cases h : wk tn mk cn tg 0 p = true
    · rw [if_pos h]; exact Or.inr ⟨by omega, by omega, h⟩
    · rw [if_neg h]; exact Or.inl ⟨rfl, by simpa using h⟩
  | k + 1, p => by
    have h0 := rdk_in k p
    rw [rdk_s]
    rcases h0 with ⟨h1, h2⟩ | ⟨h1, h2, h3⟩
    · rw [if_pos h1]
      by_cases h : wk tn mk cn tg (k + 1) p = true
      · rw [if_pos h]; exact Or.inr ⟨by omega, by omega, h⟩
      · rw [if_neg h]; exact Or.inl ⟨rfl, by simpa using h⟩
    · rw [if_neg (by omega)]
      exact Or.inr ⟨h1, by omega, by rw [wk_s, h3]; rfl⟩
end RK
theorem cs_congr {f f' : Int → Int} : ∀ {k : Nat}, (∀ j : Nat, j < k → f j = f' j) → cs f k = cs f' k
  | 0, _ => rfl
  | k + 1, h => by rw [cs_s, cs_s, cs_congr (fun j hj => h j (by omega)), h k (by omega)]
theorem cs_bd {f : Int → Int} : ∀ {k : Nat}, (∀ j : Nat, j < k → 0 ≤ f j ∧ f j ≤ 1) → 0 ≤ cs f k ∧ cs f k ≤ k
  | 0, _ => ⟨by show (0 : Int) ≤ 0; omega, by show (0 : Int) ≤ 0; omega⟩
  | k + 1, h => by
    have h1 := cs_bd (k := k) (fun j hj => h j (by omega))
    have h2 := h k (by omega)
    rw [cs_s]
    omega
theorem bi_in (p : Prop) [Decidable p] : 0 ≤ bi p ∧ bi p ≤ 1 := by
  rcases bi_or p with ⟨-, h⟩ | ⟨-, h⟩ <;> omega
def isRounds (G : GG) (r : Nat) : Prop := obj G r (.inl (4, [some (some (r + 1))])) ∧ isRow G (r + 1) (r + 2) 20
abbrev gtM (μ : MU) (g : Nat) : Int → Int → Int := fun p i => μ (g + 12) (p * 20 + i)
section CRO
variable {E : EV} {l : Launch} {G : GG} {μ : MU} {g r : Nat} {p q n : Int}
theorem c_Ro_isWon (hR : isRounds G r) (h0 : 0 ≤ p) (h1 : p < 20) (h2 : inR (μ (r + 2) p)) : KV E l 1 m_Ro_isWon r [rI p] G μ 0 0 (dq (some (rI (bi (¬ μ (r + 2) p = -5)))) G μ) := by
  obtain ⟨r0, r1⟩ := hR
  refine ⟨KC.ofP q_Ro_isWon.1 rfl (Nat.le_of_ble_eq_true rfl) rfl (fun Post NT ST hP => ?_), ⟨_, _, _, r0, rfl, rfl⟩, q_Ro_isWon, by decide⟩
  refine V.aload_n (n := 1) d_Ro_isWon_0 rfl rfl ?_
  refine V.getA (n := 4) d_Ro_isWon_1 f_Ro_14 (by assumption) rfl rfl ?_
  refine V.iload_n (n := 5) d_Ro_isWon_4 rfl rfl ?_
  refine V.cVi (n := 8) d_Ro_isWon_5 k_Ro_50 (c_Rw_get (by assumption) (by omega) (by omega)) rfl rfl (by decide) rfl ?_
  refine V.bipush (n := 10) d_Ro_isWon_8 (by decide) rfl ?_
  refine V.icmp_eq (n2 := 17) (n := 13) d_Ro_isWon_10 (by omega) (by omega) (by decide) rfl (fun h => ?_) (fun h => ?_)
  · rw [bi_f (fun x => x h)] at hP
    refine V.iconst (n := 18) d_Ro_isWon_17 rfl ?_
    refine V.iret d_Ro_isWon_18 ⟨_, rfl, rfl⟩ ?_
    exact hP _ _ ⟨rfl, rfl, rfl⟩
  · rw [bi_t h] at hP
    refine V.iconst (n := 14) d_Ro_isWon_13 rfl ?_
    refine V.goto (n := 18) d_Ro_isWon_14 (by decide) ?_
    refine V.iret d_Ro_isWon_18 ⟨_, rfl, rfl⟩ ?_
    exact hP _ _ ⟨rfl, rfl, rfl⟩
theorem c_Ro_roundOf (hR : isRounds G r) (h0 : 0 ≤ p) (h1 : p < 20) : KV E l 1 m_Ro_roundOf r [rI p] G μ 0 0 (dq (some (rI (μ (r + 2) p))) G μ) := by
  obtain ⟨r0, r1⟩ := hR
  refine ⟨KC.ofP q_Ro_roundOf.1 rfl (Nat.le_of_ble_eq_true rfl) rfl (fun Post NT ST hP => ?_), ⟨_, _, _, r0, rfl, rfl⟩, q_Ro_roundOf, by decide⟩
  refine V.aload_n (n := 1) d_Ro_roundOf_0 rfl rfl ?_
  refine V.getA (n := 4) d_Ro_roundOf_1 f_Ro_14 (by assumption) rfl rfl ?_
  refine V.iload_n (n := 5) d_Ro_roundOf_4 rfl rfl ?_
  refine V.cVi (n := 8) d_Ro_roundOf_5 k_Ro_50 (c_Rw_get (by assumption) (by omega) (by omega)) rfl rfl (by decide) rfl ?_
  refine V.iret d_Ro_roundOf_8 ⟨_, rfl, rfl⟩ ?_
  exact hP _ _ ⟨rfl, rfl, rfl⟩
theorem c_Ro_isWonBy (hR : isRounds G r) (hG : isGame G g) (hg : okG μ g) (hTg : okT μ g) (h0 : 0 ≤ p) (h1 : p < 20) (hn : inR n) (hw : ∀ j : Int, 0 ≤ j → j < 20 → inR (μ (r + 2) j)) (s : Int → Bool) (hs : ∀ j : Int, 0 ≤ j → j < 20 → (s j = true ↔ ¬ μ (r + 2) j = -5 ∧ μ (r + 2) j < n)) : KV E l 2 m_Ro_isWonBy r [rA E g, rI p, rI n] G μ 0 0 (dq (some (rI (bi (wb (μ (g + 2)) (μ (g + 10)) (gtM μ g) s p = true)))) G μ) := by
  have hR0 := hR
  have hG0 := hG
  obtain ⟨r0, r1⟩ := hR
  obtain ⟨a0, a1, a2, a3, a4, a5, a6⟩ := hG
  have hgp := hg p h0 h1
  refine ⟨KC.ofP q_Ro_isWonBy.1 rfl (Nat.le_of_ble_eq_true rfl) rfl (fun Post NT ST hP => ?_), ⟨_, _, _, r0, rfl, rfl⟩, q_Ro_isWonBy, by decide⟩
  refine V.aload_n (n := 1) d_Ro_isWonBy_0 rfl rfl ?_
  refine V.getA (n := 4) d_Ro_isWonBy_1 f_Ro_47 (by assumption) rfl rfl ?_
  refine V.iload_n (n := 5) d_Ro_isWonBy_4 rfl rfl ?_
  refine V.cVi (n := 8) d_Ro_isWonBy_5 k_Ro_50 (c_Rw_get (by assumption) (by omega) (by omega)) rfl rfl (by decide) rfl ?_
  refine V.istore (n := 10) d_Ro_isWonBy_8 (by decide) rfl ?_
  refine V.iconst (n := 11) d_Ro_isWonBy_10 rfl ?_
  refine V.istore (n := 13) d_Ro_isWonBy_11 (by decide) rfl ?_
  refine V.iconst (n := 14) d_Ro_isWonBy_13 rfl ?_
  refine V.istore (n := 16) d_Ro_isWonBy_14 (by decide) rfl ?_
  have loop : ∀ (k : Nat) (j : Nat) (u : Value), u.category = 1 → (j : Int) + k = μ (g + 10) p → V E l m_Ro_isWonBy none 2 NT ST Post 16 [(6, rI j), (5, rI (cs (fun i => bi (s (gtM μ g p i) = true)) j)), (4, rI (μ (g + 10) p)), (3, rI n), (2, rI p), (1, rA E g), (0, rA E r)] [] G μ := by
    intro k
    induction k with
    | zero =>
      intro j u hu hj
      have hb := cs_bd (f := fun i => bi (s (gtM μ g p i) = true)) (k := j) (fun _ _ => bi_in _)
      have hjt : j = (μ (g + 10) p).toNat := by omega
      subst hjt
      refine V.iload (n := 18) d_Ro_isWonBy_16 rfl rfl ?_
      refine V.iload (n := 20) d_Ro_isWonBy_18 rfl rfl ?_
      refine V.icmp_geT (n2 := 60) d_Ro_isWonBy_20 (by omega) (by omega) (by omega) (by decide) ?_
      refine V.aload_n (n := 61) d_Ro_isWonBy_60 rfl rfl ?_
      refine V.getA (n := 64) d_Ro_isWonBy_61 f_Ro_61 (by assumption) rfl rfl ?_
      refine V.iload_n (n := 65) d_Ro_isWonBy_64 rfl rfl ?_
      refine V.cVi (n := 68) d_Ro_isWonBy_65 k_Ro_50 (c_Rw_get (by assumption) (by omega) (by omega)) rfl rfl (by decide) rfl ?_
      refine V.if_ne (n2 := 84) (n := 71) d_Ro_isWonBy_68 (by omega) (by decide) rfl (fun h2 => ?_) (fun h2 => ?_)
      · refine V.iload (n := 86) d_Ro_isWonBy_84 rfl rfl ?_
        refine V.iload (n := 88) d_Ro_isWonBy_86 rfl rfl ?_
        refine V.icmp_ne (n2 := 95) (n := 91) d_Ro_isWonBy_88 (by omega) (by omega) (by decide) rfl (fun h3 => ?_) (fun h3 => ?_)
        · rw [bi_f (by unfold wb; rw [if_neg h2]; simpa using h3)] at hP
          refine V.iconst (n := 96) d_Ro_isWonBy_95 rfl ?_
          refine V.iret d_Ro_isWonBy_96 ⟨_, rfl, rfl⟩ ?_
          exact hP _ _ ⟨rfl, rfl, rfl⟩
        · rw [bi_t (by unfold wb; rw [if_neg h2]; simpa using h3)] at hP
          refine V.iconst (n := 92) d_Ro_isWonBy_91 rfl ?_
          refine V.goto (n := 96) d_Ro_isWonBy_92 (by decide) ?_
          refine V.iret d_Ro_isWonBy_96 ⟨_, rfl, rfl⟩ ?_
          exact hP _ _ ⟨rfl, rfl, rfl⟩
      · refine V.iload (n := 73) d_Ro_isWonBy_71 rfl rfl ?_
        refine V.if_le (n2 := 80) (n := 76) d_Ro_isWonBy_73 (by omega) (by decide) rfl (fun h3 => ?_) (fun h3 => ?_)
        · rw [bi_f (by unfold wb; rw [if_pos h2]; simpa using h3)] at hP
          refine V.iconst (n := 81) d_Ro_isWonBy_80 rfl ?_
          refine V.goto (n := 96) d_Ro_isWonBy_81 (by decide) ?_
          refine V.iret d_Ro_isWonBy_96 ⟨_, rfl, rfl⟩ ?_
          exact hP _ _ ⟨rfl, rfl, rfl⟩
        · rw [bi_t (by unfold wb; rw [if_pos h2]; simpa using h3)] at hP
          refine V.iconst (n := 77) d_Ro_isWonBy_76 rfl ?_
          refine V.goto (n := 96) d_Ro_isWonBy_77 (by decide) ?_
          refine V.iret d_Ro_isWonBy_96 ⟨_, rfl, rfl⟩ ?_
          exact hP _ _ ⟨rfl, rfl, rfl⟩
    | succ k ih =>
      intro j u hu hj
      have hb := cs_bd (f := fun i => bi (s (gtM μ g p i) = true)) (k := j) (fun _ _ => bi_in _)
      have ht := hTg p j h0 h1 (by omega) (by omega)
      have hwj := hw _ ht.1 ht.2
      have hsj := hs _ ht.1 ht.2
      have hx := ih (j + 1) (rI 0) rfl (by omega)
      rw [cs_s, show ((j + 1 : Nat) : Int) = (j : Int) + 1 by omega] at hx
      refine V.iload (n := 18) d_Ro_isWonBy_16 rfl rfl ?_
      refine V.iload (n := 20) d_Ro_isWonBy_18 rfl rfl ?_
      refine V.icmp_geF (n := 23) d_Ro_isWonBy_20 (by omega) (by omega) (by omega) rfl ⟨60, by decide⟩ ?_
      refine V.aload_n (n := 24) d_Ro_isWonBy_23 rfl rfl ?_
      refine V.iload_n (n := 25) d_Ro_isWonBy_24 rfl rfl ?_
      refine V.iload (n := 27) d_Ro_isWonBy_25 rfl rfl ?_
      refine V.cVi (n := 30) d_Ro_isWonBy_27 k_Ro_54 (c_Gm_targetOf (by assumption) (by omega) (by omega) (by omega) (by omega) (by omega)) rfl rfl (by decide) rfl ?_
      refine V.istore (n := 32) d_Ro_isWonBy_30 (by decide) rfl ?_
      refine V.aload_n (n := 33) d_Ro_isWonBy_32 rfl rfl ?_
      refine V.iload (n := 35) d_Ro_isWonBy_33 rfl rfl ?_
      refine V.cVi (n := 38) d_Ro_isWonBy_35 k_Ro_37 (c_Ro_isWon hR0 ht.1 ht.2 hwj) rfl rfl (by decide) rfl ?_
      rcases bi_or (¬ μ (r + 2) (μ (g + 12) (p * 20 + j)) = -5) with ⟨hb1, e⟩ | ⟨hb1, e⟩ <;> rw [e]
      · refine V.if_eqF (n := 41) d_Ro_isWonBy_38 (by omega) (by omega) rfl ⟨54, by decide⟩ ?_
        refine V.aload_n (n := 42) d_Ro_isWonBy_41 rfl rfl ?_
        refine V.iload (n := 44) d_Ro_isWonBy_42 rfl rfl ?_
        refine V.cVi (n := 47) d_Ro_isWonBy_44 k_Ro_58 (c_Ro_roundOf hR0 ht.1 ht.2) rfl rfl (by decide) rfl ?_
        refine V.iload_n (n := 48) d_Ro_isWonBy_47 rfl rfl ?_
        refine V.icmp_ge (n2 := 54) (n := 51) d_Ro_isWonBy_48 (by omega) (by omega) (by decide) rfl (fun h3 => ?_) (fun h3 => ?_)
        · rw [bi_f (fun x => by have := (hsj.mp x).2; omega), Int.add_zero] at hx
          refine V.iinc (n := 57) d_Ro_isWonBy_54 rfl (by decide) rfl ?_
          refine V.goto (n := 16) d_Ro_isWonBy_57 (by decide) ?_
          refine V.loc (lo' := [(6, rI ((j : Int) + 1)), (5, rI (cs (fun i => bi (s (gtM μ g p i) = true)) j)), (4, rI (μ (g + 10) p)), (3, rI n), (2, rI p), (1, rA E g), (0, rA E r)]) ⟨rfl, rfl, rfl, rfl, rfl, rfl, rfl, trivial⟩ ?_
          exact hx
        · rw [bi_t (hsj.mpr ⟨hb1, by omega⟩)] at hx
          refine V.iinc (n := 54) d_Ro_isWonBy_51 rfl (by decide) rfl ?_
          refine V.iinc (n := 57) d_Ro_isWonBy_54 rfl (by decide) rfl ?_
          refine V.goto (n := 16) d_Ro_isWonBy_57 (by decide) ?_
          refine V.loc (lo' := [(6, rI ((j : Int) + 1)), (5, rI (cs (fun i => bi (s (gtM μ g p i) = true)) j + 1)), (4, rI (μ (g + 10) p)), (3, rI n), (2, rI p), (1, rA E g), (0, rA E r)]) ⟨rfl, rfl, rfl, rfl, rfl, rfl, rfl, trivial⟩ ?_
          exact hx
      · rw [bi_f (fun x => hb1 (hsj.mp x).1), Int.add_zero] at hx
        refine V.if_eqT (n2 := 54) d_Ro_isWonBy_38 (by omega) (by omega) (by decide) ?_
        refine V.iinc (n := 57) d_Ro_isWonBy_54 rfl (by decide) rfl ?_
        refine V.goto (n := 16) d_Ro_isWonBy_57 (by decide) ?_
        refine V.loc (lo' := [(6, rI ((j : Int) + 1)), (5, rI (cs (fun i => bi (s (gtM μ g p i) = true)) j)), (4, rI (μ (g + 10) p)), (3, rI n), (2, rI p), (1, rA E g), (0, rA E r)]) ⟨rfl, rfl, rfl, rfl, rfl, rfl, rfl, trivial⟩ ?_
        exact hx
  have hl := loop (μ (g + 10) p).toNat 0 (rI 0) rfl (by omega)
  refine V.loc (lo' := [(6, rI 0), (5, rI 0), (4, rI (μ (g + 10) p)), (3, rI n), (2, rI p), (1, rA E g), (0, rA E r)]) ⟨rfl, rfl, rfl, rfl, rfl, rfl, rfl, trivial⟩ ?_
  exact hl
abbrev rdM (μ : MU) (g : Nat) : Nat → Int → Int := rdk (μ (g + 2)) (μ (g + 4)) (μ (g + 10)) (gtM μ g)
abbrev wkM (μ : MU) (g : Nat) : Nat → Int → Bool := wk (μ (g + 2)) (μ (g + 4)) (μ (g + 10)) (gtM μ g)
theorem rdM_in (μ : MU) (g k : Nat) (p : Int) : (rdM μ g k p = -5 ∧ wkM μ g k p = false) ∨ (0 ≤ rdM μ g k p ∧ rdM μ g k p ≤ k ∧ wkM μ g k p = true) := rdk_in k p
theorem c_Ro_playRound (hR : isRounds G r) (hG : isGame G g) (hd : r + 2 < g ∨ g + 12 < r) {μ0 : MU} (h0g : ∀ b, ¬ b = r + 2 → μ b = μ0 b) (hg : okG μ0 g) (hTg : okT μ0 g) (m : Nat) (hm : m < 20) (hw : ∀ j : Int, 0 ≤ j → j < 20 → μ (r + 2) j = rdM μ0 g m j) : KV E l 3 m_Ro_playRound r [rA E g, rI (m + 1)] G μ 0 0 (dqv (fun μ' => (∀ b, ¬ b = r + 2 → μ' b = μ0 b) ∧ ∀ j : Int, 0 ≤ j → j < 20 → μ' (r + 2) j = rdM μ0 g (m + 1) j) G) := by
  have hR0 := hR
  have hG0 := hG
  obtain ⟨r0, r1⟩ := hR
  obtain ⟨a0, a1, a2, a3, a4, a5, a6⟩ := hG
  refine ⟨KC.ofP q_Ro_playRound.1 rfl (Nat.le_of_ble_eq_true rfl) rfl (fun Post NT ST hP => ?_), ⟨_, _, _, r0, rfl, rfl⟩, q_Ro_playRound, by decide⟩
  refine V.iconst (n := 1) d_Ro_playRound_0 rfl ?_
  refine V.istore_n (n := 2) d_Ro_playRound_1 (by decide) rfl ?_
  have loop : ∀ (k : Nat) (i : Int) (ν : MU), i + k = 20 → 0 ≤ i → (∀ b, ¬ b = r + 2 → ν b = μ0 b) → (∀ j : Int, 0 ≤ j → j < 20 → ν (r + 2) j = if j < i then rdM μ0 g (m + 1) j else rdM μ0 g m j) → V E l m_Ro_playRound none 3 NT ST Post 2 [(3, rI i), (2, rI (m + 1)), (1, rA E g), (0, rA E r)] [] G ν := by
    intro k
    induction k with
    | zero =>
      intro i ν hk hi n1 n2
      refine V.iload_n (n := 3) d_Ro_playRound_2 rfl rfl ?_
      refine V.bipush (n := 5) d_Ro_playRound_3 (by decide) rfl ?_
      refine V.icmp_geT (n2 := 49) d_Ro_playRound_5 (by omega) (by omega) (by omega) (by decide) ?_
      refine V.vret d_Ro_playRound_49 rfl ?_
      exact hP _ _ ⟨rfl, rfl, n1, fun j j0 j1 => by rw [n2 j j0 j1, if_pos (by omega)]⟩
    | succ k ih =>
      intro i ν hk hi n1 n2
      have f2 : ν (g + 2) = μ0 (g + 2) := n1 _ (by omega)
      have f4 : ν (g + 4) = μ0 (g + 4) := n1 _ (by omega)
      have f6 : ν (g + 6) = μ0 (g + 6) := n1 _ (by omega)
      have f8 : ν (g + 8) = μ0 (g + 8) := n1 _ (by omega)
      have f10 : ν (g + 10) = μ0 (g + 10) := n1 _ (by omega)
      have f12 : ν (g + 12) = μ0 (g + 12) := n1 _ (by omega)
      have hi2 := n2 i hi (by omega)
      rw [if_neg (by omega)] at hi2
      have hbd : ∀ j : Int, 0 ≤ j → j < 20 → -5 ≤ ν (r + 2) j ∧ ν (r + 2) j ≤ 20 := fun j j0 j1 => by
        rw [n2 j j0 j1]
        have q1 := rdM_in μ0 g m j
        have q2 := rdM_in μ0 g (m + 1) j
        split <;> omega
      have hbi := hbd i hi (by omega)
      have hgi := hg i hi (by omega)
      have hgo : okG ν g := fun p p0 p1 => by
        rw [f2, f4, f6, f8, f10]
        exact hg p p0 p1
      have hTo : okT ν g := fun p q p0 p1 q0 q1 => by
        rw [f12]
        exact hTg p q p0 p1 q0 (by rw [f10] at q1; exact q1)
      have hs : ∀ j : Int, 0 ≤ j → j < 20 → (wkM μ0 g m j = true ↔ ¬ ν (r + 2) j = -5 ∧ ν (r + 2) j < m + 1) := fun j j0 j1 => by
        rw [n2 j j0 j1]
        have q1 := rdk_in (tn := μ0 (g + 2)) (mk := μ0 (g + 4)) (cn := μ0 (g + 10)) (tg := gtM μ0 g) m j
        have q3 := rdk_s (tn := μ0 (g + 2)) (mk := μ0 (g + 4)) (cn := μ0 (g + 10)) (tg := gtM μ0 g) m j
        rcases q1 with ⟨q1, q2⟩ | ⟨q1, q2, q4⟩
        · rw [show wkM μ0 g m j = false from q2]
          have : rdM μ0 g m j = -5 := q1
          have h3 : rdM μ0 g (m + 1) j = -5 ∨ rdM μ0 g (m + 1) j = ((m + 1 : Nat) : Int) := by
            show rdk _ _ _ _ (m + 1) j = _ ∨ rdk _ _ _ _ (m + 1) j = _
            rw [q3, if_pos q1]
            split
            · exact Or.inr rfl
            · exact Or.inl rfl
          constructor
          · intro x; cases x
          · intro x
            split at x <;> omega
        · rw [show wkM μ0 g m j = true from q4]
          have e1 : rdM μ0 g (m + 1) j = rdM μ0 g m j := by
            show rdk _ _ _ _ (m + 1) j = _
            rw [q3, if_neg (by omega)]
          rw [e1]
          have q1' : 0 ≤ rdM μ0 g m j := q1
          have q2' : rdM μ0 g m j ≤ m := q2
          refine ⟨fun _ => ?_, fun _ => rfl⟩
          split <;> omega
      have key : rdM μ0 g (m + 1) i = if rdM μ0 g m i = -5 then (if ¬ (¬ μ0 (g + 4) i = 0 ∨ μ0 (g + 10) i = 0) ∧ wb (μ0 (g + 2)) (μ0 (g + 10)) (gtM μ0 g) (wkM μ0 g m) i = true then ((m + 1 : Nat) : Int) else -5) else rdM μ0 g m i := by
        show rdk _ _ _ _ (m + 1) i = _
        rw [rdk_s]
        have q1 := rdk_in (tn := μ0 (g + 2)) (mk := μ0 (g + 4)) (cn := μ0 (g + 10)) (tg := gtM μ0 g) m i
        by_cases h5 : rdM μ0 g m i = -5
        · rw [if_pos h5, if_pos h5]
          have hwf : wkM μ0 g m i = false := by
            rcases q1 with ⟨-, q⟩ | ⟨q, -, -⟩
            · exact q
            · have : 0 ≤ rdM μ0 g m i := q
              omega
          congr 1
          rw [wk_s, show wk (μ0 (g + 2)) (μ0 (g + 4)) (μ0 (g + 10)) (gtM μ0 g) m i = false from hwf]
          simp
        · rw [if_neg h5, if_neg h5]
      have next : ∀ ν' : MU, (∀ b, ¬ b = r + 2 → ν' b = ν b) → (∀ j : Int, ¬ j = i → ν' (r + 2) j = ν (r + 2) j) → ν' (r + 2) i = rdM μ0 g (m + 1) i → V E l m_Ro_playRound none 3 NT ST Post 2 [(3, rI (i + 1)), (2, rI (m + 1)), (1, rA E g), (0, rA E r)] [] G ν' := by
        intro ν' o1 o2 o3
        refine ih (i + 1) ν' (by omega) (by omega) (fun b hb => by rw [o1 b hb, n1 b hb]) (fun j j0 j1 => ?_)
        by_cases hj : j = i
        · rw [hj, o3, if_pos (by omega)]
        · rw [o2 j hj, n2 j j0 j1]
          by_cases hji : j < i
          · rw [if_pos hji, if_pos (by omega)]
          · rw [if_neg hji, if_neg (by omega)]
      refine V.iload_n (n := 3) d_Ro_playRound_2 rfl rfl ?_
      refine V.bipush (n := 5) d_Ro_playRound_3 (by decide) rfl ?_
      refine V.icmp_geF (n := 8) d_Ro_playRound_5 (by omega) (by omega) (by omega) rfl ⟨49, by decide⟩ ?_
      refine V.aload_n (n := 9) d_Ro_playRound_8 rfl rfl ?_
      refine V.iload_n (n := 10) d_Ro_playRound_9 rfl rfl ?_
      refine V.cVi (n := 13) d_Ro_playRound_10 k_Ro_37 (c_Ro_isWon hR0 hi (by omega) (by omega)) rfl rfl (by decide) rfl ?_
      rw [hi2]
      rcases bi_or (¬ rdM μ0 g m i = -5) with ⟨hb1, e⟩ | ⟨hb1, e⟩ <;> rw [e]
      · rw [if_neg hb1] at key
        refine V.if_neT (n2 := 43) d_Ro_playRound_13 (by omega) (by omega) (by decide) ?_
        refine V.iinc (n := 46) d_Ro_playRound_43 rfl (by decide) rfl ?_
        refine V.goto (n := 2) d_Ro_playRound_46 (by decide) ?_
        refine V.loc (lo' := [(3, rI (i + 1)), (2, rI (m + 1)), (1, rA E g), (0, rA E r)]) ⟨rfl, rfl, rfl, rfl, trivial⟩ ?_
        exact next ν (fun _ _ => rfl) (fun _ _ => rfl) (by rw [key, hi2])
      · rw [if_pos (by omega)] at key
        refine V.if_neF (n := 16) d_Ro_playRound_13 (by omega) (by omega) rfl ⟨43, by decide⟩ ?_
        refine V.aload_n (n := 17) d_Ro_playRound_16 rfl rfl ?_
        refine V.iload_n (n := 18) d_Ro_playRound_17 rfl rfl ?_
        refine V.cVi (n := 21) d_Ro_playRound_18 k_Ro_40 (c_Gm_isEnd hG0 hi (by omega) (by rw [f4]; omega) (by rw [f10]; omega)) rfl rfl (by decide) rfl ?_
        rw [f4, f10]
        rcases bi_or (¬ μ0 (g + 4) i = 0 ∨ μ0 (g + 10) i = 0) with ⟨hb2, e⟩ | ⟨hb2, e⟩ <;> rw [e]
        · rw [if_neg (fun x => x.1 hb2)] at key
          refine V.if_neT (n2 := 43) d_Ro_playRound_21 (by omega) (by omega) (by decide) ?_
          refine V.iinc (n := 46) d_Ro_playRound_43 rfl (by decide) rfl ?_
          refine V.goto (n := 2) d_Ro_playRound_46 (by decide) ?_
          refine V.loc (lo' := [(3, rI (i + 1)), (2, rI (m + 1)), (1, rA E g), (0, rA E r)]) ⟨rfl, rfl, rfl, rfl, trivial⟩ ?_
          exact next ν (fun _ _ => rfl) (fun _ _ => rfl) (by rw [key, hi2]; omega)
        · refine V.if_neF (n := 24) d_Ro_playRound_21 (by omega) (by omega) rfl ⟨43, by decide⟩ ?_
          refine V.aload_n (n := 25) d_Ro_playRound_24 rfl rfl ?_
          refine V.aload_n (n := 26) d_Ro_playRound_25 rfl rfl ?_
          refine V.iload_n (n := 27) d_Ro_playRound_26 rfl rfl ?_
          refine V.iload_n (n := 28) d_Ro_playRound_27 rfl rfl ?_
          refine V.cVi (n := 31) d_Ro_playRound_28 k_Ro_43 (c_Ro_isWonBy hR0 hG0 hgo hTo hi (by omega) (by omega) (fun j j0 j1 => by have := hbd j j0 j1; omega) (wkM μ0 g m) hs) rfl rfl (by decide) rfl ?_
          rw [show gtM ν g = gtM μ0 g by funext a b; show ν (g + 12) _ = _; rw [f12], f2, f10]
          rcases bi_or (wb (μ0 (g + 2)) (μ0 (g + 10)) (gtM μ0 g) (wkM μ0 g m) i = true) with ⟨hb3, e⟩ | ⟨hb3, e⟩ <;> rw [e]
          · rw [if_pos ⟨hb2, hb3⟩] at key
            refine V.if_eqF (n := 34) d_Ro_playRound_31 (by omega) (by omega) rfl ⟨43, by decide⟩ ?_
            refine V.aload_n (n := 35) d_Ro_playRound_34 rfl rfl ?_
            refine V.getA (n := 38) d_Ro_playRound_35 f_Ro_14 (by assumption) rfl rfl ?_
            refine V.iload_n (n := 39) d_Ro_playRound_38 rfl rfl ?_
            refine V.iload_n (n := 40) d_Ro_playRound_39 rfl rfl ?_
            refine V.cVv (n := 43) d_Ro_playRound_40 k_Ro_29 (c_Rw_set (by assumption) (by omega) (by omega)) rfl rfl (by decide) rfl ?_
            refine V.iinc (n := 46) d_Ro_playRound_43 rfl (by decide) rfl ?_
            refine V.goto (n := 2) d_Ro_playRound_46 (by decide) ?_
            refine V.loc (lo' := [(3, rI (i + 1)), (2, rI (m + 1)), (1, rA E g), (0, rA E r)]) ⟨rfl, rfl, rfl, rfl, trivial⟩ ?_
            exact next _ (fun b hb => wr_a hb) (fun j hj => wr_i hj) (by rw [wr_s, key]; omega)
          · rw [if_neg (fun x => hb3 x.2)] at key
            refine V.if_eqT (n2 := 43) d_Ro_playRound_31 (by omega) (by omega) (by decide) ?_
            refine V.iinc (n := 46) d_Ro_playRound_43 rfl (by decide) rfl ?_
            refine V.goto (n := 2) d_Ro_playRound_46 (by decide) ?_
            refine V.loc (lo' := [(3, rI (i + 1)), (2, rI (m + 1)), (1, rA E g), (0, rA E r)]) ⟨rfl, rfl, rfl, rfl, trivial⟩ ?_
            exact next ν (fun _ _ => rfl) (fun _ _ => rfl) (by rw [key, hi2]; omega)
  refine V.loc (lo' := [(3, rI 0), (2, rI (m + 1)), (1, rA E g), (0, rA E r)]) ⟨rfl, rfl, rfl, rfl, trivial⟩ ?_
  exact loop 20 0 μ (by omega) (by omega) h0g (fun j j0 j1 => by rw [if_neg (by omega), hw j j0 j1])
theorem c_Ro_workOut (hR : isRounds G r) (hG : isGame G g) (hd : r + 2 < g ∨ g + 12 < r) (hg : okG μ g) (hTg : okT μ g) : KV E l 4 m_Ro_workOut r [rA E g] G μ 0 0 (dqv (fun μ' => (∀ b, ¬ b = r + 2 → μ' b = μ b) ∧ ∀ j : Int, 0 ≤ j → j < 20 → μ' (r + 2) j = rdM μ g 20 j) G) := by
  have hR0 := hR
  have hG0 := hG
  obtain ⟨r0, r1⟩ := hR
  obtain ⟨a0, a1, a2, a3, a4, a5, a6⟩ := hG
  refine ⟨KC.ofP q_Ro_workOut.1 rfl (Nat.le_of_ble_eq_true rfl) rfl (fun Post NT ST hP => ?_), ⟨_, _, _, r0, rfl, rfl⟩, q_Ro_workOut, by decide⟩
  refine V.aload_n (n := 1) d_Ro_workOut_0 rfl rfl ?_
  refine V.getA (n := 4) d_Ro_workOut_1 f_Ro_14 (by assumption) rfl rfl ?_
  refine V.bipush (n := 6) d_Ro_workOut_4 (by decide) rfl ?_
  refine V.cVqv (n := 9) d_Ro_workOut_6 k_Ro_20 (c_Rw_fill r1) rfl rfl (by decide) rfl (fun μ1 hq => ?_)
  obtain ⟨m1, m2⟩ := hq
  refine V.iconst (n := 10) d_Ro_workOut_9 rfl ?_
  refine V.istore_n (n := 11) d_Ro_workOut_10 (by decide) rfl ?_
  have loop2 : ∀ (k : Nat) (m : Nat) (ν : MU), m + k = 20 → (∀ b, ¬ b = r + 2 → ν b = μ b) → (∀ j : Int, 0 ≤ j → j < 20 → ν (r + 2) j = rdM μ g m j) → V E l m_Ro_workOut none 4 NT ST Post 42 [(2, rI (m + 1)), (1, rA E g), (0, rA E r)] [] G ν := by
    intro k
    induction k with
    | zero =>
      intro m ν hk n1 n2
      have hm : m = 20 := by omega
      subst hm
      refine V.iload_n (n := 43) d_Ro_workOut_42 rfl rfl ?_
      refine V.bipush (n := 45) d_Ro_workOut_43 (by decide) rfl ?_
      refine V.icmp_gtT (n2 := 60) d_Ro_workOut_45 (by omega) (by omega) (by omega) (by decide) ?_
      refine V.vret d_Ro_workOut_60 rfl ?_
      exact hP _ _ ⟨rfl, rfl, n1, n2⟩
    | succ k ih =>
      intro m ν hk n1 n2
      refine V.iload_n (n := 43) d_Ro_workOut_42 rfl rfl ?_
      refine V.bipush (n := 45) d_Ro_workOut_43 (by decide) rfl ?_
      refine V.icmp_gtF (n := 48) d_Ro_workOut_45 (by omega) (by omega) (by omega) rfl ⟨60, by decide⟩ ?_
      refine V.aload_n (n := 49) d_Ro_workOut_48 rfl rfl ?_
      refine V.aload_n (n := 50) d_Ro_workOut_49 rfl rfl ?_
      refine V.iload_n (n := 51) d_Ro_workOut_50 rfl rfl ?_
      refine V.cVqv (n := 54) d_Ro_workOut_51 k_Ro_33 (c_Ro_playRound hR0 hG0 hd n1 hg hTg m (by omega) n2) rfl rfl (by decide) rfl (fun μ' hq => ?_)
      have hx := ih (m + 1) _ (by omega) hq.1 hq.2
      rw [show (((m + 1 : Nat) : Int) + 1) = (m : Int) + 1 + 1 by omega] at hx
      refine V.iinc (n := 57) d_Ro_workOut_54 rfl (by decide) rfl ?_
      refine V.goto (n := 42) d_Ro_workOut_57 (by decide) ?_
      refine V.loc (lo' := [(2, rI ((m : Int) + 1 + 1)), (1, rA E g), (0, rA E r)]) ⟨rfl, rfl, rfl, trivial⟩ ?_
      exact hx
  have loop1 : ∀ (k : Nat) (i : Int) (ν : MU), i + k = 20 → 0 ≤ i → (∀ b, ¬ b = r + 2 → ν b = μ b) → (∀ j : Int, 0 ≤ j → j < 20 → ν (r + 2) j = if j < i then rdM μ g 0 j else -5) → V E l m_Ro_workOut none 4 NT ST Post 11 [(2, rI i), (1, rA E g), (0, rA E r)] [] G ν := by
    intro k
    induction k with
    | zero =>
      intro i ν hk hi n1 n2
      refine V.iload_n (n := 12) d_Ro_workOut_11 rfl rfl ?_
      refine V.bipush (n := 14) d_Ro_workOut_12 (by decide) rfl ?_
      refine V.icmp_geT (n2 := 40) d_Ro_workOut_14 (by omega) (by omega) (by omega) (by decide) ?_
      refine V.iconst (n := 41) d_Ro_workOut_40 rfl ?_
      refine V.istore_n (n := 42) d_Ro_workOut_41 (by decide) rfl ?_
      refine V.loc (lo' := [(2, rI 1), (1, rA E g), (0, rA E r)]) ⟨rfl, rfl, rfl, trivial⟩ ?_
      exact loop2 20 0 ν (by omega) n1 (fun j j0 j1 => by rw [n2 j j0 j1, if_pos (by omega)])
    | succ k ih =>
      intro i ν hk hi n1 n2
      have hgi := hg i hi (by omega)
      have f4 : ν (g + 4) = μ (g + 4) := n1 _ (by omega)
      have hr0 : rdM μ g 0 i = if μ (g + 4) i = 1 then 0 else -5 := by
        show (if wk _ _ _ _ 0 i = true then (0 : Int) else -5) = _
        show (if decide (μ (g + 4) i = 1) = true then (0 : Int) else -5) = _
        simp
      refine V.iload_n (n := 12) d_Ro_workOut_11 rfl rfl ?_
      refine V.bipush (n := 14) d_Ro_workOut_12 (by decide) rfl ?_
      refine V.icmp_geF (n := 17) d_Ro_workOut_14 (by omega) (by omega) (by omega) rfl ⟨40, by decide⟩ ?_
      refine V.aload_n (n := 18) d_Ro_workOut_17 rfl rfl ?_
      refine V.iload_n (n := 19) d_Ro_workOut_18 rfl rfl ?_
      refine V.cVi (n := 22) d_Ro_workOut_19 k_Ro_23 (c_Gm_isWonEnd hG0 hi (by omega) (by rw [f4]; omega)) rfl rfl (by decide) rfl ?_
      rw [f4]
      rcases bi_or (μ (g + 4) i = 1) with ⟨hb, e⟩ | ⟨hb, e⟩ <;> rw [e]
      · rw [if_pos hb] at hr0
        refine V.if_eqF (n := 25) d_Ro_workOut_22 (by omega) (by omega) rfl ⟨34, by decide⟩ ?_
        refine V.aload_n (n := 26) d_Ro_workOut_25 rfl rfl ?_
        refine V.getA (n := 29) d_Ro_workOut_26 f_Ro_14 (by assumption) rfl rfl ?_
        refine V.iload_n (n := 30) d_Ro_workOut_29 rfl rfl ?_
        refine V.iconst (n := 31) d_Ro_workOut_30 rfl ?_
        refine V.cVv (n := 34) d_Ro_workOut_31 k_Ro_29 (c_Rw_set (by assumption) (by omega) (by omega)) rfl rfl (by decide) rfl ?_
        refine V.iinc (n := 37) d_Ro_workOut_34 rfl (by decide) rfl ?_
        refine V.goto (n := 11) d_Ro_workOut_37 (by decide) ?_
        refine V.loc (lo' := [(2, rI (i + 1)), (1, rA E g), (0, rA E r)]) ⟨rfl, rfl, rfl, trivial⟩ ?_
        refine ih (i + 1) _ (by omega) (by omega) (fun b hb => by rw [wr_a hb, n1 b hb]) (fun j j0 j1 => ?_)
        rw [wr_v]
        by_cases hj : j = i
        · rw [if_pos hj, hj, if_pos (by omega), hr0]
        · rw [if_neg hj, n2 j j0 j1]
          by_cases hji : j < i
          · rw [if_pos hji, if_pos (by omega)]
          · rw [if_neg hji, if_neg (by omega)]
      · rw [if_neg hb] at hr0
        refine V.if_eqT (n2 := 34) d_Ro_workOut_22 (by omega) (by omega) (by decide) ?_
        refine V.iinc (n := 37) d_Ro_workOut_34 rfl (by decide) rfl ?_
        refine V.goto (n := 11) d_Ro_workOut_37 (by decide) ?_
        refine V.loc (lo' := [(2, rI (i + 1)), (1, rA E g), (0, rA E r)]) ⟨rfl, rfl, rfl, trivial⟩ ?_
        refine ih (i + 1) _ (by omega) (by omega) n1 (fun j j0 j1 => ?_)
        rw [n2 j j0 j1]
        by_cases hj : j = i
        · rw [hj, if_neg (by omega), if_pos (by omega), hr0]
        · by_cases hji : j < i
          · rw [if_pos hji, if_pos (by omega)]
          · rw [if_neg hji, if_neg (by omega)]
  refine V.loc (lo' := [(2, rI 0), (1, rA E g), (0, rA E r)]) ⟨rfl, rfl, rfl, trivial⟩ ?_
  exact loop1 20 0 μ1 (by omega) (by omega) m1 (fun j j0 j1 => by rw [if_neg (by omega)]; exact m2 j j0 j1)
theorem c_Ro_wonPositions (hR : isRounds G r) (hw : ∀ j : Int, 0 ≤ j → j < 20 → inR (μ (r + 2) j)) : KV E l 2 m_Ro_wonPositions r [] G μ 0 0 (dq (some (rI (cs (fun j => bi (¬ μ (r + 2) j = -5)) 20))) G μ) := by
  have hR0 := hR
  obtain ⟨r0, r1⟩ := hR
  refine ⟨KC.ofP q_Ro_wonPositions.1 rfl (Nat.le_of_ble_eq_true rfl) rfl (fun Post NT ST hP => ?_), ⟨_, _, _, r0, rfl, rfl⟩, q_Ro_wonPositions, by decide⟩
  refine V.iconst (n := 1) d_Ro_wonPositions_0 rfl ?_
  refine V.istore_n (n := 2) d_Ro_wonPositions_1 (by decide) rfl ?_
  refine V.iconst (n := 3) d_Ro_wonPositions_2 rfl ?_
  refine V.istore_n (n := 4) d_Ro_wonPositions_3 (by decide) rfl ?_
  have loop : ∀ (k j : Nat), j + k = 20 → V E l m_Ro_wonPositions none 2 NT ST Post 4 [(2, rI j), (1, rI (cs (fun j => bi (¬ μ (r + 2) j = -5)) j)), (0, rA E r)] [] G μ := by
    intro k
    induction k with
    | zero =>
      intro j hj
      have hj2 : j = 20 := by omega
      subst hj2
      refine V.iload_n (n := 5) d_Ro_wonPositions_4 rfl rfl ?_
      refine V.bipush (n := 7) d_Ro_wonPositions_5 (by decide) rfl ?_
      refine V.icmp_geT (n2 := 27) d_Ro_wonPositions_7 (by omega) (by omega) (by omega) (by decide) ?_
      refine V.iload_n (n := 28) d_Ro_wonPositions_27 rfl rfl ?_
      refine V.iret d_Ro_wonPositions_28 ⟨_, rfl, rfl⟩ ?_
      exact hP _ _ ⟨rfl, rfl, rfl⟩
    | succ k ih =>
      intro j hj
      have hwj := hw j (by omega) (by omega)
      have hx := ih (j + 1) (by omega)
      rw [cs_s, show ((j + 1 : Nat) : Int) = (j : Int) + 1 by omega] at hx
      refine V.iload_n (n := 5) d_Ro_wonPositions_4 rfl rfl ?_
      refine V.bipush (n := 7) d_Ro_wonPositions_5 (by decide) rfl ?_
      refine V.icmp_geF (n := 10) d_Ro_wonPositions_7 (by omega) (by omega) (by omega) rfl ⟨27, by decide⟩ ?_
      refine V.aload_n (n := 11) d_Ro_wonPositions_10 rfl rfl ?_
      refine V.iload_n (n := 12) d_Ro_wonPositions_11 rfl rfl ?_
      refine V.cVi (n := 15) d_Ro_wonPositions_12 k_Ro_37 (c_Ro_isWon hR0 (by omega) (by omega) hwj) rfl rfl (by decide) rfl ?_
      rcases bi_or (¬ μ (r + 2) (j : Int) = -5) with ⟨hb, e⟩ | ⟨hb, e⟩ <;> rw [e]
      · rw [e] at hx
        refine V.if_eqF (n := 18) d_Ro_wonPositions_15 (by omega) (by omega) rfl ⟨21, by decide⟩ ?_
        refine V.iinc (n := 21) d_Ro_wonPositions_18 rfl (by decide) rfl ?_
        refine V.iinc (n := 24) d_Ro_wonPositions_21 rfl (by decide) rfl ?_
        refine V.goto (n := 4) d_Ro_wonPositions_24 (by decide) ?_
        refine V.loc (lo' := [(2, rI ((j : Int) + 1)), (1, rI (cs (fun j => bi (¬ μ (r + 2) j = -5)) j + 1)), (0, rA E r)]) ⟨rfl, rfl, rfl, trivial⟩ ?_
        exact hx
      · rw [e, Int.add_zero] at hx
        refine V.if_eqT (n2 := 21) d_Ro_wonPositions_15 (by omega) (by omega) (by decide) ?_
        refine V.iinc (n := 24) d_Ro_wonPositions_21 rfl (by decide) rfl ?_
        refine V.goto (n := 4) d_Ro_wonPositions_24 (by decide) ?_
        refine V.loc (lo' := [(2, rI ((j : Int) + 1)), (1, rI (cs (fun j => bi (¬ μ (r + 2) j = -5)) j)), (0, rA E r)]) ⟨rfl, rfl, rfl, trivial⟩ ?_
        exact hx
  have hl := loop 20 0 (by omega)
  refine V.loc (lo' := [(2, rI 0), (1, rI 0), (0, rA E r)]) ⟨rfl, rfl, rfl, trivial⟩ ?_
  exact hl
end CRO
end
section
/-! THE CLASS: proofs played out -/
/-- the end of a proof that is played out: the winner's turns, the others' answers -/
def po (nx tu cc fc : Int → Int) (win : Int) : Nat → Int → Nat → Int
  | 0, n, _ => n
  | k + 1, n, a => if cc n = 0 then n else if tu n = win then po nx tu cc fc win k (nx n) a else po nx tu cc fc win k (fc n + ((a % (cc n).toNat : Nat) : Int)) (a / (cc n).toNat)
theorem po_s (nx tu cc fc : Int → Int) (win : Int) (k : Nat) (n : Int) (a : Nat) : po nx tu cc fc win (k + 1) n a = if cc n = 0 then n else if tu n = win then po nx tu cc fc win k (nx n) a else po nx tu cc fc win k (fc n + ((a % (cc n).toNat : Nat) : Int)) (a / (cc n).toNat) := rfl
/-- which nodes a proof has, when the nodes before k have told theirs -/
def tk (nx tu cc fc : Int → Int) (win : Int) (m : Int → Int) (n : Int) : Int → Int := fun j =>
  if cc n = 0 then m j else if tu n = win then (if j = nx n then 1 else m j) else (if fc n ≤ j ∧ j < fc n + cc n then 1 else m j)
def mb (nx tu cc fc : Int → Int) (win : Int) : Nat → Int → Int
  | 0, j => if j = 0 then 1 else 0
  | k + 1, j => if mb nx tu cc fc win k k = 1 then tk nx tu cc fc win (mb nx tu cc fc win k) k j else mb nx tu cc fc win k j
theorem mb_s (nx tu cc fc : Int → Int) (win : Int) (k : Nat) (j : Int) : mb nx tu cc fc win (k + 1) j = if mb nx tu cc fc win k k = 1 then tk nx tu cc fc win (mb nx tu cc fc win k) k j else mb nx tu cc fc win k j := rfl
theorem mb_in {nx tu cc fc : Int → Int} {win : Int} : ∀ (k : Nat) (j : Int), mb nx tu cc fc win k j = 0 ∨ mb nx tu cc fc win k j = 1
  | 0, j => by
    show (if j = 0 then (1 : Int) else 0) = 0 ∨ (if j = 0 then (1 : Int) else 0) = 1
    split <;> omega
  | k + 1, j => by
    rw [mb_s]
    have h := mb_in (nx := nx) (tu := tu) (cc := cc) (fc := fc) (win := win) k j
    unfold tk
    (repeat' split) <;> first | exact h | omega
def tuM (t g : Nat) (μ : MU) (n : Int) : Int := μ (g + 2) (μ (t + 2) n)
def wiM (μ : MU) (t : Nat) : Int := if oc (μ t 9) (μ (t + 8) 0) (μ (t + 10) 0) = 1 then 0 else 1
def isProof (G : GG) (r : Nat) : Prop := obj G r (.inl (2, [some (some (r + 1))])) ∧ isRow G (r + 1) (r + 2) 200
section CPF
variable {E : EV} {l : Launch} {G : GG} {μ : MU} {g t r : Nat} {n p q win : Int}
theorem c_Pf_winnerOf (hT : isTree G t g) (h : okM μ t g) : KS E l 2 m_Pf_winnerOf [rA E t] G μ 0 0 (dq (some (rI (wiM μ t))) G μ) := by
  have hs0 := h.2.1
  have hs1 := h.2.2.1
  have hx := h.2.2.2.2 0 (by omega) (by omega)
  have hoc := oc_in (μ t 9) (μ (t + 8) 0) (μ (t + 10) 0)
  unfold wiM
  refine ⟨KC.ofP q_Pf_winnerOf.1 rfl (Nat.le_of_ble_eq_true rfl) rfl (fun Post NT ST hP => ?_), q_Pf_winnerOf, by decide⟩
  refine V.aload_n (n := 1) d_Pf_winnerOf_0 rfl rfl ?_
  refine V.cVi (n := 4) d_Pf_winnerOf_1 k_Pf_20 (c_Tr_outcome (by assumption) (by omega) (by omega) (by omega)) rfl rfl (by decide) rfl ?_
  refine V.iconst (n := 5) d_Pf_winnerOf_4 rfl ?_
  refine V.icmp_ne (n2 := 12) (n := 8) d_Pf_winnerOf_5 (by omega) (by omega) (by decide) rfl (fun h2 => ?_) (fun h2 => ?_)
  · rw [if_neg h2] at hP
    refine V.iconst (n := 13) d_Pf_winnerOf_12 rfl ?_
    refine V.iret d_Pf_winnerOf_13 ⟨_, rfl, rfl⟩ ?_
    exact hP _ _ ⟨rfl, rfl, rfl⟩
  · rw [if_pos h2] at hP
    refine V.iconst (n := 9) d_Pf_winnerOf_8 rfl ?_
    refine V.goto (n := 13) d_Pf_winnerOf_9 (by decide) ?_
    refine V.iret d_Pf_winnerOf_13 ⟨_, rfl, rfl⟩ ?_
    exact hP _ _ ⟨rfl, rfl, rfl⟩
theorem c_Pf_endOf {a : Nat} (hR : isProof G r) (hT : isTree G t g) (hG : isGame G g) (h : okM μ t g) (h0 : 0 < μ t 9) (ha : a < 2147483648) : KV E l 3 m_Pf_endOf r [rA E t, rI a] G μ 0 0 (dq (some (rI (po (nxM t g μ) (tuM t g μ) (μ (t + 12)) (μ (t + 14)) (wiM μ t) 200 0 a))) G μ) := by
  have hT0 := hT
  obtain ⟨t0, t1, t2, t3, t4, t5, t6, t7, t8⟩ := hT
  obtain ⟨r0, r1⟩ := hR
  obtain ⟨hg, hs0, hs1, hc, hx⟩ := id h
  have hwin : inR (wiM μ t) := by unfold wiM; split <;> decide
  refine ⟨KC.ofP q_Pf_endOf.1 rfl (Nat.le_of_ble_eq_true rfl) rfl (fun Post NT ST hP => ?_), ⟨_, _, _, r0, rfl, rfl⟩, q_Pf_endOf, by decide⟩
  refine V.aload_n (n := 1) d_Pf_endOf_0 rfl rfl ?_
  refine V.cSi (n := 4) d_Pf_endOf_1 k_Pf_26 (c_Pf_winnerOf hT0 h) rfl rfl rfl (by decide) rfl ?_
  refine V.istore_n (n := 5) d_Pf_endOf_4 (by decide) rfl ?_
  refine V.iload_n (n := 6) d_Pf_endOf_5 rfl rfl ?_
  refine V.istore (n := 8) d_Pf_endOf_6 (by decide) rfl ?_
  refine V.iconst (n := 9) d_Pf_endOf_8 rfl ?_
  refine V.istore (n := 11) d_Pf_endOf_9 (by decide) rfl ?_
  refine V.iconst (n := 12) d_Pf_endOf_11 rfl ?_
  refine V.istore (n := 14) d_Pf_endOf_12 (by decide) rfl ?_
  have loop : ∀ (k : Nat) (i m : Int) (b : Nat) (u : Value), i + k = 200 → 0 ≤ i → 0 ≤ m → m < μ t 9 → b < 2147483648 → po (nxM t g μ) (tuM t g μ) (μ (t + 12)) (μ (t + 14)) (wiM μ t) 200 0 a = po (nxM t g μ) (tuM t g μ) (μ (t + 12)) (μ (t + 14)) (wiM μ t) k m b → V E l m_Pf_endOf none 3 NT ST Post 14 [(6, rI i), (5, rI m), (4, rI b), (3, rI (wiM μ t)), (2, rI a), (1, rA E t), (0, rA E r)] [] G μ := by
    intro k
    induction k with
    | zero =>
      intro i m b u hk hi hm0 hm1 hb he
      rw [he] at hP
      refine V.iload (n := 16) d_Pf_endOf_14 rfl rfl ?_
      refine V.sipush (n := 19) d_Pf_endOf_16 (by decide) rfl ?_
      refine V.icmp_geT (n2 := 92) d_Pf_endOf_19 (by omega) (by omega) (by omega) (by decide) ?_
      refine V.iload (n := 94) d_Pf_endOf_92 rfl rfl ?_
      refine V.iret d_Pf_endOf_94 ⟨_, rfl, rfl⟩ ?_
      exact hP _ _ ⟨rfl, rfl, rfl⟩
    | succ k ih =>
      intro i m b u hk hi hm0 hm1 hb he
      have hcm := hc m hm0 hm1
      have hgm := hg _ hcm.1 hcm.2.1
      refine V.iload (n := 16) d_Pf_endOf_14 rfl rfl ?_
      refine V.sipush (n := 19) d_Pf_endOf_16 (by decide) rfl ?_
      refine V.icmp_geF (n := 22) d_Pf_endOf_19 (by omega) (by omega) (by omega) rfl ⟨92, by decide⟩ ?_
      refine V.aload_n (n := 23) d_Pf_endOf_22 rfl rfl ?_
      refine V.getA (n := 26) d_Pf_endOf_23 f_Pf_30 (by assumption) rfl rfl ?_
      refine V.iload (n := 28) d_Pf_endOf_26 rfl rfl ?_
      refine V.cVi (n := 31) d_Pf_endOf_28 k_Pf_33 (c_Rw_get (by assumption) (by omega) (by omega)) rfl rfl (by decide) rfl ?_
      refine V.istore (n := 33) d_Pf_endOf_31 (by decide) rfl ?_
      refine V.iload (n := 35) d_Pf_endOf_33 rfl rfl ?_
      refine V.if_gt (n2 := 41) (n := 38) d_Pf_endOf_35 (by omega) (by decide) rfl (fun h3 => ?_) (fun h3 => ?_)
      · have h7 := nx_in h hm0 hm1 (by omega)
        have htu : tuM t g μ m = μ (g + 2) (μ (t + 2) m) := rfl
        refine V.aload_n (n := 42) d_Pf_endOf_41 rfl rfl ?_
        refine V.iload (n := 44) d_Pf_endOf_42 rfl rfl ?_
        refine V.cVi (n := 47) d_Pf_endOf_44 k_Pf_37 (c_Tr_turnAt (by assumption) (by assumption) (by omega) (by omega) (by omega) (by omega)) rfl rfl (by decide) rfl ?_
        refine V.iload_n (n := 48) d_Pf_endOf_47 rfl rfl ?_
        refine V.icmp_ne (n2 := 62) (n := 51) d_Pf_endOf_48 (by omega) (by omega) (by decide) rfl (fun h4 => ?_) (fun h4 => ?_)
        · have hm1 : b % (μ (t + 12) m).toNat < (μ (t + 12) m).toNat := Nat.mod_lt _ (by omega)
          have hdv : b / (μ (t + 12) m).toNat ≤ b := Nat.div_le_self _ _
          refine V.aload_n (n := 63) d_Pf_endOf_62 rfl rfl ?_
          refine V.getA (n := 66) d_Pf_endOf_63 f_Pf_43 (by assumption) rfl rfl ?_
          refine V.iload (n := 68) d_Pf_endOf_66 rfl rfl ?_
          refine V.cVi (n := 71) d_Pf_endOf_68 k_Pf_33 (c_Rw_get (by assumption) (by omega) (by omega)) rfl rfl (by decide) rfl ?_
          refine V.iload (n := 73) d_Pf_endOf_71 rfl rfl ?_
          refine V.iload (n := 75) d_Pf_endOf_73 rfl rfl ?_
          refine V.irem (n := 76) (a := b) (b := (μ (t + 12) m).toNat) d_Pf_endOf_75 rfl (by omega) hb (by omega) (by omega) rfl ?_
          refine V.iadd (n := 77) d_Pf_endOf_76 rfl ?_
          refine V.istore (n := 79) d_Pf_endOf_77 (by decide) rfl ?_
          refine V.iload (n := 81) d_Pf_endOf_79 rfl rfl ?_
          refine V.iload (n := 83) d_Pf_endOf_81 rfl rfl ?_
          refine V.idiv (n := 84) (a := b) (b := (μ (t + 12) m).toNat) d_Pf_endOf_83 rfl (by omega) hb (by omega) (by omega) rfl ?_
          refine V.istore (n := 86) d_Pf_endOf_84 (by decide) rfl ?_
          refine V.iinc (n := 89) d_Pf_endOf_86 rfl (by decide) rfl ?_
          refine V.goto (n := 14) d_Pf_endOf_89 (by decide) ?_
          refine V.loc (lo' := [(6, rI (i + 1)), (5, rI (μ (t + 14) m + ((b % (μ (t + 12) m).toNat : Nat) : Int))), (4, rI ((b / (μ (t + 12) m).toNat : Nat) : Int)), (3, rI (wiM μ t)), (2, rI a), (1, rA E t), (0, rA E r)]) ⟨rfl, rfl, rfl, rfl, rfl, rfl, rfl, trivial⟩ ?_
          refine ih (i + 1) _ _ (rI 0) (by omega) (by omega) (by omega) (by omega) (by omega) (by rw [he, po_s, if_neg (by omega), if_neg (by rw [htu]; exact h4)])
        · refine V.aload_n (n := 52) d_Pf_endOf_51 rfl rfl ?_
          refine V.iload (n := 54) d_Pf_endOf_52 rfl rfl ?_
          refine V.cVi (n := 57) d_Pf_endOf_54 k_Pf_40 (c_Tr_next hT0 hG h hm0 hm1) rfl rfl (by decide) rfl ?_
          refine V.istore (n := 59) d_Pf_endOf_57 (by decide) rfl ?_
          refine V.goto (n := 86) d_Pf_endOf_59 (by decide) ?_
          refine V.iinc (n := 89) d_Pf_endOf_86 rfl (by decide) rfl ?_
          refine V.goto (n := 14) d_Pf_endOf_89 (by decide) ?_
          refine V.loc (lo' := [(6, rI (i + 1)), (5, rI (nxM t g μ m)), (4, rI b), (3, rI (wiM μ t)), (2, rI a), (1, rA E t), (0, rA E r)]) ⟨rfl, rfl, rfl, rfl, rfl, rfl, rfl, trivial⟩ ?_
          refine ih (i + 1) _ b (rI 0) (by omega) (by omega) (by omega) (by omega) hb (by rw [he, po_s, if_neg (by omega), if_pos (by rw [htu]; exact h4)])
      · rw [he, po_s, if_pos (by omega)] at hP
        refine V.iload (n := 40) d_Pf_endOf_38 rfl rfl ?_
        refine V.iret d_Pf_endOf_40 ⟨_, rfl, rfl⟩ ?_
        exact hP _ _ ⟨rfl, rfl, rfl⟩
  refine V.loc (lo' := [(6, rI 0), (5, rI 0), (4, rI a), (3, rI (wiM μ t)), (2, rI a), (1, rA E t), (0, rA E r)]) ⟨rfl, rfl, rfl, rfl, rfl, rfl, rfl, trivial⟩ ?_
  exact loop 200 0 0 a (rI 0) (by omega) (by omega) (by omega) (by omega) ha rfl
theorem c_Pf_takeChildren (hR : isProof G r) (hT : isTree G t g) (hG : isGame G g) (hd : r + 2 < t ∨ t + 16 < r) (hd2 : r + 2 < g ∨ g + 12 < r) (h : okM μ t g) (h0 : 0 ≤ n) (h1 : n < μ t 9) (hw : inR win) : KV E l 3 m_Pf_takeChildren r [rA E t, rI n, rI win] G μ 0 0 (dqv (fun μ' => (∀ b, ¬ b = r + 2 → μ' b = μ b) ∧ μ' (r + 2) = tk (nxM t g μ) (tuM t g μ) (μ (t + 12)) (μ (t + 14)) win (μ (r + 2)) n) G) := by
  have hT0 := hT
  obtain ⟨t0, t1, t2, t3, t4, t5, t6, t7, t8⟩ := hT
  obtain ⟨r0, r1⟩ := hR
  obtain ⟨hg, hs0, hs1, hc, hx⟩ := id h
  have hcn := hc n h0 h1
  have hgn := hg _ hcn.1 hcn.2.1
  have htu : tuM t g μ n = μ (g + 2) (μ (t + 2) n) := rfl
  refine ⟨KC.ofP q_Pf_takeChildren.1 rfl (Nat.le_of_ble_eq_true rfl) rfl (fun Post NT ST hP => ?_), ⟨_, _, _, r0, rfl, rfl⟩, q_Pf_takeChildren, by decide⟩
  refine V.aload_n (n := 1) d_Pf_takeChildren_0 rfl rfl ?_
  refine V.iload_n (n := 2) d_Pf_takeChildren_1 rfl rfl ?_
  refine V.cVi (n := 5) d_Pf_takeChildren_2 k_Pf_61 (c_Tr_isLeaf (by assumption) (by omega) (by omega) (by omega)) rfl rfl (by decide) rfl ?_
  rcases bi_or (μ (t + 12) n = 0) with ⟨hb, e⟩ | ⟨hb, e⟩ <;> rw [e]
  · refine V.if_eqF (n := 8) d_Pf_takeChildren_5 (by omega) (by omega) rfl ⟨9, by decide⟩ ?_
    refine V.vret d_Pf_takeChildren_8 rfl ?_
    refine hP _ _ ⟨rfl, rfl, fun _ _ => rfl, ?_⟩
    funext j
    unfold tk
    rw [if_pos hb]
  · have h7 := nx_in h h0 h1 hb
    refine V.if_eqT (n2 := 9) d_Pf_takeChildren_5 (by omega) (by omega) (by decide) ?_
    refine V.aload_n (n := 10) d_Pf_takeChildren_9 rfl rfl ?_
    refine V.iload_n (n := 11) d_Pf_takeChildren_10 rfl rfl ?_
    refine V.cVi (n := 14) d_Pf_takeChildren_11 k_Pf_37 (c_Tr_turnAt (by assumption) (by assumption) (by omega) (by omega) (by omega) (by omega)) rfl rfl (by decide) rfl ?_
    refine V.iload_n (n := 15) d_Pf_takeChildren_14 rfl rfl ?_
    refine V.icmp_ne (n2 := 32) (n := 18) d_Pf_takeChildren_15 (by omega) (by omega) (by decide) rfl (fun h3 => ?_) (fun h3 => ?_)
    · have h3' : ¬ tuM t g μ n = win := h3
      refine V.aload_n (n := 33) d_Pf_takeChildren_32 rfl rfl ?_
      refine V.iload_n (n := 34) d_Pf_takeChildren_33 rfl rfl ?_
      refine V.cVi (n := 37) d_Pf_takeChildren_34 k_Pf_65 (c_Tr_endOfChildren (by assumption) (by omega) (by omega)) rfl rfl (by decide) rfl ?_
      refine V.istore (n := 39) d_Pf_takeChildren_37 (by decide) rfl ?_
      refine V.aload_n (n := 40) d_Pf_takeChildren_39 rfl rfl ?_
      refine V.getA (n := 43) d_Pf_takeChildren_40 f_Pf_43 (by assumption) rfl rfl ?_
      refine V.iload_n (n := 44) d_Pf_takeChildren_43 rfl rfl ?_
      refine V.cVi (n := 47) d_Pf_takeChildren_44 k_Pf_33 (c_Rw_get (by assumption) (by omega) (by omega)) rfl rfl (by decide) rfl ?_
      refine V.istore (n := 49) d_Pf_takeChildren_47 (by decide) rfl ?_
      have loop : ∀ (k : Nat) (i : Int) (ν : MU), i + k = μ (t + 14) n + μ (t + 12) n → μ (t + 14) n ≤ i → (∀ b, ¬ b = r + 2 → ν b = μ b) → (∀ j, ν (r + 2) j = if μ (t + 14) n ≤ j ∧ j < i then 1 else μ (r + 2) j) → V E l m_Pf_takeChildren none 3 NT ST Post 49 [(5, rI i), (4, rI (μ (t + 14) n + μ (t + 12) n)), (3, rI win), (2, rI n), (1, rA E t), (0, rA E r)] [] G ν := by
        intro k
        induction k with
        | zero =>
          intro i ν hk hi n1 n2
          refine V.iload (n := 51) d_Pf_takeChildren_49 rfl rfl ?_
          refine V.iload (n := 53) d_Pf_takeChildren_51 rfl rfl ?_
          refine V.icmp_geT (n2 := 72) d_Pf_takeChildren_53 (by omega) (by omega) (by omega) (by decide) ?_
          refine V.vret d_Pf_takeChildren_72 rfl ?_
          refine hP _ _ ⟨rfl, rfl, n1, ?_⟩
          funext j
          rw [n2 j]
          unfold tk
          rw [if_neg hb, if_neg h3', show i = μ (t + 14) n + μ (t + 12) n by omega]
        | succ k ih =>
          intro i ν hk hi n1 n2
          refine V.iload (n := 51) d_Pf_takeChildren_49 rfl rfl ?_
          refine V.iload (n := 53) d_Pf_takeChildren_51 rfl rfl ?_
          refine V.icmp_geF (n := 56) d_Pf_takeChildren_53 (by omega) (by omega) (by omega) rfl ⟨72, by decide⟩ ?_
          refine V.aload_n (n := 57) d_Pf_takeChildren_56 rfl rfl ?_
          refine V.getA (n := 60) d_Pf_takeChildren_57 f_Pf_14 (by assumption) rfl rfl ?_
          refine V.iload (n := 62) d_Pf_takeChildren_60 rfl rfl ?_
          refine V.iconst (n := 63) d_Pf_takeChildren_62 rfl ?_
          refine V.cVv (n := 66) d_Pf_takeChildren_63 k_Pf_49 (c_Rw_set (by assumption) (by omega) (by omega)) rfl rfl (by decide) rfl ?_
          refine V.iinc (n := 69) d_Pf_takeChildren_66 rfl (by decide) rfl ?_
          refine V.goto (n := 49) d_Pf_takeChildren_69 (by decide) ?_
          refine V.loc (lo' := [(5, rI (i + 1)), (4, rI (μ (t + 14) n + μ (t + 12) n)), (3, rI win), (2, rI n), (1, rA E t), (0, rA E r)]) ⟨rfl, rfl, rfl, rfl, rfl, rfl, trivial⟩ ?_
          refine ih (i + 1) _ (by omega) (by omega) (fun b hb => by rw [wr_a hb, n1 b hb]) (fun j => ?_)
          rw [wr_v]
          by_cases hj : j = i
          · rw [if_pos hj, if_pos (by omega)]
          · rw [if_neg hj, n2 j]
            by_cases hji : μ (t + 14) n ≤ j ∧ j < i
            · rw [if_pos hji, if_pos (by omega)]
            · rw [if_neg hji, if_neg (by omega)]
      refine V.loc (lo' := [(5, rI (μ (t + 14) n)), (4, rI (μ (t + 14) n + μ (t + 12) n)), (3, rI win), (2, rI n), (1, rA E t), (0, rA E r)]) ⟨rfl, rfl, rfl, rfl, rfl, rfl, trivial⟩ ?_
      exact loop (μ (t + 12) n).toNat _ μ (by omega) (by omega) (fun _ _ => rfl) (fun j => by rw [if_neg (by omega)])
    · refine V.aload_n (n := 19) d_Pf_takeChildren_18 rfl rfl ?_
      refine V.getA (n := 22) d_Pf_takeChildren_19 f_Pf_14 (by assumption) rfl rfl ?_
      refine V.aload_n (n := 23) d_Pf_takeChildren_22 rfl rfl ?_
      refine V.iload_n (n := 24) d_Pf_takeChildren_23 rfl rfl ?_
      refine V.cVi (n := 27) d_Pf_takeChildren_24 k_Pf_40 (c_Tr_next hT0 hG h h0 h1) rfl rfl (by decide) rfl ?_
      refine V.iconst (n := 28) d_Pf_takeChildren_27 rfl ?_
      refine V.cVv (n := 31) d_Pf_takeChildren_28 k_Pf_49 (c_Rw_set (by assumption) (by omega) (by omega)) rfl rfl (by decide) rfl ?_
      refine V.vret d_Pf_takeChildren_31 rfl ?_
      refine hP _ _ ⟨rfl, rfl, fun b hb => wr_a hb, ?_⟩
      funext j
      rw [wr_v]
      unfold tk
      rw [if_neg hb, if_pos (show tuM t g μ n = win from h3)]
theorem c_Pf_sizeOf (hR : isProof G r) (hT : isTree G t g) (hG : isGame G g) (hd : r + 2 < t ∨ t + 16 < r) (hd2 : r + 2 < g ∨ g + 12 < r) (h : okM μ t g) (h0 : 0 < μ t 9) : KV E l 4 m_Pf_sizeOf r [rA E t] G μ 0 0 (dqi (fun z μ' => (∀ b, ¬ b = r + 2 → μ' b = μ b) ∧ z = cs (fun j => bi (mb (nxM t g μ) (tuM t g μ) (μ (t + 12)) (μ (t + 14)) (wiM μ t) j.toNat j = 1)) (μ t 9).toNat) G) := by
  have hT0 := hT
  have hR0 := hR
  obtain ⟨t0, t1, t2, t3, t4, t5, t6, t7, t8⟩ := hT
  obtain ⟨r0, r1⟩ := hR
  obtain ⟨hg, hs0, hs1, hc, hx⟩ := id h
  have hwin : inR (wiM μ t) := by unfold wiM; split <;> decide
  refine ⟨KC.ofP q_Pf_sizeOf.1 rfl (Nat.le_of_ble_eq_true rfl) rfl (fun Post NT ST hP => ?_), ⟨_, _, _, r0, rfl, rfl⟩, q_Pf_sizeOf, by decide⟩
  refine V.aload_n (n := 1) d_Pf_sizeOf_0 rfl rfl ?_
  refine V.cSi (n := 4) d_Pf_sizeOf_1 k_Pf_26 (c_Pf_winnerOf hT0 h) rfl rfl rfl (by decide) rfl ?_
  refine V.istore_n (n := 5) d_Pf_sizeOf_4 (by decide) rfl ?_
  refine V.iconst (n := 6) d_Pf_sizeOf_5 rfl ?_
  refine V.istore_n (n := 7) d_Pf_sizeOf_6 (by decide) rfl ?_
  refine V.aload_n (n := 8) d_Pf_sizeOf_7 rfl rfl ?_
  refine V.getA (n := 11) d_Pf_sizeOf_8 f_Pf_14 (by assumption) rfl rfl ?_
  refine V.iconst (n := 12) d_Pf_sizeOf_11 rfl ?_
  refine V.cVqv (n := 15) d_Pf_sizeOf_12 k_Pf_46 (c_Rw_fill r1) rfl rfl (by decide) rfl (fun μ1 hq => ?_)
  obtain ⟨m1, m2⟩ := hq
  refine V.aload_n (n := 16) d_Pf_sizeOf_15 rfl rfl ?_
  refine V.getA (n := 19) d_Pf_sizeOf_16 f_Pf_14 (by assumption) rfl rfl ?_
  refine V.iconst (n := 20) d_Pf_sizeOf_19 rfl ?_
  refine V.iconst (n := 21) d_Pf_sizeOf_20 rfl ?_
  refine V.cVv (n := 24) d_Pf_sizeOf_21 k_Pf_49 (c_Rw_set (by assumption) (by omega) (by omega)) rfl rfl (by decide) rfl ?_
  refine V.iconst (n := 25) d_Pf_sizeOf_24 rfl ?_
  refine V.istore (n := 27) d_Pf_sizeOf_25 (by decide) rfl ?_
  have loop : ∀ (k : Nat) (i : Nat) (ν : MU), (i : Int) + k = μ t 9 → (∀ b, ¬ b = r + 2 → ν b = μ b) → (∀ j : Int, 0 ≤ j → j < 200 → ν (r + 2) j = mb (nxM t g μ) (tuM t g μ) (μ (t + 12)) (μ (t + 14)) (wiM μ t) i j) → V E l m_Pf_sizeOf none 4 NT ST Post 27 [(4, rI i), (3, rI (cs (fun j => bi (mb (nxM t g μ) (tuM t g μ) (μ (t + 12)) (μ (t + 14)) (wiM μ t) j.toNat j = 1)) i)), (2, rI (wiM μ t)), (1, rA E t), (0, rA E r)] [] G ν := by
    intro k
    induction k with
    | zero =>
      intro i ν hk n1 n2
      have f9 : ν t 9 = μ t 9 := by rw [n1 t (by omega)]
      have hi : i = (μ t 9).toNat := by omega
      refine V.iload (n := 29) d_Pf_sizeOf_27 rfl rfl ?_
      refine V.aload_n (n := 30) d_Pf_sizeOf_29 rfl rfl ?_
      refine V.getI (n := 33) d_Pf_sizeOf_30 f_Pf_53 (by assumption) rfl rfl ?_
      refine V.icmp_geT (n2 := 66) d_Pf_sizeOf_33 (by omega) (by omega) (by omega) (by decide) ?_
      refine V.iload_n (n := 67) d_Pf_sizeOf_66 rfl rfl ?_
      refine V.iret d_Pf_sizeOf_67 ⟨_, rfl, rfl⟩ ?_
      exact hP _ _ ⟨_, rfl, rfl, n1, by rw [hi]⟩
    | succ k ih =>
      intro i ν hk n1 n2
      have f9 : ν t 9 = μ t 9 := by rw [n1 t (by omega)]
      have ft : ∀ b, t ≤ b → b ≤ t + 16 → ν b = μ b := fun b _ _ => n1 b (by omega)
      have fg : ∀ b, g ≤ b → b ≤ g + 12 → ν b = μ b := fun b _ _ => n1 b (by omega)
      have hokn : okM ν t g := by
        unfold okM okG
        rw [f9, ft (t + 2) (by omega) (by omega), ft (t + 8) (by omega) (by omega), ft (t + 10) (by omega) (by omega), ft (t + 12) (by omega) (by omega), ft (t + 14) (by omega) (by omega), fg (g + 2) (by omega) (by omega), fg (g + 4) (by omega) (by omega), fg (g + 6) (by omega) (by omega), fg (g + 8) (by omega) (by omega), fg (g + 10) (by omega) (by omega)]
        exact h
      have hnx : nxM t g ν = nxM t g μ := by
        funext m
        unfold nxM
        rw [ft (t + 2) (by omega) (by omega), ft (t + 8) (by omega) (by omega), ft (t + 10) (by omega) (by omega), ft (t + 12) (by omega) (by omega), ft (t + 14) (by omega) (by omega), fg (g + 2) (by omega) (by omega)]
      have htu : tuM t g ν = tuM t g μ := by
        funext m
        unfold tuM
        rw [ft (t + 2) (by omega) (by omega), fg (g + 2) (by omega) (by omega)]
      have hni := n2 i (by omega) (by omega)
      have hmi := mb_in (nx := nxM t g μ) (tu := tuM t g μ) (cc := μ (t + 12)) (fc := μ (t + 14)) (win := wiM μ t) i i
      have hx := ih (i + 1)
      rw [cs_s, show ((i + 1 : Nat) : Int) = (i : Int) + 1 by omega, Int.toNat_natCast] at hx
      refine V.iload (n := 29) d_Pf_sizeOf_27 rfl rfl ?_
      refine V.aload_n (n := 30) d_Pf_sizeOf_29 rfl rfl ?_
      refine V.getI (n := 33) d_Pf_sizeOf_30 f_Pf_53 (by assumption) rfl rfl ?_
      refine V.icmp_geF (n := 36) d_Pf_sizeOf_33 (by omega) (by omega) (by omega) rfl ⟨66, by decide⟩ ?_
      refine V.aload_n (n := 37) d_Pf_sizeOf_36 rfl rfl ?_
      refine V.getA (n := 40) d_Pf_sizeOf_37 f_Pf_14 (by assumption) rfl rfl ?_
      refine V.iload (n := 42) d_Pf_sizeOf_40 rfl rfl ?_
      refine V.cVi (n := 45) d_Pf_sizeOf_42 k_Pf_33 (c_Rw_get (by assumption) (by omega) (by omega)) rfl rfl (by decide) rfl ?_
      refine V.iconst (n := 46) d_Pf_sizeOf_45 rfl ?_
      refine V.icmp_ne (n2 := 60) (n := 49) d_Pf_sizeOf_46 (by omega) (by omega) (by decide) rfl (fun h3 => ?_) (fun h3 => ?_)
      · rw [bi_f (by omega), Int.add_zero] at hx
        refine V.iinc (n := 63) d_Pf_sizeOf_60 rfl (by decide) rfl ?_
        refine V.goto (n := 27) d_Pf_sizeOf_63 (by decide) ?_
        refine V.loc (lo' := [(4, rI ((i : Int) + 1)), (3, rI (cs (fun j => bi (mb (nxM t g μ) (tuM t g μ) (μ (t + 12)) (μ (t + 14)) (wiM μ t) j.toNat j = 1)) i)), (2, rI (wiM μ t)), (1, rA E t), (0, rA E r)]) ⟨rfl, rfl, rfl, rfl, rfl, trivial⟩ ?_
        exact hx ν (by omega) n1 (fun j j0 j1 => by rw [mb_s, if_neg (by omega)]; exact n2 j j0 j1)
      · rw [bi_t (by omega)] at hx
        refine V.iinc (n := 52) d_Pf_sizeOf_49 rfl (by decide) rfl ?_
        refine V.aload_n (n := 53) d_Pf_sizeOf_52 rfl rfl ?_
        refine V.aload_n (n := 54) d_Pf_sizeOf_53 rfl rfl ?_
        refine V.iload (n := 56) d_Pf_sizeOf_54 rfl rfl ?_
        refine V.iload_n (n := 57) d_Pf_sizeOf_56 rfl rfl ?_
        refine V.cVqv (n := 60) d_Pf_sizeOf_57 k_Pf_57 (c_Pf_takeChildren hR0 hT0 hG hd hd2 hokn (by omega) (by omega) hwin) rfl rfl (by decide) rfl (fun μ2 hq => ?_)
        obtain ⟨q1, q2⟩ := hq
        rw [hnx, htu, ft (t + 12) (by omega) (by omega), ft (t + 14) (by omega) (by omega)] at q2
        refine V.iinc (n := 63) d_Pf_sizeOf_60 rfl (by decide) rfl ?_
        refine V.goto (n := 27) d_Pf_sizeOf_63 (by decide) ?_
        refine V.loc (lo' := [(4, rI ((i : Int) + 1)), (3, rI (cs (fun j => bi (mb (nxM t g μ) (tuM t g μ) (μ (t + 12)) (μ (t + 14)) (wiM μ t) j.toNat j = 1)) i + 1)), (2, rI (wiM μ t)), (1, rA E t), (0, rA E r)]) ⟨rfl, rfl, rfl, rfl, rfl, trivial⟩ ?_
        refine hx μ2 (by omega) (fun b hb => by rw [q1 b hb, n1 b hb]) (fun j j0 j1 => ?_)
        rw [q2, mb_s, if_pos (by omega)]
        unfold tk
        rw [n2 j j0 j1]
  refine V.loc (lo' := [(4, rI 0), (3, rI 0), (2, rI (wiM μ t)), (1, rA E t), (0, rA E r)]) ⟨rfl, rfl, rfl, rfl, rfl, trivial⟩ ?_
  refine loop (μ t 9).toNat 0 _ (by omega) (fun b hb => by rw [wr_a hb, m1 b hb]) (fun j j0 j1 => ?_)
  rw [wr_v]
  show _ = if j = 0 then (1 : Int) else 0
  by_cases hj : j = 0
  · rw [if_pos hj, if_pos hj]
  · rw [if_neg hj, if_neg hj]
    exact m2 j j0 j1
end CPF
end
section
/-! MOVES AS A LIST, and a class's game that shows one -/
def outs (L : List (Int × Int)) (p : Int) : List Int := (L.filter (fun q => decide (q.1 = p))).map (·.2)
theorem outs_app (A B : List (Int × Int)) (p : Int) : outs (A ++ B) p = outs A p ++ outs B p := by
  unfold outs
  rw [List.filter_append, List.map_append]
theorem outs_one (a b p : Int) : outs [(a, b)] p = if a = p then [b] else [] := by
  unfold outs
  by_cases h : a = p <;> simp [h]
theorem mem_outs {L : List (Int × Int)} {p q : Int} : q ∈ outs L p ↔ (p, q) ∈ L := by
  unfold outs
  simp
theorem outs_nd {L : List (Int × Int)} (h : L.Nodup) (p : Int) : (outs L p).Nodup := by
  induction L with
  | nil => exact List.nodup_nil
  | cons x L ih =>
    have h1 := List.nodup_cons.mp h
    rw [show x :: L = [x] ++ L from rfl, outs_app, show ([x] : List (Int × Int)) = [(x.1, x.2)] from rfl, outs_one]
    by_cases hx : x.1 = p
    · rw [if_pos hx]
      refine List.nodup_cons.mpr ⟨fun hm => h1.1 ?_, ih h1.2⟩
      have := mem_outs.mp hm
      rwa [← hx] at this
    · rw [if_neg hx]
      exact ih h1.2
theorem pigeon : ∀ (n : Nat) (l : List Int), l.Nodup → (∀ x ∈ l, 0 ≤ x ∧ x < n) → l.length ≤ n
  | 0, l, _, h => by
    cases l with
    | nil => exact Nat.le_refl _
    | cons a l =>
      have := h a List.mem_cons_self
      omega
  | n + 1, l, hn, h => by
    by_cases hm : (n : Int) ∈ l
    · have h1 := pigeon n (l.erase n) (hn.erase _) (fun x hx => by
        have h2 := (hn.mem_erase_iff).mp hx
        have h3 := h x h2.2
        omega)
      have h2 := List.length_erase_of_mem hm
      omega
    · have h1 := pigeon n l hn (fun x hx => by
        have h3 := h x hx
        have h4 : ¬ x = n := fun q => hm (q ▸ hx)
        omega)
      omega
/-- a list of moves: between positions, none twice -/
def okL (L : List (Int × Int)) : Prop := L.Nodup ∧ ∀ x ∈ L, 0 ≤ x.1 ∧ x.1 < 20 ∧ 0 ≤ x.2 ∧ x.2 < 20
theorem outs_le {L : List (Int × Int)} (h : okL L) (p : Int) : (outs L p).length ≤ 20 :=
  pigeon 20 _ (outs_nd h.1 p) (fun x hx => by have := h.2 _ (mem_outs.mp hx); omega)
theorem outs_lt {L : List (Int × Int)} (h : okL L) {p q : Int} (hq : 0 ≤ q ∧ q < 20) (hn : ¬ (p, q) ∈ L) : (outs L p).length < 20 := by
  have h1 := pigeon 20 (q :: outs L p) (List.nodup_cons.mpr ⟨fun hm => hn (mem_outs.mp hm), outs_nd h.1 p⟩) (fun x hx => by
    rcases List.mem_cons.mp hx with rfl | hx
    · exact hq
    · have := h.2 _ (mem_outs.mp hx); omega)
  simp at h1
  omega
theorem okL_app {L : List (Int × Int)} (h : okL L) {p q : Int} (hp : 0 ≤ p ∧ p < 20) (hq : 0 ≤ q ∧ q < 20) (hn : ¬ (p, q) ∈ L) : okL (L ++ [(p, q)]) := by
  refine ⟨?_, fun x hx => ?_⟩
  · rw [List.nodup_append]
    refine ⟨h.1, by simp, fun a ha b hb => ?_⟩
    rw [List.mem_singleton] at hb
    subst hb
    exact fun e => hn (e ▸ ha)
  · rcases List.mem_append.mp hx with hx | hx
    · exact h.2 x hx
    · rw [List.mem_singleton.mp hx]; exact ⟨hp.1, hp.2, hq.1, hq.2⟩
/-- the moves that the game at g shows -/
def CM (μ : MU) (g : Nat) (L : List (Int × Int)) : Prop :=
  (∀ p : Int, 0 ≤ p → p < 20 → μ (g + 10) p = ((outs L p).length : Int) ∧ ∀ r : Nat, r < (outs L p).length → μ (g + 12) (p * 20 + r) = (outs L p).getD r 0) ∧ μ g 6 = (L.length : Int)
theorem getD_mem {l : List Int} {r : Nat} (h : r < l.length) : l.getD r 0 ∈ l := by
  rw [List.getD_eq_getElem?_getD, List.getElem?_eq_getElem h]
  exact List.getElem_mem h
theorem getD_app1 {l m : List Int} {r : Nat} (h : r < l.length) : (l ++ m).getD r 0 = l.getD r 0 := by
  rw [List.getD_eq_getElem?_getD, List.getD_eq_getElem?_getD, List.getElem?_append_left h]
theorem getD_app2 {l m : List Int} {r : Nat} : (l ++ m).getD (l.length + r) 0 = m.getD r 0 := by
  rw [List.getD_eq_getElem?_getD, List.getD_eq_getElem?_getD, List.getElem?_append_right (by omega), show l.length + r - l.length = r by omega]
theorem CM.okT {μ : MU} {g : Nat} {L : List (Int × Int)} (h : CM μ g L) (hL : okL L) : okT μ g := by
  intro p r p0 p1 r0 r1
  have h1 := h.1 p p0 p1
  rw [h1.1] at r1
  have h2 := h1.2 r.toNat (by omega)
  rw [Int.toNat_of_nonneg r0] at h2
  rw [h2]
  have h3 := hL.2 _ (mem_outs.mp (getD_mem (show r.toNat < (outs L p).length by omega)))
  omega
theorem CM.nil {μ : MU} {g : Nat} (h : ∀ p : Int, 0 ≤ p → p < 20 → μ (g + 10) p = 0) (h6 : μ g 6 = 0) : CM μ g [] :=
  ⟨fun p p0 p1 => ⟨by rw [h p p0 p1]; rfl, fun r hr => by simp [outs] at hr⟩, h6⟩
theorem CM.kept {μ μ' : MU} {g h : Nat} {L : List (Int × Int)} (hC : CM μ h L) (hL : okL L) (h10 : ∀ j : Int, 0 ≤ j → j < 20 → μ' (g + 10) j = μ (h + 10) j) (h12 : ∀ j : Int, 0 ≤ j → j < 400 → μ' (g + 12) j = μ (h + 12) j) (h6 : μ' g 6 = μ h 6) : CM μ' g L := by
  refine ⟨fun p p0 p1 => ⟨by rw [h10 p p0 p1, (hC.1 p p0 p1).1], fun r hr => ?_⟩, by rw [h6, hC.2]⟩
  have := outs_le hL p
  rw [h12 _ (by omega) (by omega), (hC.1 p p0 p1).2 r hr]
/-- a move more -/
theorem CM.add {μ : MU} {g : Nat} {L : List (Int × Int)} (hC : CM μ g L) (hL : okL L) {p q : Int} (hp : 0 ≤ p ∧ p < 20) (hq : 0 ≤ q ∧ q < 20) (hn : ¬ (p, q) ∈ L) : CM (wr (wr (wr μ (g + 12) (p * 20 + μ (g + 10) p) q) (g + 10) p (μ (g + 10) p + 1)) g 6 (μ g 6 + 1)) g (L ++ [(p, q)]) := by
  have hlt := outs_lt hL hq hn
  refine ⟨fun p' p0 p1 => ?_, by rw [wr_s, hC.2, List.length_append]; simp⟩
  have h1 := hC.1 p' p0 p1
  have h2 := hC.1 p hp.1 hp.2
  have hle := outs_le hL p'
  rw [wr_a (show ¬ g + 10 = g by omega), wr_v, wr_a (show ¬ g + 10 = g + 12 by omega), wr_a (show ¬ g + 12 = g by omega), wr_a (show ¬ g + 12 = g + 10 by omega), outs_app, outs_one]
  by_cases hpp : p = p'
  · subst hpp
    rw [if_pos rfl, if_pos rfl, List.length_append, h2.1]
    refine ⟨by simp, fun r hr => ?_⟩
    rw [wr_v]
    by_cases hr2 : r = (outs L p).length
    · rw [if_pos (by rw [hr2]), hr2]
      have := getD_app2 (l := outs L p) (m := [q]) (r := 0)
      rw [Nat.add_zero] at this
      rw [this]; rfl
    · simp at hr
      rw [if_neg (by omega), getD_app1 (by omega), h1.2 r (by omega)]
  · rw [if_neg (fun x => hpp x.symm), if_neg hpp, List.append_nil]
    refine ⟨h1.1, fun r hr => ?_⟩
    rw [wr_v, if_neg (by rw [h2.1]; omega), h1.2 r hr]
section CLS
variable {E : EV} {l : Launch} {G : GG} {μ : MU} {g : Nat} {p q to : Int}
/-- the rank of a move, by the list -/
theorem c_Gm_rankL (hG : isGame G g) {L : List (Int × Int)} (hL : okL L) (hC : CM μ g L) (h0 : 0 ≤ p) (h1 : p < 20) (hto : inR to) : KV E l 2 m_Gm_rankOf g [rI p, rI to] G μ 0 0 (dqi (fun z μ' => μ' = μ ∧ ((0 ≤ z ∧ (p, to) ∈ L ∧ ∃ r : Nat, z = (r : Int) ∧ r < (outs L p).length ∧ (outs L p).getD r 0 = to ∧ ∀ r' : Nat, r' < r → ¬ (outs L p).getD r' 0 = to) ∨ (z = -5 ∧ ¬ (p, to) ∈ L))) G) := by
  have hc := hC.1 p h0 h1
  have hle := outs_le hL p
  have hin : ∀ r : Int, 0 ≤ r → r < μ (g + 10) p → inR (μ (g + 12) (p * 20 + r)) := fun r r0 r1 => by
    have := hC.okT hL p r h0 h1 r0 r1
    omega
  obtain ⟨k1, k2, k3, k4⟩ := c_Gm_rankOf (E := E) (l := l) (μ := μ) hG h0 h1 hto (by rw [hc.1]; omega) (by rw [hc.1]; omega) hin
  refine ⟨k1.post ?_, k2, k3, k4⟩
  rintro v G' μ' ⟨z, rfl, rfl, rfl, h⟩
  refine ⟨z, rfl, rfl, rfl, ?_⟩
  rcases h with ⟨z0, z1, z2, z3⟩ | ⟨z0, z1⟩
  · rw [hc.1] at z1
    have h3 := hc.2 z.toNat (by omega)
    rw [Int.toNat_of_nonneg z0] at h3
    refine Or.inl ⟨z0, ?_, z.toNat, by omega, by omega, by rw [← h3, z2], fun r' hr' => ?_⟩
    · rw [← z2, h3]
      exact mem_outs.mp (getD_mem (by omega))
    · rw [← hc.2 r' (by omega)]
      exact z3 r' (by omega) (by omega)
  · refine Or.inr ⟨z0, fun hm => ?_⟩
    have hm2 := mem_outs.mpr hm
    obtain ⟨r, hr, e⟩ := List.getElem_of_mem hm2
    refine z1 r (by omega) (by rw [hc.1]; omega) ?_
    rw [hc.2 r hr, List.getD_eq_getElem?_getD, List.getElem?_eq_getElem hr, ← e]
    rfl
end CLS
end
section
/-! THE CLASS: texts are read -/
/-- the parser, over signs: -1 behind the text -/
def pdig (sg : Int → Int) (at0 : Int) : Int := if 48 ≤ sg at0 ∧ sg at0 ≤ 57 then sg at0 - 48 else -5
def ppos (sg : Int → Int) (at0 : Int) : Int × Int :=
  if pdig sg at0 = -5 then (-5, at0) else if pdig sg at0 = 1 ∧ ¬ pdig sg (at0 + 1) = -5 then (10 + pdig sg (at0 + 1), at0 + 1 + 1) else (pdig sg at0, at0 + 1)
abbrev OPS : Type := List (Int × Int × Int)
def ptg (sg : Int → Int) (p : Int) : Nat → Int → OPS → Bool × Int × OPS
  | 0, a, ops => (false, a, ops)
  | k + 1, a, ops => if (ppos sg a).1 = -5 then (false, a, ops) else if sg (ppos sg a).2 = 46 then ptg sg p k ((ppos sg a).2 + 1) (ops ++ [(62, p, (ppos sg a).1)]) else (true, (ppos sg a).2, ops ++ [(62, p, (ppos sg a).1)])
theorem ptg_s (sg : Int → Int) (p : Int) (k : Nat) (a : Int) (ops : OPS) : ptg sg p (k + 1) a ops = if (ppos sg a).1 = -5 then (false, a, ops) else if sg (ppos sg a).2 = 46 then ptg sg p k ((ppos sg a).2 + 1) (ops ++ [(62, p, (ppos sg a).1)]) else (true, (ppos sg a).2, ops ++ [(62, p, (ppos sg a).1)]) := rfl
def pen (sg : Int → Int) (a : Int) (ops : OPS) : Bool × Int × OPS :=
  if (ppos sg a).1 = -5 then (false, a, ops)
  else if sg (ppos sg a).2 = 119 then (true, (ppos sg a).2 + 1, ops ++ [(119, (ppos sg a).1, 0)])
  else if sg (ppos sg a).2 = 108 then (true, (ppos sg a).2 + 1, ops ++ [(108, (ppos sg a).1, 0)])
  else if sg (ppos sg a).2 = 100 then (true, (ppos sg a).2 + 1, ops ++ [(100, (ppos sg a).1, 0)])
  else if sg (ppos sg a).2 = 62 then ptg sg (ppos sg a).1 60 ((ppos sg a).2 + 1) ops
  else (false, (ppos sg a).2, ops)
def ptx (sg : Int → Int) : Nat → Int → OPS → Bool × Int × OPS
  | 0, a, ops => (false, a, ops)
  | k + 1, a, ops => if (pen sg a ops).1 = false then (false, (pen sg a ops).2) else if sg (pen sg a ops).2.1 = -1 then (true, (pen sg a ops).2) else if sg (pen sg a ops).2.1 = 44 then ptx sg k ((pen sg a ops).2.1 + 1) (pen sg a ops).2.2 else (false, (pen sg a ops).2)
theorem ptx_s (sg : Int → Int) (k : Nat) (a : Int) (ops : OPS) : ptx sg (k + 1) a ops = if (pen sg a ops).1 = false then (false, (pen sg a ops).2) else if sg (pen sg a ops).2.1 = -1 then (true, (pen sg a ops).2) else if sg (pen sg a ops).2.1 = 44 then ptx sg k ((pen sg a ops).2.1 + 1) (pen sg a ops).2.2 else (false, (pen sg a ops).2) := rfl
/-- what the entries make: moves, turns, marks -/
def apL (ops : OPS) : List (Int × Int) := ops.foldl (fun L o => if o.1 = 62 ∧ ¬ (o.2.1, o.2.2) ∈ L then L ++ [(o.2.1, o.2.2)] else L) []
def apT (ops : OPS) (p : Int) : Int := ops.foldl (fun v o => if o.1 = 100 ∧ o.2.1 = p then 1 else v) 0
def apM (ops : OPS) (p : Int) : Int := ops.foldl (fun v o => if o.1 = 119 ∧ o.2.1 = p then 1 else if o.1 = 108 ∧ o.2.1 = p then 2 else v) 0
theorem apL_app (ops : OPS) (o : Int × Int × Int) : apL (ops ++ [o]) = if o.1 = 62 ∧ ¬ (o.2.1, o.2.2) ∈ apL ops then apL ops ++ [(o.2.1, o.2.2)] else apL ops := by
  unfold apL
  rw [List.foldl_append]
  rfl
theorem apT_app (ops : OPS) (o : Int × Int × Int) (p : Int) : apT (ops ++ [o]) p = if o.1 = 100 ∧ o.2.1 = p then 1 else apT ops p := by
  unfold apT
  rw [List.foldl_append]
  rfl
theorem apM_app (ops : OPS) (o : Int × Int × Int) (p : Int) : apM (ops ++ [o]) p = if o.1 = 119 ∧ o.2.1 = p then 1 else if o.1 = 108 ∧ o.2.1 = p then 2 else apM ops p := by
  unfold apM
  rw [List.foldl_append]
  rfl
/-- the game at d holds what the entries make -/
def DG (μ : MU) (d : Nat) (ops : OPS) : Prop := (∀ p : Int, 0 ≤ p → p < 20 → μ (d + 2) p = apT ops p ∧ μ (d + 4) p = apM ops p) ∧ CM μ d (apL ops) ∧ okL (apL ops)
/-- signs of a text of n signs -/
def okSg (sg : Int → Int) (n : Int) : Prop := ∀ i : Int, 0 ≤ i → (n ≤ i → sg i = -1) ∧ (i < n → 0 ≤ sg i ∧ sg i < 65536)
theorem pdig_in {sg : Int → Int} (a : Int) : pdig sg a = -5 ∨ (0 ≤ pdig sg a ∧ pdig sg a ≤ 9) := by
  unfold pdig
  split <;> omega
theorem pdig_lt {sg : Int → Int} {n a : Int} (h : okSg sg n) (h0 : 0 ≤ a) (hd : ¬ pdig sg a = -5) : a < n := by
  unfold pdig at hd
  by_cases hn : n ≤ a
  · have := (h a h0).1 hn
    rw [if_neg (by omega)] at hd
    exact absurd rfl hd
  · omega
theorem ppos_in {sg : Int → Int} {n a : Int} (h : okSg sg n) (h0 : 0 ≤ a) (h1 : a ≤ n) : ((ppos sg a).1 = -5 ∧ (ppos sg a).2 = a) ∨ (0 ≤ (ppos sg a).1 ∧ (ppos sg a).1 < 20 ∧ a < (ppos sg a).2 ∧ (ppos sg a).2 ≤ n) := by
  have d0 := pdig_in (sg := sg) a
  have d1 := pdig_in (sg := sg) (a + 1)
  unfold ppos
  by_cases e0 : pdig sg a = -5
  · rw [if_pos e0]; exact Or.inl ⟨rfl, rfl⟩
  · have l0 := pdig_lt h h0 e0
    rw [if_neg e0]
    by_cases e1 : pdig sg a = 1 ∧ ¬ pdig sg (a + 1) = -5
    · have l1 := pdig_lt h (show 0 ≤ a + 1 by omega) e1.2
      rw [if_pos e1]
      exact Or.inr ⟨by show 0 ≤ 10 + pdig sg (a + 1); omega, by show 10 + pdig sg (a + 1) < 20; omega, by show a < a + 1 + 1; omega, by show a + 1 + 1 ≤ n; omega⟩
    · rw [if_neg e1]
      exact Or.inr ⟨by show 0 ≤ pdig sg a; omega, by show pdig sg a < 20; omega, by show a < a + 1; omega, by show a + 1 ≤ n; omega⟩
theorem wr_same (μ : MU) (a : Nat) (i v : Int) (h : μ a i = v) : wr μ a i v = μ := by
  funext b j
  unfold wr
  by_cases hb : b = a
  · rw [if_pos hb]
    by_cases hj : j = i
    · rw [if_pos hj, hb, hj, h]
    · rw [if_neg hj]
  · rw [if_neg hb]
theorem wr_wr (μ : MU) (a : Nat) (i v w : Int) : wr (wr μ a i v) a i w = wr μ a i w := by
  funext b j
  unfold wr
  by_cases hb : b = a
  · rw [if_pos hb, if_pos hb]
    by_cases hj : j = i
    · rw [if_pos hj, if_pos hb, if_pos hj]
    · rw [if_neg hj, if_neg hj, if_pos hb, if_neg hj]
  · rw [if_neg hb, if_neg hb, if_neg hb]
def isReader (G : GG) (r tx : Nat) : Prop := obj G r (.inl (3, [some (some tx), some (some (r + 1)), none])) ∧ isText G tx ∧ isGame G (r + 1)
section CRD
variable {E : EV} {l : Launch} {G : GG} {μ : MU} {r tx : Nat} {p q c : Int}
theorem c_Rd_digit (hR : isReader G r tx) (h0 : 0 ≤ μ tx 1) (h1 : μ tx 1 ≤ 60) (hs : okSg (sgM μ tx) (μ tx 1)) (ha0 : 0 ≤ μ r 2) (ha1 : μ r 2 ≤ μ tx 1) : KV E l 1 m_Rd_digit r [] G μ 0 0 (dq (some (rI (pdig (sgM μ tx) (μ r 2)))) G μ) := by
  obtain ⟨r0, r1, r2⟩ := hR
  have hsa := hs (μ r 2) ha0
  have hin : inR (sgM μ tx (μ r 2)) := by
    by_cases hx : μ tx 1 ≤ μ r 2
    · have := hsa.1 hx; omega
    · have := hsa.2 (by omega); omega
  unfold pdig
  refine ⟨KC.ofP q_Rd_digit.1 rfl (Nat.le_of_ble_eq_true rfl) rfl (fun Post NT ST hP => ?_), ⟨_, _, _, r0, rfl, rfl⟩, q_Rd_digit, by decide⟩
  refine V.aload_n (n := 1) d_Rd_digit_0 rfl rfl ?_
  refine V.getA (n := 4) d_Rd_digit_1 f_Rd_18 (by assumption) rfl rfl ?_
  refine V.aload_n (n := 5) d_Rd_digit_4 rfl rfl ?_
  refine V.getI (n := 8) d_Rd_digit_5 f_Rd_25 (by assumption) rfl rfl ?_
  refine V.cVi (n := 11) d_Rd_digit_8 k_Rd_33 (c_Tx_signAt r1 h0 h1 (by omega)) rfl rfl (by decide) rfl ?_
  refine V.istore_n (n := 12) d_Rd_digit_11 (by decide) rfl ?_
  refine V.iload_n (n := 13) d_Rd_digit_12 rfl rfl ?_
  refine V.bipush (n := 15) d_Rd_digit_13 (by decide) rfl ?_
  refine V.icmp_lt (n2 := 31) (n := 18) d_Rd_digit_15 (by omega) (by omega) (by decide) rfl (fun h2 => ?_) (fun h2 => ?_)
  · rw [if_neg (by omega)] at hP
    refine V.bipush (n := 33) d_Rd_digit_31 (by decide) rfl ?_
    refine V.iret d_Rd_digit_33 ⟨_, rfl, rfl⟩ ?_
    exact hP _ _ ⟨rfl, rfl, rfl⟩
  · refine V.iload_n (n := 19) d_Rd_digit_18 rfl rfl ?_
    refine V.bipush (n := 21) d_Rd_digit_19 (by decide) rfl ?_
    refine V.icmp_gt (n2 := 31) (n := 24) d_Rd_digit_21 (by omega) (by omega) (by decide) rfl (fun h3 => ?_) (fun h3 => ?_)
    · rw [if_neg (by omega)] at hP
      refine V.bipush (n := 33) d_Rd_digit_31 (by decide) rfl ?_
      refine V.iret d_Rd_digit_33 ⟨_, rfl, rfl⟩ ?_
      exact hP _ _ ⟨rfl, rfl, rfl⟩
    · rw [if_pos (by omega)] at hP
      refine V.iload_n (n := 25) d_Rd_digit_24 rfl rfl ?_
      refine V.bipush (n := 27) d_Rd_digit_25 (by decide) rfl ?_
      refine V.isub (n := 28) d_Rd_digit_27 rfl ?_
      refine V.goto (n := 33) d_Rd_digit_28 (by decide) ?_
      refine V.iret d_Rd_digit_33 ⟨_, rfl, rfl⟩ ?_
      exact hP _ _ ⟨rfl, rfl, rfl⟩
theorem c_Rd_skip (hR : isReader G r tx) (h0 : 0 ≤ μ tx 1) (h1 : μ tx 1 ≤ 60) (hs : okSg (sgM μ tx) (μ tx 1)) (ha0 : 0 ≤ μ r 2) (ha1 : μ r 2 ≤ μ tx 1) (hc : inR c) : KV E l 1 m_Rd_skip r [rI c] G μ 0 0 (dq (some (rI (bi (sgM μ tx (μ r 2) = c)))) G (if sgM μ tx (μ r 2) = c then wr μ r 2 (μ r 2 + 1) else μ)) := by
  obtain ⟨r0, r1, r2⟩ := hR
  have hsa := hs (μ r 2) ha0
  have hin : inR (sgM μ tx (μ r 2)) := by
    by_cases hx : μ tx 1 ≤ μ r 2
    · have := hsa.1 hx; omega
    · have := hsa.2 (by omega); omega
  refine ⟨KC.ofP q_Rd_skip.1 rfl (Nat.le_of_ble_eq_true rfl) rfl (fun Post NT ST hP => ?_), ⟨_, _, _, r0, rfl, rfl⟩, q_Rd_skip, by decide⟩
  refine V.aload_n (n := 1) d_Rd_skip_0 rfl rfl ?_
  refine V.getA (n := 4) d_Rd_skip_1 f_Rd_18 (by assumption) rfl rfl ?_
  refine V.aload_n (n := 5) d_Rd_skip_4 rfl rfl ?_
  refine V.getI (n := 8) d_Rd_skip_5 f_Rd_25 (by assumption) rfl rfl ?_
  refine V.cVi (n := 11) d_Rd_skip_8 k_Rd_33 (c_Tx_signAt r1 h0 h1 (by omega)) rfl rfl (by decide) rfl ?_
  refine V.iload_n (n := 12) d_Rd_skip_11 rfl rfl ?_
  refine V.icmp_eq (n2 := 17) (n := 15) d_Rd_skip_12 (by omega) (by omega) (by decide) rfl (fun h2 => ?_) (fun h2 => ?_)
  · rw [if_pos h2, bi_t h2] at hP
    refine V.aload_n (n := 18) d_Rd_skip_17 rfl rfl ?_
    refine V.dup (n := 19) d_Rd_skip_18 rfl rfl ?_
    refine V.getI (n := 22) d_Rd_skip_19 f_Rd_25 (by assumption) rfl rfl ?_
    refine V.iconst (n := 23) d_Rd_skip_22 rfl ?_
    refine V.iadd (n := 24) d_Rd_skip_23 rfl ?_
    refine V.putI (n := 27) d_Rd_skip_24 f_Rd_25 t_Rd_at ⟨rfl, rfl⟩ (by assumption) rfl rfl ?_
    refine V.iconst (n := 28) d_Rd_skip_27 rfl ?_
    refine V.iret d_Rd_skip_28 ⟨_, rfl, rfl⟩ ?_
    exact hP _ _ ⟨rfl, rfl, rfl⟩
  · rw [if_neg h2, bi_f h2] at hP
    refine V.iconst (n := 16) d_Rd_skip_15 rfl ?_
    refine V.iret d_Rd_skip_16 ⟨_, rfl, rfl⟩ ?_
    exact hP _ _ ⟨rfl, rfl, rfl⟩
theorem c_Rd_readPosition (hR : isReader G r tx) (hd : tx + 1 < r ∨ r < tx) (h0 : 0 ≤ μ tx 1) (h1 : μ tx 1 ≤ 60) (hs : okSg (sgM μ tx) (μ tx 1)) (ha0 : 0 ≤ μ r 2) (ha1 : μ r 2 ≤ μ tx 1) : KV E l 2 m_Rd_readPosition r [] G μ 0 0 (dq (some (rI (ppos (sgM μ tx) (μ r 2)).1)) G (wr μ r 2 (ppos (sgM μ tx) (μ r 2)).2)) := by
  have hR0 := hR
  obtain ⟨r0, r1, r2⟩ := hR
  have d0 := pdig_in (sg := sgM μ tx) (μ r 2)
  have d1 := pdig_in (sg := sgM μ tx) (μ r 2 + 1)
  unfold ppos
  refine ⟨KC.ofP q_Rd_readPosition.1 rfl (Nat.le_of_ble_eq_true rfl) rfl (fun Post NT ST hP => ?_), ⟨_, _, _, r0, rfl, rfl⟩, q_Rd_readPosition, by decide⟩
  refine V.aload_n (n := 1) d_Rd_readPosition_0 rfl rfl ?_
  refine V.cVi (n := 4) d_Rd_readPosition_1 k_Rd_71 (c_Rd_digit hR0 h0 h1 hs ha0 ha1) rfl rfl (by decide) rfl ?_
  refine V.istore_n (n := 5) d_Rd_readPosition_4 (by decide) rfl ?_
  refine V.iload_n (n := 6) d_Rd_readPosition_5 rfl rfl ?_
  refine V.bipush (n := 8) d_Rd_readPosition_6 (by decide) rfl ?_
  refine V.icmp_ne (n2 := 14) (n := 11) d_Rd_readPosition_8 (by omega) (by omega) (by decide) rfl (fun h2 => ?_) (fun h2 => ?_)
  · have hlt := pdig_lt hs ha0 h2
    rw [if_neg h2] at hP
    refine V.aload_n (n := 15) d_Rd_readPosition_14 rfl rfl ?_
    refine V.dup (n := 16) d_Rd_readPosition_15 rfl rfl ?_
    refine V.getI (n := 19) d_Rd_readPosition_16 f_Rd_25 (by assumption) rfl rfl ?_
    refine V.iconst (n := 20) d_Rd_readPosition_19 rfl ?_
    refine V.iadd (n := 21) d_Rd_readPosition_20 rfl ?_
    refine V.putI (n := 24) d_Rd_readPosition_21 f_Rd_25 t_Rd_at ⟨rfl, rfl⟩ (by assumption) rfl rfl ?_
    refine V.aload_n (n := 25) d_Rd_readPosition_24 rfl rfl ?_
    have e1 : wr μ r 2 (μ r 2 + 1) tx = μ tx := wr_a (by omega)
    have e2 : sgM (wr μ r 2 (μ r 2 + 1)) tx = sgM μ tx := by
      funext i
      unfold sgM
      rw [e1, wr_a (show ¬ tx + 1 = r by omega)]
    have e3 : wr μ r 2 (μ r 2 + 1) r 2 = μ r 2 + 1 := wr_s _ _ _ _
    refine V.cVi (n := 28) d_Rd_readPosition_25 k_Rd_71 (c_Rd_digit hR0 (by rw [e1]; exact h0) (by rw [e1]; exact h1) (by rw [e1, e2]; exact hs) (by rw [e3]; omega) (by rw [e3, e1]; omega)) rfl rfl (by decide) rfl ?_
    rw [e2, e3]
    refine V.istore_n (n := 29) d_Rd_readPosition_28 (by decide) rfl ?_
    refine V.iload_n (n := 30) d_Rd_readPosition_29 rfl rfl ?_
    refine V.iconst (n := 31) d_Rd_readPosition_30 rfl ?_
    refine V.icmp_ne (n2 := 40) (n := 34) d_Rd_readPosition_31 (by omega) (by omega) (by decide) rfl (fun h3 => ?_) (fun h3 => ?_)
    · rw [if_neg (fun x => h3 x.1)] at hP
      refine V.iload_n (n := 41) d_Rd_readPosition_40 rfl rfl ?_
      refine V.iret d_Rd_readPosition_41 ⟨_, rfl, rfl⟩ ?_
      exact hP _ _ ⟨rfl, rfl, rfl⟩
    · refine V.iload_n (n := 35) d_Rd_readPosition_34 rfl rfl ?_
      refine V.bipush (n := 37) d_Rd_readPosition_35 (by decide) rfl ?_
      refine V.icmp_ne (n2 := 42) (n := 40) d_Rd_readPosition_37 (by omega) (by omega) (by decide) rfl (fun h4 => ?_) (fun h4 => ?_)
      · rw [if_pos ⟨h3, h4⟩] at hP
        refine V.aload_n (n := 43) d_Rd_readPosition_42 rfl rfl ?_
        refine V.dup (n := 44) d_Rd_readPosition_43 rfl rfl ?_
        refine V.getI (n := 47) d_Rd_readPosition_44 f_Rd_25 (by assumption) rfl rfl ?_
        refine V.iconst (n := 48) d_Rd_readPosition_47 rfl ?_
        refine V.iadd (n := 49) d_Rd_readPosition_48 rfl ?_
        refine V.putI (n := 52) d_Rd_readPosition_49 f_Rd_25 t_Rd_at ⟨rfl, rfl⟩ (by assumption) rfl rfl ?_
        refine V.bipush (n := 54) d_Rd_readPosition_52 (by decide) rfl ?_
        refine V.iload_n (n := 55) d_Rd_readPosition_54 rfl rfl ?_
        refine V.iadd (n := 56) d_Rd_readPosition_55 rfl ?_
        rw [wr_wr, e3]
        refine V.iret d_Rd_readPosition_56 ⟨_, rfl, rfl⟩ ?_
        exact hP _ _ ⟨rfl, rfl, rfl⟩
      · rw [if_neg (fun x => x.2 h4)] at hP
        refine V.iload_n (n := 41) d_Rd_readPosition_40 rfl rfl ?_
        refine V.iret d_Rd_readPosition_41 ⟨_, rfl, rfl⟩ ?_
        exact hP _ _ ⟨rfl, rfl, rfl⟩
  · rw [if_pos h2] at hP
    refine V.bipush (n := 13) d_Rd_readPosition_11 (by decide) rfl ?_
    refine V.iret d_Rd_readPosition_13 ⟨_, rfl, rfl⟩ ?_
    refine hP _ _ ⟨rfl, rfl, ?_⟩
    rw [wr_same]
    rfl
/-- the text and what isn't the reader's stay -/
def RF (μ μ' : MU) (r : Nat) : Prop := ∀ b, b < r ∨ r + 13 < b → μ' b = μ b
theorem sgM_eq {μ μ' : MU} {tx : Nat} (h : μ' tx = μ tx) (h2 : μ' (tx + 1) = μ (tx + 1)) : sgM μ' tx = sgM μ tx := by
  funext i
  unfold sgM
  rw [h, h2]
theorem DG.at {μ μ' : MU} {d : Nat} {ops : OPS} (h : DG μ d ops) (e : ∀ b, d ≤ b → b ≤ d + 12 → μ' b = μ b) : DG μ' d ops := by
  unfold DG CM
  rw [e (d + 2) (by omega) (by omega), e (d + 4) (by omega) (by omega), e (d + 10) (by omega) (by omega), e (d + 12) (by omega) (by omega), e d (by omega) (by omega)]
  exact h
theorem c_Rd_readTargets {ops : OPS} (hR : isReader G r tx) (hd : tx + 1 < r ∨ r + 13 < tx) (h0 : 0 ≤ μ tx 1) (h1 : μ tx 1 ≤ 60) (hs : okSg (sgM μ tx) (μ tx 1)) (ha0 : 0 ≤ μ r 2) (ha1 : μ r 2 ≤ μ tx 1) (hp0 : 0 ≤ p) (hp1 : p < 20) (hD : DG μ (r + 1) ops) : KV E l 3 m_Rd_readTargets r [rI p] G μ 0 0 (dqi (fun z μ' => RF μ μ' r ∧ z = bi ((ptg (sgM μ tx) p 60 (μ r 2) ops).1 = true) ∧ μ' r 2 = (ptg (sgM μ tx) p 60 (μ r 2) ops).2.1 ∧ (0 ≤ μ' r 2 ∧ μ' r 2 ≤ μ tx 1 ∧ μ r 2 ≤ μ' r 2) ∧ DG μ' (r + 1) (ptg (sgM μ tx) p 60 (μ r 2) ops).2.2) G) := by
  have hR0 := hR
  obtain ⟨r0, r1, r2⟩ := hR
  refine ⟨KC.ofP q_Rd_readTargets.1 rfl (Nat.le_of_ble_eq_true rfl) rfl (fun Post NT ST hP => ?_), ⟨_, _, _, r0, rfl, rfl⟩, q_Rd_readTargets, by decide⟩
  refine V.iconst (n := 1) d_Rd_readTargets_0 rfl ?_
  refine V.istore_n (n := 2) d_Rd_readTargets_1 (by decide) rfl ?_
  have loop : ∀ (k : Nat) (i : Int) (ν : MU) (o : OPS) (u : Value), i + k = 60 → 0 ≤ i → RF μ ν r → 0 ≤ ν r 2 → ν r 2 ≤ μ tx 1 → μ r 2 ≤ ν r 2 → DG ν (r + 1) o → ptg (sgM μ tx) p 60 (μ r 2) ops = ptg (sgM μ tx) p k (ν r 2) o → V E l m_Rd_readTargets none 3 NT ST Post 2 [(2, rI i), (1, rI p), (0, rA E r)] [] G ν := by
    intro k
    induction k with
    | zero =>
      intro i ν o u hk hi n1 n2 n3 n4 n5 he
      rw [he] at hP
      refine V.iload_n (n := 3) d_Rd_readTargets_2 rfl rfl ?_
      refine V.bipush (n := 5) d_Rd_readTargets_3 (by decide) rfl ?_
      refine V.icmp_geT (n2 := 61) d_Rd_readTargets_5 (by omega) (by omega) (by omega) (by decide) ?_
      refine V.iconst (n := 62) d_Rd_readTargets_61 rfl ?_
      refine V.iret d_Rd_readTargets_62 ⟨_, rfl, rfl⟩ ?_
      exact hP _ _ ⟨_, rfl, rfl, n1, rfl, rfl, ⟨n2, n3, n4⟩, n5⟩
    | succ k ih =>
      intro i ν o u hk hi n1 n2 n3 n4 n5 he
      have ex : ν tx = μ tx := n1 tx (by omega)
      have ex1 : ν (tx + 1) = μ (tx + 1) := n1 (tx + 1) (by omega)
      have es : sgM ν tx = sgM μ tx := sgM_eq ex ex1
      have hpp := ppos_in hs n2 n3
      rw [ptg_s _ _ k (ν r 2)] at he
      refine V.iload_n (n := 3) d_Rd_readTargets_2 rfl rfl ?_
      refine V.bipush (n := 5) d_Rd_readTargets_3 (by decide) rfl ?_
      refine V.icmp_geF (n := 8) d_Rd_readTargets_5 (by omega) (by omega) (by omega) rfl ⟨61, by decide⟩ ?_
      refine V.aload_n (n := 9) d_Rd_readTargets_8 rfl rfl ?_
      refine V.cVi (n := 12) d_Rd_readTargets_9 k_Rd_43 (c_Rd_readPosition hR0 (by omega) (by rw [ex]; exact h0) (by rw [ex]; exact h1) (by rw [ex, es]; exact hs) n2 (by rw [ex]; exact n3)) rfl rfl (by decide) rfl ?_
      rw [es]
      generalize hm : wr ν r 2 (ppos (sgM μ tx) (ν r 2)).2 = ν1
      have e12 : ν1 r 2 = (ppos (sgM μ tx) (ν r 2)).2 := by rw [← hm, wr_s]
      have e1b : ∀ b, ¬ b = r → ν1 b = ν b := fun b hb => by rw [← hm, wr_a hb]
      have n51 : DG ν1 (r + 1) o := n5.at (fun b b1 b2 => e1b b (by omega))
      refine V.istore_n (n := 13) d_Rd_readTargets_12 (by decide) rfl ?_
      refine V.iload_n (n := 14) d_Rd_readTargets_13 rfl rfl ?_
      refine V.bipush (n := 16) d_Rd_readTargets_14 (by decide) rfl ?_
      refine V.icmp_ne (n2 := 21) (n := 19) d_Rd_readTargets_16 (by omega) (by omega) (by decide) rfl (fun h3 => ?_) (fun h3 => ?_)
      · rw [if_neg h3] at he
        have hq : 0 ≤ (ppos (sgM μ tx) (ν r 2)).1 ∧ (ppos (sgM μ tx) (ν r 2)).1 < 20 ∧ ν r 2 < (ppos (sgM μ tx) (ν r 2)).2 ∧ (ppos (sgM μ tx) (ν r 2)).2 ≤ μ tx 1 := by omega
        have rest : ∀ ν2 : MU, (∀ b, b < r + 1 ∨ r + 13 < b → ν2 b = ν1 b) → DG ν2 (r + 1) (o ++ [(62, p, (ppos (sgM μ tx) (ν r 2)).1)]) → V E l m_Rd_readTargets none 3 NT ST Post 44 [(3, rI (ppos (sgM μ tx) (ν r 2)).1), (2, rI i), (1, rI p), (0, rA E r)] [] G ν2 := by
          intro ν2 f1 f2
          have g2 : ν2 r 2 = (ppos (sgM μ tx) (ν r 2)).2 := by rw [f1 r (by omega), e12]
          have gx : ν2 tx = μ tx := by rw [f1 tx (by omega), e1b tx (by omega), ex]
          have gx1 : ν2 (tx + 1) = μ (tx + 1) := by rw [f1 (tx + 1) (by omega), e1b (tx + 1) (by omega), ex1]
          have gs : sgM ν2 tx = sgM μ tx := sgM_eq gx gx1
          have gR : RF μ ν2 r := fun b hb => by rw [f1 b (by omega), e1b b (by omega), n1 b hb]
          refine V.aload_n (n := 45) d_Rd_readTargets_44 rfl rfl ?_
          refine V.bipush (n := 47) d_Rd_readTargets_45 (by decide) rfl ?_
          refine V.cVi (n := 50) d_Rd_readTargets_47 k_Rd_39 (c_Rd_skip hR0 (by rw [gx]; exact h0) (by rw [gx]; exact h1) (by rw [gx, gs]; exact hs) (by rw [g2]; omega) (by rw [g2, gx]; omega) (by omega)) rfl rfl (by decide) rfl ?_
          rw [gs, g2]
          rcases bi_or (sgM μ tx (ppos (sgM μ tx) (ν r 2)).2 = 46) with ⟨hb, e⟩ | ⟨hb, e⟩ <;> rw [e]
          · have hlt : (ppos (sgM μ tx) (ν r 2)).2 < μ tx 1 := by
              by_cases hx : μ tx 1 ≤ (ppos (sgM μ tx) (ν r 2)).2
              · have := (hs _ (by omega)).1 hx; omega
              · omega
            rw [if_pos hb] at he
            rw [if_pos hb]
            refine V.if_neT (n2 := 55) d_Rd_readTargets_50 (by omega) (by omega) (by decide) ?_
            refine V.iinc (n := 58) d_Rd_readTargets_55 rfl (by decide) rfl ?_
            refine V.goto (n := 2) d_Rd_readTargets_58 (by decide) ?_
            refine V.loc (lo' := [(2, rI (i + 1)), (1, rI p), (0, rA E r)]) ⟨rfl, rfl, rfl, trivial⟩ ?_
            refine ih (i + 1) _ (o ++ [(62, p, (ppos (sgM μ tx) (ν r 2)).1)]) (rI 0) (by omega) (by omega) (fun b hb => by rw [wr_a (by omega), gR b hb]) (by rw [wr_s]; omega) (by rw [wr_s]; omega) (by rw [wr_s]; omega) (f2.at (fun b b1 b2 => wr_a (by omega))) (by rw [wr_s]; exact he)
          · rw [if_neg hb] at he
            rw [if_neg hb]
            rw [he] at hP
            refine V.if_neF (n := 53) d_Rd_readTargets_50 (by omega) (by omega) rfl ⟨55, by decide⟩ ?_
            refine V.iconst (n := 54) d_Rd_readTargets_53 rfl ?_
            refine V.iret d_Rd_readTargets_54 ⟨_, rfl, rfl⟩ ?_
            exact hP _ _ ⟨_, rfl, rfl, gR, by rw [bi_t rfl], g2, ⟨by omega, by omega, by omega⟩, f2⟩
        refine V.aload_n (n := 22) d_Rd_readTargets_21 rfl rfl ?_
        refine V.getA (n := 25) d_Rd_readTargets_22 f_Rd_12 (by assumption) rfl rfl ?_
        refine V.iload_n (n := 26) d_Rd_readTargets_25 rfl rfl ?_
        refine V.iload_n (n := 27) d_Rd_readTargets_26 rfl rfl ?_
        refine V.cVqi (n := 30) d_Rd_readTargets_27 k_Rd_64 (c_Gm_rankL r2 n51.2.2 n51.2.1 hp0 hp1 (by omega)) rfl rfl (by decide) rfl (fun z ν3 hq => ?_)
        obtain ⟨rfl, hz⟩ := hq
        refine V.bipush (n := 32) d_Rd_readTargets_30 (by decide) rfl ?_
        rcases hz with ⟨z0, hmem, hz⟩ | ⟨z0, hmem⟩
        · obtain ⟨rr, hrr, hrl, -⟩ := hz
          have := outs_le n51.2.2 p
          refine V.icmp_neT (n2 := 44) d_Rd_readTargets_32 (by omega) (by omega) (by omega) (by decide) ?_
          refine V.loc (lo' := [(3, rI (ppos (sgM μ tx) (ν r 2)).1), (2, rI i), (1, rI p), (0, rA E r)]) ⟨rfl, rfl, rfl, rfl, trivial⟩ ?_
          refine rest _ (fun _ _ => rfl) ⟨fun p' q0 q1 => ?_, ?_, ?_⟩
          · rw [apT_app, apM_app, if_neg (by show ¬ ((62 : Int) = 100 ∧ _); omega), if_neg (by show ¬ ((62 : Int) = 119 ∧ _); omega), if_neg (by show ¬ ((62 : Int) = 108 ∧ _); omega)]
            exact n51.1 p' q0 q1
          · rw [apL_app, if_neg (fun x => x.2 hmem)]; exact n51.2.1
          · rw [apL_app, if_neg (fun x => x.2 hmem)]; exact n51.2.2
        · refine V.icmp_neF (n := 35) d_Rd_readTargets_32 (by omega) (by omega) (by omega) rfl ⟨44, by decide⟩ ?_
          have hc := n51.2.1.1 p hp0 hp1
          have hlt := outs_lt n51.2.2 ⟨(show 0 ≤ (ppos (sgM μ tx) (ν r 2)).1 by omega), (show (ppos (sgM μ tx) (ν r 2)).1 < 20 by omega)⟩ hmem
          refine V.aload_n (n := 36) d_Rd_readTargets_35 rfl rfl ?_
          refine V.getA (n := 39) d_Rd_readTargets_36 f_Rd_12 (by assumption) rfl rfl ?_
          refine V.iload_n (n := 40) d_Rd_readTargets_39 rfl rfl ?_
          refine V.iload_n (n := 41) d_Rd_readTargets_40 rfl rfl ?_
          refine V.cVv (n := 44) d_Rd_readTargets_41 k_Rd_68 (c_Gm_append r2 hp0 hp1 (by rw [hc.1]; omega) (by rw [hc.1]; omega)) rfl rfl (by decide) rfl ?_
          refine V.loc (lo' := [(3, rI (ppos (sgM μ tx) (ν r 2)).1), (2, rI i), (1, rI p), (0, rA E r)]) ⟨rfl, rfl, rfl, rfl, trivial⟩ ?_
          have hadd := n51.2.1.add n51.2.2 ⟨hp0, hp1⟩ ⟨(show 0 ≤ (ppos (sgM μ tx) (ν r 2)).1 by omega), (show (ppos (sgM μ tx) (ν r 2)).1 < 20 by omega)⟩ hmem
          refine rest _ (fun b hb => by rw [wr_a (by omega), wr_a (by omega), wr_a (by omega)]) ⟨fun p' q0 q1 => ?_, ?_, ?_⟩
          · rw [apT_app, apM_app, if_neg (by show ¬ ((62 : Int) = 100 ∧ _); omega), if_neg (by show ¬ ((62 : Int) = 119 ∧ _); omega), if_neg (by show ¬ ((62 : Int) = 108 ∧ _); omega), wr_a (by omega), wr_a (by omega), wr_a (by omega), wr_a (by omega), wr_a (by omega), wr_a (by omega)]
            exact n51.1 p' q0 q1
          · rw [apL_app, if_pos ⟨rfl, hmem⟩]; exact hadd
          · rw [apL_app, if_pos ⟨rfl, hmem⟩]; exact okL_app n51.2.2 ⟨hp0, hp1⟩ ⟨(show 0 ≤ (ppos (sgM μ tx) (ν r 2)).1 by omega), (show (ppos (sgM μ tx) (ν r 2)).1 < 20 by omega)⟩ hmem
      · rw [if_pos h3] at he
        rw [he] at hP
        have hq : (ppos (sgM μ tx) (ν r 2)).2 = ν r 2 := by omega
        refine V.iconst (n := 20) d_Rd_readTargets_19 rfl ?_
        refine V.iret d_Rd_readTargets_20 ⟨_, rfl, rfl⟩ ?_
        exact hP _ _ ⟨_, rfl, rfl, fun b hb => by rw [e1b b (by omega), n1 b hb], by rw [bi_f (by simp)], by rw [e12, hq], ⟨by omega, by omega, by omega⟩, n51⟩
  refine V.loc (lo' := [(2, rI 0), (1, rI p), (0, rA E r)]) ⟨rfl, rfl, rfl, trivial⟩ ?_
  exact loop 60 0 μ ops (rI 0) (by omega) (by omega) (fun _ _ => rfl) ha0 ha1 (by omega) hD rfl
theorem c_Rd_readEntry {ops : OPS} (hR : isReader G r tx) (hd : tx + 1 < r ∨ r + 13 < tx) (h0 : 0 ≤ μ tx 1) (h1 : μ tx 1 ≤ 60) (hs : okSg (sgM μ tx) (μ tx 1)) (ha0 : 0 ≤ μ r 2) (ha1 : μ r 2 ≤ μ tx 1) (hD : DG μ (r + 1) ops) : KV E l 4 m_Rd_readEntry r [] G μ 0 0 (dqi (fun z μ' => RF μ μ' r ∧ z = bi ((pen (sgM μ tx) (μ r 2) ops).1 = true) ∧ μ' r 2 = (pen (sgM μ tx) (μ r 2) ops).2.1 ∧ (0 ≤ μ' r 2 ∧ μ' r 2 ≤ μ tx 1 ∧ μ r 2 ≤ μ' r 2 ∧ (z = 1 → μ r 2 < μ' r 2)) ∧ DG μ' (r + 1) (pen (sgM μ tx) (μ r 2) ops).2.2) G) := by
  have hR0 := hR
  obtain ⟨r0, r1, r2⟩ := hR
  obtain ⟨a0, a1, a2, a3, a4, a5, a6⟩ := id r2
  have hpp := ppos_in hs ha0 ha1
  refine ⟨KC.ofP q_Rd_readEntry.1 rfl (Nat.le_of_ble_eq_true rfl) rfl (fun Post NT ST hP => ?_), ⟨_, _, _, r0, rfl, rfl⟩, q_Rd_readEntry, by decide⟩
  refine V.aload_n (n := 1) d_Rd_readEntry_0 rfl rfl ?_
  refine V.cVi (n := 4) d_Rd_readEntry_1 k_Rd_43 (c_Rd_readPosition hR0 (by omega) h0 h1 hs ha0 ha1) rfl rfl (by decide) rfl ?_
  unfold pen at hP
  generalize hm : wr μ r 2 (ppos (sgM μ tx) (μ r 2)).2 = ν1
  have e12 : ν1 r 2 = (ppos (sgM μ tx) (μ r 2)).2 := by rw [← hm, wr_s]
  have e1b : ∀ b, ¬ b = r → ν1 b = μ b := fun b hb => by rw [← hm, wr_a hb]
  have n51 : DG ν1 (r + 1) ops := hD.at (fun b b1 b2 => e1b b (by omega))
  have ex : ν1 tx = μ tx := e1b tx (by omega)
  have es : sgM ν1 tx = sgM μ tx := sgM_eq ex (e1b (tx + 1) (by omega))
  have hR1 : RF μ ν1 r := fun b hb => e1b b (by omega)
  generalize hp : (ppos (sgM μ tx) (μ r 2)).1 = p at *
  generalize hq : (ppos (sgM μ tx) (μ r 2)).2 = q at *
  refine V.istore_n (n := 5) d_Rd_readEntry_4 (by decide) rfl ?_
  refine V.iload_n (n := 6) d_Rd_readEntry_5 rfl rfl ?_
  refine V.bipush (n := 8) d_Rd_readEntry_6 (by decide) rfl ?_
  refine V.icmp_ne (n2 := 13) (n := 11) d_Rd_readEntry_8 (by omega) (by omega) (by decide) rfl (fun h3 => ?_) (fun h3 => ?_)
  · rw [if_neg h3] at hP
    have hq4 : 0 ≤ p ∧ p < 20 ∧ μ r 2 < q ∧ q ≤ μ tx 1 := by omega
    have hlt : ∀ c : Int, 0 ≤ c → sgM μ tx q = c → q < μ tx 1 := fun c c0 hc => by
      by_cases hx : μ tx 1 ≤ q
      · have := (hs q (by omega)).1 hx; omega
      · omega
    have rest : ∀ (ν2 : MU) (o : OPS), (∀ b, b < r + 1 ∨ r + 13 < b → ν2 b = wr ν1 r 2 (q + 1) b) → DG ν2 (r + 1) o → q < μ tx 1 → Post (some (rI 1)) G ν2 ∨ True := fun _ _ _ _ _ => Or.inr trivial
    have fin : ∀ (ν2 : MU), (∀ b, b < r + 1 ∨ r + 13 < b → ν2 b = wr ν1 r 2 (q + 1) b) → q < μ tx 1 → RF μ ν2 r ∧ ν2 r 2 = q + 1 := fun ν2 f1 f2 =>
      ⟨fun b hb => by rw [f1 b (by omega), wr_a (by omega), e1b b (by omega)], by rw [f1 r (by omega), wr_s]⟩
    refine V.aload_n (n := 14) d_Rd_readEntry_13 rfl rfl ?_
    refine V.bipush (n := 16) d_Rd_readEntry_14 (by decide) rfl ?_
    refine V.cVi (n := 19) d_Rd_readEntry_16 k_Rd_39 (c_Rd_skip hR0 (by rw [ex]; exact h0) (by rw [ex]; exact h1) (by rw [ex, es]; exact hs) (by rw [e12]; omega) (by rw [e12, ex]; omega) (by omega)) rfl rfl (by decide) rfl ?_
    rw [es, e12]
    rcases bi_or (sgM μ tx q = 119) with ⟨hb, e⟩ | ⟨hb, e⟩ <;> rw [e]
    · rw [if_pos hb] at hP
      rw [if_pos hb]
      refine V.if_eqF (n := 22) d_Rd_readEntry_19 (by omega) (by omega) rfl ⟨36, by decide⟩ ?_
      refine V.aload_n (n := 23) d_Rd_readEntry_22 rfl rfl ?_
      refine V.getA (n := 26) d_Rd_readEntry_23 f_Rd_12 (by assumption) rfl rfl ?_
      refine V.getA (n := 29) d_Rd_readEntry_26 f_Rd_47 (by assumption) rfl rfl ?_
      refine V.iload_n (n := 30) d_Rd_readEntry_29 rfl rfl ?_
      refine V.iconst (n := 31) d_Rd_readEntry_30 rfl ?_
      refine V.cVv (n := 34) d_Rd_readEntry_31 k_Rd_51 (c_Rw_set (by assumption) (by omega) (by omega)) rfl rfl (by decide) rfl ?_
      refine V.iconst (n := 35) d_Rd_readEntry_34 rfl ?_
      refine V.iret d_Rd_readEntry_35 ⟨_, rfl, rfl⟩ ?_
      have hf := fin (wr (wr ν1 r 2 (q + 1)) (r + 1 + 4) p 1) (fun b hb => wr_a (by omega)) (hlt 119 (by omega) hb)
      refine hP _ _ ⟨_, rfl, rfl, hf.1, by rw [bi_t rfl], hf.2, ⟨by omega, by have := hlt 119 (by omega) hb; omega, by omega, fun _ => by omega⟩, fun p' q0 q1 => ?_, ?_, ?_⟩
      · rw [apT_app, apM_app, if_neg (by show ¬ ((119 : Int) = 100 ∧ _); omega), if_neg (show ¬ ((119 : Int) = 108 ∧ p = p') by omega), wr_a (by omega), wr_a (by omega), wr_v, wr_a (show ¬ r + 1 + 4 = r by omega)]
        have := n51.1 p' q0 q1
        by_cases hpp' : p' = p
        · rw [if_pos hpp', if_pos ⟨rfl, hpp'.symm⟩]; exact ⟨this.1, rfl⟩
        · rw [if_neg hpp', if_neg (fun x => hpp' x.2.symm)]; exact this
      · rw [apL_app, if_neg (by show ¬ ((119 : Int) = 62 ∧ _); omega)]
        exact (n51.at (fun b b1 b2 => rfl)).2.1.kept n51.2.2 (fun j _ _ => by rw [wr_a (by omega), wr_a (by omega)]) (fun j _ _ => by rw [wr_a (by omega), wr_a (by omega)]) (by rw [wr_a (by omega), wr_a (by omega)])
      · rw [apL_app, if_neg (by show ¬ ((119 : Int) = 62 ∧ _); omega)]; exact n51.2.2
    · rw [if_neg hb] at hP
      rw [if_neg hb]
      refine V.if_eqT (n2 := 36) d_Rd_readEntry_19 (by omega) (by omega) (by decide) ?_
      refine V.aload_n (n := 37) d_Rd_readEntry_36 rfl rfl ?_
      refine V.bipush (n := 39) d_Rd_readEntry_37 (by decide) rfl ?_
      refine V.cVi (n := 42) d_Rd_readEntry_39 k_Rd_39 (c_Rd_skip hR0 (by rw [ex]; exact h0) (by rw [ex]; exact h1) (by rw [ex, es]; exact hs) (by rw [e12]; omega) (by rw [e12, ex]; omega) (by omega)) rfl rfl (by decide) rfl ?_
      rw [es, e12]
      rcases bi_or (sgM μ tx q = 108) with ⟨hb2, e⟩ | ⟨hb2, e⟩ <;> rw [e]
      · rw [if_pos hb2] at hP
        rw [if_pos hb2]
        refine V.if_eqF (n := 45) d_Rd_readEntry_42 (by omega) (by omega) rfl ⟨59, by decide⟩ ?_
        refine V.aload_n (n := 46) d_Rd_readEntry_45 rfl rfl ?_
        refine V.getA (n := 49) d_Rd_readEntry_46 f_Rd_12 (by assumption) rfl rfl ?_
        refine V.getA (n := 52) d_Rd_readEntry_49 f_Rd_47 (by assumption) rfl rfl ?_
        refine V.iload_n (n := 53) d_Rd_readEntry_52 rfl rfl ?_
        refine V.iconst (n := 54) d_Rd_readEntry_53 rfl ?_
        refine V.cVv (n := 57) d_Rd_readEntry_54 k_Rd_51 (c_Rw_set (by assumption) (by omega) (by omega)) rfl rfl (by decide) rfl ?_
        refine V.iconst (n := 58) d_Rd_readEntry_57 rfl ?_
        refine V.iret d_Rd_readEntry_58 ⟨_, rfl, rfl⟩ ?_
        have hf := fin (wr (wr ν1 r 2 (q + 1)) (r + 1 + 4) p 2) (fun b hb => wr_a (by omega)) (hlt 108 (by omega) hb2)
        refine hP _ _ ⟨_, rfl, rfl, hf.1, by rw [bi_t rfl], hf.2, ⟨by omega, by have := hlt 108 (by omega) hb2; omega, by omega, fun _ => by omega⟩, fun p' q0 q1 => ?_, ?_, ?_⟩
        · rw [apT_app, apM_app, if_neg (by show ¬ ((108 : Int) = 100 ∧ _); omega), if_neg (show ¬ ((108 : Int) = 119 ∧ p = p') by omega), wr_a (by omega), wr_a (by omega), wr_v, wr_a (show ¬ r + 1 + 4 = r by omega)]
          have := n51.1 p' q0 q1
          by_cases hpp' : p' = p
          · rw [if_pos hpp', if_pos ⟨rfl, hpp'.symm⟩]; exact ⟨this.1, rfl⟩
          · rw [if_neg hpp', if_neg (fun x => hpp' x.2.symm)]; exact this
        · rw [apL_app, if_neg (by show ¬ ((108 : Int) = 62 ∧ _); omega)]
          exact n51.2.1.kept n51.2.2 (fun j _ _ => by rw [wr_a (by omega), wr_a (by omega)]) (fun j _ _ => by rw [wr_a (by omega), wr_a (by omega)]) (by rw [wr_a (by omega), wr_a (by omega)])
        · rw [apL_app, if_neg (by show ¬ ((108 : Int) = 62 ∧ _); omega)]; exact n51.2.2
      · rw [if_neg hb2] at hP
        rw [if_neg hb2]
        refine V.if_eqT (n2 := 59) d_Rd_readEntry_42 (by omega) (by omega) (by decide) ?_
        refine V.aload_n (n := 60) d_Rd_readEntry_59 rfl rfl ?_
        refine V.bipush (n := 62) d_Rd_readEntry_60 (by decide) rfl ?_
        refine V.cVi (n := 65) d_Rd_readEntry_62 k_Rd_39 (c_Rd_skip hR0 (by rw [ex]; exact h0) (by rw [ex]; exact h1) (by rw [ex, es]; exact hs) (by rw [e12]; omega) (by rw [e12, ex]; omega) (by omega)) rfl rfl (by decide) rfl ?_
        rw [es, e12]
        rcases bi_or (sgM μ tx q = 100) with ⟨hb3, e⟩ | ⟨hb3, e⟩ <;> rw [e]
        · rw [if_pos hb3] at hP
          rw [if_pos hb3]
          refine V.if_eqF (n := 68) d_Rd_readEntry_65 (by omega) (by omega) rfl ⟨82, by decide⟩ ?_
          refine V.aload_n (n := 69) d_Rd_readEntry_68 rfl rfl ?_
          refine V.getA (n := 72) d_Rd_readEntry_69 f_Rd_12 (by assumption) rfl rfl ?_
          refine V.getA (n := 75) d_Rd_readEntry_72 f_Rd_57 (by assumption) rfl rfl ?_
          refine V.iload_n (n := 76) d_Rd_readEntry_75 rfl rfl ?_
          refine V.iconst (n := 77) d_Rd_readEntry_76 rfl ?_
          refine V.cVv (n := 80) d_Rd_readEntry_77 k_Rd_51 (c_Rw_set (by assumption) (by omega) (by omega)) rfl rfl (by decide) rfl ?_
          refine V.iconst (n := 81) d_Rd_readEntry_80 rfl ?_
          refine V.iret d_Rd_readEntry_81 ⟨_, rfl, rfl⟩ ?_
          have hf := fin (wr (wr ν1 r 2 (q + 1)) (r + 1 + 2) p 1) (fun b hb => wr_a (by omega)) (hlt 100 (by omega) hb3)
          refine hP _ _ ⟨_, rfl, rfl, hf.1, by rw [bi_t rfl], hf.2, ⟨by omega, by have := hlt 100 (by omega) hb3; omega, by omega, fun _ => by omega⟩, fun p' q0 q1 => ?_, ?_, ?_⟩
          · rw [apT_app, apM_app, if_neg (show ¬ ((100 : Int) = 119 ∧ p = p') by omega), if_neg (show ¬ ((100 : Int) = 108 ∧ p = p') by omega), wr_v, wr_a (show ¬ r + 1 + 2 = r by omega), wr_a (by omega), wr_a (by omega)]
            have := n51.1 p' q0 q1
            by_cases hpp' : p' = p
            · rw [if_pos hpp', if_pos ⟨rfl, hpp'.symm⟩]; exact ⟨rfl, this.2⟩
            · rw [if_neg hpp', if_neg (fun x => hpp' x.2.symm)]; exact this
          · rw [apL_app, if_neg (by show ¬ ((100 : Int) = 62 ∧ _); omega)]
            exact n51.2.1.kept n51.2.2 (fun j _ _ => by rw [wr_a (by omega), wr_a (by omega)]) (fun j _ _ => by rw [wr_a (by omega), wr_a (by omega)]) (by rw [wr_a (by omega), wr_a (by omega)])
          · rw [apL_app, if_neg (by show ¬ ((100 : Int) = 62 ∧ _); omega)]; exact n51.2.2
        · rw [if_neg hb3] at hP
          rw [if_neg hb3]
          refine V.if_eqT (n2 := 82) d_Rd_readEntry_65 (by omega) (by omega) (by decide) ?_
          refine V.aload_n (n := 83) d_Rd_readEntry_82 rfl rfl ?_
          refine V.bipush (n := 85) d_Rd_readEntry_83 (by decide) rfl ?_
          refine V.cVi (n := 88) d_Rd_readEntry_85 k_Rd_39 (c_Rd_skip hR0 (by rw [ex]; exact h0) (by rw [ex]; exact h1) (by rw [ex, es]; exact hs) (by rw [e12]; omega) (by rw [e12, ex]; omega) (by omega)) rfl rfl (by decide) rfl ?_
          rw [es, e12]
          rcases bi_or (sgM μ tx q = 62) with ⟨hb4, e⟩ | ⟨hb4, e⟩ <;> rw [e]
          · rw [if_pos hb4] at hP
            rw [if_pos hb4]
            have hl4 := hlt 62 (by omega) hb4
            have hf := fin (wr ν1 r 2 (q + 1)) (fun b hb => rfl) hl4
            have gx : wr ν1 r 2 (q + 1) tx = μ tx := by rw [wr_a (by omega), ex]
            have gs : sgM (wr ν1 r 2 (q + 1)) tx = sgM μ tx := sgM_eq gx (by rw [wr_a (by omega), e1b _ (by omega)])
            refine V.if_eqF (n := 91) d_Rd_readEntry_88 (by omega) (by omega) rfl ⟨103, by decide⟩ ?_
            refine V.aload_n (n := 92) d_Rd_readEntry_91 rfl rfl ?_
            refine V.iload_n (n := 93) d_Rd_readEntry_92 rfl rfl ?_
            refine V.cVqi (n := 96) d_Rd_readEntry_93 k_Rd_60 (c_Rd_readTargets hR0 hd (by rw [gx]; exact h0) (by rw [gx]; exact h1) (by rw [gx, gs]; exact hs) (by rw [hf.2]; omega) (by rw [hf.2, gx]; omega) hq4.1 hq4.2.1 (n51.at (fun b b1 b2 => wr_a (by omega)))) rfl rfl (by decide) rfl (fun z ν3 hq => ?_)
            rw [gs, hf.2, gx] at hq
            obtain ⟨q1, q2, q3, q4, q5⟩ := hq
            rw [q2]
            rcases bi_or ((ptg (sgM μ tx) p 60 (q + 1) ops).1 = true) with ⟨hb5, e⟩ | ⟨hb5, e⟩ <;> rw [e]
            · refine V.if_eqF (n := 99) d_Rd_readEntry_96 (by omega) (by omega) rfl ⟨103, by decide⟩ ?_
              refine V.iconst (n := 100) d_Rd_readEntry_99 rfl ?_
              refine V.goto (n := 104) d_Rd_readEntry_100 (by decide) ?_
              refine V.iret d_Rd_readEntry_104 ⟨_, rfl, rfl⟩ ?_
              exact hP _ _ ⟨_, rfl, rfl, fun b hb => by rw [q1 b hb, hf.1 b hb], by rw [e], q3, ⟨by omega, by omega, by omega, fun _ => by omega⟩, q5⟩
            · refine V.if_eqT (n2 := 103) d_Rd_readEntry_96 (by omega) (by omega) (by decide) ?_
              refine V.iconst (n := 104) d_Rd_readEntry_103 rfl ?_
              refine V.iret d_Rd_readEntry_104 ⟨_, rfl, rfl⟩ ?_
              exact hP _ _ ⟨_, rfl, rfl, fun b hb => by rw [q1 b hb, hf.1 b hb], by rw [e], q3, ⟨by omega, by omega, by omega, fun _ => by omega⟩, q5⟩
          · rw [if_neg hb4] at hP
            rw [if_neg hb4]
            refine V.if_eqT (n2 := 103) d_Rd_readEntry_88 (by omega) (by omega) (by decide) ?_
            refine V.iconst (n := 104) d_Rd_readEntry_103 rfl ?_
            refine V.iret d_Rd_readEntry_104 ⟨_, rfl, rfl⟩ ?_
            exact hP _ _ ⟨_, rfl, rfl, hR1, by rw [bi_f (by simp)], e12, ⟨by omega, by omega, by omega, fun _ => by omega⟩, n51⟩
  · rw [if_pos h3] at hP
    have hq4 : q = μ r 2 := by omega
    refine V.iconst (n := 12) d_Rd_readEntry_11 rfl ?_
    refine V.iret d_Rd_readEntry_12 ⟨_, rfl, rfl⟩ ?_
    exact hP _ _ ⟨_, rfl, rfl, hR1, by rw [bi_f (by simp)], by rw [e12, hq4], ⟨by omega, by omega, by omega, fun _ => by omega⟩, n51⟩
theorem c_Rd_readText (hR : isReader G r tx) (hd : tx + 1 < r ∨ r + 13 < tx) (h0 : 0 ≤ μ tx 1) (h1 : μ tx 1 ≤ 60) (hs : okSg (sgM μ tx) (μ tx 1)) : KV E l 5 m_Rd_readText r [] G μ 0 0 (dqi (fun z μ' => RF μ μ' r ∧ z = (if (ptx (sgM μ tx) 60 0 []).1 = true then -1 else (ptx (sgM μ tx) 60 0 []).2.1) ∧ 0 ≤ (ptx (sgM μ tx) 60 0 []).2.1 ∧ (ptx (sgM μ tx) 60 0 []).2.1 ≤ μ tx 1 ∧ DG μ' (r + 1) (ptx (sgM μ tx) 60 0 []).2.2) G) := by
  have hR0 := hR
  obtain ⟨r0, r1, r2⟩ := hR
  refine ⟨KC.ofP q_Rd_readText.1 rfl (Nat.le_of_ble_eq_true rfl) rfl (fun Post NT ST hP => ?_), ⟨_, _, _, r0, rfl, rfl⟩, q_Rd_readText, by decide⟩
  refine V.aload_n (n := 1) d_Rd_readText_0 rfl rfl ?_
  refine V.getA (n := 4) d_Rd_readText_1 f_Rd_12 (by assumption) rfl rfl ?_
  refine V.cVqv (n := 7) d_Rd_readText_4 k_Rd_22 (c_Gm_clearAllButGuesses r2) rfl rfl (by decide) rfl (fun ν0 hq => ?_)
  obtain ⟨m1, m2, m3⟩ := hq
  refine V.aload_n (n := 8) d_Rd_readText_7 rfl rfl ?_
  refine V.iconst (n := 9) d_Rd_readText_8 rfl ?_
  refine V.putI (n := 12) d_Rd_readText_9 f_Rd_25 t_Rd_at ⟨rfl, rfl⟩ (by assumption) rfl rfl ?_
  refine V.iconst (n := 13) d_Rd_readText_12 rfl ?_
  refine V.istore_n (n := 14) d_Rd_readText_13 (by decide) rfl ?_
  have loop : ∀ (k : Nat) (i : Int) (ν : MU) (o : OPS), i + k = 60 → 0 ≤ i → RF μ ν r → 0 ≤ ν r 2 → ν r 2 ≤ μ tx 1 → DG ν (r + 1) o → ptx (sgM μ tx) 60 0 [] = ptx (sgM μ tx) k (ν r 2) o → V E l m_Rd_readText none 5 NT ST Post 14 [(1, rI i), (0, rA E r)] [] G ν := by
    intro k
    induction k with
    | zero =>
      intro i ν o hk hi n1 n2 n3 n5 he
      rw [he] at hP
      refine V.iload_n (n := 15) d_Rd_readText_14 rfl rfl ?_
      refine V.bipush (n := 17) d_Rd_readText_15 (by decide) rfl ?_
      refine V.icmp_geT (n2 := 69) d_Rd_readText_17 (by omega) (by omega) (by omega) (by decide) ?_
      refine V.aload_n (n := 70) d_Rd_readText_69 rfl rfl ?_
      refine V.getI (n := 73) d_Rd_readText_70 f_Rd_25 (by assumption) rfl rfl ?_
      refine V.iret d_Rd_readText_73 ⟨_, rfl, rfl⟩ ?_
      exact hP _ _ ⟨_, rfl, rfl, n1, rfl, n2, n3, n5⟩
    | succ k ih =>
      intro i ν o hk hi n1 n2 n3 n5 he
      have ex : ν tx = μ tx := n1 tx (by omega)
      have ex1 : ν (tx + 1) = μ (tx + 1) := n1 (tx + 1) (by omega)
      have es : sgM ν tx = sgM μ tx := sgM_eq ex ex1
      rw [ptx_s _ k (ν r 2)] at he
      refine V.iload_n (n := 15) d_Rd_readText_14 rfl rfl ?_
      refine V.bipush (n := 17) d_Rd_readText_15 (by decide) rfl ?_
      refine V.icmp_geF (n := 20) d_Rd_readText_17 (by omega) (by omega) (by omega) rfl ⟨69, by decide⟩ ?_
      refine V.aload_n (n := 21) d_Rd_readText_20 rfl rfl ?_
      refine V.cVqi (n := 24) d_Rd_readText_21 k_Rd_29 (c_Rd_readEntry hR0 hd (by rw [ex]; exact h0) (by rw [ex]; exact h1) (by rw [ex, es]; exact hs) n2 (by rw [ex]; exact n3) n5) rfl rfl (by decide) rfl (fun z ν1 hq => ?_)
      rw [es, ex] at hq
      obtain ⟨q1, q2, q3, q4, q5⟩ := hq
      have gR : RF μ ν1 r := fun b hb => by rw [q1 b hb, n1 b hb]
      rw [← q3] at he
      rcases bi_or ((pen (sgM μ tx) (ν r 2) o).1 = true) with ⟨hb, e⟩ | ⟨hb, e⟩
      · rw [e] at q2
        subst q2
        rw [if_neg (by rw [hb]; simp)] at he
        have fx : ν1 tx = μ tx := gR tx (by omega)
        have fs : sgM ν1 tx = sgM μ tx := sgM_eq fx (gR (tx + 1) (by omega))
        have hsq := hs (ν1 r 2) q4.1
        have hin : inR (sgM μ tx (ν1 r 2)) := by
          by_cases hx : μ tx 1 ≤ ν1 r 2
          · have := hsq.1 hx; omega
          · have := hsq.2 (by omega); omega
        refine V.if_neT (n2 := 32) d_Rd_readText_24 (by omega) (by omega) (by decide) ?_
        refine V.aload_n (n := 33) d_Rd_readText_32 rfl rfl ?_
        refine V.getA (n := 36) d_Rd_readText_33 f_Rd_18 (by assumption) rfl rfl ?_
        refine V.aload_n (n := 37) d_Rd_readText_36 rfl rfl ?_
        refine V.getI (n := 40) d_Rd_readText_37 f_Rd_25 (by assumption) rfl rfl ?_
        refine V.cVi (n := 43) d_Rd_readText_40 k_Rd_33 (c_Tx_signAt r1 (by rw [fx]; exact h0) (by rw [fx]; exact h1) (by omega)) rfl rfl (by decide) rfl ?_
        rw [fs]
        refine V.iconst (n := 44) d_Rd_readText_43 rfl ?_
        refine V.icmp_ne (n2 := 49) (n := 47) d_Rd_readText_44 (by omega) (by omega) (by decide) rfl (fun h3 => ?_) (fun h3 => ?_)
        · rw [if_neg h3] at he
          refine V.aload_n (n := 50) d_Rd_readText_49 rfl rfl ?_
          refine V.bipush (n := 52) d_Rd_readText_50 (by decide) rfl ?_
          refine V.cVi (n := 55) d_Rd_readText_52 k_Rd_39 (c_Rd_skip hR0 (by rw [fx]; exact h0) (by rw [fx]; exact h1) (by rw [fx, fs]; exact hs) q4.1 (by rw [fx]; omega) (by omega)) rfl rfl (by decide) rfl ?_
          rw [fs]
          have hlt : ν1 r 2 < μ tx 1 := by
            by_cases hx : μ tx 1 ≤ ν1 r 2
            · exact absurd (hsq.1 hx) h3
            · omega
          rcases bi_or (sgM μ tx (ν1 r 2) = 44) with ⟨hb2, e2⟩ | ⟨hb2, e2⟩ <;> rw [e2]
          · rw [if_pos hb2] at he
            rw [if_pos hb2]
            refine V.if_neT (n2 := 63) d_Rd_readText_55 (by omega) (by omega) (by decide) ?_
            refine V.iinc (n := 66) d_Rd_readText_63 rfl (by decide) rfl ?_
            refine V.goto (n := 14) d_Rd_readText_66 (by decide) ?_
            refine V.loc (lo' := [(1, rI (i + 1)), (0, rA E r)]) ⟨rfl, rfl, trivial⟩ ?_
            exact ih (i + 1) _ _ (by omega) (by omega) (fun b hb => by rw [wr_a (by omega), gR b hb]) (by rw [wr_s]; omega) (by rw [wr_s]; omega) (q5.at (fun b b1 b2 => wr_a (by omega))) (by rw [wr_s]; exact he)
          · rw [if_neg hb2] at he
            rw [if_neg hb2]
            rw [he] at hP
            refine V.if_neF (n := 58) d_Rd_readText_55 (by omega) (by omega) rfl ⟨63, by decide⟩ ?_
            refine V.aload_n (n := 59) d_Rd_readText_58 rfl rfl ?_
            refine V.getI (n := 62) d_Rd_readText_59 f_Rd_25 (by assumption) rfl rfl ?_
            refine V.iret d_Rd_readText_62 ⟨_, rfl, rfl⟩ ?_
            exact hP _ _ ⟨_, rfl, rfl, gR, by rw [if_neg (by simp)]; exact q3, by rw [← q3]; omega, by rw [← q3]; omega, q5⟩
        · rw [if_pos h3] at he
          rw [he] at hP
          refine V.iconst (n := 48) d_Rd_readText_47 rfl ?_
          refine V.iret d_Rd_readText_48 ⟨_, rfl, rfl⟩ ?_
          exact hP _ _ ⟨_, rfl, rfl, gR, by rw [if_pos rfl], by rw [← q3]; omega, by rw [← q3]; omega, q5⟩
      · rw [e] at q2
        subst q2
        rw [if_pos (by simpa using hb)] at he
        rw [he] at hP
        refine V.if_neF (n := 27) d_Rd_readText_24 (by omega) (by omega) rfl ⟨32, by decide⟩ ?_
        refine V.aload_n (n := 28) d_Rd_readText_27 rfl rfl ?_
        refine V.getI (n := 31) d_Rd_readText_28 f_Rd_25 (by assumption) rfl rfl ?_
        refine V.iret d_Rd_readText_31 ⟨_, rfl, rfl⟩ ?_
        exact hP _ _ ⟨_, rfl, rfl, gR, by rw [if_neg (by simp)]; exact q3, by rw [← q3]; omega, by rw [← q3]; omega, q5⟩
  refine V.loc (lo' := [(1, rI 0), (0, rA E r)]) ⟨rfl, rfl, trivial⟩ ?_
  have e2 : wr ν0 r 2 0 r 2 = 0 := wr_s _ _ _ _
  refine loop 60 0 _ [] (by omega) (by omega) (fun b hb => by rw [wr_a (by omega), m1 b (by omega) (by omega) (by omega) (by omega)]) (by rw [e2]; omega) (by rw [e2]; omega) ⟨fun p p0 p1 => ?_, CM.nil (fun p p0 p1 => ?_) ?_, ⟨List.nodup_nil, fun x hx => by cases hx⟩⟩ (by rw [e2])
  · rw [wr_a (by omega), wr_a (by omega)]
    exact ⟨(m2 p p0 p1).1, (m2 p p0 p1).2.1⟩
  · rw [wr_a (by omega)]
    exact (m2 p p0 p1).2.2
  · rw [wr_a (by omega)]
    exact m3
end CRD
end
