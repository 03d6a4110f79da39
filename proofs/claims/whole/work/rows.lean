section
-- ===== PART A: goes FIRST, ahead of the names: the tables' words, and 'selects' of the private methods out of them =====
/-- a private method of a class that the tables say can be made, by its rows of tables_1 -/
def lw_okq (q : MethodName × Nat) : Prop := (q.1.cls ≠ "java/lang/invoke/MethodHandle" ∧ q.1.cls ≠ "java/lang/invoke/VarHandle") ∧ Cond.instantiable q.1.cls q.2 ∈ tables_1 ∧ Cond.privateMethod q.1 ∈ tables_1 ∧ Cond.instanceMethod q.1 ∈ tables_1
theorem lw_p0 : lw_okq (⟨"ZigzagPieces", "readText", "()I"⟩, 7) := ⟨⟨by decide +kernel, by decide +kernel⟩, List.mem_of_getElem? (i := 18) (by decide +kernel), List.mem_of_getElem? (i := 198) (by decide +kernel), List.mem_of_getElem? (i := 199) (by decide +kernel)⟩
theorem lw_p1 : lw_okq (⟨"ZigzagPieces$Text", "letterAt", "(I)I"⟩, 2) := ⟨⟨by decide +kernel, by decide +kernel⟩, List.mem_of_getElem? (i := 26) (by decide +kernel), List.mem_of_getElem? (i := 221) (by decide +kernel), List.mem_of_getElem? (i := 222) (by decide +kernel)⟩
theorem lw_p2 : lw_okq (⟨"ZigzagPieces$Net", "nearOf", "(I)I"⟩, 3) := ⟨⟨by decide +kernel, by decide +kernel⟩, List.mem_of_getElem? (i := 78) (by decide +kernel), List.mem_of_getElem? (i := 273) (by decide +kernel), List.mem_of_getElem? (i := 274) (by decide +kernel)⟩
theorem lw_p3 : lw_okq (⟨"ZigzagPieces", "layTrial", "()V"⟩, 7) := ⟨⟨by decide +kernel, by decide +kernel⟩, List.mem_of_getElem? (i := 18) (by decide +kernel), List.mem_of_getElem? (i := 292) (by decide +kernel), List.mem_of_getElem? (i := 293) (by decide +kernel)⟩
theorem lw_p4 : lw_okq (⟨"ZigzagPieces", "tellAnew", "()V"⟩, 7) := ⟨⟨by decide +kernel, by decide +kernel⟩, List.mem_of_getElem? (i := 18) (by decide +kernel), List.mem_of_getElem? (i := 310) (by decide +kernel), List.mem_of_getElem? (i := 311) (by decide +kernel)⟩
theorem lw_p5 : lw_okq (⟨"ZigzagPieces$Story", "step", "(II)V"⟩, 3) := ⟨⟨by decide +kernel, by decide +kernel⟩, List.mem_of_getElem? (i := 72) (by decide +kernel), List.mem_of_getElem? (i := 330) (by decide +kernel), List.mem_of_getElem? (i := 331) (by decide +kernel)⟩
theorem lw_p6 : lw_okq (⟨"ZigzagPieces$Bars", "compare", "(III)I"⟩, 4) := ⟨⟨by decide +kernel, by decide +kernel⟩, List.mem_of_getElem? (i := 113) (by decide +kernel), List.mem_of_getElem? (i := 377) (by decide +kernel), List.mem_of_getElem? (i := 378) (by decide +kernel)⟩
theorem lw_p7 : lw_okq (⟨"ZigzagPieces$Kinship", "setSince", "(III)V"⟩, 4) := ⟨⟨by decide +kernel, by decide +kernel⟩, List.mem_of_getElem? (i := 94) (by decide +kernel), List.mem_of_getElem? (i := 396) (by decide +kernel), List.mem_of_getElem? (i := 397) (by decide +kernel)⟩
theorem lw_p8 : lw_okq (⟨"ZigzagPieces$Kinship", "lowerRoots", "(II)V"⟩, 4) := ⟨⟨by decide +kernel, by decide +kernel⟩, List.mem_of_getElem? (i := 94) (by decide +kernel), List.mem_of_getElem? (i := 409) (by decide +kernel), List.mem_of_getElem? (i := 410) (by decide +kernel)⟩
theorem lw_p9 : lw_okq (⟨"ZigzagPieces$Kinship", "setSinceOfAll", "(III)V"⟩, 4) := ⟨⟨by decide +kernel, by decide +kernel⟩, List.mem_of_getElem? (i := 94) (by decide +kernel), List.mem_of_getElem? (i := 413) (by decide +kernel), List.mem_of_getElem? (i := 414) (by decide +kernel)⟩
theorem lw_p10 : lw_okq (⟨"ZigzagPieces$Story", "addOpenBars", "()V"⟩, 3) := ⟨⟨by decide +kernel, by decide +kernel⟩, List.mem_of_getElem? (i := 72) (by decide +kernel), List.mem_of_getElem? (i := 421) (by decide +kernel), List.mem_of_getElem? (i := 422) (by decide +kernel)⟩
theorem lw_p11 : lw_okq (⟨"ZigzagPieces$Shelf", "loseOldest", "()V"⟩, 2) := ⟨⟨by decide +kernel, by decide +kernel⟩, List.mem_of_getElem? (i := 53) (by decide +kernel), List.mem_of_getElem? (i := 479) (by decide +kernel), List.mem_of_getElem? (i := 480) (by decide +kernel)⟩
theorem lw_p12 : lw_okq (⟨"ZigzagPieces", "tryExchange", "(I)Z"⟩, 7) := ⟨⟨by decide +kernel, by decide +kernel⟩, List.mem_of_getElem? (i := 18) (by decide +kernel), List.mem_of_getElem? (i := 500) (by decide +kernel), List.mem_of_getElem? (i := 501) (by decide +kernel)⟩
theorem lw_p13 : lw_okq (⟨"ZigzagPieces", "addEdgesGoing", "()V"⟩, 7) := ⟨⟨by decide +kernel, by decide +kernel⟩, List.mem_of_getElem? (i := 18) (by decide +kernel), List.mem_of_getElem? (i := 537) (by decide +kernel), List.mem_of_getElem? (i := 538) (by decide +kernel)⟩
theorem lw_p14 : lw_okq (⟨"ZigzagPieces", "addPointsGoing", "()V"⟩, 7) := ⟨⟨by decide +kernel, by decide +kernel⟩, List.mem_of_getElem? (i := 18) (by decide +kernel), List.mem_of_getElem? (i := 542) (by decide +kernel), List.mem_of_getElem? (i := 543) (by decide +kernel)⟩
theorem lw_p15 : lw_okq (⟨"ZigzagPieces$Bars", "lastOf", "(II)I"⟩, 4) := ⟨⟨by decide +kernel, by decide +kernel⟩, List.mem_of_getElem? (i := 113) (by decide +kernel), List.mem_of_getElem? (i := 624) (by decide +kernel), List.mem_of_getElem? (i := 625) (by decide +kernel)⟩
def lw_privs_1 : List (MethodName × Nat) := [(⟨"ZigzagPieces", "readText", "()I"⟩, 7), (⟨"ZigzagPieces$Text", "letterAt", "(I)I"⟩, 2), (⟨"ZigzagPieces$Net", "nearOf", "(I)I"⟩, 3), (⟨"ZigzagPieces", "layTrial", "()V"⟩, 7), (⟨"ZigzagPieces", "tellAnew", "()V"⟩, 7), (⟨"ZigzagPieces$Story", "step", "(II)V"⟩, 3), (⟨"ZigzagPieces$Bars", "compare", "(III)I"⟩, 4), (⟨"ZigzagPieces$Kinship", "setSince", "(III)V"⟩, 4), (⟨"ZigzagPieces$Kinship", "lowerRoots", "(II)V"⟩, 4), (⟨"ZigzagPieces$Kinship", "setSinceOfAll", "(III)V"⟩, 4), (⟨"ZigzagPieces$Story", "addOpenBars", "()V"⟩, 3), (⟨"ZigzagPieces$Shelf", "loseOldest", "()V"⟩, 2), (⟨"ZigzagPieces", "tryExchange", "(I)Z"⟩, 7), (⟨"ZigzagPieces", "addEdgesGoing", "()V"⟩, 7), (⟨"ZigzagPieces", "addPointsGoing", "()V"⟩, 7), (⟨"ZigzagPieces$Bars", "lastOf", "(II)I"⟩, 4)]
theorem lw_r1 : ∀ q ∈ lw_privs_1, lw_okq q := List.forall_mem_cons.mpr ⟨lw_p0, List.forall_mem_cons.mpr ⟨lw_p1, List.forall_mem_cons.mpr ⟨lw_p2, List.forall_mem_cons.mpr ⟨lw_p3, List.forall_mem_cons.mpr ⟨lw_p4, List.forall_mem_cons.mpr ⟨lw_p5, List.forall_mem_cons.mpr ⟨lw_p6, List.forall_mem_cons.mpr ⟨lw_p7, List.forall_mem_cons.mpr ⟨lw_p8, List.forall_mem_cons.mpr ⟨lw_p9, List.forall_mem_cons.mpr ⟨lw_p10, List.forall_mem_cons.mpr ⟨lw_p11, List.forall_mem_cons.mpr ⟨lw_p12, List.forall_mem_cons.mpr ⟨lw_p13, List.forall_mem_cons.mpr ⟨lw_p14, List.forall_mem_cons.mpr ⟨lw_p15, fun _ h => absurd h List.not_mem_nil⟩⟩⟩⟩⟩⟩⟩⟩⟩⟩⟩⟩⟩⟩⟩⟩
theorem lw_p16 : lw_okq (⟨"ZigzagPiecesModel", "reads", "()I"⟩, 22) := ⟨⟨by decide +kernel, by decide +kernel⟩, List.mem_of_getElem? (i := 670) (by decide +kernel), List.mem_of_getElem? (i := 758) (by decide +kernel), List.mem_of_getElem? (i := 759) (by decide +kernel)⟩
theorem lw_p17 : lw_okq (⟨"ZigzagPiecesModel", "begins", "()V"⟩, 22) := ⟨⟨by decide +kernel, by decide +kernel⟩, List.mem_of_getElem? (i := 670) (by decide +kernel), List.mem_of_getElem? (i := 762) (by decide +kernel), List.mem_of_getElem? (i := 763) (by decide +kernel)⟩
theorem lw_p18 : lw_okq (⟨"ZigzagPiecesModel", "item", "()I"⟩, 22) := ⟨⟨by decide +kernel, by decide +kernel⟩, List.mem_of_getElem? (i := 670) (by decide +kernel), List.mem_of_getElem? (i := 766) (by decide +kernel), List.mem_of_getElem? (i := 767) (by decide +kernel)⟩
theorem lw_p19 : lw_okq (⟨"ZigzagPiecesModel", "figureAt", "(I)I"⟩, 22) := ⟨⟨by decide +kernel, by decide +kernel⟩, List.mem_of_getElem? (i := 670) (by decide +kernel), List.mem_of_getElem? (i := 770) (by decide +kernel), List.mem_of_getElem? (i := 771) (by decide +kernel)⟩
theorem lw_p20 : lw_okq (⟨"ZigzagPiecesModel", "may", "(I)Z"⟩, 22) := ⟨⟨by decide +kernel, by decide +kernel⟩, List.mem_of_getElem? (i := 670) (by decide +kernel), List.mem_of_getElem? (i := 777) (by decide +kernel), List.mem_of_getElem? (i := 778) (by decide +kernel)⟩
theorem lw_p21 : lw_okq (⟨"ZigzagPiecesModel", "does", "(II)V"⟩, 22) := ⟨⟨by decide +kernel, by decide +kernel⟩, List.mem_of_getElem? (i := 670) (by decide +kernel), List.mem_of_getElem? (i := 793) (by decide +kernel), List.mem_of_getElem? (i := 794) (by decide +kernel)⟩
theorem lw_p22 : lw_okq (⟨"ZigzagPiecesModel", "comes", "(II)V"⟩, 22) := ⟨⟨by decide +kernel, by decide +kernel⟩, List.mem_of_getElem? (i := 670) (by decide +kernel), List.mem_of_getElem? (i := 797) (by decide +kernel), List.mem_of_getElem? (i := 798) (by decide +kernel)⟩
theorem lw_p23 : lw_okq (⟨"ZigzagPiecesModel", "freePiece", "()I"⟩, 22) := ⟨⟨by decide +kernel, by decide +kernel⟩, List.mem_of_getElem? (i := 670) (by decide +kernel), List.mem_of_getElem? (i := 801) (by decide +kernel), List.mem_of_getElem? (i := 802) (by decide +kernel)⟩
theorem lw_p24 : lw_okq (⟨"ZigzagPiecesModel", "makesKin", "(III)V"⟩, 22) := ⟨⟨by decide +kernel, by decide +kernel⟩, List.mem_of_getElem? (i := 670) (by decide +kernel), List.mem_of_getElem? (i := 805) (by decide +kernel), List.mem_of_getElem? (i := 806) (by decide +kernel)⟩
theorem lw_p25 : lw_okq (⟨"ZigzagPiecesModel", "goes", "(II)V"⟩, 22) := ⟨⟨by decide +kernel, by decide +kernel⟩, List.mem_of_getElem? (i := 670) (by decide +kernel), List.mem_of_getElem? (i := 809) (by decide +kernel), List.mem_of_getElem? (i := 810) (by decide +kernel)⟩
theorem lw_p26 : lw_okq (⟨"ZigzagPiecesModel", "kinOf", "(II)I"⟩, 22) := ⟨⟨by decide +kernel, by decide +kernel⟩, List.mem_of_getElem? (i := 670) (by decide +kernel), List.mem_of_getElem? (i := 813) (by decide +kernel), List.mem_of_getElem? (i := 814) (by decide +kernel)⟩
theorem lw_p27 : lw_okq (⟨"ZigzagPiecesModel", "ends", "(II)V"⟩, 22) := ⟨⟨by decide +kernel, by decide +kernel⟩, List.mem_of_getElem? (i := 670) (by decide +kernel), List.mem_of_getElem? (i := 817) (by decide +kernel), List.mem_of_getElem? (i := 818) (by decide +kernel)⟩
theorem lw_p28 : lw_okq (⟨"ZigzagPiecesModel", "joins", "(III)V"⟩, 22) := ⟨⟨by decide +kernel, by decide +kernel⟩, List.mem_of_getElem? (i := 670) (by decide +kernel), List.mem_of_getElem? (i := 821) (by decide +kernel), List.mem_of_getElem? (i := 822) (by decide +kernel)⟩
theorem lw_p29 : lw_okq (⟨"ZigzagPiecesModel", "bindsNear", "(III)V"⟩, 22) := ⟨⟨by decide +kernel, by decide +kernel⟩, List.mem_of_getElem? (i := 670) (by decide +kernel), List.mem_of_getElem? (i := 825) (by decide +kernel), List.mem_of_getElem? (i := 826) (by decide +kernel)⟩
theorem lw_p30 : lw_okq (⟨"ZigzagPiecesModel", "parts", "(III)V"⟩, 22) := ⟨⟨by decide +kernel, by decide +kernel⟩, List.mem_of_getElem? (i := 670) (by decide +kernel), List.mem_of_getElem? (i := 829) (by decide +kernel), List.mem_of_getElem? (i := 830) (by decide +kernel)⟩
theorem lw_p31 : lw_okq (⟨"ZigzagPiecesModel", "reach", "(I)I"⟩, 22) := ⟨⟨by decide +kernel, by decide +kernel⟩, List.mem_of_getElem? (i := 670) (by decide +kernel), List.mem_of_getElem? (i := 833) (by decide +kernel), List.mem_of_getElem? (i := 834) (by decide +kernel)⟩
def lw_privs_2 : List (MethodName × Nat) := [(⟨"ZigzagPiecesModel", "reads", "()I"⟩, 22), (⟨"ZigzagPiecesModel", "begins", "()V"⟩, 22), (⟨"ZigzagPiecesModel", "item", "()I"⟩, 22), (⟨"ZigzagPiecesModel", "figureAt", "(I)I"⟩, 22), (⟨"ZigzagPiecesModel", "may", "(I)Z"⟩, 22), (⟨"ZigzagPiecesModel", "does", "(II)V"⟩, 22), (⟨"ZigzagPiecesModel", "comes", "(II)V"⟩, 22), (⟨"ZigzagPiecesModel", "freePiece", "()I"⟩, 22), (⟨"ZigzagPiecesModel", "makesKin", "(III)V"⟩, 22), (⟨"ZigzagPiecesModel", "goes", "(II)V"⟩, 22), (⟨"ZigzagPiecesModel", "kinOf", "(II)I"⟩, 22), (⟨"ZigzagPiecesModel", "ends", "(II)V"⟩, 22), (⟨"ZigzagPiecesModel", "joins", "(III)V"⟩, 22), (⟨"ZigzagPiecesModel", "bindsNear", "(III)V"⟩, 22), (⟨"ZigzagPiecesModel", "parts", "(III)V"⟩, 22), (⟨"ZigzagPiecesModel", "reach", "(I)I"⟩, 22)]
theorem lw_r2 : ∀ q ∈ lw_privs_2, lw_okq q := List.forall_mem_cons.mpr ⟨lw_p16, List.forall_mem_cons.mpr ⟨lw_p17, List.forall_mem_cons.mpr ⟨lw_p18, List.forall_mem_cons.mpr ⟨lw_p19, List.forall_mem_cons.mpr ⟨lw_p20, List.forall_mem_cons.mpr ⟨lw_p21, List.forall_mem_cons.mpr ⟨lw_p22, List.forall_mem_cons.mpr ⟨lw_p23, List.forall_mem_cons.mpr ⟨lw_p24, List.forall_mem_cons.mpr ⟨lw_p25, List.forall_mem_cons.mpr ⟨lw_p26, List.forall_mem_cons.mpr ⟨lw_p27, List.forall_mem_cons.mpr ⟨lw_p28, List.forall_mem_cons.mpr ⟨lw_p29, List.forall_mem_cons.mpr ⟨lw_p30, List.forall_mem_cons.mpr ⟨lw_p31, fun _ h => absurd h List.not_mem_nil⟩⟩⟩⟩⟩⟩⟩⟩⟩⟩⟩⟩⟩⟩⟩⟩
theorem lw_p32 : lw_okq (⟨"ZigzagPiecesModel", "runs", "(I)Z"⟩, 22) := ⟨⟨by decide +kernel, by decide +kernel⟩, List.mem_of_getElem? (i := 670) (by decide +kernel), List.mem_of_getElem? (i := 845) (by decide +kernel), List.mem_of_getElem? (i := 846) (by decide +kernel)⟩
theorem lw_p33 : lw_okq (⟨"ZigzagPiecesModel", "notes", "()V"⟩, 22) := ⟨⟨by decide +kernel, by decide +kernel⟩, List.mem_of_getElem? (i := 670) (by decide +kernel), List.mem_of_getElem? (i := 849) (by decide +kernel), List.mem_of_getElem? (i := 850) (by decide +kernel)⟩
theorem lw_p34 : lw_okq (⟨"ZigzagPiecesModel", "runsAll", "()Z"⟩, 22) := ⟨⟨by decide +kernel, by decide +kernel⟩, List.mem_of_getElem? (i := 670) (by decide +kernel), List.mem_of_getElem? (i := 861) (by decide +kernel), List.mem_of_getElem? (i := 862) (by decide +kernel)⟩
theorem lw_p35 : lw_okq (⟨"ZigzagPiecesModel", "lowestOf", "(I)I"⟩, 22) := ⟨⟨by decide +kernel, by decide +kernel⟩, List.mem_of_getElem? (i := 670) (by decide +kernel), List.mem_of_getElem? (i := 865) (by decide +kernel), List.mem_of_getElem? (i := 866) (by decide +kernel)⟩
theorem lw_p36 : lw_okq (⟨"ZigzagPiecesModel", "sets", "()V"⟩, 22) := ⟨⟨by decide +kernel, by decide +kernel⟩, List.mem_of_getElem? (i := 670) (by decide +kernel), List.mem_of_getElem? (i := 869) (by decide +kernel), List.mem_of_getElem? (i := 870) (by decide +kernel)⟩
theorem lw_p37 : lw_okq (⟨"ZigzagPiecesModel", "swaps", "(I)V"⟩, 22) := ⟨⟨by decide +kernel, by decide +kernel⟩, List.mem_of_getElem? (i := 670) (by decide +kernel), List.mem_of_getElem? (i := 873) (by decide +kernel), List.mem_of_getElem? (i := 874) (by decide +kernel)⟩
theorem lw_p38 : lw_okq (⟨"ZigzagPiecesModel", "others", "()I"⟩, 22) := ⟨⟨by decide +kernel, by decide +kernel⟩, List.mem_of_getElem? (i := 670) (by decide +kernel), List.mem_of_getElem? (i := 877) (by decide +kernel), List.mem_of_getElem? (i := 878) (by decide +kernel)⟩
theorem lw_p39 : lw_okq (⟨"ZigzagPiecesModel", "edges", "()I"⟩, 22) := ⟨⟨by decide +kernel, by decide +kernel⟩, List.mem_of_getElem? (i := 670) (by decide +kernel), List.mem_of_getElem? (i := 889) (by decide +kernel), List.mem_of_getElem? (i := 890) (by decide +kernel)⟩
theorem lw_p40 : lw_okq (⟨"ZigzagPiecesModel", "letterOf", "(II)I"⟩, 22) := ⟨⟨by decide +kernel, by decide +kernel⟩, List.mem_of_getElem? (i := 670) (by decide +kernel), List.mem_of_getElem? (i := 904) (by decide +kernel), List.mem_of_getElem? (i := 905) (by decide +kernel)⟩
theorem lw_p41 : lw_okq (⟨"ZigzagPiecesModel", "open", "()I"⟩, 22) := ⟨⟨by decide +kernel, by decide +kernel⟩, List.mem_of_getElem? (i := 670) (by decide +kernel), List.mem_of_getElem? (i := 932) (by decide +kernel), List.mem_of_getElem? (i := 933) (by decide +kernel)⟩
theorem lw_p42 : lw_okq (⟨"ZigzagPiecesModel", "lengthOf", "(I)I"⟩, 22) := ⟨⟨by decide +kernel, by decide +kernel⟩, List.mem_of_getElem? (i := 670) (by decide +kernel), List.mem_of_getElem? (i := 936) (by decide +kernel), List.mem_of_getElem? (i := 937) (by decide +kernel)⟩
theorem lw_p43 : lw_okq (⟨"ZigzagPiecesModel", "longest", "()I"⟩, 22) := ⟨⟨by decide +kernel, by decide +kernel⟩, List.mem_of_getElem? (i := 670) (by decide +kernel), List.mem_of_getElem? (i := 952) (by decide +kernel), List.mem_of_getElem? (i := 953) (by decide +kernel)⟩
theorem lw_p44 : lw_okq (⟨"ZigzagPiecesModel", "turnsOver", "()V"⟩, 22) := ⟨⟨by decide +kernel, by decide +kernel⟩, List.mem_of_getElem? (i := 670) (by decide +kernel), List.mem_of_getElem? (i := 964) (by decide +kernel), List.mem_of_getElem? (i := 965) (by decide +kernel)⟩
def lw_privs_3 : List (MethodName × Nat) := [(⟨"ZigzagPiecesModel", "runs", "(I)Z"⟩, 22), (⟨"ZigzagPiecesModel", "notes", "()V"⟩, 22), (⟨"ZigzagPiecesModel", "runsAll", "()Z"⟩, 22), (⟨"ZigzagPiecesModel", "lowestOf", "(I)I"⟩, 22), (⟨"ZigzagPiecesModel", "sets", "()V"⟩, 22), (⟨"ZigzagPiecesModel", "swaps", "(I)V"⟩, 22), (⟨"ZigzagPiecesModel", "others", "()I"⟩, 22), (⟨"ZigzagPiecesModel", "edges", "()I"⟩, 22), (⟨"ZigzagPiecesModel", "letterOf", "(II)I"⟩, 22), (⟨"ZigzagPiecesModel", "open", "()I"⟩, 22), (⟨"ZigzagPiecesModel", "lengthOf", "(I)I"⟩, 22), (⟨"ZigzagPiecesModel", "longest", "()I"⟩, 22), (⟨"ZigzagPiecesModel", "turnsOver", "()V"⟩, 22)]
theorem lw_r3 : ∀ q ∈ lw_privs_3, lw_okq q := List.forall_mem_cons.mpr ⟨lw_p32, List.forall_mem_cons.mpr ⟨lw_p33, List.forall_mem_cons.mpr ⟨lw_p34, List.forall_mem_cons.mpr ⟨lw_p35, List.forall_mem_cons.mpr ⟨lw_p36, List.forall_mem_cons.mpr ⟨lw_p37, List.forall_mem_cons.mpr ⟨lw_p38, List.forall_mem_cons.mpr ⟨lw_p39, List.forall_mem_cons.mpr ⟨lw_p40, List.forall_mem_cons.mpr ⟨lw_p41, List.forall_mem_cons.mpr ⟨lw_p42, List.forall_mem_cons.mpr ⟨lw_p43, List.forall_mem_cons.mpr ⟨lw_p44, fun _ h => absurd h List.not_mem_nil⟩⟩⟩⟩⟩⟩⟩⟩⟩⟩⟩⟩⟩
def lw_privs : List (MethodName × Nat) := lw_privs_1 ++ (lw_privs_2 ++ (lw_privs_3))
def lw_tbl : List Cond := k2_sels lw_privs ++ tables_1
theorem lw_privs_ok : ∀ q ∈ lw_privs, lw_okq q := by
  show ∀ q ∈ lw_privs_1 ++ (lw_privs_2 ++ (lw_privs_3)), lw_okq q
  exact List.forall_mem_append.mpr ⟨lw_r1, List.forall_mem_append.mpr ⟨lw_r2, lw_r3⟩⟩
-- ===== end of PART A; then your names; then what follows =====
/-- the words that stay true at every call -/
def Tb : List Cond := lw_tbl.filter goodWord
theorem Tb_good : ∀ w ∈ Tb, (w.onTables && w.keeps) = true ∨ ∃ ty, w = .arrayClass ty := fun w h => good_of_word (List.mem_filter.mp h).2
theorem Tb_at {w : Cond} (i : Nat) (h : lw_tbl[i]? = some w) (hg : goodWord w = true) : w ∈ Tb := List.mem_filter.mpr ⟨List.mem_of_getElem? h, hg⟩
end
section
/-! An abstract machine over heaps whose references are places in a list. An entry of a method's table: the instruction, the next place, three numbers (target, class, callee ..) -/
abbrev mE : Type := Instr × Nat × Nat × Nat × Nat
abbrev mH : Type := List va_E
def mfetch : List (Nat × mE) → Nat → Option mE
  | [], _ => none
  | q :: t, pc => match Nat.beq q.1 pc with
    | true => some q.2
    | false => mfetch t pc
theorem mfetch_mem {C : List (Nat × mE)} {pc : Nat} {e : mE} (h : mfetch C pc = some e) : (pc, e) ∈ C := by
  induction C with
  | nil => cases h
  | cons q t ih =>
    unfold mfetch at h
    split at h
    next hq =>
      have e1 : q.1 = pc := Nat.eq_of_beq_eq_true hq
      have e2 : q.2 = e := Option.some.inj h
      rw [← e1, ← e2]
      exact List.mem_cons_self
    next => exact List.mem_cons_of_mem _ (ih h)
def m_p1 (st : List Value) (f : Int32 → List Value → Prop) : Prop := match st with
  | .int a :: r => f a r
  | _ => False
def m_p2 (st : List Value) (f : Int32 → Int32 → List Value → Prop) : Prop := match st with
  | .int b :: .int a :: r => f a b r
  | _ => False
def m_pR (st : List Value) (f : Nat → List Value → Prop) : Prop := match st with
  | .ref a :: r => f a r
  | _ => False
/-- a reference or null -/
def m_pA (st : List Value) (f : Value → List Value → Prop) : Prop := match st with
  | .ref a :: r => f (.ref a) r
  | .null :: r => f .null r
  | _ => False
def m_pV (st : List Value) (f : Value → List Value → Prop) : Prop := match st with
  | v :: r => v.category = 1 ∧ f v r
  | _ => False
def m_pVV (st : List Value) (f : Value → Value → List Value → Prop) : Prop := match st with
  | v :: w :: r => v.category = 1 ∧ w.category = 1 ∧ f v w r
  | _ => False
def m_lI (lv : List Value) (j : Nat) (f : Int32 → Prop) : Prop := match lv[j]? with
  | some (.int a) => f a
  | _ => False
def m_lA (lv : List Value) (j : Nat) (f : Value → Prop) : Prop := match lv[j]? with
  | some (.ref a) => f (.ref a)
  | some .null => f .null
  | _ => False
def m_gO (h : mH) (a : Nat) (f : Nat → List Value → Prop) : Prop := match h[a]? with
  | some (.inr o) => f o.1 o.2
  | _ => False
def m_gA (h : mH) (a t : Nat) (f : Nat → (Nat → Int32) → Prop) : Prop := match h[a]? with
  | some (.inl (u, n, .inl g)) => u = t ∧ f n g
  | _ => False
def m_gQ (h : mH) (a : Nat) (f : Nat → (Nat → Option Nat) → Prop) : Prop := match h[a]? with
  | some (.inl (u, n, .inr (.inr (.inr (.inr g))))) => u = 2 ∧ f n g
  | _ => False
/-- how long an array is (its kind is 0, 1 or 2) -/
def m_gL (h : mH) (a : Nat) (f : Nat → Prop) : Prop := match h[a]? with
  | some (.inl (u, n, _)) => u < 3 ∧ f n
  | _ => False
def m_sw (pc : Nat) (d lo hi : Int) (offs : Array Int) (a : Int32) : Nat := if a.toInt < lo ∨ hi < a.toInt then ((pc : Int) + d).toNat else ((pc : Int) + (offs[(a.toInt - lo).toNat]?).getD 0).toNat
def m_lk (pc : Nat) (d : Int) (ps : Array (Int × Int)) (a : Int32) : Nat := ((pc : Int) + Op.lookupswitch.offset ps.toList d a.toInt).toNat
def m_rt (rt : Option FieldType) (a : Int32) : Prop := match rt with
  | some .int => True
  | some .boolean => a = 0 ∨ a = 1
  | _ => False
def m_ra (rt : Option FieldType) : Prop := match rt with
  | some (.object _) => True
  | _ => False
abbrev mK : Type := Nat → List Value → List Value → mH → Prop
abbrev mC : Type := Nat → List Value → mH → (Option Value → mH → Prop) → Prop
def m_call (k : mK) (cal : mC) (nx x y : Nat) (lv st : List Value) (h : mH) : Prop :=
  y ≤ st.length ∧ ((st.drop y).map fun v => v.category).sum ≤ 8 ∧ ∃ P : Option Value → mH → Prop, cal x (st.take y).reverse h P ∧ ∀ r h', P r h' → k nx lv (r.toList ++ st.drop y) h'
def m_br (c : Prop) (a b : Prop) : Prop := (c → a) ∧ (¬ c → b)
def stp (k : mK) (cal : mC) (rt : Option FieldType) (Q : Option Value → mH → Prop) (pc : Nat) (e : mE) (lv st : List Value) (h : mH) : Prop :=
  match e.1 with
  | .aconst_null => k e.2.1 lv (.null :: st) h
  | .iconst n => k e.2.1 lv (.int (Int32.ofInt n) :: st) h
  | .bipush n => k e.2.1 lv (.int (Int8.ofInt n).toInt32 :: st) h
  | .sipush n => k e.2.1 lv (.int (Int16.ofInt n).toInt32 :: st) h
  | .ldc _ => k e.2.1 lv (.int (nI e.2.2.1) :: st) h
  | .iload j => m_lI lv j fun a => k e.2.1 lv (.int a :: st) h
  | .iload_n j => m_lI lv j.val fun a => k e.2.1 lv (.int a :: st) h
  | .aload j => m_lA lv j fun v => k e.2.1 lv (v :: st) h
  | .aload_n j => m_lA lv j.val fun v => k e.2.1 lv (v :: st) h
  | .istore j => m_p1 st fun a r => j < lv.length ∧ k e.2.1 (lv.set j (.int a)) r h
  | .istore_n j => m_p1 st fun a r => j.val < lv.length ∧ k e.2.1 (lv.set j.val (.int a)) r h
  | .astore j => m_pA st fun v r => j < lv.length ∧ k e.2.1 (lv.set j v) r h
  | .astore_n j => m_pA st fun v r => j.val < lv.length ∧ k e.2.1 (lv.set j.val v) r h
  | .iinc j n => m_lI lv j fun a => k e.2.1 (lv.set j (.int (a + Int32.ofInt n))) st h
  | .iadd => m_p2 st fun a b r => k e.2.1 lv (.int (a + b) :: r) h
  | .isub => m_p2 st fun a b r => k e.2.1 lv (.int (a - b) :: r) h
  | .imul => m_p2 st fun a b r => k e.2.1 lv (.int (a * b) :: r) h
  | .iand => m_p2 st fun a b r => k e.2.1 lv (.int (a &&& b) :: r) h
  | .ior => m_p2 st fun a b r => k e.2.1 lv (.int (a ||| b) :: r) h
  | .ixor => m_p2 st fun a b r => k e.2.1 lv (.int (a ^^^ b) :: r) h
  | .idiv => m_p2 st fun a b r => ¬ b = 0 ∧ k e.2.1 lv (.int (a / b) :: r) h
  | .irem => m_p2 st fun a b r => ¬ b = 0 ∧ k e.2.1 lv (.int (a - a / b * b) :: r) h
  | .ishl => m_p2 st fun a b r => k e.2.1 lv (.int (a <<< (b &&& 31)) :: r) h
  | .ishr => m_p2 st fun a b r => k e.2.1 lv (.int (a >>> (b &&& 31)) :: r) h
  | .iushr => m_p2 st fun a b r => k e.2.1 lv (.int (a.toUInt32 >>> (b.toUInt32 &&& Int32.toUInt32 31)).toInt32 :: r) h
  | .i2b => m_p1 st fun a r => k e.2.1 lv (.int a.toInt8.toInt32 :: r) h
  | .dup => m_pV st fun v r => k e.2.1 lv (v :: v :: r) h
  | .dup2 => m_pVV st fun v w r => k e.2.1 lv (v :: w :: v :: w :: r) h
  | .pop => m_pV st fun _ r => k e.2.1 lv r h
  | .getfield _ => m_pR st fun a r => m_gO h a fun ci fs => ci = e.2.2.1 ∧ ∃ v, fs[e.2.2.2.1]? = some v ∧ k e.2.1 lv (v :: r) h
  | .putfield _ => m_p1 st fun v r => m_pR r fun a r => m_gO h a fun ci fs => ci = e.2.2.1 ∧ e.2.2.2.1 < fs.length ∧ k e.2.1 lv r (h.set a (.inr (ci, fs.set e.2.2.2.1 (.int v))))
  | .iaload => m_p1 st fun i r => m_pR r fun a r => m_gA h a 0 fun n f => vp_in i n ∧ k e.2.1 lv (.int (f i.toNatClampNeg) :: r) h
  | .baload => m_p1 st fun i r => m_pR r fun a r => m_gA h a 1 fun n f => vp_in i n ∧ k e.2.1 lv (.int (f i.toNatClampNeg) :: r) h
  | .iastore => m_p1 st fun v r => m_p1 r fun i r => m_pR r fun a r => m_gA h a 0 fun n f => vp_in i n ∧ k e.2.1 lv r (h.set a (.inl (0, n, .inl (upd f i.toNatClampNeg v))))
  | .bastore => m_p1 st fun v r => m_p1 r fun i r => m_pR r fun a r => m_gA h a 1 fun n f => vp_in i n ∧ k e.2.1 lv r (h.set a (.inl (1, n, .inl (upd f i.toNatClampNeg (vp_nar .byte v)))))
  | .aaload => m_p1 st fun i r => m_pR r fun a r => m_gQ h a fun n g => vp_in i n ∧ k e.2.1 lv (va_rf (g i.toNatClampNeg) :: r) h
  | .aastore => m_pR st fun v r => m_p1 r fun i r => m_pR r fun a r => m_gQ h a fun n g => m_gO h v fun ci _ => ci = 3 ∧ vp_in i n ∧ k e.2.1 lv r (h.set a (.inl (2, n, .inr (.inr (.inr (.inr (va_up g i.toNatClampNeg (some v))))))))
  | .arraylength => m_pR st fun a r => m_gL h a fun n => k e.2.1 lv (.int (nI n) :: r) h
  | .goto _ => k e.2.2.1 lv st h
  | .ifCond .eq _ => m_p1 st fun a r => (a = 0 → k e.2.2.1 lv r h) ∧ (¬ a = 0 → k e.2.1 lv r h)
  | .ifCond .ne _ => m_p1 st fun a r => (¬ a = 0 → k e.2.2.1 lv r h) ∧ (a = 0 → k e.2.1 lv r h)
  | .ifCond .lt _ => m_p1 st fun a r => (a < 0 → k e.2.2.1 lv r h) ∧ (¬ a < 0 → k e.2.1 lv r h)
  | .ifCond .ge _ => m_p1 st fun a r => (0 ≤ a → k e.2.2.1 lv r h) ∧ (¬ 0 ≤ a → k e.2.1 lv r h)
  | .ifCond .gt _ => m_p1 st fun a r => (0 < a → k e.2.2.1 lv r h) ∧ (¬ 0 < a → k e.2.1 lv r h)
  | .ifCond .le _ => m_p1 st fun a r => (a ≤ 0 → k e.2.2.1 lv r h) ∧ (¬ a ≤ 0 → k e.2.1 lv r h)
  | .if_icmp .eq _ => m_p2 st fun a b r => (a = b → k e.2.2.1 lv r h) ∧ (¬ a = b → k e.2.1 lv r h)
  | .if_icmp .ne _ => m_p2 st fun a b r => (¬ a = b → k e.2.2.1 lv r h) ∧ (a = b → k e.2.1 lv r h)
  | .if_icmp .lt _ => m_p2 st fun a b r => (a < b → k e.2.2.1 lv r h) ∧ (¬ a < b → k e.2.1 lv r h)
  | .if_icmp .ge _ => m_p2 st fun a b r => (b ≤ a → k e.2.2.1 lv r h) ∧ (¬ b ≤ a → k e.2.1 lv r h)
  | .if_icmp .gt _ => m_p2 st fun a b r => (b < a → k e.2.2.1 lv r h) ∧ (¬ b < a → k e.2.1 lv r h)
  | .if_icmp .le _ => m_p2 st fun a b r => (a ≤ b → k e.2.2.1 lv r h) ∧ (¬ a ≤ b → k e.2.1 lv r h)
  | .ifnull _ => m_pA st fun v r => (v = .null → k e.2.2.1 lv r h) ∧ (¬ v = .null → k e.2.1 lv r h)
  | .ifnonnull _ => m_pA st fun v r => (¬ v = .null → k e.2.2.1 lv r h) ∧ (v = .null → k e.2.1 lv r h)
  | .tableswitch d lo hi offs => m_p1 st fun a r => k (m_sw pc d lo hi offs a) lv r h
  | .lookupswitch d ps => m_p1 st fun a r => k (m_lk pc d ps a) lv r h
  | .ireturn => m_p1 st fun a r => r = [] ∧ m_rt rt a ∧ Q (some (.int a)) h
  | .areturn => m_pA st fun v r => r = [] ∧ m_ra rt ∧ Q (some v) h
  | .return_ => st = [] ∧ rt = none ∧ Q none h
  | .invokestatic _ => m_call k cal e.2.1 e.2.2.1 e.2.2.2.1 lv st h
  | .invokevirtual _ => (∃ (b : Nat) (As : List Value), (st.take e.2.2.2.1).reverse = .ref b :: As ∧ m_gO h b fun ci _ => ci = e.2.2.2.2) ∧ m_call k cal e.2.1 e.2.2.1 e.2.2.2.1 lv st h
  | _ => False
theorem m_p1_mono {st : List Value} {f g : Int32 → List Value → Prop} (h : ∀ a r, f a r → g a r) : m_p1 st f → m_p1 st g := by
  unfold m_p1; split
  · exact h _ _
  · exact id
theorem m_p2_mono {st : List Value} {f g : Int32 → Int32 → List Value → Prop} (h : ∀ a b r, f a b r → g a b r) : m_p2 st f → m_p2 st g := by
  unfold m_p2; split
  · exact h _ _ _
  · exact id
theorem m_pR_mono {st : List Value} {f g : Nat → List Value → Prop} (h : ∀ a r, f a r → g a r) : m_pR st f → m_pR st g := by
  unfold m_pR; split
  · exact h _ _
  · exact id
theorem m_pA_mono {st : List Value} {f g : Value → List Value → Prop} (h : ∀ a r, f a r → g a r) : m_pA st f → m_pA st g := by
  unfold m_pA; split
  · exact h _ _
  · exact h _ _
  · exact id
theorem m_pV_mono {st : List Value} {f g : Value → List Value → Prop} (h : ∀ a r, f a r → g a r) : m_pV st f → m_pV st g := by
  unfold m_pV; split
  · exact And.imp_right (h _ _)
  · exact id
theorem m_pVV_mono {st : List Value} {f g : Value → Value → List Value → Prop} (h : ∀ a b r, f a b r → g a b r) : m_pVV st f → m_pVV st g := by
  unfold m_pVV; split
  · exact And.imp_right (And.imp_right (h _ _ _))
  · exact id
theorem m_lI_mono {lv : List Value} {j : Nat} {f g : Int32 → Prop} (h : ∀ a, f a → g a) : m_lI lv j f → m_lI lv j g := by
  unfold m_lI; split
  · exact h _
  · exact id
theorem m_lA_mono {lv : List Value} {j : Nat} {f g : Value → Prop} (h : ∀ a, f a → g a) : m_lA lv j f → m_lA lv j g := by
  unfold m_lA; split
  · exact h _
  · exact h _
  · exact id
theorem m_gO_mono {hp : mH} {a : Nat} {f g : Nat → List Value → Prop} (h : ∀ c fs, f c fs → g c fs) : m_gO hp a f → m_gO hp a g := by
  unfold m_gO; split
  · exact h _ _
  · exact id
theorem m_gA_mono {hp : mH} {a t : Nat} {f g : Nat → (Nat → Int32) → Prop} (h : ∀ c fs, f c fs → g c fs) : m_gA hp a t f → m_gA hp a t g := by
  unfold m_gA; split
  · exact And.imp_right (h _ _)
  · exact id
theorem m_gQ_mono {hp : mH} {a : Nat} {f g : Nat → (Nat → Option Nat) → Prop} (h : ∀ c fs, f c fs → g c fs) : m_gQ hp a f → m_gQ hp a g := by
  unfold m_gQ; split
  · exact And.imp_right (h _ _)
  · exact id
theorem m_gL_mono {hp : mH} {a : Nat} {f g : Nat → Prop} (h : ∀ c, f c → g c) : m_gL hp a f → m_gL hp a g := by
  unfold m_gL; split
  · exact And.imp_right (h _)
  · exact id
theorem m_call_mono {k k' : mK} {cal : mC} {nx x y : Nat} {lv st : List Value} {h : mH} (hk : ∀ pc lv st h, k pc lv st h → k' pc lv st h) : m_call k cal nx x y lv st h → m_call k' cal nx x y lv st h :=
  fun ⟨h1, h2, P, h3, h4⟩ => ⟨h1, h2, P, h3, fun r h' q => hk _ _ _ _ (h4 r h' q)⟩
set_option maxHeartbeats 1000000 in
theorem stp_mono {k k' : mK} {cal : mC} {rt : Option FieldType} {Q : Option Value → mH → Prop} {pc : Nat} {e : mE} {lv st : List Value} {h : mH} (hk : ∀ pc lv st h, k pc lv st h → k' pc lv st h) : stp k cal rt Q pc e lv st h → stp k' cal rt Q pc e lv st h := by
  obtain ⟨i, nx, x, y, z⟩ := e
  cases i with
  | aconst_null => exact hk _ _ _ _
  | iconst n => exact hk _ _ _ _
  | bipush n => exact hk _ _ _ _
  | sipush n => exact hk _ _ _ _
  | ldc n => exact hk _ _ _ _
  | iload j => exact m_lI_mono fun _ => hk _ _ _ _
  | iload_n j => exact m_lI_mono fun _ => hk _ _ _ _
  | aload j => exact m_lA_mono (f := fun v => k nx lv (v :: st) h) (g := fun v => k' nx lv (v :: st) h) fun _ => hk _ _ _ _
  | aload_n j => exact m_lA_mono (f := fun v => k nx lv (v :: st) h) (g := fun v => k' nx lv (v :: st) h) fun _ => hk _ _ _ _
  | istore j => exact m_p1_mono fun _ _ => And.imp_right (hk _ _ _ _)
  | istore_n j => exact m_p1_mono fun _ _ => And.imp_right (hk _ _ _ _)
  | astore j => exact m_pA_mono (f := fun v r => j < lv.length ∧ k nx (lv.set j v) r h) (g := fun v r => j < lv.length ∧ k' nx (lv.set j v) r h) fun _ _ => And.imp_right (hk _ _ _ _)
  | astore_n j => exact m_pA_mono (f := fun v r => j.val < lv.length ∧ k nx (lv.set j.val v) r h) (g := fun v r => j.val < lv.length ∧ k' nx (lv.set j.val v) r h) fun _ _ => And.imp_right (hk _ _ _ _)
  | iinc j n => exact m_lI_mono fun _ => hk _ _ _ _
  | iadd => exact m_p2_mono fun _ _ _ => hk _ _ _ _
  | isub => exact m_p2_mono fun _ _ _ => hk _ _ _ _
  | imul => exact m_p2_mono fun _ _ _ => hk _ _ _ _
  | iand => exact m_p2_mono fun _ _ _ => hk _ _ _ _
  | ior => exact m_p2_mono fun _ _ _ => hk _ _ _ _
  | ixor => exact m_p2_mono fun _ _ _ => hk _ _ _ _
  | idiv => exact m_p2_mono fun _ _ _ => And.imp_right (hk _ _ _ _)
  | irem => exact m_p2_mono fun _ _ _ => And.imp_right (hk _ _ _ _)
  | ishl => exact m_p2_mono fun _ _ _ => hk _ _ _ _
  | ishr => exact m_p2_mono fun _ _ _ => hk _ _ _ _
  | iushr => exact m_p2_mono fun _ _ _ => hk _ _ _ _
  | i2b => exact m_p1_mono fun _ _ => hk _ _ _ _
  | dup => exact m_pV_mono fun _ _ => hk _ _ _ _
  | dup2 => exact m_pVV_mono fun _ _ _ => hk _ _ _ _
  | pop => exact m_pV_mono fun _ _ => hk _ _ _ _
  | getfield n => exact m_pR_mono fun _ _ => m_gO_mono fun _ _ => And.imp_right (fun ⟨v, h1, h2⟩ => ⟨v, h1, hk _ _ _ _ h2⟩)
  | putfield n => exact m_p1_mono fun _ _ => m_pR_mono fun _ _ => m_gO_mono fun _ _ => And.imp_right (And.imp_right (hk _ _ _ _))
  | iaload => exact m_p1_mono fun _ _ => m_pR_mono fun _ _ => m_gA_mono fun _ _ => And.imp_right (hk _ _ _ _)
  | baload => exact m_p1_mono fun _ _ => m_pR_mono fun _ _ => m_gA_mono fun _ _ => And.imp_right (hk _ _ _ _)
  | iastore => exact m_p1_mono fun _ _ => m_p1_mono fun _ _ => m_pR_mono fun _ _ => m_gA_mono fun _ _ => And.imp_right (hk _ _ _ _)
  | bastore => exact m_p1_mono fun _ _ => m_p1_mono fun _ _ => m_pR_mono fun _ _ => m_gA_mono fun _ _ => And.imp_right (hk _ _ _ _)
  | aaload => exact m_p1_mono fun _ _ => m_pR_mono fun _ _ => m_gQ_mono fun _ _ => And.imp_right (hk _ _ _ _)
  | aastore => exact m_pR_mono fun _ _ => m_p1_mono fun _ _ => m_pR_mono fun _ _ => m_gQ_mono fun _ _ => m_gO_mono fun _ _ => And.imp_right (And.imp_right (hk _ _ _ _))
  | arraylength => exact m_pR_mono fun _ _ => m_gL_mono fun _ => hk _ _ _ _
  | goto n => exact hk _ _ _ _
  | ifCond c n => cases c <;> exact m_p1_mono fun _ _ => And.imp (fun h q => hk _ _ _ _ (h q)) (fun h q => hk _ _ _ _ (h q))
  | if_icmp c n => cases c <;> exact m_p2_mono fun _ _ _ => And.imp (fun h q => hk _ _ _ _ (h q)) (fun h q => hk _ _ _ _ (h q))
  | ifnull n => exact m_pA_mono (f := fun v r => (v = .null → k x lv r h) ∧ (¬ v = .null → k nx lv r h)) (g := fun v r => (v = .null → k' x lv r h) ∧ (¬ v = .null → k' nx lv r h)) fun _ _ => And.imp (fun h q => hk _ _ _ _ (h q)) (fun h q => hk _ _ _ _ (h q))
  | ifnonnull n => exact m_pA_mono (f := fun v r => (¬ v = .null → k x lv r h) ∧ (v = .null → k nx lv r h)) (g := fun v r => (¬ v = .null → k' x lv r h) ∧ (v = .null → k' nx lv r h)) fun _ _ => And.imp (fun h q => hk _ _ _ _ (h q)) (fun h q => hk _ _ _ _ (h q))
  | tableswitch d lo hi offs => exact m_p1_mono fun _ _ => hk _ _ _ _
  | lookupswitch d ps => exact m_p1_mono fun _ _ => hk _ _ _ _
  | invokestatic n => exact m_call_mono hk
  | invokevirtual n => exact And.imp_right (m_call_mono hk)
  | _ => exact id
/-- what a method's code does from a place on: the least predicate that is closed under its instructions -/
def WP (cal : mC) (C : List (Nat × mE)) (rt : Option FieldType) (Q : Option Value → mH → Prop) (pc : Nat) (lv st : List Value) (h : mH) : Prop :=
  ∀ X : mK, (∀ pc lv st h e, mfetch C pc = some e → stp X cal rt Q pc e lv st h → X pc lv st h) → X pc lv st h
theorem WP.in {cal : mC} {C : List (Nat × mE)} {rt : Option FieldType} {Q : Option Value → mH → Prop} {pc : Nat} {lv st : List Value} {h : mH} {e : mE} (hf : mfetch C pc = some e) (hs : stp (WP cal C rt Q) cal rt Q pc e lv st h) : WP cal C rt Q pc lv st h :=
  fun X hX => hX pc lv st h e hf (stp_mono (fun _ _ _ _ w => w X hX) hs)
/-- a method: its name, code, locals, what it gives, its table -/
abbrev mM : Type := MethodName × ByteArray × Nat × Option FieldType × List (Nat × mE)
def m_c1 (a : List Value) : Bool := a.all fun v => Nat.beq v.category 1
def Rn (P : List mM) : Nat → mC
  | 0, _, _, _, _ => False
  | d + 1, M, a, h, Q => match P[M]? with
    | some (_, _, mL, rt, C) => m_c1 a = true ∧ Nat.ble a.length mL = true ∧ WP (Rn P d) C rt Q 0 (a ++ List.replicate (mL - a.length) (.long 0)) [] h
    | none => False
theorem Rn.in {P : List mM} {d M : Nat} {a : List Value} {h : mH} {Q : Option Value → mH → Prop} {y : MethodName} {b : ByteArray} {mL : Nat} {rt : Option FieldType} {C : List (Nat × mE)} (hM : P[M]? = some (y, b, mL, rt, C)) (h1 : m_c1 a = true) (h2 : Nat.ble a.length mL = true) (hw : WP (Rn P d) C rt Q 0 (a ++ List.replicate (mL - a.length) (.long 0)) [] h) : Rn P (d + 1) M a h Q := by
  unfold Rn
  rw [hM]
  exact ⟨h1, h2, hw⟩
end
section
/-! the classes whose objects the worlds hold (printed by wip/whole/gen.py) -/
def RX0 : String := "ZigzagPieces$Bars"
def TX0 : u_T := fun k => match k with
  | 0 => ("ZigzagPieces$Bars", "begins", "[I", true)
  | 1 => ("ZigzagPieces$Bars", "ends", "[I", true)
  | 2 => ("ZigzagPieces$Bars", "size", "I", false)
  | _ => ("ZigzagPieces$Bars", "open", "I", false)
def tyX0 : Nat → FieldType := fun k => match k with
  | 0 => .array .int
  | 1 => .array .int
  | 2 => .int
  | _ => .int
theorem nmX0 : ∀ a, a < 4 → ∀ b, b < 4 → a ≠ b → (TX0 a).2.1 ≠ (TX0 b).2.1 := by decide +kernel
theorem tyX0_ok : ∀ k, k < 4 → parseFieldDescriptor (TX0 k).2.2.1 = some (tyX0 k) := by decide +kernel
def RX1 : String := "ZigzagPieces$Kinship"
def TX1 : u_T := fun k => match k with
  | 0 => ("ZigzagPieces$Kinship", "roots", "[I", true)
  | 1 => ("ZigzagPieces$Kinship", "since", "[I", true)
  | 2 => ("ZigzagPieces$Kinship", "withFirst", "[I", true)
  | _ => ("ZigzagPieces$Kinship", "withSecond", "[I", true)
def tyX1 : Nat → FieldType := fun k => match k with
  | 0 => .array .int
  | 1 => .array .int
  | 2 => .array .int
  | _ => .array .int
theorem nmX1 : ∀ a, a < 4 → ∀ b, b < 4 → a ≠ b → (TX1 a).2.1 ≠ (TX1 b).2.1 := by decide +kernel
theorem tyX1_ok : ∀ k, k < 4 → parseFieldDescriptor (TX1 k).2.2.1 = some (tyX1 k) := by decide +kernel
def RX2 : String := "ZigzagPieces$Net"
def TX2 : u_T := fun k => match k with
  | 0 => ("ZigzagPieces$Net", "near", "[I", true)
  | 1 => ("ZigzagPieces$Net", "points", "I", false)
  | _ => ("ZigzagPieces$Net", "edges", "I", false)
def tyX2 : Nat → FieldType := fun k => match k with
  | 0 => .array .int
  | 1 => .int
  | _ => .int
theorem nmX2 : ∀ a, a < 3 → ∀ b, b < 3 → a ≠ b → (TX2 a).2.1 ≠ (TX2 b).2.1 := by decide +kernel
theorem tyX2_ok : ∀ k, k < 3 → parseFieldDescriptor (TX2 k).2.2.1 = some (tyX2 k) := by decide +kernel
def RX3 : String := "ZigzagPieces$Row"
def TX3 : u_T := fun k => match k with
  | 0 => ("ZigzagPieces$Row", "acts", "[I", true)
  | _ => ("ZigzagPieces$Row", "size", "I", false)
def tyX3 : Nat → FieldType := fun k => match k with
  | 0 => .array .int
  | _ => .int
theorem nmX3 : ∀ a, a < 2 → ∀ b, b < 2 → a ≠ b → (TX3 a).2.1 ≠ (TX3 b).2.1 := by decide +kernel
theorem tyX3_ok : ∀ k, k < 2 → parseFieldDescriptor (TX3 k).2.2.1 = some (tyX3 k) := by decide +kernel
def RX4 : String := "ZigzagPieces$Shelf"
def TX4 : u_T := fun k => match k with
  | 0 => ("ZigzagPieces$Shelf", "rows", "[LZigzagPieces$Row;", true)
  | _ => ("ZigzagPieces$Shelf", "size", "I", false)
def tyX4 : Nat → FieldType := fun k => match k with
  | 0 => .array (.object "ZigzagPieces$Row")
  | _ => .int
theorem nmX4 : ∀ a, a < 2 → ∀ b, b < 2 → a ≠ b → (TX4 a).2.1 ≠ (TX4 b).2.1 := by decide +kernel
theorem tyX4_ok : ∀ k, k < 2 → parseFieldDescriptor (TX4 k).2.2.1 = some (tyX4 k) := by decide +kernel
def RX5 : String := "ZigzagPieces$Story"
def TX5 : u_T := fun k => match k with
  | 0 => ("ZigzagPieces$Story", "net", "LZigzagPieces$Net;", true)
  | 1 => ("ZigzagPieces$Story", "kinship", "LZigzagPieces$Kinship;", true)
  | _ => ("ZigzagPieces$Story", "bars", "LZigzagPieces$Bars;", true)
def tyX5 : Nat → FieldType := fun k => match k with
  | 0 => .object "ZigzagPieces$Net"
  | 1 => .object "ZigzagPieces$Kinship"
  | _ => .object "ZigzagPieces$Bars"
theorem nmX5 : ∀ a, a < 3 → ∀ b, b < 3 → a ≠ b → (TX5 a).2.1 ≠ (TX5 b).2.1 := by decide +kernel
theorem tyX5_ok : ∀ k, k < 3 → parseFieldDescriptor (TX5 k).2.2.1 = some (tyX5 k) := by decide +kernel
def RX6 : String := "ZigzagPieces$Text"
def TX6 : u_T := fun k => match k with
  | 0 => ("ZigzagPieces$Text", "letters", "[I", true)
  | _ => ("ZigzagPieces$Text", "length", "I", false)
def tyX6 : Nat → FieldType := fun k => match k with
  | 0 => .array .int
  | _ => .int
theorem nmX6 : ∀ a, a < 2 → ∀ b, b < 2 → a ≠ b → (TX6 a).2.1 ≠ (TX6 b).2.1 := by decide +kernel
theorem tyX6_ok : ∀ k, k < 2 → parseFieldDescriptor (TX6 k).2.2.1 = some (tyX6 k) := by decide +kernel
def RX7 : String := "ZigzagPieces"
def TX7 : u_T := fun k => match k with
  | 0 => ("ZigzagPieces", "text", "LZigzagPieces$Text;", true)
  | 1 => ("ZigzagPieces", "row", "LZigzagPieces$Row;", true)
  | 2 => ("ZigzagPieces", "trial", "LZigzagPieces$Row;", true)
  | 3 => ("ZigzagPieces", "undoable", "LZigzagPieces$Shelf;", true)
  | 4 => ("ZigzagPieces", "kept", "LZigzagPieces$Shelf;", true)
  | 5 => ("ZigzagPieces", "now", "LZigzagPieces$Story;", true)
  | _ => ("ZigzagPieces", "aside", "LZigzagPieces$Story;", true)
def tyX7 : Nat → FieldType := fun k => match k with
  | 0 => .object "ZigzagPieces$Text"
  | 1 => .object "ZigzagPieces$Row"
  | 2 => .object "ZigzagPieces$Row"
  | 3 => .object "ZigzagPieces$Shelf"
  | 4 => .object "ZigzagPieces$Shelf"
  | 5 => .object "ZigzagPieces$Story"
  | _ => .object "ZigzagPieces$Story"
theorem nmX7 : ∀ a, a < 7 → ∀ b, b < 7 → a ≠ b → (TX7 a).2.1 ≠ (TX7 b).2.1 := by decide +kernel
theorem tyX7_ok : ∀ k, k < 7 → parseFieldDescriptor (TX7 k).2.2.1 = some (tyX7 k) := by decide +kernel
def RX8 : String := "ZigzagPiecesModel"
def TX8 : u_T := fun k => match k with
  | 0 => ("ZigzagPiecesModel", "thrown", "I", false)
  | 1 => ("ZigzagPiecesModel", "text", "[B", true)
  | 2 => ("ZigzagPiecesModel", "letters", "I", false)
  | 3 => ("ZigzagPiecesModel", "s", "[I", true)
  | 4 => ("ZigzagPiecesModel", "past", "[I", true)
  | 5 => ("ZigzagPiecesModel", "undos", "I", false)
  | 6 => ("ZigzagPiecesModel", "kept", "[I", true)
  | 7 => ("ZigzagPiecesModel", "keeps", "I", false)
  | 8 => ("ZigzagPiecesModel", "there", "I", false)
  | 9 => ("ZigzagPiecesModel", "beside", "[I", true)
  | 10 => ("ZigzagPiecesModel", "pieceOf", "[I", true)
  | 11 => ("ZigzagPiecesModel", "pieces", "I", false)
  | 12 => ("ZigzagPiecesModel", "root", "[I", true)
  | 13 => ("ZigzagPiecesModel", "kin", "[I", true)
  | 14 => ("ZigzagPiecesModel", "begin", "[I", true)
  | 15 => ("ZigzagPiecesModel", "end", "[I", true)
  | 16 => ("ZigzagPiecesModel", "bars", "I", false)
  | 17 => ("ZigzagPiecesModel", "told", "[I", true)
  | 18 => ("ZigzagPiecesModel", "at", "I", false)
  | 19 => ("ZigzagPiecesModel", "wasBegin", "[I", true)
  | 20 => ("ZigzagPiecesModel", "wasEnd", "[I", true)
  | _ => ("ZigzagPiecesModel", "wasBars", "I", false)
def tyX8 : Nat → FieldType := fun k => match k with
  | 0 => .int
  | 1 => .array .byte
  | 2 => .int
  | 3 => .array .int
  | 4 => .array .int
  | 5 => .int
  | 6 => .array .int
  | 7 => .int
  | 8 => .int
  | 9 => .array .int
  | 10 => .array .int
  | 11 => .int
  | 12 => .array .int
  | 13 => .array .int
  | 14 => .array .int
  | 15 => .array .int
  | 16 => .int
  | 17 => .array .int
  | 18 => .int
  | 19 => .array .int
  | 20 => .array .int
  | _ => .int
theorem nmX8 : ∀ a, a < 22 → ∀ b, b < 22 → a ≠ b → (TX8 a).2.1 ≠ (TX8 b).2.1 := by decide +kernel
theorem tyX8_ok : ∀ k, k < 22 → parseFieldDescriptor (TX8 k).2.2.1 = some (tyX8 k) := by decide +kernel
theorem Tb_all (ws : List Cond) (ix : List Nat) (h : ws.map some = ix.map (fun i => lw_tbl[i]?)) (hg : ws.all goodWord = true) : ∀ w ∈ ws, w ∈ Tb := by
  intro w hw
  have h1 : some w ∈ ws.map some := List.mem_map.mpr ⟨w, hw, rfl⟩
  rw [h] at h1
  obtain ⟨i, -, hi⟩ := List.mem_map.mp h1
  exact Tb_at i hi (List.all_eq_true.mp hg w hw)
set_option maxRecDepth 20000 in
theorem inX0 : ∀ w ∈ u_ws RX0 TX0 4, w ∈ Tb := Tb_all _ [167, 169, 171, 173] rfl rfl
set_option maxRecDepth 20000 in
theorem inX1 : ∀ w ∈ u_ws RX1 TX1 4, w ∈ Tb := Tb_all _ [148, 150, 152, 154] rfl rfl
set_option maxRecDepth 20000 in
theorem inX2 : ∀ w ∈ u_ws RX2 TX2 3, w ∈ Tb := Tb_all _ [131, 133, 135] rfl rfl
set_option maxRecDepth 20000 in
theorem inX3 : ∀ w ∈ u_ws RX3 TX3 2, w ∈ Tb := Tb_all _ [92, 94] rfl rfl
set_option maxRecDepth 20000 in
theorem inX4 : ∀ w ∈ u_ws RX4 TX4 2, w ∈ Tb := Tb_all _ [111, 113] rfl rfl
set_option maxRecDepth 20000 in
theorem inX5 : ∀ w ∈ u_ws RX5 TX5 3, w ∈ Tb := Tb_all _ [182, 184, 186] rfl rfl
set_option maxRecDepth 20000 in
theorem inX6 : ∀ w ∈ u_ws RX6 TX6 2, w ∈ Tb := Tb_all _ [78, 80] rfl rfl
set_option maxRecDepth 20000 in
theorem inX7 : ∀ w ∈ u_ws RX7 TX7 7, w ∈ Tb := Tb_all _ [480, 482, 484, 486, 488, 490, 492] rfl rfl
set_option maxRecDepth 20000 in
theorem inX8 : ∀ w ∈ u_ws RX8 TX8 22, w ∈ Tb := Tb_all _ [742, 744, 746, 748, 750, 752, 754, 756, 758, 760, 762, 764, 766, 768, 770, 772, 774, 776, 778, 780, 782, 784] rfl rfl
abbrev mcl : List vw_C := [(RX0, TX0, 4), (RX1, TX1, 4), (RX2, TX2, 3), (RX3, TX3, 2), (RX4, TX4, 2), (RX5, TX5, 3), (RX6, TX6, 2), (RX7, TX7, 7), (RX8, TX8, 22)]
/-- a class of the worlds: its words stand in the tables, its fields have types and names of their own -/
def clOK (q : vw_C) : Prop := (∀ w ∈ u_ws q.1 q.2.1 q.2.2, w ∈ Tb) ∧ ∃ ty : Nat → FieldType, (∀ k, k < q.2.2 → parseFieldDescriptor (q.2.1 k).2.2.1 = some (ty k)) ∧ ∀ a, a < q.2.2 → ∀ b, b < q.2.2 → a ≠ b → (q.2.1 a).2.1 ≠ (q.2.1 b).2.1
theorem mcl_ok : ∀ q ∈ mcl, clOK q := List.forall_mem_cons.mpr ⟨⟨inX0, tyX0, tyX0_ok, nmX0⟩, List.forall_mem_cons.mpr ⟨⟨inX1, tyX1, tyX1_ok, nmX1⟩, List.forall_mem_cons.mpr ⟨⟨inX2, tyX2, tyX2_ok, nmX2⟩, List.forall_mem_cons.mpr ⟨⟨inX3, tyX3, tyX3_ok, nmX3⟩, List.forall_mem_cons.mpr ⟨⟨inX4, tyX4, tyX4_ok, nmX4⟩, List.forall_mem_cons.mpr ⟨⟨inX5, tyX5, tyX5_ok, nmX5⟩, List.forall_mem_cons.mpr ⟨⟨inX6, tyX6, tyX6_ok, nmX6⟩, List.forall_mem_cons.mpr ⟨⟨inX7, tyX7, tyX7_ok, nmX7⟩, List.forall_mem_cons.mpr ⟨⟨inX8, tyX8, tyX8_ok, nmX8⟩, fun _ h => absurd h List.not_mem_nil⟩⟩⟩⟩⟩⟩⟩⟩⟩
end
section
/-! The abstract machine is right of the machine: a run of it is a contract. -/
def cz (ad : Nat → Nat) (v : Value) : Value := match v with
  | .ref k => .ref (ad k)
  | v => v
def cE (cy ad : Nat → Nat) (e : va_E) : va_E := match e with
  | .inl (t, n, .inr (.inr (.inr (.inr g)))) => .inl (cy t, n, .inr (.inr (.inr (.inr fun i => (g i).map ad))))
  | .inl (t, x) => .inl (cy t, x)
  | .inr (c, fs) => .inr (c, fs.map (cz ad))
def cW (cy ad : Nat → Nat) (h : mH) : va_W := h.mapIdx fun k e => (ad k, cE cy ad e)
def mty (cy : Nat → Nat) : List (ClassId × FieldType) := [(cy 0, .int), (cy 1, .byte), (cy 2, .object RX3)]
theorem cz_cat (ad : Nat → Nat) (v : Value) : (cz ad v).category = v.category := by cases v <;> rfl
theorem cW_at {cy ad : Nat → Nat} {h : mH} {k : Nat} {e : va_E} (hk : h[k]? = some e) : (cW cy ad h)[k]? = some (ad k, cE cy ad e) := by
  simp [cW, List.getElem?_mapIdx, hk]
theorem cW_set (cy ad : Nat → Nat) (h : mH) (k : Nat) (e : va_E) : (cW cy ad h).set k (ad k, cE cy ad e) = cW cy ad (h.set k e) := by
  apply List.ext_getElem?
  intro i
  simp only [cW, List.getElem?_mapIdx, List.getElem?_set, List.length_mapIdx]
  by_cases hki : k = i
  · subst hki
    by_cases hl : k < h.length <;> simp [hl]
  · simp [hki]
theorem cW_setO (cy ad : Nat → Nat) (h : mH) (a ci y : Nat) (fs : List Value) (v : Int32) : (cW cy ad h).set a (ad a, .inr (ci, (fs.map (cz ad)).set y (.int v))) = cW cy ad (h.set a (.inr (ci, fs.set y (.int v)))) := by
  rw [← cW_set]
  show _ = (cW cy ad h).set a (ad a, .inr (ci, (fs.set y (.int v)).map (cz ad)))
  rw [List.map_set]
  rfl
theorem cW_setQ (cy ad : Nat → Nat) (h : mH) (a t n i v : Nat) (g : Nat → Option Nat) : (cW cy ad h).set a (ad a, .inl (cy t, n, .inr (.inr (.inr (.inr (va_up (fun j => (g j).map ad) i (some (ad v)))))))) = cW cy ad (h.set a (.inl (t, n, .inr (.inr (.inr (.inr (va_up g i (some v)))))))) := by
  rw [← cW_set]
  have e : (va_up (fun j => (g j).map ad) i (some (ad v))) = fun j => (va_up g i (some v) j).map ad := by
    funext j
    unfold va_up
    by_cases hj : j = i <;> simp [hj]
  rw [e]
  rfl
theorem va_rf_map (ad : Nat → Nat) (r : Option Nat) : va_rf (r.map ad) = cz ad (va_rf r) := by cases r <;> rfl
/-- locals -/
def LV (ad : Nat → Nat) (ls : Array Slot) (nL : Nat) (lv : List Value) : Prop := ls.size = nL ∧ lv_wf ls ∧ lv.length = nL ∧ ∀ (i : Nat) (v : Value), lv[i]? = some v → v.category = 1 → ls[i]? = some (.val (cz ad v))
def prs (ad : Nat → Nat) (lv : List Value) : List (Nat × Value) := lv.zipIdx.filterMap fun q => if q.1.category = 1 then some (q.2, cz ad q.1) else none
theorem prs_mem {ad : Nat → Nat} {lv : List Value} {i : Nat} {v : Value} (h : lv[i]? = some v) (hv : v.category = 1) : (i, cz ad v) ∈ prs ad lv := by
  refine List.mem_filterMap.mpr ⟨(v, i), List.mem_zipIdx_iff_getElem?.mpr h, ?_⟩
  simp [hv]
theorem prs_mem' {ad : Nat → Nat} {lv : List Value} {q : Nat × Value} (h : q ∈ prs ad lv) : ∃ v, lv[q.1]? = some v ∧ v.category = 1 ∧ q.2 = cz ad v := by
  obtain ⟨⟨v, i⟩, h1, h2⟩ := List.mem_filterMap.mp h
  have h3 := List.mem_zipIdx_iff_getElem?.mp h1
  dsimp only at h2 h3
  split at h2
  next hc =>
    cases h2
    exact ⟨v, h3, hc, rfl⟩
  next => cases h2
theorem LV.has {ad : Nat → Nat} {ls : Array Slot} {nL : Nat} {lv : List Value} (h : LV ad ls nL lv) : lv_has ls nL (prs ad lv) := ⟨h.1, h.2.1, fun q hq => by
  obtain ⟨v, h1, h2, h3⟩ := prs_mem' hq
  rw [h3]
  exact h.2.2.2 _ _ h1 h2⟩
theorem LV.put {ad : Nat → Nat} {ls ls' : Array Slot} {nL i : Nat} {lv : List Value} {v w : Value} (h : LV ad ls nL lv) (hv : v.category = 1) (hw : w = cz ad v) (h' : lv_has ls' nL ((i, w) :: (prs ad lv).filter (fun q => !(q.1 == i) && !(q.1 + 1 == i && q.2.category == 2)))) : LV ad ls' nL (lv.set i v) := by
  subst hw
  refine ⟨h'.1, h'.2.1, by rw [List.length_set]; exact h.2.2.1, fun j u hj hu => ?_⟩
  rw [List.getElem?_set] at hj
  by_cases hij : i = j
  · subst hij
    simp only [if_true] at hj
    split at hj
    next =>
      cases hj
      exact h'.2.2 (i, cz ad v) List.mem_cons_self
    next => cases hj
  · rw [if_neg hij] at hj
    refine h'.2.2 (j, cz ad u) (List.mem_cons_of_mem _ (List.mem_filter.mpr ⟨prs_mem hj hu, ?_⟩))
    have e1 : (j == i) = false := by simp; exact fun q => hij q.symm
    have e2 : ((cz ad u).category == 2) = false := by rw [cz_cat, hu]; rfl
    simp [e1, e2]
theorem lv_args_mem : ∀ (vs : List Value) (k i : Nat) (v : Value), m_c1 vs = true → vs[i]? = some v → (k + i, v) ∈ lv_args k vs
  | [], _, i, v, _, h => by simp at h
  | w :: vs, k, 0, v, _, h => by
    simp only [List.getElem?_cons_zero, Option.some.injEq] at h
    subst h
    exact List.mem_cons_self
  | w :: vs, k, i + 1, v, hc, h => by
    simp only [List.getElem?_cons_succ] at h
    have hc' : Nat.beq w.category 1 = true ∧ m_c1 vs = true := by simpa [m_c1] using hc
    have hw : w.category = 1 := Nat.eq_of_beq_eq_true hc'.1
    have ih := lv_args_mem vs (k + 1) i v hc'.2 h
    show _ ∈ (k, w) :: lv_args (if w.category = 2 then k + 2 else k + 1) vs
    rw [if_neg (by rw [hw]; decide)]
    refine List.mem_cons_of_mem _ ?_
    have e : k + (i + 1) = k + 1 + i := by omega
    rw [e]
    exact ih
theorem m_c1_map (ad : Nat → Nat) (a : List Value) : m_c1 (a.map (cz ad)) = m_c1 a := by
  simp [m_c1, List.all_map, Function.comp_def, cz_cat]
theorem lg_sl_len : ∀ (vs : List Value), m_c1 vs = true → (lg_sl vs).length = vs.length
  | [], _ => rfl
  | w :: vs, hc => by
    have hc' : Nat.beq w.category 1 = true ∧ m_c1 vs = true := by simpa [m_c1] using hc
    have hw : w.category = 1 := Nat.eq_of_beq_eq_true hc'.1
    have ih := lg_sl_len vs hc'.2
    unfold lg_sl at ih ⊢
    simp [hw, ih]
theorem LV.entry {ad : Nat → Nat} {a : List Value} {n : Nat} (hc : m_c1 a = true) (hn : a.length ≤ n) : LV ad ((lg_sl (a.map (cz ad)) ++ List.replicate (n - (lg_sl (a.map (cz ad))).length) Slot.unset).toArray) n (a ++ List.replicate (n - a.length) (.long 0)) := by
  have hc2 : m_c1 (a.map (cz ad)) = true := by rw [m_c1_map]; exact hc
  have h := lv_entry (a.map (cz ad)) (n := n) (by rw [lg_sl_len _ hc2, List.length_map]; exact hn)
  refine ⟨h.1, h.2.1, by simp; omega, fun i v hi hv => ?_⟩
  rw [List.getElem?_append] at hi
  split at hi
  next hl =>
    have h1 : (a.map (cz ad))[i]? = some (cz ad v) := by rw [List.getElem?_map, hi]; rfl
    have h2 := lv_args_mem (a.map (cz ad)) 0 i _ hc2 h1
    rw [Nat.zero_add] at h2
    exact h.2.2 _ h2
  next =>
    have h1 := List.mem_of_getElem? hi
    rw [List.mem_replicate] at h1
    rw [h1.2] at hv
    cases hv
theorem m_p1_inv {st : List Value} {f : Int32 → List Value → Prop} (h : m_p1 st f) : ∃ a r, st = .int a :: r ∧ f a r := by
  unfold m_p1 at h; split at h
  · exact ⟨_, _, rfl, h⟩
  · exact h.elim
theorem m_p2_inv {st : List Value} {f : Int32 → Int32 → List Value → Prop} (h : m_p2 st f) : ∃ a b r, st = .int b :: .int a :: r ∧ f a b r := by
  unfold m_p2 at h; split at h
  · exact ⟨_, _, _, rfl, h⟩
  · exact h.elim
theorem m_pR_inv {st : List Value} {f : Nat → List Value → Prop} (h : m_pR st f) : ∃ a r, st = .ref a :: r ∧ f a r := by
  unfold m_pR at h; split at h
  · exact ⟨_, _, rfl, h⟩
  · exact h.elim
theorem m_pA_inv {st : List Value} {f : Value → List Value → Prop} (h : m_pA st f) : ∃ v r, st = v :: r ∧ (v = .null ∨ ∃ a, v = .ref a) ∧ f v r := by
  unfold m_pA at h; split at h
  · exact ⟨_, _, rfl, Or.inr ⟨_, rfl⟩, h⟩
  · exact ⟨_, _, rfl, Or.inl rfl, h⟩
  · exact h.elim
theorem m_pV_inv {st : List Value} {f : Value → List Value → Prop} (h : m_pV st f) : ∃ v r, st = v :: r ∧ v.category = 1 ∧ f v r := by
  unfold m_pV at h; split at h
  · exact ⟨_, _, rfl, h.1, h.2⟩
  · exact h.elim
theorem m_pVV_inv {st : List Value} {f : Value → Value → List Value → Prop} (h : m_pVV st f) : ∃ v w r, st = v :: w :: r ∧ v.category = 1 ∧ w.category = 1 ∧ f v w r := by
  unfold m_pVV at h; split at h
  · exact ⟨_, _, _, rfl, h.1, h.2.1, h.2.2⟩
  · exact h.elim
theorem m_lI_inv {lv : List Value} {j : Nat} {f : Int32 → Prop} (h : m_lI lv j f) : ∃ a, lv[j]? = some (.int a) ∧ f a := by
  unfold m_lI at h; split at h
  next hq => exact ⟨_, hq, h⟩
  next => exact h.elim
theorem m_lA_inv {lv : List Value} {j : Nat} {f : Value → Prop} (h : m_lA lv j f) : ∃ v, lv[j]? = some v ∧ (v = .null ∨ ∃ a, v = .ref a) ∧ f v := by
  unfold m_lA at h; split at h
  next hq => exact ⟨_, hq, Or.inr ⟨_, rfl⟩, h⟩
  next hq => exact ⟨_, hq, Or.inl rfl, h⟩
  next => exact h.elim
theorem m_gO_inv {h : mH} {a : Nat} {f : Nat → List Value → Prop} (hh : m_gO h a f) : ∃ ci fs, h[a]? = some (.inr (ci, fs)) ∧ f ci fs := by
  unfold m_gO at hh; split at hh
  next o hq => exact ⟨o.1, o.2, hq, hh⟩
  next => exact hh.elim
theorem m_gA_inv {h : mH} {a t : Nat} {f : Nat → (Nat → Int32) → Prop} (hh : m_gA h a t f) : ∃ n g, h[a]? = some (.inl (t, n, .inl g)) ∧ f n g := by
  unfold m_gA at hh; split at hh
  next hq => exact ⟨_, _, by rw [hq, hh.1], hh.2⟩
  next => exact hh.elim
theorem m_gQ_inv {h : mH} {a : Nat} {f : Nat → (Nat → Option Nat) → Prop} (hh : m_gQ h a f) : ∃ n g, h[a]? = some (.inl (2, n, .inr (.inr (.inr (.inr g))))) ∧ f n g := by
  unfold m_gQ at hh; split at hh
  next hq => exact ⟨_, _, by rw [hq, hh.1], hh.2⟩
  next => exact hh.elim
theorem m_gL_inv {h : mH} {a : Nat} {f : Nat → Prop} (hh : m_gL h a f) : ∃ t n x, h[a]? = some (.inl (t, n, x)) ∧ t < 3 ∧ f n := by
  unfold m_gL at hh; split at hh
  next hq => exact ⟨_, _, _, hq, hh.1, hh.2⟩
  next => exact hh.elim
/-- contracts -/
def mRm (d : Nat) : Room := { frames := d, cells := 0, slots := 0, locals := d * 30 }
def mPc (D : va_G) (cy ad : Nat → Nat) (a : List Value) (h : mH) (sz : Nat) : Array Value → State → Prop := va_Pc (a.map (cz ad)) (fun U => U.heap.size = sz ∧ va_P D mcl (cW cy ad h) U.heap ∧ va_K D mcl (mty cy) U ∧ va_D (fun _ => True) (cW cy ad h))
def mQc (D : va_G) (cy ad : Nat → Nat) (h : mH) (sz : Nat) (Q : Option Value → mH → Prop) : Array Value → State → Outcome → State → Prop := fun _ st oc t =>
  (∃ (r : Option Value) (h' : mH), oc = .returned (r.map (cz ad)) ∧ Q r h' ∧ va_P D mcl (cW cy ad h') t.heap ∧ va_K D mcl (mty cy) t ∧ va_D (va_A (cW cy ad h) sz) (cW cy ad h')) ∧ va_F (va_A (cW cy ad h) sz) st t
def mMet (l : Launch) (P : List mM) (d : Nat) (D : va_G) (cy ad : Nat → Nat) (M : Nat) (a : List Value) (h : mH) (Q : Option Value → mH → Prop) : Prop :=
  ∀ (sz : Nat) (y : MethodName) (b : ByteArray) (mL : Nat) (rt : Option FieldType) (C : List (Nat × mE)), P[M]? = some (y, b, mL, rt, C) → Met l y (.code y b mL rt :: Tb) (mRm d) (mPc D cy ad a h sz) (mQc D cy ad h sz Q) 0 0 (va_A (cW cy ad h) sz)
theorem mPc_blind {D : va_G} {cy ad : Nat → Nat} {a : List Value} {h : mH} {sz : Nat} : FrameBlind (mPc D cy ad a h sz) := fun _ U _ _ q => by
  obtain ⟨q0, q1, qP, qK, qD⟩ := q
  exact ⟨q0, q1, qP, va_K.moved (u := U) (Vm.Alike.refl U.vm) qK, qD⟩
section MC
variable {p : Program} {l : Launch} {e : Env} {R : Room} {s : State} {m : MethodId} {args : Array Value} {below : List Frame} {meth : Method} {c : Code} {H : Heap} {locs : List Loc} {cells slots : Nat} {Q : State → Prop}
variable {pc : Nat} {ls : Array Slot} {rest st0 : List Value} {a : Array Value} {A0 A1 : Nat → Prop} {H0 : Heap} {mc ms : Nat} {free : Addr → Prop}
theorem va_callg {D : va_G} {cy ad : Nat → Nat} {h : mH} {sz : Nat} {P : Option Value → mH → Prop} (hr : va_Run p l e R s m args below meth c H locs cells slots mc ms (F0 m pc ls st0) rest (mQc D cy ad h sz P a) free) (hS : va_S A0 H0 H locs) (hA : ∀ q, q < H.size → va_A (cW cy ad h) sz q → A0 q) (hf : ∀ q, free q → A0 q)
    (kk : ∀ (r : Option Value) (h' : mH) (H1 : Heap) (locs1 : List Loc), P r h' → va_P D mcl (cW cy ad h') H1 → va_D (va_A (cW cy ad h) sz) (cW cy ad h') → va_S A0 H0 H1 locs1 → W p l e R s m args below meth c H1 locs1 (cells + mc) (slots + ms) Q (F0 m (pc + 3) ls ((r.map (cz ad)).toList ++ rest))) : W p l e R s m args below meth c H locs cells slots Q (F0 m pc ls st0) := by
  intro T hT X
  obtain ⟨v, st₀, t, T', L, h0, X', hL, e1, e2, ⟨⟨r, u, hv, hp, hb, hK, hD⟩, hz, hk⟩, st⟩ := hr T hT X
  cases hv
  rw [h0] at hz hk
  obtain ⟨t2, a1, b1⟩ := kk r u T'.heap (locs ++ L) hp (by rw [e1]; exact hb) hD
    ⟨Nat.le_trans hS.1 (by rw [e1]; exact hz), fun q h1 h2 => by rw [e1, hk q (Nat.lt_of_lt_of_le h1 hS.1) (fun z => h2 (hA q (Nat.lt_of_lt_of_le h1 hS.1) z))]; exact hS.2.1 q h1 h2, fun q hq => by
      rcases List.mem_append.mp hq with h | h
      · exact hS.2.2 q h
      · exact hf _ (hL q h)⟩ T' rfl X'
  exact ⟨t2, st t2 a1, b1⟩
end MC
end
section
/-! Each instruction of the abstract machine, over the kit's rows. -/
def ilOK (i : Instr) (len : Nat) : Prop := match i with
  | .tableswitch _ _ _ _ => True
  | .lookupswitch _ _ => True
  | .bipush _ => len = 2
  | .ldc _ => len = 2
  | .iload _ => len = 2
  | .aload _ => len = 2
  | .istore _ => len = 2
  | .astore _ => len = 2
  | .sipush _ => len = 3
  | .iinc _ _ => len = 3
  | .getfield _ => len = 3
  | .putfield _ => len = 3
  | .goto _ => len = 3
  | .ifCond _ _ => len = 3
  | .if_icmp _ _ => len = 3
  | .ifnull _ => len = 3
  | .ifnonnull _ => len = 3
  | .invokestatic _ => len = 3
  | .invokevirtual _ => len = 3
  | _ => len = 1
def FOK (own : String) (idx x y : Nat) : Prop := ∃ (C : String) (T : u_T) (N : Nat), mcl[x]? = some (C, T, N) ∧ y < N ∧ (Cond.fieldLink own idx (T y).1 (T y).2.1 (T y).2.2.1 ∈ Tb ∨ ∃ host, Cond.fieldLinkNest own idx (T y).1 (T y).2.1 (T y).2.2.1 host ∈ Tb)
def FPK (own : String) (idx x y : Nat) : Prop := ∃ (C : String) (T : u_T) (N : Nat), mcl[x]? = some (C, T, N) ∧ y < N ∧ Cond.fieldLink own idx (T y).1 (T y).2.1 (T y).2.2.1 ∈ Tb ∧ (T y).2.2.2 = false ∧ parseFieldDescriptor (T y).2.2.1 = some .int
def SOK (P : List mM) (own : String) (idx x y : Nat) : Prop := ∃ (yn : MethodName) (b : ByteArray) (mL : Nat) (rt : Option FieldType) (C : List (Nat × mE)), P[x]? = some (yn, b, mL, rt, C) ∧ (parseMethodDescriptor yn.desc).map (fun d => d.parameters.length) = some y ∧ Cond.static yn ∈ Tb ∧ (Cond.methodLink own idx yn ∈ Tb ∨ ∃ host, Cond.methodLinkNest own idx yn host ∈ Tb)
def VOK (P : List mM) (own : String) (idx x y z : Nat) : Prop := ∃ (yn : MethodName) (b : ByteArray) (mL : Nat) (rt : Option FieldType) (C : List (Nat × mE)) (n : Nat), P[x]? = some (yn, b, mL, rt, C) ∧ y = n + 1 ∧ (parseMethodDescriptor yn.desc).map (fun d => d.parameters.length) = some n ∧ Cond.instanceMethod yn ∈ Tb ∧ Cond.selects yn.cls yn yn ∈ Tb ∧ (∃ (T : u_T) (N : Nat), mcl[z]? = some (yn.cls, T, N)) ∧ (Cond.methodLink own idx yn ∈ Tb ∨ ∃ host, Cond.methodLinkNest own idx yn host ∈ Tb)
def lkOK (P : List mM) (own : String) (pc : Nat) (e : mE) : Prop := match e.1 with
  | .getfield idx => FOK own idx e.2.2.1 e.2.2.2.1
  | .putfield idx => FPK own idx e.2.2.1 e.2.2.2.1
  | .invokestatic idx => SOK P own idx e.2.2.1 e.2.2.2.1
  | .invokevirtual idx => VOK P own idx e.2.2.1 e.2.2.2.1 e.2.2.2.2
  | .ldc idx => Cond.constant own idx (nI e.2.2.1) ∈ Tb
  | .goto o => (pc : Int) + o = (e.2.2.1 : Int)
  | .ifCond _ o => (pc : Int) + o = (e.2.2.1 : Int)
  | .if_icmp _ o => (pc : Int) + o = (e.2.2.1 : Int)
  | .ifnull o => (pc : Int) + o = (e.2.2.1 : Int)
  | .ifnonnull o => (pc : Int) + o = (e.2.2.1 : Int)
  | .tableswitch d lo hi offs => 0 ≤ (pc : Int) + d ∧ hi - lo + 1 = (offs.size : Int) ∧ ∀ o ∈ offs.toList, 0 ≤ (pc : Int) + o
  | .lookupswitch d ps => 0 ≤ (pc : Int) + d ∧ (ps.toList.zip (ps.toList.drop 1)).all (fun (a, next) => a.1 < next.1) = true ∧ ∀ q ∈ ps.toList, 0 ≤ (pc : Int) + q.2
  | _ => True
def insOK (P : List mM) (own : String) (b : ByteArray) (pc : Nat) (e : mE) : Prop := (∃ len, decode b pc = .ok (e.1, len) ∧ e.2.1 = pc + len ∧ ilOK e.1 len) ∧ lkOK P own pc e
def mOK (P : List mM) (q : mM) : Prop := Cond.code q.1 q.2.1 q.2.2.1 q.2.2.2.1 ∈ Tb ∧ Cond.initialized q.1.cls ∈ Tb ∧ plainName q.1.cls = true ∧ q.1.cls ≠ "java/lang/invoke/MethodHandle" ∧ q.1.cls ≠ "java/lang/invoke/VarHandle" ∧ q.2.2.1 ≤ 11 ∧ ∀ z ∈ q.2.2.2.2, insOK P q.1.cls q.2.1 z.1 z.2
def POK (P : List mM) : Prop := ∀ q ∈ P, mOK P q
theorem lk_nonneg (ps : List (Int × Int)) (d k : Int) (pc : Int) (hd : 0 ≤ pc + d) (hp : ∀ q ∈ ps, 0 ≤ pc + q.2) : 0 ≤ pc + Op.lookupswitch.offset ps d k := by
  induction ps with
  | nil => exact hd
  | cons q r ih =>
    obtain ⟨a, o⟩ := q
    rw [Op.lookupswitch.offset_cons]
    split
    · exact hp (a, o) List.mem_cons_self
    · exact ih (fun q hq => hp q (List.mem_cons_of_mem _ hq))
section STEP
variable {p : Program} {l : Launch} {ev : Env} {R : Room} {s : State} {m : MethodId} {args : Array Value} {below : List Frame} {meth : Method} {c : Code}
variable {D : va_G} {cy ad : Nat → Nat} {A : Nat → Prop} {nL d : Nat} {bb : ByteArray} {own : String} {rt : Option FieldType} {P : List mM} {cal : mC} {Q : Option Value → mH → Prop} {Qc : Array Value → State → Outcome → State → Prop}
def mX (p : Program) (l : Launch) (ev : Env) (R : Room) (s : State) (m : MethodId) (args : Array Value) (below : List Frame) (meth : Method) (c : Code) (D : va_G) (cy ad : Nat → Nat) (A : Nat → Prop) (nL : Nat) (QQ : State → Prop) : mK := fun pc lv st h =>
  ∀ (H : Heap) (locs : List Loc) (ls : Array Slot), va_P D mcl (cW cy ad h) H → va_D A (cW cy ad h) → va_S A s.heap H locs → LV ad ls nL lv → W p l ev R s m args below meth c H locs 0 0 QQ (F0 m pc ls (st.map (cz ad)))
/-- a frame of a method: the machine, its code, the tables, its callees, its end -/
def mCtx (p : Program) (l : Launch) (R : Room) (s : State) (m : MethodId) (args : Array Value) (meth : Method) (c : Code) (D : va_G) (cy ad : Nat → Nat) (A : Nat → Prop) (nL d : Nat) (bb : ByteArray) (own : String) (rt : Option FieldType) (P : List mM) (cal : mC) (Q : Option Value → mH → Prop) (Qc : Array Value → State → Outcome → State → Prop) : Prop :=
  p.tables.exec = Jvm.exec ∧ c.code = bb ∧ c.maxLocals = nL ∧ meth.sig.returnType = rt ∧ s.vm.findClass own = some m.cls ∧ (∀ w ∈ Tb, w.before args s = true) ∧ meth.locks = false ∧ va_K D mcl (mty cy) s ∧ (∀ q, s.heap.size ≤ q → A q) ∧ R = mRm (d + 1) ∧ POK P ∧ (∀ M a h P', cal M a h P' → mMet l P d D cy ad M a h P') ∧
  ∀ (r : Option Value) (h : mH) (H : Heap) (locs : List Loc), Q r h → va_P D mcl (cW cy ad h) H → va_D A (cW cy ad h) → va_S A s.heap H locs → ∀ t : State, t.heap = H → s.WarmedH t.vm → Qc args s (.returned (r.map (cz ad))) t
theorem mty_at {cy : Nat → Nat} {t : Nat} (h : t < 3) : ∃ ty, (mty cy)[t]? = some (cy t, ty) := by
  rcases (show t = 0 ∨ t = 1 ∨ t = 2 by omega) with rfl | rfl | rfl
  · exact ⟨_, rfl⟩
  · exact ⟨_, rfl⟩
  · exact ⟨_, rfl⟩
theorem cE_len {cy ad : Nat → Nat} {t n : Nat} {x : (Nat → Int32) ⊕ (Nat → Int64) ⊕ (Nat → UInt32) ⊕ (Nat → UInt64) ⊕ (Nat → Option Nat)} : ∃ x', cE cy ad (.inl (t, n, x)) = .inl (cy t, n, x') := by
  rcases x with f | f | f | f | f <;> exact ⟨_, rfl⟩
theorem take_rev (st : List Value) (y : Nat) : st = ((st.take y).reverse).reverse ++ st.drop y := by rw [List.reverse_reverse, List.take_append_drop]
theorem cat_sum (ad : Nat → Nat) (st : List Value) : ((st.map (cz ad)).map fun v => v.category).sum = (st.map fun v => v.category).sum := by
  rw [List.map_map]
  congr 1
  apply List.map_congr_left
  intro v _
  exact cz_cat ad v
theorem mA_sub {h : mH} {H : Heap} {locs : List Loc} (hD : va_D A (cW cy ad h)) (hS : va_S A s.heap H locs) (hA : ∀ q, s.heap.size ≤ q → A q) : ∀ q, va_A (cW cy ad h) H.size q → A q := by
  intro q hq
  rcases hq with ⟨k, e, hk⟩ | hq
  · exact hD.2 k (q, e) hk
  · exact hA q (Nat.le_trans hS.1 hq)
theorem mPre {h : mH} {H : Heap} {a : List Value} (hP : va_P D mcl (cW cy ad h) H) (hD : va_D A (cW cy ad h)) (hK : va_K D mcl (mty cy) s) : ∀ U : State, U.heap = H → s.WarmedH U.vm → mPc D cy ad a h H.size (a.map (cz ad)).toArray U :=
  fun U hU hW => ⟨rfl, by rw [hU], by rw [hU]; exact hP, va_K.moved hW.alike hK, hD.weaken (fun _ _ _ _ => trivial)⟩
theorem mGood {y : MethodName} {b : ByteArray} {mL : Nat} {r : Option FieldType} (h : Cond.code y b mL r ∈ Tb) : GoodIn Tb (.code y b mL r :: Tb) := fun w hw => by
  rcases List.mem_cons.mp hw with rfl | hw
  · exact ⟨h, Tb_good _ h⟩
  · exact ⟨hw, Tb_good _ hw⟩
theorem mRoom {mL d : Nat} (h : mL ≤ 11) : (mRm d).frames + 1 ≤ (mRm (d + 1)).frames ∧ 8 + (mL + 11) + (mRm d).locals ≤ (mRm (d + 1)).locals := by
  unfold mRm
  dsimp only
  omega
theorem nw_of {w : Cond} {args : Array Value} {s : State} (hw : w ∈ Tb) (hon : w.onTables = true) (h : w.before args s = true) : va_Nw w s := va_tabs hon rfl h
set_option maxHeartbeats 4000000 in
theorem snd_call_S (X : mCtx p l R s m args meth c D cy ad A nL d bb own rt P cal Q Qc) {QQ : State → Prop} {idx nx x y pc : Nat} {lv st : List Value} {h : mH} (hd : decode bb pc = .ok (.invokestatic idx, 3)) (hnx : nx = pc + 3) (hl : SOK P own idx x y)
    (hs : m_call (mX p l ev R s m args below meth c D cy ad A nL QQ) cal nx x y lv st h) : mX p l ev R s m args below meth c D cy ad A nL QQ pc lv st h := by
  obtain ⟨hx, hb, hml, hr, hown, hts, hlocks, hK, hA, hR, hPok, hcal, hret⟩ := X
  obtain ⟨h1, h2, P', h3, h4⟩ := hs
  obtain ⟨yn, b, mL, rt', C, hM, hn, hst, hlink⟩ := hl
  obtain ⟨hcode, hini, hpl, hmh, hvh, hmL, -⟩ := hPok _ (List.mem_of_getElem? hM)
  intro H locs ls hP hD hS hL
  subst hR
  subst hnx
  have hmet := hcal _ _ _ _ h3 H.size yn b mL rt' C hM
  have hrun : va_Run p l ev (mRm (d + 1)) s m args below meth c H locs 0 0 0 0 (F0 m pc ls (st.map (cz ad))) ((st.drop y).map (cz ad)) (mQc D cy ad h H.size P' (((st.take y).reverse).map (cz ad)).toArray) (va_A (cW cy ad h) H.size) := by
    have hstk : st.map (cz ad) = (((st.take y).reverse).map (cz ad)).reverse ++ (st.drop y).map (cz ad) := by
      rw [← List.map_reverse, ← List.map_append, ← take_rev]
    have hlen : (((st.take y).reverse).map (cz ad)).length = y := by simp; omega
    rcases hlink with hlink | ⟨host, hlink⟩
    · exact va_runS (cc := bb) (nL := nL) (Ts := Tb) (own := own) (n := y) (bytes := b) (maxL := mL) (ret := rt') ⟨hx, hb, hml, hown, hts⟩ hmet ⟨callB_of y hts (mGood hcode) rfl rfl rfl (hts _ hini) (hts _ hlink) ⟨hmh, hvh, hn⟩ (mRoom hmL), hts _ hst⟩ ⟨mPc_blind, mPre hP hD hK⟩ rfl hlen hL.1 hstk (lv_room (by rw [cat_sum]; exact h2)) hd ⟨Nat.le_refl 0, Nat.le_refl 0⟩
    · exact va_runSN (cc := bb) (nL := nL) (Ts := Tb) (own := own) (n := y) (bytes := b) (maxL := mL) (ret := rt') ⟨hx, hb, hml, hown, hts⟩ hmet ⟨va_cnB y hts (mGood hcode) rfl rfl rfl (nw_of hlink rfl (hts _ hlink)) (hts _ hini) ⟨hmh, hvh, hn⟩ (mRoom hmL), hts _ hst, trivial⟩ ⟨mPc_blind, mPre hP hD hK⟩ rfl hlen hL.1 hstk (lv_room (by rw [cat_sum]; exact h2)) hd ⟨Nat.le_refl 0, Nat.le_refl 0⟩
  refine va_callg hrun hS (fun q _ hq => mA_sub hD hS hA q hq) (mA_sub hD hS hA) (fun r h' H1 locs1 hp hP1 hD1 hS1 => ?_)
  have w := h4 r h' hp H1 locs1 ls hP1 (hD1.weaken (fun _ q _ hq => mA_sub hD hS hA q.1 hq)) hS1 hL
  have e : (r.toList ++ st.drop y).map (cz ad) = (r.map (cz ad)).toList ++ (st.drop y).map (cz ad) := by
    cases r <;> simp
  rw [e] at w
  exact w
set_option maxHeartbeats 4000000 in
theorem snd_call_V (X : mCtx p l R s m args meth c D cy ad A nL d bb own rt P cal Q Qc) {QQ : State → Prop} {idx nx x y z pc : Nat} {lv st : List Value} {h : mH} (hd : decode bb pc = .ok (.invokevirtual idx, 3)) (hnx : nx = pc + 3) (hl : VOK P own idx x y z)
    (hb0 : ∃ (b : Nat) (As : List Value), (st.take y).reverse = .ref b :: As ∧ m_gO h b fun ci _ => ci = z) (hs : m_call (mX p l ev R s m args below meth c D cy ad A nL QQ) cal nx x y lv st h) : mX p l ev R s m args below meth c D cy ad A nL QQ pc lv st h := by
  obtain ⟨hx, hb, hml, hr, hown, hts, hlocks, hK, hA, hR, hPok, hcal, hret⟩ := X
  obtain ⟨h1, h2, P', h3, h4⟩ := hs
  obtain ⟨yn, b, mL, rt', C, n, hM, hy, hn, hinst, hsel, ⟨T, N, hz⟩, hlink⟩ := hl
  obtain ⟨hcode, hini, hpl, hmh, hvh, hmL, -⟩ := hPok _ (List.mem_of_getElem? hM)
  obtain ⟨o, As, hAs, ho⟩ := hb0
  obtain ⟨ci, fs, ho2, hci⟩ := m_gO_inv ho
  subst hci
  intro H locs ls hP hD hS hL
  subst hR
  subst hnx
  have hmet := hcal _ _ _ _ h3 H.size yn b mL rt' C hM
  have hlen0 : ((st.take y).reverse).length = y := by simp; omega
  have hrecv := va_recv hK hP (ci := ci) (q0 := o) hz (cW_at ho2)
  have hrun : va_Run p l ev (mRm (d + 1)) s m args below meth c H locs 0 0 0 0 (F0 m pc ls (st.map (cz ad))) ((st.drop y).map (cz ad)) (mQc D cy ad h H.size P' (((st.take y).reverse).map (cz ad)).toArray) (va_A (cW cy ad h) H.size) := by
    have hstk : st.map (cz ad) = (As.map (cz ad)).reverse ++ .ref (ad o) :: (st.drop y).map (cz ad) := by
      have e1 : st.map (cz ad) = (((st.take y).reverse).map (cz ad)).reverse ++ (st.drop y).map (cz ad) := by
        rw [← List.map_reverse, ← List.map_append, ← take_rev]
      rw [e1, hAs]
      simp [cz]
    have hlen : (As.map (cz ad)).length = n := by
      rw [hAs, hy] at hlen0
      simpa using hlen0
    rw [hAs] at hmet ⊢
    rcases hlink with hlink | ⟨host, hlink⟩
    · exact va_runV (cc := bb) (nL := nL) (Ts := Tb) (own := own) (C := yn.cls) (n := n) (bytes := b) (maxL := mL) (ret := rt') (As := As.map (cz ad)) ⟨hx, hb, hml, hown, hts⟩ hmet ⟨callB_of n hts (mGood hcode) rfl rfl rfl (hts _ hini) (hts _ hlink) ⟨hmh, hvh, hn⟩ (mRoom hmL), hts _ hinst, hts _ hsel⟩ ⟨mPc_blind, hrecv, mPre (a := .ref o :: As) hP hD hK⟩ rfl hlen hL.1 hstk (lv_room (by rw [cat_sum]; exact h2)) hd ⟨Nat.le_refl 0, Nat.le_refl 0⟩
    · exact va_runVN (cc := bb) (nL := nL) (Ts := Tb) (own := own) (C := yn.cls) (n := n) (bytes := b) (maxL := mL) (ret := rt') (As := As.map (cz ad)) ⟨hx, hb, hml, hown, hts⟩ hmet ⟨va_cnB n hts (mGood hcode) rfl rfl rfl (nw_of hlink rfl (hts _ hlink)) (hts _ hini) ⟨hmh, hvh, hn⟩ (mRoom hmL), hts _ hinst, hts _ hsel⟩ ⟨mPc_blind, hrecv, mPre (a := .ref o :: As) hP hD hK⟩ rfl hlen hL.1 hstk (lv_room (by rw [cat_sum]; exact h2)) hd ⟨Nat.le_refl 0, Nat.le_refl 0⟩
  refine va_callg hrun hS (fun q _ hq => mA_sub hD hS hA q hq) (mA_sub hD hS hA) (fun r h' H1 locs1 hp hP1 hD1 hS1 => ?_)
  have w := h4 r h' hp H1 locs1 ls hP1 (hD1.weaken (fun _ q _ hq => mA_sub hD hS hA q.1 hq)) hS1 hL
  have e : (r.toList ++ st.drop y).map (cz ad) = (r.map (cz ad)).toList ++ (st.drop y).map (cz ad) := by
    cases r <;> simp
  rw [e] at w
  exact w
end STEP
end
section
section SND
variable {p : Program} {l : Launch} {ev : Env} {R : Room} {s : State} {m : MethodId} {args : Array Value} {below : List Frame} {meth : Method} {c : Code}
variable {D : va_G} {cy ad : Nat → Nat} {A : Nat → Prop} {nL d : Nat} {bb : ByteArray} {own : String} {rt : Option FieldType} {P : List mM} {cal : mC} {Q : Option Value → mH → Prop} {Qc : Array Value → State → Outcome → State → Prop}
theorem cz_null (ad : Nat → Nat) {v : Value} (h : v = .null ∨ ∃ a, v = .ref a) : v.category = 1 := by
  rcases h with rfl | ⟨a, rfl⟩ <;> rfl
set_option maxHeartbeats 8000000 in
theorem snd_step (X : mCtx p l R s m args meth c D cy ad A nL d bb own rt P cal Q Qc) {pc : Nat} {e : mE} {lv st : List Value} {h : mH} (hi : insOK P own bb pc e)
    (hs : stp (mX p l ev R s m args below meth c D cy ad A nL (MQ below Qc args s 0 0 A)) cal rt Q pc e lv st h) : mX p l ev R s m args below meth c D cy ad A nL (MQ below Qc args s 0 0 A) pc lv st h := by
  have X0 := X
  obtain ⟨hx, hb, hml, hr, hown, hts, hlocks, hK, hA, hR, hPok, hcal, hret⟩ := X
  obtain ⟨i, nx, x, y, z⟩ := e
  obtain ⟨⟨len, hd, hnx, hil⟩, hlk⟩ := hi
  dsimp only at hd hnx hil
  cases i with
  | aconst_null =>
    cases hil; subst hnx
    intro H locs ls hP hD hS hL
    exact lv_null hx hb hd (hs H locs ls hP hD hS hL)
  | iconst n =>
    cases hil; subst hnx
    intro H locs ls hP hD hS hL
    exact lv_iconst hx hb hd rfl (hs H locs ls hP hD hS hL)
  | bipush n =>
    cases hil; subst hnx
    intro H locs ls hP hD hS hL
    exact lv_bipush hx hb hd rfl (hs H locs ls hP hD hS hL)
  | sipush n =>
    cases hil; subst hnx
    intro H locs ls hP hD hS hL
    exact lv_sipush hx hb hd rfl (hs H locs ls hP hD hS hL)
  | ldc n =>
    cases hil; subst hnx
    intro H locs ls hP hD hS hL
    exact lv_ldc hx hb hown (hts _ hlk) hd (hs H locs ls hP hD hS hL)
  | iload j =>
    cases hil; subst hnx
    obtain ⟨a, ha, hk⟩ := m_lI_inv hs
    intro H locs ls hP hD hS hL
    exact lv_iload hx hb hd (hL.2.2.2 j _ ha rfl) (hk H locs ls hP hD hS hL)
  | iload_n j =>
    cases hil; subst hnx
    obtain ⟨a, ha, hk⟩ := m_lI_inv hs
    intro H locs ls hP hD hS hL
    exact lv_iload_n hx hb hd rfl (hL.2.2.2 j.val _ ha rfl) (hk H locs ls hP hD hS hL)
  | aload j =>
    cases hil; subst hnx
    obtain ⟨v, ha, hv, hk⟩ := m_lA_inv (f := fun v => mX p l ev R s m args below meth c D cy ad A nL (MQ below Qc args s 0 0 A) (pc + 2) lv (v :: st) h) hs
    intro H locs ls hP hD hS hL
    have h1 := hL.2.2.2 j _ ha (cz_null ad hv)
    rcases hv with rfl | ⟨a, rfl⟩
    · exact lv_aloadN hx hb hd h1 (hk H locs ls hP hD hS hL)
    · exact lv_aload hx hb hd h1 (hk H locs ls hP hD hS hL)
  | aload_n j =>
    cases hil; subst hnx
    obtain ⟨v, ha, hv, hk⟩ := m_lA_inv (f := fun v => mX p l ev R s m args below meth c D cy ad A nL (MQ below Qc args s 0 0 A) (pc + 1) lv (v :: st) h) hs
    intro H locs ls hP hD hS hL
    have h1 := hL.2.2.2 j.val _ ha (cz_null ad hv)
    rcases hv with rfl | ⟨a, rfl⟩
    · exact lv_aload_nN hx hb hd rfl h1 (hk H locs ls hP hD hS hL)
    · exact lv_aload_n hx hb hd rfl h1 (hk H locs ls hP hD hS hL)
  | istore j =>
    cases hil; subst hnx
    obtain ⟨a, r, rfl, hj, hk⟩ := m_p1_inv hs
    intro H locs ls hP hD hS hL
    exact lv_istore hx hb hd hL.has (by rw [← hL.2.2.1]; exact hj) rfl (fun ls' h' => hk H locs ls' hP hD hS (hL.put (v := .int a) rfl rfl h'))
  | istore_n j =>
    cases hil; subst hnx
    obtain ⟨a, r, rfl, hj, hk⟩ := m_p1_inv hs
    intro H locs ls hP hD hS hL
    exact lv_istore_n hx hb hd rfl hL.has (by rw [← hL.2.2.1]; exact hj) rfl (fun ls' h' => hk H locs ls' hP hD hS (hL.put (v := .int a) rfl rfl h'))
  | astore j =>
    cases hil; subst hnx
    obtain ⟨v, r, rfl, hv, hj, hk⟩ := m_pA_inv (f := fun v r => j < lv.length ∧ mX p l ev R s m args below meth c D cy ad A nL (MQ below Qc args s 0 0 A) (pc + 2) (lv.set j v) r h) hs
    intro H locs ls hP hD hS hL
    rcases hv with rfl | ⟨a, rfl⟩
    · exact lv_astoreN hx hb hd hL.has (by rw [← hL.2.2.1]; exact hj) rfl (fun ls' h' => hk H locs ls' hP hD hS (hL.put (v := .null) rfl rfl h'))
    · exact lv_astore hx hb hd hL.has (by rw [← hL.2.2.1]; exact hj) rfl (fun ls' h' => hk H locs ls' hP hD hS (hL.put (v := .ref a) rfl rfl h'))
  | astore_n j =>
    cases hil; subst hnx
    obtain ⟨v, r, rfl, hv, hj, hk⟩ := m_pA_inv (f := fun v r => j.val < lv.length ∧ mX p l ev R s m args below meth c D cy ad A nL (MQ below Qc args s 0 0 A) (pc + 1) (lv.set j.val v) r h) hs
    intro H locs ls hP hD hS hL
    rcases hv with rfl | ⟨a, rfl⟩
    · exact lv_astore_nN hx hb hd rfl hL.has (by rw [← hL.2.2.1]; exact hj) rfl (fun ls' h' => hk H locs ls' hP hD hS (hL.put (v := .null) rfl rfl h'))
    · exact lv_astore_n hx hb hd rfl hL.has (by rw [← hL.2.2.1]; exact hj) rfl (fun ls' h' => hk H locs ls' hP hD hS (hL.put (v := .ref a) rfl rfl h'))
  | iinc j n =>
    cases hil; subst hnx
    obtain ⟨a, ha, hk⟩ := m_lI_inv hs
    intro H locs ls hP hD hS hL
    obtain ⟨k, hk2⟩ := List.getElem?_of_mem (prs_mem (ad := ad) ha rfl)
    have hjl : j < lv.length := (List.getElem?_eq_some_iff.mp ha).1
    exact lv_iinc hx hb hd hL.has hk2 rfl (by rw [← hL.2.2.1]; exact hjl) rfl (fun ls' h' => hk H locs ls' hP hD hS (hL.put (v := .int (a + Int32.ofInt n)) rfl rfl h'))
  | iadd =>
    cases hil; subst hnx
    obtain ⟨a, b, r, rfl, hk⟩ := m_p2_inv hs
    intro H locs ls hP hD hS hL
    exact lv_iadd hx hb hd (hk H locs ls hP hD hS hL)
  | isub =>
    cases hil; subst hnx
    obtain ⟨a, b, r, rfl, hk⟩ := m_p2_inv hs
    intro H locs ls hP hD hS hL
    exact lv_isub hx hb hd (hk H locs ls hP hD hS hL)
  | imul =>
    cases hil; subst hnx
    obtain ⟨a, b, r, rfl, hk⟩ := m_p2_inv hs
    intro H locs ls hP hD hS hL
    exact lv_imul hx hb hd (hk H locs ls hP hD hS hL)
  | iand =>
    cases hil; subst hnx
    obtain ⟨a, b, r, rfl, hk⟩ := m_p2_inv hs
    intro H locs ls hP hD hS hL
    exact lv_iand hx hb hd (hk H locs ls hP hD hS hL)
  | ior =>
    cases hil; subst hnx
    obtain ⟨a, b, r, rfl, hk⟩ := m_p2_inv hs
    intro H locs ls hP hD hS hL
    exact lv_ior hx hb hd (hk H locs ls hP hD hS hL)
  | ixor =>
    cases hil; subst hnx
    obtain ⟨a, b, r, rfl, hk⟩ := m_p2_inv hs
    intro H locs ls hP hD hS hL
    exact lv_ixor hx hb hd (hk H locs ls hP hD hS hL)
  | idiv =>
    cases hil; subst hnx
    obtain ⟨a, b, r, rfl, hne, hk⟩ := m_p2_inv hs
    intro H locs ls hP hD hS hL
    exact lv_idiv hx hb hd hne (hk H locs ls hP hD hS hL)
  | irem =>
    cases hil; subst hnx
    obtain ⟨a, b, r, rfl, hne, hk⟩ := m_p2_inv hs
    intro H locs ls hP hD hS hL
    exact lv_irem hx hb hd hne (hk H locs ls hP hD hS hL)
  | ishl =>
    cases hil; subst hnx
    obtain ⟨a, b, r, rfl, hk⟩ := m_p2_inv hs
    intro H locs ls hP hD hS hL
    exact lv_ishl hx hb hd (hk H locs ls hP hD hS hL)
  | ishr =>
    cases hil; subst hnx
    obtain ⟨a, b, r, rfl, hk⟩ := m_p2_inv hs
    intro H locs ls hP hD hS hL
    exact lv_ishr hx hb hd (hk H locs ls hP hD hS hL)
  | iushr =>
    cases hil; subst hnx
    obtain ⟨a, b, r, rfl, hk⟩ := m_p2_inv hs
    intro H locs ls hP hD hS hL
    exact lv_iushr hx hb hd rfl (hk H locs ls hP hD hS hL)
  | i2b =>
    cases hil; subst hnx
    obtain ⟨a, r, rfl, hk⟩ := m_p1_inv hs
    intro H locs ls hP hD hS hL
    exact lv_i2b hx hb hd rfl (hk H locs ls hP hD hS hL)
  | dup =>
    cases hil; subst hnx
    obtain ⟨v, r, rfl, hv, hk⟩ := m_pV_inv hs
    intro H locs ls hP hD hS hL
    exact lv_dup hx hb hd ((cz_cat ad v).trans hv) (hk H locs ls hP hD hS hL)
  | dup2 =>
    cases hil; subst hnx
    obtain ⟨v, w, r, rfl, hv, hw, hk⟩ := m_pVV_inv hs
    intro H locs ls hP hD hS hL
    exact lv_dup2_11 hx hb hd ((cz_cat ad v).trans hv) ((cz_cat ad w).trans hw) (hk H locs ls hP hD hS hL)
  | pop =>
    cases hil; subst hnx
    obtain ⟨v, r, rfl, hv, hk⟩ := m_pV_inv hs
    intro H locs ls hP hD hS hL
    exact lv_pop hx hb hd ((cz_cat ad v).trans hv) (hk H locs ls hP hD hS hL)
  | getfield idx =>
    cases hil; subst hnx
    obtain ⟨a, r, rfl, hg⟩ := m_pR_inv hs
    obtain ⟨ci, fs, ho, hci, v, hv, hk⟩ := m_gO_inv hg
    dsimp only at hci hv hk
    subst hci
    obtain ⟨C, T, N, hc, hy, hlink⟩ := hlk
    dsimp only at hc hy hlink
    obtain ⟨hin, -⟩ := mcl_ok _ (List.mem_of_getElem? hc)
    intro H locs ls hP hD hS hL
    have hfv : (fs.map (cz ad))[y]? = some (cz ad v) := by rw [List.getElem?_map, hv]; rfl
    rcases hlink with hlink | ⟨host, hlink⟩
    · exact va_get hx hb hts hin hown hK hP a (cW_at ho) hc y hy (hts _ hlink) (fun _ h9 => h9) hfv hd (hk H locs ls hP hD hS hL)
    · exact va_getN hx hb hts hin hown hK hP a (cW_at ho) hc y hy (hts _ hlink) (fun _ h9 => h9) hfv hd (hk H locs ls hP hD hS hL)
  | putfield idx =>
    cases hil; subst hnx
    obtain ⟨v, r0, rfl, hg1⟩ := m_p1_inv hs
    obtain ⟨a, r, rfl, hg2⟩ := m_pR_inv hg1
    obtain ⟨ci, fs, ho, hci, hyl, hk⟩ := m_gO_inv hg2
    dsimp only at hci hyl hk
    subst hci
    obtain ⟨C, T, N, hc, hy, hlink, hfin, hint⟩ := hlk
    dsimp only at hc hy hlink hfin hint
    obtain ⟨hin, ty, hty, hnm⟩ := mcl_ok _ (List.mem_of_getElem? hc)
    intro H locs ls hP hD hS hL
    refine va_put hx hb hts hin ty hty hnm hown hK hP hD hS a (cW_at ho) hc y hy (hts _ hlink) (fun _ h9 => h9) hfin (v := .int v) hint rfl rfl (by rw [List.length_map]; exact hyl) hd (fun H1 locs1 hP1 hD1 hS1 => ?_)
    rw [cW_setO] at hP1 hD1
    exact hk H1 locs1 ls hP1 hD1 hS1 hL
  | iaload =>
    cases hil; subst hnx
    obtain ⟨i, r0, rfl, hg⟩ := m_p1_inv hs
    obtain ⟨a, r, rfl, hg⟩ := m_pR_inv hg
    obtain ⟨n, f, ho, hin, hk⟩ := m_gA_inv hg
    intro H locs ls hP hD hS hL
    exact va_iald hx hb hK hP a 0 (cW_at ho) rfl hin hd (hk H locs ls hP hD hS hL)
  | baload =>
    cases hil; subst hnx
    obtain ⟨i, r0, rfl, hg⟩ := m_p1_inv hs
    obtain ⟨a, r, rfl, hg⟩ := m_pR_inv hg
    obtain ⟨n, f, ho, hin, hk⟩ := m_gA_inv hg
    intro H locs ls hP hD hS hL
    exact va_bald hx hb hK hP a 1 (cW_at ho) rfl hin hd (hk H locs ls hP hD hS hL)
  | iastore =>
    cases hil; subst hnx
    obtain ⟨v, r1, rfl, hg⟩ := m_p1_inv hs
    obtain ⟨i, r0, rfl, hg⟩ := m_p1_inv hg
    obtain ⟨a, r, rfl, hg⟩ := m_pR_inv hg
    obtain ⟨n, f, ho, hin, hk⟩ := m_gA_inv hg
    intro H locs ls hP hD hS hL
    refine va_iast hx hb hK hP hD hS a 0 (cW_at ho) rfl hin hd (fun H1 locs1 hP1 hD1 hS1 => ?_)
    have e := cW_set cy ad h a (.inl (0, n, .inl (upd f i.toNatClampNeg v)))
    exact hk H1 locs1 ls (by rw [← e]; exact hP1) (by rw [← e]; exact hD1) hS1 hL
  | bastore =>
    cases hil; subst hnx
    obtain ⟨v, r1, rfl, hg⟩ := m_p1_inv hs
    obtain ⟨i, r0, rfl, hg⟩ := m_p1_inv hg
    obtain ⟨a, r, rfl, hg⟩ := m_pR_inv hg
    obtain ⟨n, f, ho, hin, hk⟩ := m_gA_inv hg
    intro H locs ls hP hD hS hL
    refine va_bast hx hb hK hP hD hS a 1 (cW_at ho) rfl hin hd (fun H1 locs1 hP1 hD1 hS1 => ?_)
    have e := cW_set cy ad h a (.inl (1, n, .inl (upd f i.toNatClampNeg (vp_nar .byte v))))
    exact hk H1 locs1 ls (by rw [← e]; exact hP1) (by rw [← e]; exact hD1) hS1 hL
  | aaload =>
    cases hil; subst hnx
    obtain ⟨i, r0, rfl, hg⟩ := m_p1_inv hs
    obtain ⟨a, r, rfl, hg⟩ := m_pR_inv hg
    obtain ⟨n, g, ho, hin, hk⟩ := m_gQ_inv hg
    intro H locs ls hP hD hS hL
    refine va_aldq hx hb hK hP a 2 (C := RX3) (f := fun j => (g j).map ad) (cW_at ho) rfl hin hd ?_
    rw [va_rf_map]
    exact hk H locs ls hP hD hS hL
  | aastore =>
    cases hil; subst hnx
    obtain ⟨v, r1, rfl, hg⟩ := m_pR_inv hs
    obtain ⟨i, r0, rfl, hg⟩ := m_p1_inv hg
    obtain ⟨a, r, rfl, hg⟩ := m_pR_inv hg
    obtain ⟨n, g, ho, hg⟩ := m_gQ_inv hg
    obtain ⟨ci, fs, hv, hci, hin, hk⟩ := m_gO_inv hg
    subst hci
    intro H locs ls hP hD hS hL
    refine va_astq hx hb hK hP hD hS a 2 v 3 (r := (RX3, TX3, 2)) (f := fun j => (g j).map ad) (cW_at ho) rfl (cW_at hv) rfl hin hd (fun H1 locs1 hP1 hD1 hS1 => ?_)
    rw [cW_setQ] at hP1 hD1
    exact hk H1 locs1 ls hP1 hD1 hS1 hL
  | arraylength =>
    cases hil; subst hnx
    obtain ⟨a, r, rfl, hg⟩ := m_pR_inv hs
    obtain ⟨t, n, x0, ho, ht, hk⟩ := m_gL_inv hg
    obtain ⟨ty, hty⟩ := mty_at (cy := cy) ht
    obtain ⟨x', hx'⟩ := cE_len (cy := cy) (ad := ad) (t := t) (n := n) (x := x0)
    intro H locs ls hP hD hS hL
    exact va_alen (x := (n, x')) hx hb hK hP a t (by rw [cW_at ho, hx']) hty rfl hd (hk H locs ls hP hD hS hL)
  | goto o =>
    cases hil; subst hnx
    intro H locs ls hP hD hS hL
    exact lv_goto hx hb hd hlk (hs H locs ls hP hD hS hL)
  | ifCond cc o =>
    cases hil; subst hnx
    cases cc <;> (obtain ⟨a, r, rfl, h1, h2⟩ := m_p1_inv hs; intro H locs ls hP hD hS hL)
    · exact lv_if_eq hx hb hd hlk (fun q => h1 q H locs ls hP hD hS hL) (fun q => h2 q H locs ls hP hD hS hL)
    · exact lv_if_ne hx hb hd hlk (fun q => h1 q H locs ls hP hD hS hL) (fun q => h2 q H locs ls hP hD hS hL)
    · exact lv_if_lt hx hb hd hlk (fun q => h1 q H locs ls hP hD hS hL) (fun q => h2 q H locs ls hP hD hS hL)
    · exact lv_if_ge hx hb hd hlk (fun q => h1 q H locs ls hP hD hS hL) (fun q => h2 q H locs ls hP hD hS hL)
    · exact lv_if_gt hx hb hd hlk (fun q => h1 q H locs ls hP hD hS hL) (fun q => h2 q H locs ls hP hD hS hL)
    · exact lv_if_le hx hb hd hlk (fun q => h1 q H locs ls hP hD hS hL) (fun q => h2 q H locs ls hP hD hS hL)
  | if_icmp cc o =>
    cases hil; subst hnx
    cases cc <;> (obtain ⟨a, b, r, rfl, h1, h2⟩ := m_p2_inv hs; intro H locs ls hP hD hS hL)
    · exact lv_icmp_eq hx hb hd hlk (fun q => h1 q H locs ls hP hD hS hL) (fun q => h2 q H locs ls hP hD hS hL)
    · exact lv_icmp_ne hx hb hd hlk (fun q => h1 q H locs ls hP hD hS hL) (fun q => h2 q H locs ls hP hD hS hL)
    · exact lv_icmp_lt hx hb hd hlk (fun q => h1 q H locs ls hP hD hS hL) (fun q => h2 q H locs ls hP hD hS hL)
    · exact lv_icmp_ge hx hb hd hlk (fun q => h1 q H locs ls hP hD hS hL) (fun q => h2 q H locs ls hP hD hS hL)
    · exact lv_icmp_gt hx hb hd hlk (fun q => h1 q H locs ls hP hD hS hL) (fun q => h2 q H locs ls hP hD hS hL)
    · exact lv_icmp_le hx hb hd hlk (fun q => h1 q H locs ls hP hD hS hL) (fun q => h2 q H locs ls hP hD hS hL)
  | ifnull o =>
    cases hil; subst hnx
    obtain ⟨v, r, rfl, hv, h1, h2⟩ := m_pA_inv (f := fun v r => (v = .null → mX p l ev R s m args below meth c D cy ad A nL (MQ below Qc args s 0 0 A) x lv r h) ∧ (¬ v = .null → mX p l ev R s m args below meth c D cy ad A nL (MQ below Qc args s 0 0 A) (pc + 3) lv r h)) hs
    intro H locs ls hP hD hS hL
    rcases hv with rfl | ⟨a, rfl⟩
    · exact lv_ifnullN hx hb hd hlk (h1 rfl H locs ls hP hD hS hL)
    · exact lv_ifnull hx hb hd (h2 (fun q => by cases q) H locs ls hP hD hS hL)
  | ifnonnull o =>
    cases hil; subst hnx
    obtain ⟨v, r, rfl, hv, h1, h2⟩ := m_pA_inv (f := fun v r => (¬ v = .null → mX p l ev R s m args below meth c D cy ad A nL (MQ below Qc args s 0 0 A) x lv r h) ∧ (v = .null → mX p l ev R s m args below meth c D cy ad A nL (MQ below Qc args s 0 0 A) (pc + 3) lv r h)) hs
    intro H locs ls hP hD hS hL
    rcases hv with rfl | ⟨a, rfl⟩
    · exact lv_ifnonnullN hx hb hd (h2 rfl H locs ls hP hD hS hL)
    · exact lv_ifnonnull hx hb hd hlk (h1 (fun q => by cases q) H locs ls hP hD hS hL)
  | tableswitch df lo hi offs =>
    obtain ⟨a, r, rfl, hk⟩ := m_p1_inv hs
    obtain ⟨g1, g2, g3⟩ := hlk
    intro H locs ls hP hD hS hL
    have w := hk H locs ls hP hD hS hL
    unfold m_sw at w
    split at w
    next hq => exact lv_tableOut hx hb hd hq (by omega) w
    next hq =>
      have hlo : ¬ a.toInt < lo := fun q => hq (Or.inl q)
      have hhi : ¬ hi < a.toInt := fun q => hq (Or.inr q)
      have hlt : (a.toInt - lo).toNat < offs.size := by omega
      have he : offs[(a.toInt - lo).toNat]? = some offs[(a.toInt - lo).toNat] := Array.getElem?_eq_getElem hlt
      rw [he] at w
      have hnn := g3 _ (Array.getElem_mem_toList hlt)
      refine lv_tableIn hx hb hd hlo hhi he ?_ w
      show (pc : Int) + offs[(a.toInt - lo).toNat] = (((pc : Int) + offs[(a.toInt - lo).toNat]).toNat : Int)
      omega
  | lookupswitch df ps =>
    obtain ⟨a, r, rfl, hk⟩ := m_p1_inv hs
    obtain ⟨g1, g2, g3⟩ := hlk
    intro H locs ls hP hD hS hL
    have w := hk H locs ls hP hD hS hL
    have hnn := lk_nonneg ps.toList df a.toInt pc g1 g3
    refine lv_lookup hx hb hd g2 rfl ?_ w
    unfold m_lk
    omega
  | ireturn =>
    cases hil; subst hnx
    obtain ⟨a, r, rfl, rfl, hrt, hq⟩ := m_p1_inv hs
    intro H locs ls hP hD hS hL
    unfold m_rt at hrt
    split at hrt
    · exact W.iret (free := A) hx hb hr (fun t ht hW => hret _ _ _ _ hq hP hD hS t ht hW) hS.2.2 hd
    · refine W.zret (free := A) (ty := .boolean) hx hb hr ?_ (fun t ht hW => hret _ _ _ _ hq hP hD hS t ht hW) hS.2.2 hd
      rcases hrt with rfl | rfl
      · decide
      · decide
    · exact hrt.elim
  | areturn =>
    cases hil; subst hnx
    obtain ⟨v, r, rfl, hv, rfl, hra, hq⟩ := m_pA_inv (f := fun v r => r = [] ∧ m_ra rt ∧ Q (some v) h) hs
    intro H locs ls hP hD hS hL
    unfold m_ra at hra
    split at hra
    · refine W.aret (free := A) hx hb hr (Or.inl ⟨_, rfl⟩) ?_ (fun t ht hW => hret _ _ _ _ hq hP hD hS t ht hW) hS.2.2 hd
      rcases hv with rfl | ⟨a, rfl⟩
      · exact Or.inl rfl
      · exact Or.inr ⟨_, rfl⟩
    · exact hra.elim
  | return_ =>
    cases hil; subst hnx
    obtain ⟨rfl, hrt, hq⟩ := hs
    intro H locs ls hP hD hS hL
    exact W.vret (free := A) hx hb (hr.trans hrt) (fun t ht hW => hret _ _ _ _ hq hP hD hS t ht hW) hS.2.2 hd
  | invokestatic idx => 
    cases hil
    exact snd_call_S X0 hd hnx hlk hs
  | invokevirtual idx =>
    cases hil
    exact snd_call_V X0 hd hnx hlk hs.1 hs.2
  | _ => exact hs.elim
end SND
end
section
theorem hs_room (ws : List Cond) (rm : Room) : (headSpec ws rm).room = rm := rfl
set_option maxHeartbeats 400000 in
theorem snd_one {l : Launch} {P : List mM} (hPok : POK P) (d : Nat) (D : va_G) (cy ad : Nat → Nat) (hcal : ∀ (M : Nat) (a : List Value) (h : mH) (Q : Option Value → mH → Prop), Rn P d M a h Q → mMet l P d D cy ad M a h Q)
    (TT : List Cond) (hTT : TT = Tb) (a : List Value) (h : mH) (Q : Option Value → mH → Prop) (sz : Nat) (y : MethodName) (b : ByteArray) (mL : Nat) (rt : Option FieldType) (C : List (Nat × mE)) (hq : mOK P (y, b, mL, rt, C)) (hc : m_c1 a = true) (hlen : a.length ≤ mL) (hw : WP (Rn P d) C rt Q 0 (a ++ List.replicate (mL - a.length) (.long 0)) [] h) :
    Met l y (.code y b mL rt :: TT) (mRm (d + 1)) (mPc D cy ad a h sz) (mQc D cy ad h sz Q) 0 0 (va_A (cW cy ad h) sz) := by
  obtain ⟨hcode, hini, hpl, hmh, hvh, hmL, hins⟩ := hq
  dsimp only at hcode hini hpl hmh hvh hmL hins
  refine Met.ofW (cc := b) (maxL := mL) (ret := rt) hpl rfl ?_
  intro p e s m args below meth c s₁ B hml hv
  obtain ⟨rfl, hsz, hP, hK, hD0⟩ := hv
  have hts0 := atoms_spec (ws := .code y b mL rt :: TT) B.pre
  have hts : ∀ w ∈ Tb, w.before (a.map (cz ad)).toArray s = true := fun w hw => hts0 w (List.mem_cons_of_mem _ (by rw [hTT]; exact hw))
  have hown : s.vm.findClass y.cls = some m.cls := findClass_of_methodNamed B.named
  subst hsz
  have hD := hD0.self (sz := s.heap.size)
  rw [lg_entry_eq, hs_room]
  refine hw (mX p l e (mRm (d + 1)) s m (a.map (cz ad)).toArray below meth c D cy ad (va_A (cW cy ad h) s.heap.size) mL (MQ below (mQc D cy ad h s.heap.size Q) (a.map (cz ad)).toArray s 0 0 (va_A (cW cy ad h) s.heap.size))) ?_ s.heap [] _ hP hD va_S.rf (LV.entry hc hlen)
  intro pc lv st h2 e2 hf hs
  have hret : ∀ (r : Option Value) (h3 : mH) (H : Heap) (locs : List Loc), Q r h3 → va_P D mcl (cW cy ad h3) H → va_D (va_A (cW cy ad h) s.heap.size) (cW cy ad h3) → va_S (va_A (cW cy ad h) s.heap.size) s.heap H locs → ∀ t : State, t.heap = H → s.WarmedH t.vm → mQc D cy ad h s.heap.size Q (a.map (cz ad)).toArray s (.returned (r.map (cz ad))) t := by
    intro r h3 H locs hq hP3 hD3 hS3 t ht hW
    exact ⟨⟨r, h3, rfl, hq, by rw [ht]; exact hP3, va_K.moved hW.alike hK, hD3⟩, hS3.F ht⟩
  have X : mCtx p l (mRm (d + 1)) s m (a.map (cz ad)).toArray meth c D cy ad (va_A (cW cy ad h) s.heap.size) mL d b y.cls rt P (Rn P d) Q (mQc D cy ad h s.heap.size Q) := by
    unfold mCtx
    exact ⟨B.exec, B.bytes, hml, B.returns, hown, hts, B.notSynchronized, hK, fun q hq => Or.inr hq, rfl, hPok, hcal, hret⟩
  exact snd_step X (hins (pc, e2) (mfetch_mem hf)) hs
set_option maxHeartbeats 400000 in
/-- SOUND: a run of the abstract machine is a contract of the machine -/
theorem snd_run {l : Launch} {P : List mM} (hPok : POK P) (D : va_G) (cy ad : Nat → Nat) (d : Nat) : ∀ (M : Nat) (a : List Value) (h : mH) (Q : Option Value → mH → Prop), Rn P d M a h Q → mMet l P d D cy ad M a h Q := by
  induction d with
  | zero =>
    intro M a h Q hr
    exact hr.elim
  | succ d ih =>
    intro M a h Q hr sz y b mL rt C hM
    unfold Rn at hr
    rw [hM] at hr
    exact snd_one hPok d D cy ad ih Tb rfl a h Q sz y b mL rt C (hPok _ (List.mem_of_getElem? hM)) hr.1 (Nat.le_of_ble_eq_true hr.2.1) hr.2.2
end
