section
-- ===== PART A: goes FIRST, ahead of the names: the tables' words, and 'selects' of the private methods out of them =====
/-- a private method of a class that the tables say can be made, by its rows of tables_1 -/
def lw_okq (q : MethodName × Nat) : Prop := (q.1.cls ≠ "java/lang/invoke/MethodHandle" ∧ q.1.cls ≠ "java/lang/invoke/VarHandle") ∧ Cond.instantiable q.1.cls q.2 ∈ tables_1 ∧ Cond.privateMethod q.1 ∈ tables_1 ∧ Cond.instanceMethod q.1 ∈ tables_1
theorem lw_p0 : lw_okq (⟨"ZigzagPieces", "readText", "()I"⟩, 7) := ⟨⟨by decide +kernel, by decide +kernel⟩, List.mem_of_getElem? (i := 18) (by decide +kernel), List.mem_of_getElem? (i := 198) (by decide +kernel), List.mem_of_getElem? (i := 199) (by decide +kernel)⟩
theorem lw_p1 : lw_okq (⟨"ZigzagPieces$Text", "letterAt", "(I)I"⟩, 2) := ⟨⟨by decide +kernel, by decide +kernel⟩, List.mem_of_getElem? (i := 26) (by decide +kernel), List.mem_of_getElem? (i := 221) (by decide +kernel), List.mem_of_getElem? (i := 222) (by decide +kernel)⟩
theorem lw_p2 : lw_okq (⟨"ZigzagPieces$Net", "nearOf", "(I)I"⟩, 3) := ⟨⟨by decide +kernel, by decide +kernel⟩, List.mem_of_getElem? (i := 78) (by decide +kernel), List.mem_of_getElem? (i := 273) (by decide +kernel), List.mem_of_getElem? (i := 274) (by decide +kernel)⟩
theorem lw_p3 : lw_okq (⟨"ZigzagPieces", "layTrial", "()V"⟩, 7) := ⟨⟨by decide +kernel, by decide +kernel⟩, List.mem_of_getElem? (i := 18) (by decide +kernel), List.mem_of_getElem? (i := 292) (by decide +kernel), List.mem_of_getElem? (i := 293) (by decide +kernel)⟩
theorem lw_p4 : lw_okq (⟨"ZigzagPieces", "tellAnew", "()V"⟩, 7) := ⟨⟨by decide +kernel, by decide +kernel⟩, List.mem_of_getElem? (i := 18) (by decide +kernel), List.mem_of_getElem? (i := 310) (by decide +kernel), List.mem_of_getElem? (i := 311) (by decide +kernel)⟩
theorem lw_p5 : lw_okq (⟨"ZigzagPieces$Story", "step", "(II)V"⟩, 3) := ⟨⟨by decide +kernel, by decide +kernel⟩, List.mem_of_getElem? (i := 72) (by decide +kernel), List.mem_of_getElem? (i := 330) (by decide +kernel), List.mem_of_getElem? (i := 331) (by decide +kernel)⟩
theorem lw_p6 : lw_okq (⟨"ZigzagPieces$Bars", "compare", "(III)I"⟩, 4) := ⟨⟨by decide +kernel, by decide +kernel⟩, List.mem_of_getElem? (i := 113) (by decide +kernel), List.mem_of_getElem? (i := 377) (by decide +kernel), List.mem_of_getElem? (i := 378) (by decide +kernel)⟩
theorem lw_p7 : lw_okq (⟨"ZigzagPieces$Kinship", "setSince", "(III)V"⟩, 4) := ⟨⟨by decide +kernel, by decide +kernel⟩, List.mem_of_getElem? (i := 94) (by decide +kernel), List.mem_of_getElem? (i := 396) (by decide +kernel), List.mem_of_getElem? (i := 397) (by decide +kernel)⟩
theorem lw_p8 : lw_okq (⟨"ZigzagPieces$Kinship", "lowerRoots", "(II)V"⟩, 4) := ⟨⟨by decide +kernel, by decide +kernel⟩, List.mem_of_getElem? (i := 94) (by decide +kernel), List.mem_of_getElem? (i := 409) (by decide +kernel), List.mem_of_getElem? (i := 410) (by decide +kernel)⟩
theorem lw_p9 : lw_okq (⟨"ZigzagPieces$Kinship", "setSinceOfAll", "(III)V"⟩, 4) := ⟨⟨by decide +kernel, by decide +kernel⟩, List.mem_of_getElem? (i := 94) (by decide +kernel), List.mem_of_getElem? (i := 413) (by decide +kernel), List.mem_of_getElem? (i := 414) (by decide +kernel)⟩
theorem lw_p10 : lw_okq (⟨"ZigzagPieces$Story", "addOpenBars", "()V"⟩, 3) := ⟨⟨by decide +kernel, by decide +kernel⟩, List.mem_of_getElem? (i := 72) (by decide +kernel), List.mem_of_getElem? (i := 421) (by decide +kernel), List.mem_of_getElem? (i := 422) (by decide +kernel)⟩
theorem lw_p11 : lw_okq (⟨"ZigzagPieces$Shelf", "loseOldest", "()V"⟩, 2) := ⟨⟨by decide +kernel, by decide +kernel⟩, List.mem_of_getElem? (i := 53) (by decide +kernel), List.mem_of_getElem? (i := 479) (by decide +kernel), List.mem_of_getElem? (i := 480) (by decide +kernel)⟩
theorem lw_p12 : lw_okq (⟨"ZigzagPieces", "tryExchange", "(I)Z"⟩, 7) := ⟨⟨by decide +kernel, by decide +kernel⟩, List.mem_of_getElem? (i := 18) (by decide +kernel), List.mem_of_getElem? (i := 500) (by decide +kernel), List.mem_of_getElem? (i := 501) (by decide +kernel)⟩
theorem lw_p13 : lw_okq (⟨"ZigzagPieces", "addEdgesGoing", "()V"⟩, 7) := ⟨⟨by decide +kernel, by decide +kernel⟩, List.mem_of_getElem? (i := 18) (by decide +kernel), List.mem_of_getElem? (i := 537) (by decide +kernel), List.mem_of_getElem? (i := 538) (by decide +kernel)⟩
theorem lw_p14 : lw_okq (⟨"ZigzagPieces", "addPointsGoing", "()V"⟩, 7) := ⟨⟨by decide +kernel, by decide +kernel⟩, List.mem_of_getElem? (i := 18) (by decide +kernel), List.mem_of_getElem? (i := 542) (by decide +kernel), List.mem_of_getElem? (i := 543) (by decide +kernel)⟩
theorem lw_p15 : lw_okq (⟨"ZigzagPieces$Bars", "lastOf", "(II)I"⟩, 4) := ⟨⟨by decide +kernel, by decide +kernel⟩, List.mem_of_getElem? (i := 113) (by decide +kernel), List.mem_of_getElem? (i := 624) (by decide +kernel), List.mem_of_getElem? (i := 625) (by decide +kernel)⟩
def lw_privs_1 : List (MethodName × Nat) := [(⟨"ZigzagPieces", "readText", "()I"⟩, 7), (⟨"ZigzagPieces$Text", "letterAt", "(I)I"⟩, 2), (⟨"ZigzagPieces$Net", "nearOf", "(I)I"⟩, 3), (⟨"ZigzagPieces", "layTrial", "()V"⟩, 7), (⟨"ZigzagPieces", "tellAnew", "()V"⟩, 7), (⟨"ZigzagPieces$Story", "step", "(II)V"⟩, 3), (⟨"ZigzagPieces$Bars", "compare", "(III)I"⟩, 4), (⟨"ZigzagPieces$Kinship", "setSince", "(III)V"⟩, 4), (⟨"ZigzagPieces$Kinship", "lowerRoots", "(II)V"⟩, 4), (⟨"ZigzagPieces$Kinship", "setSinceOfAll", "(III)V"⟩, 4), (⟨"ZigzagPieces$Story", "addOpenBars", "()V"⟩, 3), (⟨"ZigzagPieces$Shelf", "loseOldest", "()V"⟩, 2), (⟨"ZigzagPieces", "tryExchange", "(I)Z"⟩, 7), (⟨"ZigzagPieces", "addEdgesGoing", "()V"⟩, 7), (⟨"ZigzagPieces", "addPointsGoing", "()V"⟩, 7), (⟨"ZigzagPieces$Bars", "lastOf", "(II)I"⟩, 4)]
theorem lw_r1 : ∀ q ∈ lw_privs_1, lw_okq q := List.forall_mem_cons.mpr ⟨lw_p0, List.forall_mem_cons.mpr ⟨lw_p1, List.forall_mem_cons.mpr ⟨lw_p2, List.forall_mem_cons.mpr ⟨lw_p3, List.forall_mem_cons.mpr ⟨lw_p4, List.forall_mem_cons.mpr ⟨lw_p5, List.forall_mem_cons.mpr ⟨lw_p6, List.forall_mem_cons.mpr ⟨lw_p7, List.forall_mem_cons.mpr ⟨lw_p8, List.forall_mem_cons.mpr ⟨lw_p9, List.forall_mem_cons.mpr ⟨lw_p10, List.forall_mem_cons.mpr ⟨lw_p11, List.forall_mem_cons.mpr ⟨lw_p12, List.forall_mem_cons.mpr ⟨lw_p13, List.forall_mem_cons.mpr ⟨lw_p14, List.forall_mem_cons.mpr ⟨lw_p15, fun _ h => absurd h List.not_mem_nil⟩⟩⟩⟩⟩⟩⟩⟩⟩⟩⟩⟩⟩⟩⟩⟩
theorem lw_p16 : lw_okq (⟨"ZigzagPiecesModel", "reads", "()I"⟩, 22) := ⟨⟨by decide +kernel, by decide +kernel⟩, List.mem_of_getElem? (i := 670) (by decide +kernel), List.mem_of_getElem? (i := 758) (by decide +kernel), List.mem_of_getElem? (i := 759) (by decide +kernel)⟩
theorem lw_p17 : lw_okq (⟨"ZigzagPiecesModel", "begins", "()V"⟩, 22) := ⟨⟨by decide +kernel, by decide +kernel⟩, List.mem_of_getElem? (i := 670) (by decide +kernel), List.mem_of_getElem? (i := 762) (by decide +kernel), List.mem_of_getElem? (i := 763) (by decide +kernel)⟩
theorem lw_p18 : lw_okq (⟨"ZigzagPiecesModel", "item", "()I"⟩, 22) := ⟨⟨by decide +kernel, by decide +kernel⟩, List.mem_of_getElem? (i := 670) (by decide +kernel), List.mem_of_getElem? (i := 766) (by decide +kernel), List.mem_of_getElem? (i := 767) (by decide +kernel)⟩
theorem lw_p19 : lw_okq (⟨"ZigzagPiecesModel", "figureAt", "(I)I"⟩, 22) := ⟨⟨by decide +kernel, by decide +kernel⟩, List.mem_of_getElem? (i := 670) (by decide +kernel), List.mem_of_getElem? (i := 770) (by decide +kernel), List.mem_of_getElem? (i := 771) (by decide +kernel)⟩
theorem lw_p20 : lw_okq (⟨"ZigzagPiecesModel", "may", "(I)Z"⟩, 22) := ⟨⟨by decide +kernel, by decide +kernel⟩, List.mem_of_getElem? (i := 670) (by decide +kernel), List.mem_of_getElem? (i := 777) (by decide +kernel), List.mem_of_getElem? (i := 778) (by decide +kernel)⟩
theorem lw_p21 : lw_okq (⟨"ZigzagPiecesModel", "does", "(II)V"⟩, 22) := ⟨⟨by decide +kernel, by decide +kernel⟩, List.mem_of_getElem? (i := 670) (by decide +kernel), List.mem_of_getElem? (i := 793) (by decide +kernel), List.mem_of_getElem? (i := 794) (by decide +kernel)⟩
theorem lw_p22 : lw_okq (⟨"ZigzagPiecesModel", "comes", "(II)V"⟩, 22) := ⟨⟨by decide +kernel, by decide +kernel⟩, List.mem_of_getElem? (i := 670) (by decide +kernel), List.mem_of_getElem? (i := 797) (by decide +kernel), List.mem_of_getElem? (i := 798) (by decide +kernel)⟩
theorem lw_p23 : lw_okq (⟨"ZigzagPiecesModel", "freePiece", "()I"⟩, 22) := ⟨⟨by decide +kernel, by decide +kernel⟩, List.mem_of_getElem? (i := 670) (by decide +kernel), List.mem_of_getElem? (i := 801) (by decide +kernel), List.mem_of_getElem? (i := 802) (by decide +kernel)⟩
theorem lw_p24 : lw_okq (⟨"ZigzagPiecesModel", "makesKin", "(III)V"⟩, 22) := ⟨⟨by decide +kernel, by decide +kernel⟩, List.mem_of_getElem? (i := 670) (by decide +kernel), List.mem_of_getElem? (i := 805) (by decide +kernel), List.mem_of_getElem? (i := 806) (by decide +kernel)⟩
theorem lw_p25 : lw_okq (⟨"ZigzagPiecesModel", "goes", "(II)V"⟩, 22) := ⟨⟨by decide +kernel, by decide +kernel⟩, List.mem_of_getElem? (i := 670) (by decide +kernel), List.mem_of_getElem? (i := 809) (by decide +kernel), List.mem_of_getElem? (i := 810) (by decide +kernel)⟩
theorem lw_p26 : lw_okq (⟨"ZigzagPiecesModel", "kinOf", "(II)I"⟩, 22) := ⟨⟨by decide +kernel, by decide +kernel⟩, List.mem_of_getElem? (i := 670) (by decide +kernel), List.mem_of_getElem? (i := 813) (by decide +kernel), List.mem_of_getElem? (i := 814) (by decide +kernel)⟩
theorem lw_p27 : lw_okq (⟨"ZigzagPiecesModel", "ends", "(II)V"⟩, 22) := ⟨⟨by decide +kernel, by decide +kernel⟩, List.mem_of_getElem? (i := 670) (by decide +kernel), List.mem_of_getElem? (i := 817) (by decide +kernel), List.mem_of_getElem? (i := 818) (by decide +kernel)⟩
theorem lw_p28 : lw_okq (⟨"ZigzagPiecesModel", "joins", "(III)V"⟩, 22) := ⟨⟨by decide +kernel, by decide +kernel⟩, List.mem_of_getElem? (i := 670) (by decide +kernel), List.mem_of_getElem? (i := 821) (by decide +kernel), List.mem_of_getElem? (i := 822) (by decide +kernel)⟩
theorem lw_p29 : lw_okq (⟨"ZigzagPiecesModel", "bindsNear", "(III)V"⟩, 22) := ⟨⟨by decide +kernel, by decide +kernel⟩, List.mem_of_getElem? (i := 670) (by decide +kernel), List.mem_of_getElem? (i := 825) (by decide +kernel), List.mem_of_getElem? (i := 826) (by decide +kernel)⟩
theorem lw_p30 : lw_okq (⟨"ZigzagPiecesModel", "parts", "(III)V"⟩, 22) := ⟨⟨by decide +kernel, by decide +kernel⟩, List.mem_of_getElem? (i := 670) (by decide +kernel), List.mem_of_getElem? (i := 829) (by decide +kernel), List.mem_of_getElem? (i := 830) (by decide +kernel)⟩
theorem lw_p31 : lw_okq (⟨"ZigzagPiecesModel", "reach", "(I)I"⟩, 22) := ⟨⟨by decide +kernel, by decide +kernel⟩, List.mem_of_getElem? (i := 670) (by decide +kernel), List.mem_of_getElem? (i := 833) (by decide +kernel), List.mem_of_getElem? (i := 834) (by decide +kernel)⟩
def lw_privs_2 : List (MethodName × Nat) := [(⟨"ZigzagPiecesModel", "reads", "()I"⟩, 22), (⟨"ZigzagPiecesModel", "begins", "()V"⟩, 22), (⟨"ZigzagPiecesModel", "item", "()I"⟩, 22), (⟨"ZigzagPiecesModel", "figureAt", "(I)I"⟩, 22), (⟨"ZigzagPiecesModel", "may", "(I)Z"⟩, 22), (⟨"ZigzagPiecesModel", "does", "(II)V"⟩, 22), (⟨"ZigzagPiecesModel", "comes", "(II)V"⟩, 22), (⟨"ZigzagPiecesModel", "freePiece", "()I"⟩, 22), (⟨"ZigzagPiecesModel", "makesKin", "(III)V"⟩, 22), (⟨"ZigzagPiecesModel", "goes", "(II)V"⟩, 22), (⟨"ZigzagPiecesModel", "kinOf", "(II)I"⟩, 22), (⟨"ZigzagPiecesModel", "ends", "(II)V"⟩, 22), (⟨"ZigzagPiecesModel", "joins", "(III)V"⟩, 22), (⟨"ZigzagPiecesModel", "bindsNear", "(III)V"⟩, 22), (⟨"ZigzagPiecesModel", "parts", "(III)V"⟩, 22), (⟨"ZigzagPiecesModel", "reach", "(I)I"⟩, 22)]
theorem lw_r2 : ∀ q ∈ lw_privs_2, lw_okq q := List.forall_mem_cons.mpr ⟨lw_p16, List.forall_mem_cons.mpr ⟨lw_p17, List.forall_mem_cons.mpr ⟨lw_p18, List.forall_mem_cons.mpr ⟨lw_p19, List.forall_mem_cons.mpr ⟨lw_p20, List.forall_mem_cons.mpr ⟨lw_p21, List.forall_mem_cons.mpr ⟨lw_p22, List.forall_mem_cons.mpr ⟨lw_p23, List.forall_mem_cons.mpr ⟨lw_p24, List.forall_mem_cons.mpr ⟨lw_p25, List.forall_mem_cons.mpr ⟨lw_p26, List.forall_mem_cons.mpr ⟨lw_p27, List.forall_mem_cons.mpr ⟨lw_p28, List.forall_mem_cons.mpr ⟨lw_p29, List.forall_mem_cons.mpr ⟨lw_p30, List.forall_mem_cons.mpr ⟨lw_p31, fun _ h => absurd h List.not_mem_nil⟩⟩⟩⟩⟩⟩⟩⟩⟩⟩⟩⟩⟩⟩⟩⟩
theorem lw_p32 : lw_okq (⟨"ZigzagPiecesModel", "runs", "(I)Z"⟩, 22) := ⟨⟨by decide +kernel, by decide +kernel⟩, List.mem_of_getElem? (i := 670) (by decide +kernel), List.mem_of_getElem? (i := 845) (by decide +kernel), List.mem_of_getElem? (i := 846) (by decide +kernel)⟩
theorem lw_p33 : lw_okq (⟨"ZigzagPiecesModel", "notes", "()V"⟩, 22) := ⟨⟨by decide +kernel, by decide +kernel⟩, List.mem_of_getElem? (i := 670) (by decide +kernel), List.mem_of_getElem? (i := 849) (by decide +kernel), List.mem_of_getElem? (i := 850) (by decide +kernel)⟩
theorem lw_p34 : lw_okq (⟨"ZigzagPiecesModel", "runsAll", "()Z"⟩, 22) := ⟨⟨by decide +kernel, by decide +kernel⟩, List.mem_of_getElem? (i := 670) (by decide +kernel), List.mem_of_getElem? (i := 861) (by decide +kernel), List.mem_of_getElem? (i := 862) (by decide +kernel)⟩
theorem lw_p35 : lw_okq (⟨"ZigzagPiecesModel", "lowestOf", "(I)I"⟩, 22) := ⟨⟨by decide +kernel, by decide +kernel⟩, List.mem_of_getElem? (i := 670) (by decide +kernel), List.mem_of_getElem? (i := 865) (by decide +kernel), List.mem_of_getElem? (i := 866) (by decide +kernel)⟩
theorem lw_p36 : lw_okq (⟨"ZigzagPiecesModel", "sets", "()V"⟩, 22) := ⟨⟨by decide +kernel, by decide +kernel⟩, List.mem_of_getElem? (i := 670) (by decide +kernel), List.mem_of_getElem? (i := 869) (by decide +kernel), List.mem_of_getElem? (i := 870) (by decide +kernel)⟩
theorem lw_p37 : lw_okq (⟨"ZigzagPiecesModel", "swaps", "(I)V"⟩, 22) := ⟨⟨by decide +kernel, by decide +kernel⟩, List.mem_of_getElem? (i := 670) (by decide +kernel), List.mem_of_getElem? (i := 873) (by decide +kernel), List.mem_of_getElem? (i := 874) (by decide +kernel)⟩
theorem lw_p38 : lw_okq (⟨"ZigzagPiecesModel", "others", "()I"⟩, 22) := ⟨⟨by decide +kernel, by decide +kernel⟩, List.mem_of_getElem? (i := 670) (by decide +kernel), List.mem_of_getElem? (i := 877) (by decide +kernel), List.mem_of_getElem? (i := 878) (by decide +kernel)⟩
theorem lw_p39 : lw_okq (⟨"ZigzagPiecesModel", "edges", "()I"⟩, 22) := ⟨⟨by decide +kernel, by decide +kernel⟩, List.mem_of_getElem? (i := 670) (by decide +kernel), List.mem_of_getElem? (i := 889) (by decide +kernel), List.mem_of_getElem? (i := 890) (by decide +kernel)⟩
theorem lw_p40 : lw_okq (⟨"ZigzagPiecesModel", "letterOf", "(II)I"⟩, 22) := ⟨⟨by decide +kernel, by decide +kernel⟩, List.mem_of_getElem? (i := 670) (by decide +kernel), List.mem_of_getElem? (i := 904) (by decide +kernel), List.mem_of_getElem? (i := 905) (by decide +kernel)⟩
theorem lw_p41 : lw_okq (⟨"ZigzagPiecesModel", "open", "()I"⟩, 22) := ⟨⟨by decide +kernel, by decide +kernel⟩, List.mem_of_getElem? (i := 670) (by decide +kernel), List.mem_of_getElem? (i := 932) (by decide +kernel), List.mem_of_getElem? (i := 933) (by decide +kernel)⟩
theorem lw_p42 : lw_okq (⟨"ZigzagPiecesModel", "lengthOf", "(I)I"⟩, 22) := ⟨⟨by decide +kernel, by decide +kernel⟩, List.mem_of_getElem? (i := 670) (by decide +kernel), List.mem_of_getElem? (i := 936) (by decide +kernel), List.mem_of_getElem? (i := 937) (by decide +kernel)⟩
theorem lw_p43 : lw_okq (⟨"ZigzagPiecesModel", "longest", "()I"⟩, 22) := ⟨⟨by decide +kernel, by decide +kernel⟩, List.mem_of_getElem? (i := 670) (by decide +kernel), List.mem_of_getElem? (i := 952) (by decide +kernel), List.mem_of_getElem? (i := 953) (by decide +kernel)⟩
theorem lw_p44 : lw_okq (⟨"ZigzagPiecesModel", "turnsOver", "()V"⟩, 22) := ⟨⟨by decide +kernel, by decide +kernel⟩, List.mem_of_getElem? (i := 670) (by decide +kernel), List.mem_of_getElem? (i := 964) (by decide +kernel), List.mem_of_getElem? (i := 965) (by decide +kernel)⟩
def lw_privs_3 : List (MethodName × Nat) := [(⟨"ZigzagPiecesModel", "runs", "(I)Z"⟩, 22), (⟨"ZigzagPiecesModel", "notes", "()V"⟩, 22), (⟨"ZigzagPiecesModel", "runsAll", "()Z"⟩, 22), (⟨"ZigzagPiecesModel", "lowestOf", "(I)I"⟩, 22), (⟨"ZigzagPiecesModel", "sets", "()V"⟩, 22), (⟨"ZigzagPiecesModel", "swaps", "(I)V"⟩, 22), (⟨"ZigzagPiecesModel", "others", "()I"⟩, 22), (⟨"ZigzagPiecesModel", "edges", "()I"⟩, 22), (⟨"ZigzagPiecesModel", "letterOf", "(II)I"⟩, 22), (⟨"ZigzagPiecesModel", "open", "()I"⟩, 22), (⟨"ZigzagPiecesModel", "lengthOf", "(I)I"⟩, 22), (⟨"ZigzagPiecesModel", "longest", "()I"⟩, 22), (⟨"ZigzagPiecesModel", "turnsOver", "()V"⟩, 22)]
theorem lw_r3 : ∀ q ∈ lw_privs_3, lw_okq q := List.forall_mem_cons.mpr ⟨lw_p32, List.forall_mem_cons.mpr ⟨lw_p33, List.forall_mem_cons.mpr ⟨lw_p34, List.forall_mem_cons.mpr ⟨lw_p35, List.forall_mem_cons.mpr ⟨lw_p36, List.forall_mem_cons.mpr ⟨lw_p37, List.forall_mem_cons.mpr ⟨lw_p38, List.forall_mem_cons.mpr ⟨lw_p39, List.forall_mem_cons.mpr ⟨lw_p40, List.forall_mem_cons.mpr ⟨lw_p41, List.forall_mem_cons.mpr ⟨lw_p42, List.forall_mem_cons.mpr ⟨lw_p43, List.forall_mem_cons.mpr ⟨lw_p44, fun _ h => absurd h List.not_mem_nil⟩⟩⟩⟩⟩⟩⟩⟩⟩⟩⟩⟩⟩
def lw_privs : List (MethodName × Nat) := lw_privs_1 ++ (lw_privs_2 ++ (lw_privs_3))
def lw_tbl : List Cond := k2_sels lw_privs ++ tables_1
theorem lw_privs_ok : ∀ q ∈ lw_privs, lw_okq q := by
  show ∀ q ∈ lw_privs_1 ++ (lw_privs_2 ++ (lw_privs_3)), lw_okq q
  exact List.forall_mem_append.mpr ⟨lw_r1, List.forall_mem_append.mpr ⟨lw_r2, lw_r3⟩⟩
-- ===== end of PART A; then your names; then what follows =====
/-- the words that stay true at every call -/
def Tb : List Cond := lw_tbl.filter goodWord
theorem Tb_good : ∀ w ∈ Tb, (w.onTables && w.keeps) = true ∨ ∃ ty, w = .arrayClass ty := fun w h => good_of_word (List.mem_filter.mp h).2
theorem Tb_at {w : Cond} (i : Nat) (h : lw_tbl[i]? = some w) (hg : goodWord w = true) : w ∈ Tb := List.mem_filter.mpr ⟨List.mem_of_getElem? h, hg⟩
end
section
/-! An abstract machine over heaps whose references are places in a list. An entry of a method's table: the instruction, the next place, three numbers (target, class, callee ..) -/
abbrev mE : Type := Instr × Nat × Nat × Nat × Nat
abbrev mH : Type := List va_E
def mfetch : List (Nat × mE) → Nat → Option mE
  | [], _ => none
  | q :: t, pc => match Nat.beq q.1 pc with
    | true => some q.2
    | false => mfetch t pc
theorem mfetch_mem {C : List (Nat × mE)} {pc : Nat} {e : mE} (h : mfetch C pc = some e) : (pc, e) ∈ C := by
  induction C with
  | nil => cases h
  | cons q t ih =>
    unfold mfetch at h
    split at h
    next hq =>
      have e1 : q.1 = pc := Nat.eq_of_beq_eq_true hq
      have e2 : q.2 = e := Option.some.inj h
      rw [← e1, ← e2]
      exact List.mem_cons_self
    next => exact List.mem_cons_of_mem _ (ih h)
def m_p1 (st : List Value) (f : Int32 → List Value → Prop) : Prop := match st with
  | .int a :: r => f a r
  | _ => False
def m_p2 (st : List Value) (f : Int32 → Int32 → List Value → Prop) : Prop := match st with
  | .int b :: .int a :: r => f a b r
  | _ => False
def m_pR (st : List Value) (f : Nat → List Value → Prop) : Prop := match st with
  | .ref a :: r => f a r
  | _ => False
/-- a reference or null -/
def m_pA (st : List Value) (f : Value → List Value → Prop) : Prop := match st with
  | .ref a :: r => f (.ref a) r
  | .null :: r => f .null r
  | _ => False
def m_pV (st : List Value) (f : Value → List Value → Prop) : Prop := match st with
  | v :: r => v.category = 1 ∧ f v r
  | _ => False
def m_pVV (st : List Value) (f : Value → Value → List Value → Prop) : Prop := match st with
  | v :: w :: r => v.category = 1 ∧ w.category = 1 ∧ f v w r
  | _ => False
def m_lI (lv : List Value) (j : Nat) (f : Int32 → Prop) : Prop := match lv[j]? with
  | some (.int a) => f a
  | _ => False
def m_lA (lv : List Value) (j : Nat) (f : Value → Prop) : Prop := match lv[j]? with
  | some (.ref a) => f (.ref a)
  | some .null => f .null
  | _ => False
def m_gO (h : mH) (a : Nat) (f : Nat → List Value → Prop) : Prop := match h[a]? with
  | some (.inr o) => f o.1 o.2
  | _ => False
def m_gA (h : mH) (a t : Nat) (f : Nat → (Nat → Int32) → Prop) : Prop := match h[a]? with
  | some (.inl (u, n, .inl g)) => u = t ∧ f n g
  | _ => False
def m_gQ (h : mH) (a : Nat) (f : Nat → (Nat → Option Nat) → Prop) : Prop := match h[a]? with
  | some (.inl (u, n, .inr (.inr (.inr (.inr g))))) => u = 2 ∧ f n g
  | _ => False
/-- how long an array is (its kind is 0, 1 or 2) -/
def m_gL (h : mH) (a : Nat) (f : Nat → Prop) : Prop := match h[a]? with
  | some (.inl (u, n, _)) => u < 3 ∧ f n
  | _ => False
def m_sw (pc : Nat) (d lo hi : Int) (offs : Array Int) (a : Int32) : Nat := if a.toInt < lo ∨ hi < a.toInt then ((pc : Int) + d).toNat else ((pc : Int) + (offs[(a.toInt - lo).toNat]?).getD 0).toNat
def m_lk (pc : Nat) (d : Int) (ps : Array (Int × Int)) (a : Int32) : Nat := ((pc : Int) + Op.lookupswitch.offset ps.toList d a.toInt).toNat
def m_rt (rt : Option FieldType) (a : Int32) : Prop := match rt with
  | some .int => True
  | some .boolean => a = 0 ∨ a = 1
  | _ => False
abbrev mK : Type := Nat → List Value → List Value → mH → Prop
abbrev mC : Type := Nat → List Value → mH → (Option Value → mH → Prop) → Prop
def m_call (k : mK) (cal : mC) (nx x y : Nat) (lv st : List Value) (h : mH) : Prop :=
  y ≤ st.length ∧ ((st.drop y).map fun v => v.category).sum ≤ 8 ∧ ∃ P : Option Value → mH → Prop, cal x (st.take y).reverse h P ∧ ∀ r h', P r h' → k nx lv (r.toList ++ st.drop y) h'
def m_br (c : Prop) (a b : Prop) : Prop := (c → a) ∧ (¬ c → b)
def stp (k : mK) (cal : mC) (rt : Option FieldType) (Q : Option Value → mH → Prop) (pc : Nat) (e : mE) (lv st : List Value) (h : mH) : Prop :=
  match e.1 with
  | .aconst_null => k e.2.1 lv (.null :: st) h
  | .iconst n => k e.2.1 lv (.int (Int32.ofInt n) :: st) h
  | .bipush n => k e.2.1 lv (.int (Int8.ofInt n).toInt32 :: st) h
  | .sipush n => k e.2.1 lv (.int (Int16.ofInt n).toInt32 :: st) h
  | .ldc _ => k e.2.1 lv (.int (nI e.2.2.1) :: st) h
  | .iload j => m_lI lv j fun a => k e.2.1 lv (.int a :: st) h
  | .iload_n j => m_lI lv j.val fun a => k e.2.1 lv (.int a :: st) h
  | .aload j => m_lA lv j fun v => k e.2.1 lv (v :: st) h
  | .aload_n j => m_lA lv j.val fun v => k e.2.1 lv (v :: st) h
  | .istore j => m_p1 st fun a r => j < lv.length ∧ k e.2.1 (lv.set j (.int a)) r h
  | .istore_n j => m_p1 st fun a r => j.val < lv.length ∧ k e.2.1 (lv.set j.val (.int a)) r h
  | .astore j => m_pA st fun v r => j < lv.length ∧ k e.2.1 (lv.set j v) r h
  | .astore_n j => m_pA st fun v r => j.val < lv.length ∧ k e.2.1 (lv.set j.val v) r h
  | .iinc j n => m_lI lv j fun a => k e.2.1 (lv.set j (.int (a + Int32.ofInt n))) st h
  | .iadd => m_p2 st fun a b r => k e.2.1 lv (.int (a + b) :: r) h
  | .isub => m_p2 st fun a b r => k e.2.1 lv (.int (a - b) :: r) h
  | .imul => m_p2 st fun a b r => k e.2.1 lv (.int (a * b) :: r) h
  | .iand => m_p2 st fun a b r => k e.2.1 lv (.int (a &&& b) :: r) h
  | .ior => m_p2 st fun a b r => k e.2.1 lv (.int (a ||| b) :: r) h
  | .ixor => m_p2 st fun a b r => k e.2.1 lv (.int (a ^^^ b) :: r) h
  | .idiv => m_p2 st fun a b r => ¬ b = 0 ∧ k e.2.1 lv (.int (a / b) :: r) h
  | .irem => m_p2 st fun a b r => ¬ b = 0 ∧ k e.2.1 lv (.int (a - a / b * b) :: r) h
  | .ishl => m_p2 st fun a b r => k e.2.1 lv (.int (a <<< (b &&& 31)) :: r) h
  | .ishr => m_p2 st fun a b r => k e.2.1 lv (.int (a >>> (b &&& 31)) :: r) h
  | .iushr => m_p2 st fun a b r => k e.2.1 lv (.int (a.toUInt32 >>> (b.toUInt32 &&& Int32.toUInt32 31)).toInt32 :: r) h
  | .i2b => m_p1 st fun a r => k e.2.1 lv (.int a.toInt8.toInt32 :: r) h
  | .dup => m_pV st fun v r => k e.2.1 lv (v :: v :: r) h
  | .dup2 => m_pVV st fun v w r => k e.2.1 lv (v :: w :: v :: w :: r) h
  | .pop => m_pV st fun _ r => k e.2.1 lv r h
  | .getfield _ => m_pR st fun a r => m_gO h a fun ci fs => ci = e.2.2.1 ∧ ∃ v, fs[e.2.2.2.1]? = some v ∧ k e.2.1 lv (v :: r) h
  | .putfield _ => m_p1 st fun v r => m_pR r fun a r => m_gO h a fun ci fs => ci = e.2.2.1 ∧ e.2.2.2.1 < fs.length ∧ k e.2.1 lv r (h.set a (.inr (ci, fs.set e.2.2.2.1 (.int v))))
  | .iaload => m_p1 st fun i r => m_pR r fun a r => m_gA h a 0 fun n f => vp_in i n ∧ k e.2.1 lv (.int (f i.toNatClampNeg) :: r) h
  | .baload => m_p1 st fun i r => m_pR r fun a r => m_gA h a 1 fun n f => vp_in i n ∧ k e.2.1 lv (.int (f i.toNatClampNeg) :: r) h
  | .iastore => m_p1 st fun v r => m_p1 r fun i r => m_pR r fun a r => m_gA h a 0 fun n f => vp_in i n ∧ k e.2.1 lv r (h.set a (.inl (0, n, .inl (upd f i.toNatClampNeg v))))
  | .bastore => m_p1 st fun v r => m_p1 r fun i r => m_pR r fun a r => m_gA h a 1 fun n f => vp_in i n ∧ k e.2.1 lv r (h.set a (.inl (1, n, .inl (upd f i.toNatClampNeg (vp_nar .byte v)))))
  | .aaload => m_p1 st fun i r => m_pR r fun a r => m_gQ h a fun n g => vp_in i n ∧ k e.2.1 lv (va_rf (g i.toNatClampNeg) :: r) h
  | .aastore => m_pR st fun v r => m_p1 r fun i r => m_pR r fun a r => m_gQ h a fun n g => m_gO h v fun ci _ => ci = 3 ∧ vp_in i n ∧ k e.2.1 lv r (h.set a (.inl (2, n, .inr (.inr (.inr (.inr (va_up g i.toNatClampNeg (some v))))))))
  | .arraylength => m_pR st fun a r => m_gL h a fun n => k e.2.1 lv (.int (nI n) :: r) h
  | .goto _ => k e.2.2.1 lv st h
  | .ifCond .eq _ => m_p1 st fun a r => (a = 0 → k e.2.2.1 lv r h) ∧ (¬ a = 0 → k e.2.1 lv r h)
  | .ifCond .ne _ => m_p1 st fun a r => (¬ a = 0 → k e.2.2.1 lv r h) ∧ (a = 0 → k e.2.1 lv r h)
  | .ifCond .lt _ => m_p1 st fun a r => (a < 0 → k e.2.2.1 lv r h) ∧ (¬ a < 0 → k e.2.1 lv r h)
  | .ifCond .ge _ => m_p1 st fun a r => (0 ≤ a → k e.2.2.1 lv r h) ∧ (¬ 0 ≤ a → k e.2.1 lv r h)
  | .ifCond .gt _ => m_p1 st fun a r => (0 < a → k e.2.2.1 lv r h) ∧ (¬ 0 < a → k e.2.1 lv r h)
  | .ifCond .le _ => m_p1 st fun a r => (a ≤ 0 → k e.2.2.1 lv r h) ∧ (¬ a ≤ 0 → k e.2.1 lv r h)
  | .if_icmp .eq _ => m_p2 st fun a b r => (a = b → k e.2.2.1 lv r h) ∧ (¬ a = b → k e.2.1 lv r h)
  | .if_icmp .ne _ => m_p2 st fun a b r => (¬ a = b → k e.2.2.1 lv r h) ∧ (a = b → k e.2.1 lv r h)
  | .if_icmp .lt _ => m_p2 st fun a b r => (a < b → k e.2.2.1 lv r h) ∧ (¬ a < b → k e.2.1 lv r h)
  | .if_icmp .ge _ => m_p2 st fun a b r => (b ≤ a → k e.2.2.1 lv r h) ∧ (¬ b ≤ a → k e.2.1 lv r h)
  | .if_icmp .gt _ => m_p2 st fun a b r => (b < a → k e.2.2.1 lv r h) ∧ (¬ b < a → k e.2.1 lv r h)
  | .if_icmp .le _ => m_p2 st fun a b r => (a ≤ b → k e.2.2.1 lv r h) ∧ (¬ a ≤ b → k e.2.1 lv r h)
  | .ifnull _ => m_pA st fun v r => (v = .null → k e.2.2.1 lv r h) ∧ (¬ v = .null → k e.2.1 lv r h)
  | .ifnonnull _ => m_pA st fun v r => (¬ v = .null → k e.2.2.1 lv r h) ∧ (v = .null → k e.2.1 lv r h)
  | .tableswitch d lo hi offs => m_p1 st fun a r => k (m_sw pc d lo hi offs a) lv r h
  | .lookupswitch d ps => m_p1 st fun a r => k (m_lk pc d ps a) lv r h
  | .ireturn => m_p1 st fun a r => r = [] ∧ m_rt rt a ∧ Q (some (.int a)) h
  | .areturn => m_pA st fun v r => r = [] ∧ Q (some v) h
  | .return_ => st = [] ∧ Q none h
  | .invokestatic _ => m_call k cal e.2.1 e.2.2.1 e.2.2.2.1 lv st h
  | .invokevirtual _ => (∃ (b : Nat) (As : List Value), (st.take e.2.2.2.1).reverse = .ref b :: As ∧ m_gO h b fun ci _ => ci = e.2.2.2.2) ∧ m_call k cal e.2.1 e.2.2.1 e.2.2.2.1 lv st h
  | _ => False
theorem m_p1_mono {st : List Value} {f g : Int32 → List Value → Prop} (h : ∀ a r, f a r → g a r) : m_p1 st f → m_p1 st g := by
  unfold m_p1; split
  · exact h _ _
  · exact id
theorem m_p2_mono {st : List Value} {f g : Int32 → Int32 → List Value → Prop} (h : ∀ a b r, f a b r → g a b r) : m_p2 st f → m_p2 st g := by
  unfold m_p2; split
  · exact h _ _ _
  · exact id
theorem m_pR_mono {st : List Value} {f g : Nat → List Value → Prop} (h : ∀ a r, f a r → g a r) : m_pR st f → m_pR st g := by
  unfold m_pR; split
  · exact h _ _
  · exact id
theorem m_pA_mono {st : List Value} {f g : Value → List Value → Prop} (h : ∀ a r, f a r → g a r) : m_pA st f → m_pA st g := by
  unfold m_pA; split
  · exact h _ _
  · exact h _ _
  · exact id
theorem m_pV_mono {st : List Value} {f g : Value → List Value → Prop} (h : ∀ a r, f a r → g a r) : m_pV st f → m_pV st g := by
  unfold m_pV; split
  · exact And.imp_right (h _ _)
  · exact id
theorem m_pVV_mono {st : List Value} {f g : Value → Value → List Value → Prop} (h : ∀ a b r, f a b r → g a b r) : m_pVV st f → m_pVV st g := by
  unfold m_pVV; split
  · exact And.imp_right (And.imp_right (h _ _ _))
  · exact id
theorem m_lI_mono {lv : List Value} {j : Nat} {f g : Int32 → Prop} (h : ∀ a, f a → g a) : m_lI lv j f → m_lI lv j g := by
  unfold m_lI; split
  · exact h _
  · exact id
theorem m_lA_mono {lv : List Value} {j : Nat} {f g : Value → Prop} (h : ∀ a, f a → g a) : m_lA lv j f → m_lA lv j g := by
  unfold m_lA; split
  · exact h _
  · exact h _
  · exact id
theorem m_gO_mono {hp : mH} {a : Nat} {f g : Nat → List Value → Prop} (h : ∀ c fs, f c fs → g c fs) : m_gO hp a f → m_gO hp a g := by
  unfold m_gO; split
  · exact h _ _
  · exact id
theorem m_gA_mono {hp : mH} {a t : Nat} {f g : Nat → (Nat → Int32) → Prop} (h : ∀ c fs, f c fs → g c fs) : m_gA hp a t f → m_gA hp a t g := by
  unfold m_gA; split
  · exact And.imp_right (h _ _)
  · exact id
theorem m_gQ_mono {hp : mH} {a : Nat} {f g : Nat → (Nat → Option Nat) → Prop} (h : ∀ c fs, f c fs → g c fs) : m_gQ hp a f → m_gQ hp a g := by
  unfold m_gQ; split
  · exact And.imp_right (h _ _)
  · exact id
theorem m_gL_mono {hp : mH} {a : Nat} {f g : Nat → Prop} (h : ∀ c, f c → g c) : m_gL hp a f → m_gL hp a g := by
  unfold m_gL; split
  · exact And.imp_right (h _)
  · exact id
theorem m_call_mono {k k' : mK} {cal : mC} {nx x y : Nat} {lv st : List Value} {h : mH} (hk : ∀ pc lv st h, k pc lv st h → k' pc lv st h) : m_call k cal nx x y lv st h → m_call k' cal nx x y lv st h :=
  fun ⟨h1, h2, P, h3, h4⟩ => ⟨h1, h2, P, h3, fun r h' q => hk _ _ _ _ (h4 r h' q)⟩
set_option maxHeartbeats 1000000 in
theorem stp_mono {k k' : mK} {cal : mC} {rt : Option FieldType} {Q : Option Value → mH → Prop} {pc : Nat} {e : mE} {lv st : List Value} {h : mH} (hk : ∀ pc lv st h, k pc lv st h → k' pc lv st h) : stp k cal rt Q pc e lv st h → stp k' cal rt Q pc e lv st h := by
  obtain ⟨i, nx, x, y, z⟩ := e
  cases i with
  | aconst_null => exact hk _ _ _ _
  | iconst n => exact hk _ _ _ _
  | bipush n => exact hk _ _ _ _
  | sipush n => exact hk _ _ _ _
  | ldc n => exact hk _ _ _ _
  | iload j => exact m_lI_mono fun _ => hk _ _ _ _
  | iload_n j => exact m_lI_mono fun _ => hk _ _ _ _
  | aload j => exact m_lA_mono (f := fun v => k nx lv (v :: st) h) (g := fun v => k' nx lv (v :: st) h) fun _ => hk _ _ _ _
  | aload_n j => exact m_lA_mono (f := fun v => k nx lv (v :: st) h) (g := fun v => k' nx lv (v :: st) h) fun _ => hk _ _ _ _
  | istore j => exact m_p1_mono fun _ _ => And.imp_right (hk _ _ _ _)
  | istore_n j => exact m_p1_mono fun _ _ => And.imp_right (hk _ _ _ _)
  | astore j => exact m_pA_mono (f := fun v r => j < lv.length ∧ k nx (lv.set j v) r h) (g := fun v r => j < lv.length ∧ k' nx (lv.set j v) r h) fun _ _ => And.imp_right (hk _ _ _ _)
  | astore_n j => exact m_pA_mono (f := fun v r => j.val < lv.length ∧ k nx (lv.set j.val v) r h) (g := fun v r => j.val < lv.length ∧ k' nx (lv.set j.val v) r h) fun _ _ => And.imp_right (hk _ _ _ _)
  | iinc j n => exact m_lI_mono fun _ => hk _ _ _ _
  | iadd => exact m_p2_mono fun _ _ _ => hk _ _ _ _
  | isub => exact m_p2_mono fun _ _ _ => hk _ _ _ _
  | imul => exact m_p2_mono fun _ _ _ => hk _ _ _ _
  | iand => exact m_p2_mono fun _ _ _ => hk _ _ _ _
  | ior => exact m_p2_mono fun _ _ _ => hk _ _ _ _
  | ixor => exact m_p2_mono fun _ _ _ => hk _ _ _ _
  | idiv => exact m_p2_mono fun _ _ _ => And.imp_right (hk _ _ _ _)
  | irem => exact m_p2_mono fun _ _ _ => And.imp_right (hk _ _ _ _)
  | ishl => exact m_p2_mono fun _ _ _ => hk _ _ _ _
  | ishr => exact m_p2_mono fun _ _ _ => hk _ _ _ _
  | iushr => exact m_p2_mono fun _ _ _ => hk _ _ _ _
  | i2b => exact m_p1_mono fun _ _ => hk _ _ _ _
  | dup => exact m_pV_mono fun _ _ => hk _ _ _ _
  | dup2 => exact m_pVV_mono fun _ _ _ => hk _ _ _ _
  | pop => exact m_pV_mono fun _ _ => hk _ _ _ _
  | getfield n => exact m_pR_mono fun _ _ => m_gO_mono fun _ _ => And.imp_right (fun ⟨v, h1, h2⟩ => ⟨v, h1, hk _ _ _ _ h2⟩)
  | putfield n => exact m_p1_mono fun _ _ => m_pR_mono fun _ _ => m_gO_mono fun _ _ => And.imp_right (And.imp_right (hk _ _ _ _))
  | iaload => exact m_p1_mono fun _ _ => m_pR_mono fun _ _ => m_gA_mono fun _ _ => And.imp_right (hk _ _ _ _)
  | baload => exact m_p1_mono fun _ _ => m_pR_mono fun _ _ => m_gA_mono fun _ _ => And.imp_right (hk _ _ _ _)
  | iastore => exact m_p1_mono fun _ _ => m_p1_mono fun _ _ => m_pR_mono fun _ _ => m_gA_mono fun _ _ => And.imp_right (hk _ _ _ _)
  | bastore => exact m_p1_mono fun _ _ => m_p1_mono fun _ _ => m_pR_mono fun _ _ => m_gA_mono fun _ _ => And.imp_right (hk _ _ _ _)
  | aaload => exact m_p1_mono fun _ _ => m_pR_mono fun _ _ => m_gQ_mono fun _ _ => And.imp_right (hk _ _ _ _)
  | aastore => exact m_pR_mono fun _ _ => m_p1_mono fun _ _ => m_pR_mono fun _ _ => m_gQ_mono fun _ _ => m_gO_mono fun _ _ => And.imp_right (And.imp_right (hk _ _ _ _))
  | arraylength => exact m_pR_mono fun _ _ => m_gL_mono fun _ => hk _ _ _ _
  | goto n => exact hk _ _ _ _
  | ifCond c n => cases c <;> exact m_p1_mono fun _ _ => And.imp (fun h q => hk _ _ _ _ (h q)) (fun h q => hk _ _ _ _ (h q))
  | if_icmp c n => cases c <;> exact m_p2_mono fun _ _ _ => And.imp (fun h q => hk _ _ _ _ (h q)) (fun h q => hk _ _ _ _ (h q))
  | ifnull n => exact m_pA_mono (f := fun v r => (v = .null → k x lv r h) ∧ (¬ v = .null → k nx lv r h)) (g := fun v r => (v = .null → k' x lv r h) ∧ (¬ v = .null → k' nx lv r h)) fun _ _ => And.imp (fun h q => hk _ _ _ _ (h q)) (fun h q => hk _ _ _ _ (h q))
  | ifnonnull n => exact m_pA_mono (f := fun v r => (¬ v = .null → k x lv r h) ∧ (v = .null → k nx lv r h)) (g := fun v r => (¬ v = .null → k' x lv r h) ∧ (v = .null → k' nx lv r h)) fun _ _ => And.imp (fun h q => hk _ _ _ _ (h q)) (fun h q => hk _ _ _ _ (h q))
  | tableswitch d lo hi offs => exact m_p1_mono fun _ _ => hk _ _ _ _
  | lookupswitch d ps => exact m_p1_mono fun _ _ => hk _ _ _ _
  | invokestatic n => exact m_call_mono hk
  | invokevirtual n => exact And.imp_right (m_call_mono hk)
  | _ => exact id
/-- what a method's code does from a place on: the least predicate that is closed under its instructions -/
def WP (cal : mC) (C : List (Nat × mE)) (rt : Option FieldType) (Q : Option Value → mH → Prop) (pc : Nat) (lv st : List Value) (h : mH) : Prop :=
  ∀ X : mK, (∀ pc lv st h e, mfetch C pc = some e → stp X cal rt Q pc e lv st h → X pc lv st h) → X pc lv st h
theorem WP.in {cal : mC} {C : List (Nat × mE)} {rt : Option FieldType} {Q : Option Value → mH → Prop} {pc : Nat} {lv st : List Value} {h : mH} {e : mE} (hf : mfetch C pc = some e) (hs : stp (WP cal C rt Q) cal rt Q pc e lv st h) : WP cal C rt Q pc lv st h :=
  fun X hX => hX pc lv st h e hf (stp_mono (fun _ _ _ _ w => w X hX) hs)
/-- a method: its name, code, locals, what it gives, its table -/
abbrev mM : Type := MethodName × ByteArray × Nat × Option FieldType × List (Nat × mE)
def m_c1 (a : List Value) : Bool := a.all fun v => Nat.beq v.category 1
def Rn (P : List mM) : Nat → mC
  | 0, _, _, _, _ => False
  | d + 1, M, a, h, Q => match P[M]? with
    | some (_, _, mL, rt, C) => m_c1 a = true ∧ Nat.ble a.length mL = true ∧ WP (Rn P d) C rt Q 0 (a ++ List.replicate (mL - a.length) (.long 0)) [] h
    | none => False
theorem Rn.in {P : List mM} {d M : Nat} {a : List Value} {h : mH} {Q : Option Value → mH → Prop} {y : MethodName} {b : ByteArray} {mL : Nat} {rt : Option FieldType} {C : List (Nat × mE)} (hM : P[M]? = some (y, b, mL, rt, C)) (h1 : m_c1 a = true) (h2 : Nat.ble a.length mL = true) (hw : WP (Rn P d) C rt Q 0 (a ++ List.replicate (mL - a.length) (.long 0)) [] h) : Rn P (d + 1) M a h Q := by
  unfold Rn
  rw [hM]
  exact ⟨h1, h2, hw⟩
end
section
/-! the classes whose objects the worlds hold (printed by wip/whole/gen.py) -/
def RX0 : String := "ZigzagPieces$Bars"
def TX0 : u_T := fun k => match k with
  | 0 => ("ZigzagPieces$Bars", "begins", "[I", true)
  | 1 => ("ZigzagPieces$Bars", "ends", "[I", true)
  | 2 => ("ZigzagPieces$Bars", "size", "I", false)
  | _ => ("ZigzagPieces$Bars", "open", "I", false)
def tyX0 : Nat → FieldType := fun k => match k with
  | 0 => .array .int
  | 1 => .array .int
  | 2 => .int
  | _ => .int
theorem nmX0 : ∀ a, a < 4 → ∀ b, b < 4 → a ≠ b → (TX0 a).2.1 ≠ (TX0 b).2.1 := by decide +kernel
theorem tyX0_ok : ∀ k, k < 4 → parseFieldDescriptor (TX0 k).2.2.1 = some (tyX0 k) := by decide +kernel
def RX1 : String := "ZigzagPieces$Kinship"
def TX1 : u_T := fun k => match k with
  | 0 => ("ZigzagPieces$Kinship", "roots", "[I", true)
  | 1 => ("ZigzagPieces$Kinship", "since", "[I", true)
  | 2 => ("ZigzagPieces$Kinship", "withFirst", "[I", true)
  | _ => ("ZigzagPieces$Kinship", "withSecond", "[I", true)
def tyX1 : Nat → FieldType := fun k => match k with
  | 0 => .array .int
  | 1 => .array .int
  | 2 => .array .int
  | _ => .array .int
theorem nmX1 : ∀ a, a < 4 → ∀ b, b < 4 → a ≠ b → (TX1 a).2.1 ≠ (TX1 b).2.1 := by decide +kernel
theorem tyX1_ok : ∀ k, k < 4 → parseFieldDescriptor (TX1 k).2.2.1 = some (tyX1 k) := by decide +kernel
def RX2 : String := "ZigzagPieces$Net"
def TX2 : u_T := fun k => match k with
  | 0 => ("ZigzagPieces$Net", "near", "[I", true)
  | 1 => ("ZigzagPieces$Net", "points", "I", false)
  | _ => ("ZigzagPieces$Net", "edges", "I", false)
def tyX2 : Nat → FieldType := fun k => match k with
  | 0 => .array .int
  | 1 => .int
  | _ => .int
theorem nmX2 : ∀ a, a < 3 → ∀ b, b < 3 → a ≠ b → (TX2 a).2.1 ≠ (TX2 b).2.1 := by decide +kernel
theorem tyX2_ok : ∀ k, k < 3 → parseFieldDescriptor (TX2 k).2.2.1 = some (tyX2 k) := by decide +kernel
def RX3 : String := "ZigzagPieces$Row"
def TX3 : u_T := fun k => match k with
  | 0 => ("ZigzagPieces$Row", "acts", "[I", true)
  | _ => ("ZigzagPieces$Row", "size", "I", false)
def tyX3 : Nat → FieldType := fun k => match k with
  | 0 => .array .int
  | _ => .int
theorem nmX3 : ∀ a, a < 2 → ∀ b, b < 2 → a ≠ b → (TX3 a).2.1 ≠ (TX3 b).2.1 := by decide +kernel
theorem tyX3_ok : ∀ k, k < 2 → parseFieldDescriptor (TX3 k).2.2.1 = some (tyX3 k) := by decide +kernel
def RX4 : String := "ZigzagPieces$Shelf"
def TX4 : u_T := fun k => match k with
  | 0 => ("ZigzagPieces$Shelf", "rows", "[LZigzagPieces$Row;", true)
  | _ => ("ZigzagPieces$Shelf", "size", "I", false)
def tyX4 : Nat → FieldType := fun k => match k with
  | 0 => .array (.object "ZigzagPieces$Row")
  | _ => .int
theorem nmX4 : ∀ a, a < 2 → ∀ b, b < 2 → a ≠ b → (TX4 a).2.1 ≠ (TX4 b).2.1 := by decide +kernel
theorem tyX4_ok : ∀ k, k < 2 → parseFieldDescriptor (TX4 k).2.2.1 = some (tyX4 k) := by decide +kernel
def RX5 : String := "ZigzagPieces$Story"
def TX5 : u_T := fun k => match k with
  | 0 => ("ZigzagPieces$Story", "net", "LZigzagPieces$Net;", true)
  | 1 => ("ZigzagPieces$Story", "kinship", "LZigzagPieces$Kinship;", true)
  | _ => ("ZigzagPieces$Story", "bars", "LZigzagPieces$Bars;", true)
def tyX5 : Nat → FieldType := fun k => match k with
  | 0 => .object "ZigzagPieces$Net"
  | 1 => .object "ZigzagPieces$Kinship"
  | _ => .object "ZigzagPieces$Bars"
theorem nmX5 : ∀ a, a < 3 → ∀ b, b < 3 → a ≠ b → (TX5 a).2.1 ≠ (TX5 b).2.1 := by decide +kernel
theorem tyX5_ok : ∀ k, k < 3 → parseFieldDescriptor (TX5 k).2.2.1 = some (tyX5 k) := by decide +kernel
def RX6 : String := "ZigzagPieces$Text"
def TX6 : u_T := fun k => match k with
  | 0 => ("ZigzagPieces$Text", "letters", "[I", true)
  | _ => ("ZigzagPieces$Text", "length", "I", false)
def tyX6 : Nat → FieldType := fun k => match k with
  | 0 => .array .int
  | _ => .int
theorem nmX6 : ∀ a, a < 2 → ∀ b, b < 2 → a ≠ b → (TX6 a).2.1 ≠ (TX6 b).2.1 := by decide +kernel
theorem tyX6_ok : ∀ k, k < 2 → parseFieldDescriptor (TX6 k).2.2.1 = some (tyX6 k) := by decide +kernel
def RX7 : String := "ZigzagPieces"
def TX7 : u_T := fun k => match k with
  | 0 => ("ZigzagPieces", "text", "LZigzagPieces$Text;", true)
  | 1 => ("ZigzagPieces", "row", "LZigzagPieces$Row;", true)
  | 2 => ("ZigzagPieces", "trial", "LZigzagPieces$Row;", true)
  | 3 => ("ZigzagPieces", "undoable", "LZigzagPieces$Shelf;", true)
  | 4 => ("ZigzagPieces", "kept", "LZigzagPieces$Shelf;", true)
  | 5 => ("ZigzagPieces", "now", "LZigzagPieces$Story;", true)
  | _ => ("ZigzagPieces", "aside", "LZigzagPieces$Story;", true)
def tyX7 : Nat → FieldType := fun k => match k with
  | 0 => .object "ZigzagPieces$Text"
  | 1 => .object "ZigzagPieces$Row"
  | 2 => .object "ZigzagPieces$Row"
  | 3 => .object "ZigzagPieces$Shelf"
  | 4 => .object "ZigzagPieces$Shelf"
  | 5 => .object "ZigzagPieces$Story"
  | _ => .object "ZigzagPieces$Story"
theorem nmX7 : ∀ a, a < 7 → ∀ b, b < 7 → a ≠ b → (TX7 a).2.1 ≠ (TX7 b).2.1 := by decide +kernel
theorem tyX7_ok : ∀ k, k < 7 → parseFieldDescriptor (TX7 k).2.2.1 = some (tyX7 k) := by decide +kernel
def RX8 : String := "ZigzagPiecesModel"
def TX8 : u_T := fun k => match k with
  | 0 => ("ZigzagPiecesModel", "thrown", "I", false)
  | 1 => ("ZigzagPiecesModel", "text", "[B", true)
  | 2 => ("ZigzagPiecesModel", "letters", "I", false)
  | 3 => ("ZigzagPiecesModel", "s", "[I", true)
  | 4 => ("ZigzagPiecesModel", "past", "[I", true)
  | 5 => ("ZigzagPiecesModel", "undos", "I", false)
  | 6 => ("ZigzagPiecesModel", "kept", "[I", true)
  | 7 => ("ZigzagPiecesModel", "keeps", "I", false)
  | 8 => ("ZigzagPiecesModel", "there", "I", false)
  | 9 => ("ZigzagPiecesModel", "beside", "[I", true)
  | 10 => ("ZigzagPiecesModel", "pieceOf", "[I", true)
  | 11 => ("ZigzagPiecesModel", "pieces", "I", false)
  | 12 => ("ZigzagPiecesModel", "root", "[I", true)
  | 13 => ("ZigzagPiecesModel", "kin", "[I", true)
  | 14 => ("ZigzagPiecesModel", "begin", "[I", true)
  | 15 => ("ZigzagPiecesModel", "end", "[I", true)
  | 16 => ("ZigzagPiecesModel", "bars", "I", false)
  | 17 => ("ZigzagPiecesModel", "told", "[I", true)
  | 18 => ("ZigzagPiecesModel", "at", "I", false)
  | 19 => ("ZigzagPiecesModel", "wasBegin", "[I", true)
  | 20 => ("ZigzagPiecesModel", "wasEnd", "[I", true)
  | _ => ("ZigzagPiecesModel", "wasBars", "I", false)
def tyX8 : Nat → FieldType := fun k => match k with
  | 0 => .int
  | 1 => .array .byte
  | 2 => .int
  | 3 => .array .int
  | 4 => .array .int
  | 5 => .int
  | 6 => .array .int
  | 7 => .int
  | 8 => .int
  | 9 => .array .int
  | 10 => .array .int
  | 11 => .int
  | 12 => .array .int
  | 13 => .array .int
  | 14 => .array .int
  | 15 => .array .int
  | 16 => .int
  | 17 => .array .int
  | 18 => .int
  | 19 => .array .int
  | 20 => .array .int
  | _ => .int
theorem nmX8 : ∀ a, a < 22 → ∀ b, b < 22 → a ≠ b → (TX8 a).2.1 ≠ (TX8 b).2.1 := by decide +kernel
theorem tyX8_ok : ∀ k, k < 22 → parseFieldDescriptor (TX8 k).2.2.1 = some (tyX8 k) := by decide +kernel
theorem Tb_all (ws : List Cond) (ix : List Nat) (h : ws.map some = ix.map (fun i => lw_tbl[i]?)) (hg : ws.all goodWord = true) : ∀ w ∈ ws, w ∈ Tb := by
  intro w hw
  have h1 : some w ∈ ws.map some := List.mem_map.mpr ⟨w, hw, rfl⟩
  rw [h] at h1
  obtain ⟨i, -, hi⟩ := List.mem_map.mp h1
  exact Tb_at i hi (List.all_eq_true.mp hg w hw)
set_option maxRecDepth 20000 in
theorem inX0 : ∀ w ∈ u_ws RX0 TX0 4, w ∈ Tb := Tb_all _ [167, 169, 171, 173] rfl rfl
set_option maxRecDepth 20000 in
theorem inX1 : ∀ w ∈ u_ws RX1 TX1 4, w ∈ Tb := Tb_all _ [148, 150, 152, 154] rfl rfl
set_option maxRecDepth 20000 in
theorem inX2 : ∀ w ∈ u_ws RX2 TX2 3, w ∈ Tb := Tb_all _ [131, 133, 135] rfl rfl
set_option maxRecDepth 20000 in
theorem inX3 : ∀ w ∈ u_ws RX3 TX3 2, w ∈ Tb := Tb_all _ [92, 94] rfl rfl
set_option maxRecDepth 20000 in
theorem inX4 : ∀ w ∈ u_ws RX4 TX4 2, w ∈ Tb := Tb_all _ [111, 113] rfl rfl
set_option maxRecDepth 20000 in
theorem inX5 : ∀ w ∈ u_ws RX5 TX5 3, w ∈ Tb := Tb_all _ [182, 184, 186] rfl rfl
set_option maxRecDepth 20000 in
theorem inX6 : ∀ w ∈ u_ws RX6 TX6 2, w ∈ Tb := Tb_all _ [78, 80] rfl rfl
set_option maxRecDepth 20000 in
theorem inX7 : ∀ w ∈ u_ws RX7 TX7 7, w ∈ Tb := Tb_all _ [480, 482, 484, 486, 488, 490, 492] rfl rfl
set_option maxRecDepth 20000 in
theorem inX8 : ∀ w ∈ u_ws RX8 TX8 22, w ∈ Tb := Tb_all _ [742, 744, 746, 748, 750, 752, 754, 756, 758, 760, 762, 764, 766, 768, 770, 772, 774, 776, 778, 780, 782, 784] rfl rfl
abbrev mcl : List vw_C := [(RX0, TX0, 4), (RX1, TX1, 4), (RX2, TX2, 3), (RX3, TX3, 2), (RX4, TX4, 2), (RX5, TX5, 3), (RX6, TX6, 2), (RX7, TX7, 7), (RX8, TX8, 22)]
/-- a class of the worlds: its words stand in the tables, its fields have types and names of their own -/
def clOK (q : vw_C) : Prop := (∀ w ∈ u_ws q.1 q.2.1 q.2.2, w ∈ Tb) ∧ ∃ ty : Nat → FieldType, (∀ k, k < q.2.2 → parseFieldDescriptor (q.2.1 k).2.2.1 = some (ty k)) ∧ ∀ a, a < q.2.2 → ∀ b, b < q.2.2 → a ≠ b → (q.2.1 a).2.1 ≠ (q.2.1 b).2.1
theorem mcl_ok : ∀ q ∈ mcl, clOK q := List.forall_mem_cons.mpr ⟨⟨inX0, tyX0, tyX0_ok, nmX0⟩, List.forall_mem_cons.mpr ⟨⟨inX1, tyX1, tyX1_ok, nmX1⟩, List.forall_mem_cons.mpr ⟨⟨inX2, tyX2, tyX2_ok, nmX2⟩, List.forall_mem_cons.mpr ⟨⟨inX3, tyX3, tyX3_ok, nmX3⟩, List.forall_mem_cons.mpr ⟨⟨inX4, tyX4, tyX4_ok, nmX4⟩, List.forall_mem_cons.mpr ⟨⟨inX5, tyX5, tyX5_ok, nmX5⟩, List.forall_mem_cons.mpr ⟨⟨inX6, tyX6, tyX6_ok, nmX6⟩, List.forall_mem_cons.mpr ⟨⟨inX7, tyX7, tyX7_ok, nmX7⟩, List.forall_mem_cons.mpr ⟨⟨inX8, tyX8, tyX8_ok, nmX8⟩, fun _ h => absurd h List.not_mem_nil⟩⟩⟩⟩⟩⟩⟩⟩⟩
end
